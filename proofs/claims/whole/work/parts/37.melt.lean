theorem blow_cls {S : hS} {V : Nat → Nat → Int32} {e c r k f n t T : Nat} {M : Nat → Nat → Int32} (h : LayE S e) (hT : T ≤ 1000000000) (hc : CR c r k f n t T V M) : f_X0_blow e (eS S e V) = some (eS S e (itr blV V 0 f)) := by
  unfold f_X0_blow
  have hf : f ≤ 7 := hc.1.2.2.2.1.1.1
  have := loopN (fun m g V => f_X0_blow_L2 m e (nI g) (eS S e V) (fun S => some S)) blV (fun V => ∃ M, CR c r k f n t T V M) f (fun V => some (eS S e V)) ?_ ?_ ?_ hfuel 0 V (Nat.zero_le _) (by unfold hfuel; omega) ⟨M, hc⟩
  · exact this
  · intro m i V hi ⟨M, hc⟩
    obtain ⟨⟨ht, hd, -, hF, -⟩, -⟩ := hc
    obtain ⟨s, w, z, hs, hw, hz, e6, f7, e7, f8, e8, f9⟩ := hF.2 i hi
    have h80 := seats_le ht.1.2.1 ht.1.2.2.2
    exact bl_step h i (by omega) (by rw [hF.1.2.1]; exact nI_ge hi (by omega)) (by omega) hw.2 e6 e7 ((ht.2.2 s hs).2.2.2 w hw.2) (fun u hu => by have := nxt_lt ht.1.1 hs hu; omega) m _
  · intro i V hi ⟨M, hc⟩
    exact ⟨_, hc.blow hT hi⟩
  · intro m V ⟨M, hc⟩
    obtain ⟨⟨ht, hd, -, hF, -⟩, -⟩ := hc
    show f_X0_blow_L2 (m + 1) e (nI f) (eS S e V) (fun S => some S) = _
    rw [f_X0_blow_L2]
    simp only [eR0_0 h, eR0_1 h, eR0_2 h, eR0_3 h, eR0_11 h, eR1_4 h, eR1_5 h, eR1_6 h, eR1_7 h, eR1_9 h, eR1_10 h, eR1_11 h, eR1_13 h, eR1_14 h, eR11_1 h, eR11_2 h, eR11_3 h, eR11_4 h, eR11_5 h, eI0 h, es0 h, eK0 h, eI1 h, es1 h, eK1 h, eI11 h, es11 h, eK11 h, hbd_some, hb2_some, hj_b, if_true, if_false, nI_1, hF.1.2.1, Int32.le_refl]
theorem blow_mdl {S : hS} {M : Nat → Nat → Int32} {y c r k f n t T : Nat} {V : Nat → Nat → Int32} (h : LayM S y) (hT : T ≤ 1000000000) (hc : CR c r k f n t T V M) : f_X9_fansBlow y (mS S y M) = some (mS S y (itr (fbV c r) M 0 f)) := by
  unfold f_X9_fansBlow
  have hf : f ≤ 7 := hc.1.2.2.2.1.1.1
  have := loopN (fun m g M => f_X9_fansBlow_L2 m y (nI g) (mS S y M) (fun S => some S)) (fbV c r) (fun M => ∃ V, CR c r k f n t T V M) f (fun M => some (mS S y M)) ?_ ?_ ?_ hfuel 0 M (Nat.zero_le _) (by unfold hfuel; omega) ⟨V, hc⟩
  · exact this
  · intro m i M hi ⟨V, hc⟩
    obtain ⟨⟨ht, hd, -, hF, -⟩, -⟩ := hc
    obtain ⟨s, w, z, hs, hw, hz, e6, f7, e7, f8, e8, f9⟩ := hF.2 i hi
    exact fb_step h ht.1.1 ht.1.2.1 ht.1.2.2.2 hd.1 hd.2 i (by omega) (by rw [hF.1.2.2]; exact nI_ge hi (by omega)) hs hw.2 f7 f8 m _
  · intro i M hi ⟨V, hc⟩
    exact ⟨_, hc.blow hT hi⟩
  · intro m M ⟨V, hc⟩
    obtain ⟨⟨ht, hd, -, hF, -⟩, -⟩ := hc
    show f_X9_fansBlow_L2 (m + 1) y (nI f) (mS S y M) (fun S => some S) = _
    rw [f_X9_fansBlow_L2]
    simp only [mR0_1 h, mR0_2 h, mR0_3 h, mR0_4 h, mR0_5 h, mR0_6 h, mR0_7 h, mR0_8 h, mR0_9 h, mR0_10 h, mR0_11 h, mR0_12 h, mR0_13 h, mR0_14 h, mR0_15 h, mR0_16 h, mR0_17 h, mR0_18 h, mR0_19 h, mR0_20 h, mR0_21 h, mR0_22 h, mR0_34 h, mR0_35 h, mR0_36 h, mR0_37 h, mR0_38 h, mR0_39 h, mR0_40 h, mR0_41 h, mR0_42 h, mR0_43 h, mR0_44 h, mR0_45 h, mR0_46 h, mR0_47 h, mR0_48 h, mR0_49 h, mR0_55 h, mR0_58 h, mR0_59 h, mR0_60 h, mI0 h, ms0 h, mK0 h, mC1_0 h, mD1_0 h, mC1_1 h, mD1_1 h, mC1_2 h, mD1_2 h, mC1_3 h, mD1_3 h, mC1_4 h, mD1_4 h, mC1_5 h, mD1_5 h, mC1_6 h, mD1_6 h, mC1_7 h, mD1_7 h, mC1_8 h, mD1_8 h, mC1_9 h, mD1_9 h, mC1_10 h, mD1_10 h, mC1_11 h, mD1_11 h, mC1_12 h, mD1_12 h, mC1_13 h, mD1_13 h, mC13_0 h, mD13_0 h, mC13_1 h, mD13_1 h, mC13_2 h, mD13_2 h, mC13_3 h, mD13_3 h, mC13_4 h, mD13_4 h, mC13_5 h, mD13_5 h, mC34_0 h, mD34_0 h, mC34_1 h, mD34_1 h, mC34_2 h, mD34_2 h, mC34_3 h, mD34_3 h, mC34_4 h, mD34_4 h, mC34_5 h, mD34_5 h, mC34_6 h, mD34_6 h, mC34_7 h, mD34_7 h, mC34_8 h, mD34_8 h, mC34_9 h, mD34_9 h, mC34_10 h, mD34_10 h, mC34_11 h, mD34_11 h, mC34_12 h, mD34_12 h, mC34_13 h, mD34_13 h, mG1 h, mG2 h, mG3 h, mG4 h, mG5 h, mG6 h, mG7 h, mG8 h, mG9 h, mG10 h, mG11 h, mG12 h, mG13 h, mG14 h, mG15 h, mG16 h, mG17 h, mG18 h, mG19 h, mG20 h, mG21 h, mG22 h, mG24 h, mG25 h, mG26 h, mG27 h, mG28 h, mG29 h, mG30 h, mG33 h, mG34 h, mG35 h, mG36 h, mG37 h, mG38 h, mG40 h, mG41 h, hbd_some, hb2_some, hj_b, if_true, if_false, nI_1, hF.1.2.2, Int32.le_refl]
theorem CR.blows {c r k f n t T : Nat} {V M : Nat → Nat → Int32} (hT : T ≤ 1000000000) (h : CR c r k f n t T V M) : CR c r k f n t T (itr blV V 0 f) (itr (fbV c r) M 0 f) :=
  itr_rel blV (fbV c r) (CR c r k f n t T) f (fun a b g hg hab => hab.blow hT hg) f V M 0 (by omega) h
def meV (V : Nat → Nat → Int32) (i : Nat) : Nat → Nat → Int32 :=
  let s := (V 9 i).toNatClampNeg
  let mv := if V 10 i < V 17 s then V 10 i else V 17 s
  up2 (up2 V 17 s (V 17 s - mv)) 0 8 (V 0 8 + mv)
def smV (M : Nat → Nat → Int32) (i : Nat) : Nat → Nat → Int32 :=
  let j := (M 10 i).toNatClampNeg
  let mv := if M 2 j ≤ M 11 i then M 2 j else M 11 i
  up2 (up2 M 2 j (M 2 j - mv)) 1 9 (M 1 9 + mv)
theorem me_step {S : hS} {V : Nat → Nat → Int32} {e : Nat} (h : LayE S e) (i : Nat) (hi : i < 8) (hnum : ¬ V 1 12 ≤ nI i) {s : Nat} (hs : s < 80) (h9 : V 9 i = nI s) (n : Nat) (k : hS → Option hS) : f_X0_melt_L2 (n + 1) e (nI i) (eS S e V) k = f_X0_melt_L2 n e (nI (i + 1)) (eS S e (meV V i)) k := by
  rw [f_X0_melt_L2]
  unfold meV
  simp only [eR0_0 h, eR0_1 h, eR0_2 h, eR0_3 h, eR0_11 h, eR1_4 h, eR1_5 h, eR1_6 h, eR1_7 h, eR1_9 h, eR1_10 h, eR1_11 h, eR1_13 h, eR1_14 h, eR11_1 h, eR11_2 h, eR11_3 h, eR11_4 h, eR11_5 h, eI0 h, es0 h, eK0 h, eI1 h, es1 h, eK1 h, eI11 h, es11 h, eK11 h, hbd_some, hb2_some, hj_b, if_true, if_false, nI_1, hnum, eN9 h hi, eN10 h hi, h9, eN17 h hs, eM17 h hs, nIc (show s < 2000000000 by omega)]
  simp only [up2_at]
  simp
theorem sm_step {S : hS} {M : Nat → Nat → Int32} {y : Nat} (h : LayM S y) (i : Nat) (hi : i < 8) (hnum : ¬ M 1 4 ≤ nI i) {j : Nat} (hj : j < 80) (h10 : M 10 i = nI j) (n : Nat) (k : hS → Option hS) : f_X9_snowMelts_L2 (n + 1) y (nI i) (mS S y M) k = f_X9_snowMelts_L2 n y (nI (i + 1)) (mS S y (smV M i)) k := by
  rw [f_X9_snowMelts_L2]
  unfold smV
  simp only [mR0_1 h, mR0_2 h, mR0_3 h, mR0_4 h, mR0_5 h, mR0_6 h, mR0_7 h, mR0_8 h, mR0_9 h, mR0_10 h, mR0_11 h, mR0_12 h, mR0_13 h, mR0_14 h, mR0_15 h, mR0_16 h, mR0_17 h, mR0_18 h, mR0_19 h, mR0_20 h, mR0_21 h, mR0_22 h, mR0_34 h, mR0_35 h, mR0_36 h, mR0_37 h, mR0_38 h, mR0_39 h, mR0_40 h, mR0_41 h, mR0_42 h, mR0_43 h, mR0_44 h, mR0_45 h, mR0_46 h, mR0_47 h, mR0_48 h, mR0_49 h, mR0_55 h, mR0_58 h, mR0_59 h, mR0_60 h, mI0 h, ms0 h, mK0 h, mC1_0 h, mD1_0 h, mC1_1 h, mD1_1 h, mC1_2 h, mD1_2 h, mC1_3 h, mD1_3 h, mC1_4 h, mD1_4 h, mC1_5 h, mD1_5 h, mC1_6 h, mD1_6 h, mC1_7 h, mD1_7 h, mC1_8 h, mD1_8 h, mC1_9 h, mD1_9 h, mC1_10 h, mD1_10 h, mC1_11 h, mD1_11 h, mC1_12 h, mD1_12 h, mC1_13 h, mD1_13 h, mC13_0 h, mD13_0 h, mC13_1 h, mD13_1 h, mC13_2 h, mD13_2 h, mC13_3 h, mD13_3 h, mC13_4 h, mD13_4 h, mC13_5 h, mD13_5 h, mC34_0 h, mD34_0 h, mC34_1 h, mD34_1 h, mC34_2 h, mD34_2 h, mC34_3 h, mD34_3 h, mC34_4 h, mD34_4 h, mC34_5 h, mD34_5 h, mC34_6 h, mD34_6 h, mC34_7 h, mD34_7 h, mC34_8 h, mD34_8 h, mC34_9 h, mD34_9 h, mC34_10 h, mD34_10 h, mC34_11 h, mD34_11 h, mC34_12 h, mD34_12 h, mC34_13 h, mD34_13 h, mG1 h, mG2 h, mG3 h, mG4 h, mG5 h, mG6 h, mG7 h, mG8 h, mG9 h, mG10 h, mG11 h, mG12 h, mG13 h, mG14 h, mG15 h, mG16 h, mG17 h, mG18 h, mG19 h, mG20 h, mG21 h, mG22 h, mG24 h, mG25 h, mG26 h, mG27 h, mG28 h, mG29 h, mG30 h, mG33 h, mG34 h, mG35 h, mG36 h, mG37 h, mG38 h, mG40 h, mG41 h, hbd_some, hb2_some, hj_b, if_true, if_false, nI_1, hnum, mN10 h hi, mN11 h hi, h10, mN2 h hj, mM2 h hj, nIc (show j < 2000000000 by omega)]
  by_cases q : M 2 j ≤ M 11 i
  · simp only [q, if_true, up2_at]
    simp
  · simp only [q, if_false, up2_at]
    simp
theorem CR.melt {c r k f n t T : Nat} {V M : Nat → Nat → Int32} (h : CR c r k f n t T V M) (hT : T ≤ 1000000000) {i : Nat} (hi : i < n) : CR c r k f n t T (meV V i) (smV M i) := by
  obtain ⟨hr, x, hx, hsum⟩ := h
  have hr0 := hr
  obtain ⟨ht, hd, -, -, hN, -⟩ := hr0
  obtain ⟨⟨c1, c2, r1, r2⟩, -, htab⟩ := ht
  obtain ⟨s, z, hs, hz, e9, f10, e10, f11⟩ := hN.2 i hi
  have h80 := seats_le c2 r2
  have hl := sg_lt c1 c2 r2 hs
  have hxs := sumN_le x (c * r) s hs
  unfold meV smV
  simp only [e9, f10, e10, f11, nIc (show s < 2000000000 by omega), nIc (show sg c s < 2000000000 by omega), (hx.1 s hs).1, (hx.1 s hs).2]
  obtain ⟨m, hm, m1, m2⟩ : ∃ m, m ≤ x s ∧ (if nI z < nI (x s) then nI z else nI (x s)) = nI m ∧ (if nI (x s) ≤ nI z then nI (x s) else nI z) = nI m := by
    by_cases q : z < x s
    · exact ⟨z, by omega, if_pos (nI_lt q (by omega)), if_neg (nI_ge q (by omega))⟩
    · exact ⟨x s, Nat.le_refl _, if_neg (nI_nlt (by omega) (by omega)), if_pos (nI_le (by omega) (by omega))⟩
  rw [m1, m2, pk_sub hm]
  have hsu := sumN_up x s (x s - m) (c * r) hs
  refine ⟨?_, upN x s (x s - m), (hx.set c1 c2 hs).sum _ _ _ _, by omega⟩
  have := ((hr.heat s (sg c s) (nI (x s - m)) (nI (x s - m))).sum (nI m)).2.1
  simpa [up2_at] using this
theorem melt_cls {S : hS} {V : Nat → Nat → Int32} {e c r k f n t T : Nat} {M : Nat → Nat → Int32} (h : LayE S e) (hT : T ≤ 1000000000) (hc : CR c r k f n t T V M) : f_X0_melt e (eS S e V) = some (eS S e (itr meV V 0 n)) := by
  unfold f_X0_melt
  have hf : n ≤ 8 := hc.1.2.2.2.2.1.1.1
  have := loopN (fun m g V => f_X0_melt_L2 m e (nI g) (eS S e V) (fun S => some S)) meV (fun V => ∃ M, CR c r k f n t T V M) n (fun V => some (eS S e V)) ?_ ?_ ?_ hfuel 0 V (Nat.zero_le _) (by unfold hfuel; omega) ⟨M, hc⟩
  · exact this
  · intro m i V hi ⟨M, hc⟩
    obtain ⟨⟨ht, hd, -, -, hN, -⟩, -⟩ := hc
    obtain ⟨s, z, hs, hz, e9, f10, e10, f11⟩ := hN.2 i hi
    have h80 := seats_le ht.1.2.1 ht.1.2.2.2
    exact me_step h i (by omega) (by rw [hN.1.2.1]; exact nI_ge hi (by omega)) (by omega) e9 m _
  · intro i V hi ⟨M, hc⟩
    exact ⟨_, hc.melt hT hi⟩
  · intro m V ⟨M, hc⟩
    obtain ⟨⟨ht, hd, -, -, hN, -⟩, -⟩ := hc
    show f_X0_melt_L2 (m + 1) e (nI n) (eS S e V) (fun S => some S) = _
    rw [f_X0_melt_L2]
    simp only [eR0_0 h, eR0_1 h, eR0_2 h, eR0_3 h, eR0_11 h, eR1_4 h, eR1_5 h, eR1_6 h, eR1_7 h, eR1_9 h, eR1_10 h, eR1_11 h, eR1_13 h, eR1_14 h, eR11_1 h, eR11_2 h, eR11_3 h, eR11_4 h, eR11_5 h, eI0 h, es0 h, eK0 h, eI1 h, es1 h, eK1 h, eI11 h, es11 h, eK11 h, hbd_some, hb2_some, hj_b, if_true, if_false, nI_1, hN.1.2.1, Int32.le_refl]
theorem melt_mdl {S : hS} {M : Nat → Nat → Int32} {y c r k f n t T : Nat} {V : Nat → Nat → Int32} (h : LayM S y) (hT : T ≤ 1000000000) (hc : CR c r k f n t T V M) : f_X9_snowMelts y (mS S y M) = some (mS S y (itr smV M 0 n)) := by
  unfold f_X9_snowMelts
  have hf : n ≤ 8 := hc.1.2.2.2.2.1.1.1
  have := loopN (fun m g M => f_X9_snowMelts_L2 m y (nI g) (mS S y M) (fun S => some S)) smV (fun M => ∃ V, CR c r k f n t T V M) n (fun M => some (mS S y M)) ?_ ?_ ?_ hfuel 0 M (Nat.zero_le _) (by unfold hfuel; omega) ⟨V, hc⟩
  · exact this
  · intro m i M hi ⟨V, hc⟩
    obtain ⟨⟨ht, hd, -, -, hN, -⟩, -⟩ := hc
    obtain ⟨s, z, hs, hz, e9, f10, e10, f11⟩ := hN.2 i hi
    exact sm_step h i (by omega) (by rw [hN.1.2.2]; exact nI_ge hi (by omega)) (sg_lt ht.1.1 ht.1.2.1 ht.1.2.2.2 hs) f10 m _
  · intro i M hi ⟨V, hc⟩
    exact ⟨_, hc.melt hT hi⟩
  · intro m M ⟨V, hc⟩
    obtain ⟨⟨ht, hd, -, -, hN, -⟩, -⟩ := hc
    show f_X9_snowMelts_L2 (m + 1) y (nI n) (mS S y M) (fun S => some S) = _
    rw [f_X9_snowMelts_L2]
    simp only [mR0_1 h, mR0_2 h, mR0_3 h, mR0_4 h, mR0_5 h, mR0_6 h, mR0_7 h, mR0_8 h, mR0_9 h, mR0_10 h, mR0_11 h, mR0_12 h, mR0_13 h, mR0_14 h, mR0_15 h, mR0_16 h, mR0_17 h, mR0_18 h, mR0_19 h, mR0_20 h, mR0_21 h, mR0_22 h, mR0_34 h, mR0_35 h, mR0_36 h, mR0_37 h, mR0_38 h, mR0_39 h, mR0_40 h, mR0_41 h, mR0_42 h, mR0_43 h, mR0_44 h, mR0_45 h, mR0_46 h, mR0_47 h, mR0_48 h, mR0_49 h, mR0_55 h, mR0_58 h, mR0_59 h, mR0_60 h, mI0 h, ms0 h, mK0 h, mC1_0 h, mD1_0 h, mC1_1 h, mD1_1 h, mC1_2 h, mD1_2 h, mC1_3 h, mD1_3 h, mC1_4 h, mD1_4 h, mC1_5 h, mD1_5 h, mC1_6 h, mD1_6 h, mC1_7 h, mD1_7 h, mC1_8 h, mD1_8 h, mC1_9 h, mD1_9 h, mC1_10 h, mD1_10 h, mC1_11 h, mD1_11 h, mC1_12 h, mD1_12 h, mC1_13 h, mD1_13 h, mC13_0 h, mD13_0 h, mC13_1 h, mD13_1 h, mC13_2 h, mD13_2 h, mC13_3 h, mD13_3 h, mC13_4 h, mD13_4 h, mC13_5 h, mD13_5 h, mC34_0 h, mD34_0 h, mC34_1 h, mD34_1 h, mC34_2 h, mD34_2 h, mC34_3 h, mD34_3 h, mC34_4 h, mD34_4 h, mC34_5 h, mD34_5 h, mC34_6 h, mD34_6 h, mC34_7 h, mD34_7 h, mC34_8 h, mD34_8 h, mC34_9 h, mD34_9 h, mC34_10 h, mD34_10 h, mC34_11 h, mD34_11 h, mC34_12 h, mD34_12 h, mC34_13 h, mD34_13 h, mG1 h, mG2 h, mG3 h, mG4 h, mG5 h, mG6 h, mG7 h, mG8 h, mG9 h, mG10 h, mG11 h, mG12 h, mG13 h, mG14 h, mG15 h, mG16 h, mG17 h, mG18 h, mG19 h, mG20 h, mG21 h, mG22 h, mG24 h, mG25 h, mG26 h, mG27 h, mG28 h, mG29 h, mG30 h, mG33 h, mG34 h, mG35 h, mG36 h, mG37 h, mG38 h, mG40 h, mG41 h, hbd_some, hb2_some, hj_b, if_true, if_false, nI_1, hN.1.2.2, Int32.le_refl]
theorem CR.melts {c r k f n t T : Nat} {V M : Nat → Nat → Int32} (hT : T ≤ 1000000000) (h : CR c r k f n t T V M) : CR c r k f n t T (itr meV V 0 n) (itr smV M 0 n) :=
  itr_rel meV smV (CR c r k f n t T) n (fun a b g hg hab => hab.melt hT hg) n V M 0 (by omega) h
