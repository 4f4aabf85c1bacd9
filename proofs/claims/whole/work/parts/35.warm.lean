def ggV (M : Nat → Nat → Int32) (g : Nat) : Nat → Nat → Int32 :=
  if M 3 g = -1 then M
  else up2 (up2 M 2 (M 3 g).toNatClampNeg (M 2 (M 3 g).toNatClampNeg + M 4 g)) 1 10 (M 1 10 + M 4 g)
theorem gg_step {S : hS} {M : Nat → Nat → Int32} {y : Nat} (h : LayM S y) (g : Nat) (hg : g < 12) (hnum : ¬ M 1 2 ≤ nI g) (hseat : M 3 g = -1 ∨ (¬ M 3 g = -1 ∧ 0 ≤ M 3 g ∧ (M 3 g).toNatClampNeg < 80)) (n : Nat) (k : hS → Option hS) : f_X9_guestsGive_L2 (n + 1) y (nI g) (mS S y M) k = f_X9_guestsGive_L2 n y (nI (g + 1)) (mS S y (ggV M g)) k := by
  rw [f_X9_guestsGive_L2]
  unfold ggV
  simp only [mR0_1 h, mR0_2 h, mR0_3 h, mR0_4 h, mR0_5 h, mR0_6 h, mR0_7 h, mR0_8 h, mR0_9 h, mR0_10 h, mR0_11 h, mR0_12 h, mR0_13 h, mR0_14 h, mR0_15 h, mR0_16 h, mR0_17 h, mR0_18 h, mR0_19 h, mR0_20 h, mR0_21 h, mR0_22 h, mR0_34 h, mR0_35 h, mR0_36 h, mR0_37 h, mR0_38 h, mR0_39 h, mR0_40 h, mR0_41 h, mR0_42 h, mR0_43 h, mR0_44 h, mR0_45 h, mR0_46 h, mR0_47 h, mR0_48 h, mR0_49 h, mR0_55 h, mR0_58 h, mR0_59 h, mR0_60 h, mI0 h, ms0 h, mK0 h, mC1_0 h, mD1_0 h, mC1_1 h, mD1_1 h, mC1_2 h, mD1_2 h, mC1_3 h, mD1_3 h, mC1_4 h, mD1_4 h, mC1_5 h, mD1_5 h, mC1_6 h, mD1_6 h, mC1_7 h, mD1_7 h, mC1_8 h, mD1_8 h, mC1_9 h, mD1_9 h, mC1_10 h, mD1_10 h, mC1_11 h, mD1_11 h, mC1_12 h, mD1_12 h, mC1_13 h, mD1_13 h, mC13_0 h, mD13_0 h, mC13_1 h, mD13_1 h, mC13_2 h, mD13_2 h, mC13_3 h, mD13_3 h, mC13_4 h, mD13_4 h, mC13_5 h, mD13_5 h, mC34_0 h, mD34_0 h, mC34_1 h, mD34_1 h, mC34_2 h, mD34_2 h, mC34_3 h, mD34_3 h, mC34_4 h, mD34_4 h, mC34_5 h, mD34_5 h, mC34_6 h, mD34_6 h, mC34_7 h, mD34_7 h, mC34_8 h, mD34_8 h, mC34_9 h, mD34_9 h, mC34_10 h, mD34_10 h, mC34_11 h, mD34_11 h, mC34_12 h, mD34_12 h, mC34_13 h, mD34_13 h, mG1 h, mG2 h, mG3 h, mG4 h, mG5 h, mG6 h, mG7 h, mG8 h, mG9 h, mG10 h, mG11 h, mG12 h, mG13 h, mG14 h, mG15 h, mG16 h, mG17 h, mG18 h, mG19 h, mG20 h, mG21 h, mG22 h, mG24 h, mG25 h, mG26 h, mG27 h, mG28 h, mG29 h, mG30 h, mG33 h, mG34 h, mG35 h, mG36 h, mG37 h, mG38 h, mG40 h, mG41 h, hbd_some, hb2_some, hj_b, if_true, if_false, nI_1, mN3 h hg, hnum]
  rcases hseat with q | ⟨q0, q1, q2⟩
  · simp only [q, if_true]
  · simp only [q0, mR0_1 h, mR0_2 h, mR0_3 h, mR0_4 h, mR0_5 h, mR0_6 h, mR0_7 h, mR0_8 h, mR0_9 h, mR0_10 h, mR0_11 h, mR0_12 h, mR0_13 h, mR0_14 h, mR0_15 h, mR0_16 h, mR0_17 h, mR0_18 h, mR0_19 h, mR0_20 h, mR0_21 h, mR0_22 h, mR0_34 h, mR0_35 h, mR0_36 h, mR0_37 h, mR0_38 h, mR0_39 h, mR0_40 h, mR0_41 h, mR0_42 h, mR0_43 h, mR0_44 h, mR0_45 h, mR0_46 h, mR0_47 h, mR0_48 h, mR0_49 h, mR0_55 h, mR0_58 h, mR0_59 h, mR0_60 h, mI0 h, ms0 h, mK0 h, mC1_0 h, mD1_0 h, mC1_1 h, mD1_1 h, mC1_2 h, mD1_2 h, mC1_3 h, mD1_3 h, mC1_4 h, mD1_4 h, mC1_5 h, mD1_5 h, mC1_6 h, mD1_6 h, mC1_7 h, mD1_7 h, mC1_8 h, mD1_8 h, mC1_9 h, mD1_9 h, mC1_10 h, mD1_10 h, mC1_11 h, mD1_11 h, mC1_12 h, mD1_12 h, mC1_13 h, mD1_13 h, mC13_0 h, mD13_0 h, mC13_1 h, mD13_1 h, mC13_2 h, mD13_2 h, mC13_3 h, mD13_3 h, mC13_4 h, mD13_4 h, mC13_5 h, mD13_5 h, mC34_0 h, mD34_0 h, mC34_1 h, mD34_1 h, mC34_2 h, mD34_2 h, mC34_3 h, mD34_3 h, mC34_4 h, mD34_4 h, mC34_5 h, mD34_5 h, mC34_6 h, mD34_6 h, mC34_7 h, mD34_7 h, mC34_8 h, mD34_8 h, mC34_9 h, mD34_9 h, mC34_10 h, mD34_10 h, mC34_11 h, mD34_11 h, mC34_12 h, mD34_12 h, mC34_13 h, mD34_13 h, mG1 h, mG2 h, mG3 h, mG4 h, mG5 h, mG6 h, mG7 h, mG8 h, mG9 h, mG10 h, mG11 h, mG12 h, mG13 h, mG14 h, mG15 h, mG16 h, mG17 h, mG18 h, mG19 h, mG20 h, mG21 h, mG22 h, mG24 h, mG25 h, mG26 h, mG27 h, mG28 h, mG29 h, mG30 h, mG33 h, mG34 h, mG35 h, mG36 h, mG37 h, mG38 h, mG40 h, mG41 h, hbd_some, hb2_some, hj_b, if_true, if_false, nI_1, mN3 h hg, mN4 h hg, mA2 h q1 q2, mT2 h q1 q2]
    simp only [up2_at]
    simp
theorem oi_some (s : Nat) : oi (some s) = nI s := rfl
theorem oi_none : oi none = -1 := rfl
theorem nI_ne1 {s : Nat} (h : s < 2000000000) : ¬ nI s = -1 := fun q => absurd (show nI s < 0 by rw [q]; decide) (nIn h)
theorem m1_lt : (-1 : Int32) < 0 := by decide
theorem CR.warm {c r k f n t T : Nat} {V M : Nat → Nat → Int32} (h : CR c r k f n t T V M) {g : Nat} (hg : g < k) : CR c r k f n t (T + 99) (wuV V g) (ggV M g) := by
  obtain ⟨hr, x, hx, hsum⟩ := h
  have hr0 := hr
  obtain ⟨ht, hd, hG, -⟩ := hr0
  obtain ⟨⟨c1, c2, r1, r2⟩, -⟩ := ht
  obtain ⟨-, hseat, -, hw⟩ := hG
  obtain ⟨o, ⟨ho, e1, e2⟩, -⟩ := hseat g hg
  obtain ⟨⟨w, hw9, w1, w2⟩, -⟩ := hw g hg
  unfold wuV ggV
  cases o with
  | none =>
    rw [e1, e2]
    simp only [Option.map_none, oi_none, m1_lt, if_true]
    exact ⟨hr, x, hx, by omega⟩
  | some s =>
    have hs := ho s rfl
    have h80 := seats_le c2 r2
    have hl := sg_lt c1 c2 r2 hs
    rw [e1, e2, w1, w2]
    simp only [Option.map_some, oi_some, nIn (show s < 2000000000 by omega), nI_ne1 (show sg c s < 2000000000 by omega), if_false, nIc (show s < 2000000000 by omega), nIc (show sg c s < 2000000000 by omega)]
    rw [(hx.1 s hs).1, (hx.1 s hs).2, nI_add]
    refine ⟨?_, upN x s (x s + w), ?_, ?_⟩
    · have := ((hr.heat s (sg c s) (nI (x s + w)) (nI (x s + w))).sum (nI w)).1
      simpa [up2_at] using this
    · exact (hx.set c1 c2 hs).sum _ _ _ _
    · have := sumN_up x s (x s + w) (c * r) hs
      omega
theorem warm_cls {S : hS} {V : Nat → Nat → Int32} {e c r k f n t T : Nat} {M : Nat → Nat → Int32} (h : LayE S e) (hc : CR c r k f n t T V M) : f_X0_warmUp e (eS S e V) = some (eS S e (itr wuV V 0 k)) := by
  unfold f_X0_warmUp
  have hk : k ≤ 12 := hc.1.2.2.1.1.1
  have := loopN (fun m g V => f_X0_warmUp_L2 m e (nI g) (eS S e V) (fun S => some S)) wuV (fun V => ∃ M T, CR c r k f n t T V M) k (fun V => some (eS S e V)) ?_ ?_ ?_ hfuel 0 V (Nat.zero_le _) (by unfold hfuel; omega) ⟨M, T, hc⟩
  · exact this
  · intro m g V hg ⟨M, T, hc⟩
    obtain ⟨⟨ht, hd, hG, -⟩, -⟩ := hc
    obtain ⟨⟨-, e0, -⟩, hseat, -⟩ := hG
    obtain ⟨o, ⟨ho, e1, -⟩, -⟩ := hseat g hg
    refine wu_step h g (by omega) (by rw [e0]; exact nI_ge hg (by omega)) ?_ m _
    rw [e1]
    have h80 := seats_le ht.1.2.1 ht.1.2.2.2
    cases o with
    | none => exact Or.inl m1_lt
    | some s => exact Or.inr (by have := ho s rfl; rw [oi_some]; exact ⟨nIp (by omega), by rw [nIc (by omega)]; omega⟩)
  · intro g V hg ⟨M, T, hc⟩
    exact ⟨_, _, hc.warm hg⟩
  · intro m V ⟨M, T, hc⟩
    obtain ⟨⟨ht, hd, hG, -⟩, -⟩ := hc
    show f_X0_warmUp_L2 (m + 1) e (nI k) (eS S e V) (fun S => some S) = _
    rw [f_X0_warmUp_L2]
    simp only [eR0_0 h, eR0_1 h, eR0_2 h, eR0_3 h, eR0_11 h, eR1_4 h, eR1_5 h, eR1_6 h, eR1_7 h, eR1_9 h, eR1_10 h, eR1_11 h, eR1_13 h, eR1_14 h, eR11_1 h, eR11_2 h, eR11_3 h, eR11_4 h, eR11_5 h, eI0 h, es0 h, eK0 h, eI1 h, es1 h, eK1 h, eI11 h, es11 h, eK11 h, hbd_some, hb2_some, hj_b, if_true, if_false, nI_1, hG.1.2.1, Int32.le_refl]
theorem warm_mdl {S : hS} {M : Nat → Nat → Int32} {y c r k f n t T : Nat} {V : Nat → Nat → Int32} (h : LayM S y) (hc : CR c r k f n t T V M) : f_X9_guestsGive y (mS S y M) = some (mS S y (itr ggV M 0 k)) := by
  unfold f_X9_guestsGive
  have hk : k ≤ 12 := hc.1.2.2.1.1.1
  have := loopN (fun m g M => f_X9_guestsGive_L2 m y (nI g) (mS S y M) (fun S => some S)) ggV (fun M => ∃ V T, CR c r k f n t T V M) k (fun M => some (mS S y M)) ?_ ?_ ?_ hfuel 0 M (Nat.zero_le _) (by unfold hfuel; omega) ⟨V, T, hc⟩
  · exact this
  · intro m g M hg ⟨V, T, hc⟩
    obtain ⟨⟨ht, hd, hG, -⟩, -⟩ := hc
    obtain ⟨⟨-, -, e0⟩, hseat, -⟩ := hG
    obtain ⟨o, ⟨ho, -, e1⟩, -⟩ := hseat g hg
    refine gg_step h g (by omega) (by rw [e0]; exact nI_ge hg (by omega)) ?_ m _
    rw [e1]
    have h80 := seats_le ht.1.2.1 ht.1.2.2.2
    cases o with
    | none => exact Or.inl rfl
    | some s =>
      have hl := sg_lt ht.1.1 ht.1.2.1 ht.1.2.2.2 (ho s rfl)
      exact Or.inr (by rw [Option.map_some, oi_some]; exact ⟨nI_ne1 (by omega), nIp (by omega), by rw [nIc (by omega)]; omega⟩)
  · intro g M hg ⟨V, T, hc⟩
    exact ⟨_, _, hc.warm hg⟩
  · intro m M ⟨V, T, hc⟩
    obtain ⟨⟨ht, hd, hG, -⟩, -⟩ := hc
    show f_X9_guestsGive_L2 (m + 1) y (nI k) (mS S y M) (fun S => some S) = _
    rw [f_X9_guestsGive_L2]
    simp only [mR0_1 h, mR0_2 h, mR0_3 h, mR0_4 h, mR0_5 h, mR0_6 h, mR0_7 h, mR0_8 h, mR0_9 h, mR0_10 h, mR0_11 h, mR0_12 h, mR0_13 h, mR0_14 h, mR0_15 h, mR0_16 h, mR0_17 h, mR0_18 h, mR0_19 h, mR0_20 h, mR0_21 h, mR0_22 h, mR0_34 h, mR0_35 h, mR0_36 h, mR0_37 h, mR0_38 h, mR0_39 h, mR0_40 h, mR0_41 h, mR0_42 h, mR0_43 h, mR0_44 h, mR0_45 h, mR0_46 h, mR0_47 h, mR0_48 h, mR0_49 h, mR0_55 h, mR0_58 h, mR0_59 h, mR0_60 h, mI0 h, ms0 h, mK0 h, mC1_0 h, mD1_0 h, mC1_1 h, mD1_1 h, mC1_2 h, mD1_2 h, mC1_3 h, mD1_3 h, mC1_4 h, mD1_4 h, mC1_5 h, mD1_5 h, mC1_6 h, mD1_6 h, mC1_7 h, mD1_7 h, mC1_8 h, mD1_8 h, mC1_9 h, mD1_9 h, mC1_10 h, mD1_10 h, mC1_11 h, mD1_11 h, mC1_12 h, mD1_12 h, mC1_13 h, mD1_13 h, mC13_0 h, mD13_0 h, mC13_1 h, mD13_1 h, mC13_2 h, mD13_2 h, mC13_3 h, mD13_3 h, mC13_4 h, mD13_4 h, mC13_5 h, mD13_5 h, mC34_0 h, mD34_0 h, mC34_1 h, mD34_1 h, mC34_2 h, mD34_2 h, mC34_3 h, mD34_3 h, mC34_4 h, mD34_4 h, mC34_5 h, mD34_5 h, mC34_6 h, mD34_6 h, mC34_7 h, mD34_7 h, mC34_8 h, mD34_8 h, mC34_9 h, mD34_9 h, mC34_10 h, mD34_10 h, mC34_11 h, mD34_11 h, mC34_12 h, mD34_12 h, mC34_13 h, mD34_13 h, mG1 h, mG2 h, mG3 h, mG4 h, mG5 h, mG6 h, mG7 h, mG8 h, mG9 h, mG10 h, mG11 h, mG12 h, mG13 h, mG14 h, mG15 h, mG16 h, mG17 h, mG18 h, mG19 h, mG20 h, mG21 h, mG22 h, mG24 h, mG25 h, mG26 h, mG27 h, mG28 h, mG29 h, mG30 h, mG33 h, mG34 h, mG35 h, mG36 h, mG37 h, mG38 h, mG40 h, mG41 h, hbd_some, hb2_some, hj_b, if_true, if_false, nI_1, hG.1.2.2, Int32.le_refl]
theorem CR.warms {c r k f n t T : Nat} {V M : Nat → Nat → Int32} (h : CR c r k f n t T V M) : ∀ m g, g + m ≤ k → CR c r k f n t (T + 99 * m) (itr wuV V g m) (itr ggV M g m) := by
  intro m
  induction m generalizing T V M with
  | zero => intro g _; exact h
  | succ m ih =>
    intro g hg
    have := ih (h.warm (g := g) (by omega)) (g + 1) (by omega)
    rw [show T + 99 * (m + 1) = T + 99 + 99 * m by omega]
    exact this
