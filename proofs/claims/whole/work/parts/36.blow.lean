theorem nI_5 (s w : Nat) : nI s * 5 + nI w = nI (s * 5 + w) := by rw [show (5 : Int32) = nI 5 from rfl, pk_mul, nI_add]
/-- the class's number of a seat of the reference -/
def us (c j : Nat) : Nat := c * (j / 10) + j % 10
theorem us_sg {c s : Nat} (c1 : 1 ≤ c) (c2 : c ≤ 10) : us c (sg c s) = s := by
  unfold us
  rw [sg_mod c1 c2, sg_div c1 c2]
  exact (s_split c1).symm
def blV (V : Nat → Nat → Int32) (i : Nat) : Nat → Nat → Int32 :=
  let s := (V 6 i).toNatClampNeg
  let mv := if V 8 i < V 17 s then V 8 i else V 17 s
  let q := V 5 (s * 5 + (V 7 i).toNatClampNeg)
  let V1 := up2 V 17 s (V 17 s - mv)
  if q < 0 then up2 V1 0 7 (V 0 7 + mv) else up2 V1 17 q.toNatClampNeg (V1 17 q.toNatClampNeg + mv)
def fbV (c r : Nat) (M : Nat → Nat → Int32) (i : Nat) : Nat → Nat → Int32 :=
  let j := (M 7 i).toNatClampNeg
  let mv := if M 2 j ≤ M 9 i then M 2 j else M 9 i
  let q := oi ((nxt c r (us c j) (M 8 i).toNatClampNeg).map (sg c))
  let M1 := up2 M 2 j (M 2 j - mv)
  if q = -1 then up2 M1 1 8 (M 1 8 + mv) else up2 M1 2 q.toNatClampNeg (M1 2 q.toNatClampNeg + mv)
theorem bl_step {S : hS} {V : Nat → Nat → Int32} {e : Nat} (h : LayE S e) (i : Nat) (hi : i < 7) (hnum : ¬ V 1 8 ≤ nI i) {s w : Nat} {o : Option Nat} (hs : s < 80) (hw : w < 5) (h6 : V 6 i = nI s) (h7 : V 7 i = nI w) (h5 : V 5 (s * 5 + w) = oi o) (ho : ∀ u, o = some u → u < 80) (n : Nat) (k : hS → Option hS) : f_X0_blow_L2 (n + 1) e (nI i) (eS S e V) k = f_X0_blow_L2 n e (nI (i + 1)) (eS S e (blV V i)) k := by
  rw [f_X0_blow_L2]
  unfold blV
  simp only [eR0_0 h, eR0_1 h, eR0_2 h, eR0_3 h, eR0_11 h, eR1_4 h, eR1_5 h, eR1_6 h, eR1_7 h, eR1_9 h, eR1_10 h, eR1_11 h, eR1_13 h, eR1_14 h, eR11_1 h, eR11_2 h, eR11_3 h, eR11_4 h, eR11_5 h, eI0 h, es0 h, eK0 h, eI1 h, es1 h, eK1 h, eI11 h, es11 h, eK11 h, hbd_some, hb2_some, hj_b, if_true, if_false, nI_1, hnum, eN6 h hi, eN7 h hi, eN8 h hi, h6, h7, eN17 h hs, eM17 h hs, nI_5, eN5 h (show s * 5 + w < 400 by omega), nIc (show s < 2000000000 by omega), nIc (show w < 2000000000 by omega), h5]
  cases o with
  | none =>
    simp only [oi_none, m1_lt, if_true, eR0_0 h, eR0_1 h, eR0_2 h, eR0_3 h, eR0_11 h, eR1_4 h, eR1_5 h, eR1_6 h, eR1_7 h, eR1_9 h, eR1_10 h, eR1_11 h, eR1_13 h, eR1_14 h, eR11_1 h, eR11_2 h, eR11_3 h, eR11_4 h, eR11_5 h, eI0 h, es0 h, eK0 h, eI1 h, es1 h, eK1 h, eI11 h, es11 h, eK11 h, hbd_some, hb2_some, hj_b, if_true, if_false, nI_1]
    simp only [up2_at]
    simp
  | some u =>
    have hu := ho u rfl
    simp only [oi_some, nIn (show u < 2000000000 by omega), if_false, eR0_0 h, eR0_1 h, eR0_2 h, eR0_3 h, eR0_11 h, eR1_4 h, eR1_5 h, eR1_6 h, eR1_7 h, eR1_9 h, eR1_10 h, eR1_11 h, eR1_13 h, eR1_14 h, eR11_1 h, eR11_2 h, eR11_3 h, eR11_4 h, eR11_5 h, eI0 h, es0 h, eK0 h, eI1 h, es1 h, eK1 h, eI11 h, es11 h, eK11 h, hbd_some, hb2_some, hj_b, if_true, if_false, nI_1, eN17 h hu, eM17 h hu, nIc (show u < 2000000000 by omega)]
theorem fb_step {S : hS} {M : Nat → Nat → Int32} {y c r : Nat} (h : LayM S y) (c1 : 1 ≤ c) (c2 : c ≤ 10) (r2 : r ≤ 8) (m0 : M 1 0 = nI c) (m1 : M 1 1 = nI r) (i : Nat) (hi : i < 7) (hnum : ¬ M 1 3 ≤ nI i) {s w : Nat} (hs : s < c * r) (hw : w < 5) (h7 : M 7 i = nI (sg c s)) (h8 : M 8 i = nI w) (n : Nat) (k : hS → Option hS) : f_X9_fansBlow_L2 (n + 1) y (nI i) (mS S y M) k = f_X9_fansBlow_L2 n y (nI (i + 1)) (mS S y (fbV c r M i)) k := by
  have hl := sg_lt c1 c2 r2 hs
  rw [f_X9_fansBlow_L2]
  unfold fbV
  simp only [mR0_1 h, mR0_2 h, mR0_3 h, mR0_4 h, mR0_5 h, mR0_6 h, mR0_7 h, mR0_8 h, mR0_9 h, mR0_10 h, mR0_11 h, mR0_12 h, mR0_13 h, mR0_14 h, mR0_15 h, mR0_16 h, mR0_17 h, mR0_18 h, mR0_19 h, mR0_20 h, mR0_21 h, mR0_22 h, mR0_34 h, mR0_35 h, mR0_36 h, mR0_37 h, mR0_38 h, mR0_39 h, mR0_40 h, mR0_41 h, mR0_42 h, mR0_43 h, mR0_44 h, mR0_45 h, mR0_46 h, mR0_47 h, mR0_48 h, mR0_49 h, mR0_55 h, mR0_58 h, mR0_59 h, mR0_60 h, mI0 h, ms0 h, mK0 h, mC1_0 h, mD1_0 h, mC1_1 h, mD1_1 h, mC1_2 h, mD1_2 h, mC1_3 h, mD1_3 h, mC1_4 h, mD1_4 h, mC1_5 h, mD1_5 h, mC1_6 h, mD1_6 h, mC1_7 h, mD1_7 h, mC1_8 h, mD1_8 h, mC1_9 h, mD1_9 h, mC1_10 h, mD1_10 h, mC1_11 h, mD1_11 h, mC1_12 h, mD1_12 h, mC1_13 h, mD1_13 h, mC13_0 h, mD13_0 h, mC13_1 h, mD13_1 h, mC13_2 h, mD13_2 h, mC13_3 h, mD13_3 h, mC13_4 h, mD13_4 h, mC13_5 h, mD13_5 h, mC34_0 h, mD34_0 h, mC34_1 h, mD34_1 h, mC34_2 h, mD34_2 h, mC34_3 h, mD34_3 h, mC34_4 h, mD34_4 h, mC34_5 h, mD34_5 h, mC34_6 h, mD34_6 h, mC34_7 h, mD34_7 h, mC34_8 h, mD34_8 h, mC34_9 h, mD34_9 h, mC34_10 h, mD34_10 h, mC34_11 h, mD34_11 h, mC34_12 h, mD34_12 h, mC34_13 h, mD34_13 h, mG1 h, mG2 h, mG3 h, mG4 h, mG5 h, mG6 h, mG7 h, mG8 h, mG9 h, mG10 h, mG11 h, mG12 h, mG13 h, mG14 h, mG15 h, mG16 h, mG17 h, mG18 h, mG19 h, mG20 h, mG21 h, mG22 h, mG24 h, mG25 h, mG26 h, mG27 h, mG28 h, mG29 h, mG30 h, mG33 h, mG34 h, mG35 h, mG36 h, mG37 h, mG38 h, mG40 h, mG41 h, hbd_some, hb2_some, hj_b, if_true, if_false, nI_1, hnum, mN7 h hi, mN8 h hi, mN9 h hi, h7, h8, mN2 h hl, mM2 h hl, nIc (show sg c s < 2000000000 by omega), nIc (show w < 2000000000 by omega), us_sg c1 c2, by_spec h c1 c2 r2 m0 m1 hs hw]
  generalize hmv : (if M 2 (sg c s) ≤ M 9 i then M 2 (sg c s) else M 9 i) = mv
  have key : ∀ v : Int32, v = mv → (if oi ((nxt c r s w).map (sg c)) = -1 then hbd (gA (mS S y (up2 M 2 (sg c s) (M 2 (sg c s) - v))) (y + 1) 12 8) fun t50 => hbd (sA (mS S y (up2 M 2 (sg c s) (M 2 (sg c s) - v))) (y + 1) 8 (t50 + v)) fun S52 => f_X9_fansBlow_L2 n y (nI (i + 1)) S52 k
      else hbd (gA (mS S y (up2 M 2 (sg c s) (M 2 (sg c s) - v))) (y + 2) 12 (oi ((nxt c r s w).map (sg c)))) fun t44 => hbd (sA (mS S y (up2 M 2 (sg c s) (M 2 (sg c s) - v))) (y + 2) (oi ((nxt c r s w).map (sg c))) (t44 + v)) fun S46 => f_X9_fansBlow_L2 n y (nI (i + 1)) S46 k) = f_X9_fansBlow_L2 n y (nI (i + 1)) (mS S y (if oi ((nxt c r s w).map (sg c)) = -1 then up2 (up2 M 2 (sg c s) (M 2 (sg c s) - mv)) 1 8 (M 1 8 + mv) else up2 (up2 M 2 (sg c s) (M 2 (sg c s) - mv)) 2 (oi ((nxt c r s w).map (sg c))).toNatClampNeg (up2 M 2 (sg c s) (M 2 (sg c s) - mv) 2 (oi ((nxt c r s w).map (sg c))).toNatClampNeg + mv))) k := by
    intro v hv
    subst hv
    cases hn : nxt c r s w with
    | none =>
      simp only [Option.map_none, oi_none, if_true, mR0_1 h, mR0_2 h, mR0_3 h, mR0_4 h, mR0_5 h, mR0_6 h, mR0_7 h, mR0_8 h, mR0_9 h, mR0_10 h, mR0_11 h, mR0_12 h, mR0_13 h, mR0_14 h, mR0_15 h, mR0_16 h, mR0_17 h, mR0_18 h, mR0_19 h, mR0_20 h, mR0_21 h, mR0_22 h, mR0_34 h, mR0_35 h, mR0_36 h, mR0_37 h, mR0_38 h, mR0_39 h, mR0_40 h, mR0_41 h, mR0_42 h, mR0_43 h, mR0_44 h, mR0_45 h, mR0_46 h, mR0_47 h, mR0_48 h, mR0_49 h, mR0_55 h, mR0_58 h, mR0_59 h, mR0_60 h, mI0 h, ms0 h, mK0 h, mC1_0 h, mD1_0 h, mC1_1 h, mD1_1 h, mC1_2 h, mD1_2 h, mC1_3 h, mD1_3 h, mC1_4 h, mD1_4 h, mC1_5 h, mD1_5 h, mC1_6 h, mD1_6 h, mC1_7 h, mD1_7 h, mC1_8 h, mD1_8 h, mC1_9 h, mD1_9 h, mC1_10 h, mD1_10 h, mC1_11 h, mD1_11 h, mC1_12 h, mD1_12 h, mC1_13 h, mD1_13 h, mC13_0 h, mD13_0 h, mC13_1 h, mD13_1 h, mC13_2 h, mD13_2 h, mC13_3 h, mD13_3 h, mC13_4 h, mD13_4 h, mC13_5 h, mD13_5 h, mC34_0 h, mD34_0 h, mC34_1 h, mD34_1 h, mC34_2 h, mD34_2 h, mC34_3 h, mD34_3 h, mC34_4 h, mD34_4 h, mC34_5 h, mD34_5 h, mC34_6 h, mD34_6 h, mC34_7 h, mD34_7 h, mC34_8 h, mD34_8 h, mC34_9 h, mD34_9 h, mC34_10 h, mD34_10 h, mC34_11 h, mD34_11 h, mC34_12 h, mD34_12 h, mC34_13 h, mD34_13 h, mG1 h, mG2 h, mG3 h, mG4 h, mG5 h, mG6 h, mG7 h, mG8 h, mG9 h, mG10 h, mG11 h, mG12 h, mG13 h, mG14 h, mG15 h, mG16 h, mG17 h, mG18 h, mG19 h, mG20 h, mG21 h, mG22 h, mG24 h, mG25 h, mG26 h, mG27 h, mG28 h, mG29 h, mG30 h, mG33 h, mG34 h, mG35 h, mG36 h, mG37 h, mG38 h, mG40 h, mG41 h, hbd_some, hb2_some, hj_b, if_true, if_false, nI_1]
      simp only [up2_at]
      simp
    | some u =>
      have hu := sg_lt c1 c2 r2 (nxt_lt c1 hs hn)
      simp only [Option.map_some, oi_some, nI_ne1 (show sg c u < 2000000000 by omega), if_false, mR0_1 h, mR0_2 h, mR0_3 h, mR0_4 h, mR0_5 h, mR0_6 h, mR0_7 h, mR0_8 h, mR0_9 h, mR0_10 h, mR0_11 h, mR0_12 h, mR0_13 h, mR0_14 h, mR0_15 h, mR0_16 h, mR0_17 h, mR0_18 h, mR0_19 h, mR0_20 h, mR0_21 h, mR0_22 h, mR0_34 h, mR0_35 h, mR0_36 h, mR0_37 h, mR0_38 h, mR0_39 h, mR0_40 h, mR0_41 h, mR0_42 h, mR0_43 h, mR0_44 h, mR0_45 h, mR0_46 h, mR0_47 h, mR0_48 h, mR0_49 h, mR0_55 h, mR0_58 h, mR0_59 h, mR0_60 h, mI0 h, ms0 h, mK0 h, mC1_0 h, mD1_0 h, mC1_1 h, mD1_1 h, mC1_2 h, mD1_2 h, mC1_3 h, mD1_3 h, mC1_4 h, mD1_4 h, mC1_5 h, mD1_5 h, mC1_6 h, mD1_6 h, mC1_7 h, mD1_7 h, mC1_8 h, mD1_8 h, mC1_9 h, mD1_9 h, mC1_10 h, mD1_10 h, mC1_11 h, mD1_11 h, mC1_12 h, mD1_12 h, mC1_13 h, mD1_13 h, mC13_0 h, mD13_0 h, mC13_1 h, mD13_1 h, mC13_2 h, mD13_2 h, mC13_3 h, mD13_3 h, mC13_4 h, mD13_4 h, mC13_5 h, mD13_5 h, mC34_0 h, mD34_0 h, mC34_1 h, mD34_1 h, mC34_2 h, mD34_2 h, mC34_3 h, mD34_3 h, mC34_4 h, mD34_4 h, mC34_5 h, mD34_5 h, mC34_6 h, mD34_6 h, mC34_7 h, mD34_7 h, mC34_8 h, mD34_8 h, mC34_9 h, mD34_9 h, mC34_10 h, mD34_10 h, mC34_11 h, mD34_11 h, mC34_12 h, mD34_12 h, mC34_13 h, mD34_13 h, mG1 h, mG2 h, mG3 h, mG4 h, mG5 h, mG6 h, mG7 h, mG8 h, mG9 h, mG10 h, mG11 h, mG12 h, mG13 h, mG14 h, mG15 h, mG16 h, mG17 h, mG18 h, mG19 h, mG20 h, mG21 h, mG22 h, mG24 h, mG25 h, mG26 h, mG27 h, mG28 h, mG29 h, mG30 h, mG33 h, mG34 h, mG35 h, mG36 h, mG37 h, mG38 h, mG40 h, mG41 h, hbd_some, hb2_some, hj_b, if_true, if_false, nI_1, mN2 h hu, mM2 h hu, nIc (show sg c u < 2000000000 by omega)]
  by_cases q : M 2 (sg c s) ≤ M 9 i
  · rw [if_pos q] at hmv
    simp only [q, if_true]
    have := key (M 2 (sg c s)) hmv
    simpa only [mR0_1 h, mR0_2 h, mR0_3 h, mR0_4 h, mR0_5 h, mR0_6 h, mR0_7 h, mR0_8 h, mR0_9 h, mR0_10 h, mR0_11 h, mR0_12 h, mR0_13 h, mR0_14 h, mR0_15 h, mR0_16 h, mR0_17 h, mR0_18 h, mR0_19 h, mR0_20 h, mR0_21 h, mR0_22 h, mR0_34 h, mR0_35 h, mR0_36 h, mR0_37 h, mR0_38 h, mR0_39 h, mR0_40 h, mR0_41 h, mR0_42 h, mR0_43 h, mR0_44 h, mR0_45 h, mR0_46 h, mR0_47 h, mR0_48 h, mR0_49 h, mR0_55 h, mR0_58 h, mR0_59 h, mR0_60 h, mI0 h, ms0 h, mK0 h, mC1_0 h, mD1_0 h, mC1_1 h, mD1_1 h, mC1_2 h, mD1_2 h, mC1_3 h, mD1_3 h, mC1_4 h, mD1_4 h, mC1_5 h, mD1_5 h, mC1_6 h, mD1_6 h, mC1_7 h, mD1_7 h, mC1_8 h, mD1_8 h, mC1_9 h, mD1_9 h, mC1_10 h, mD1_10 h, mC1_11 h, mD1_11 h, mC1_12 h, mD1_12 h, mC1_13 h, mD1_13 h, mC13_0 h, mD13_0 h, mC13_1 h, mD13_1 h, mC13_2 h, mD13_2 h, mC13_3 h, mD13_3 h, mC13_4 h, mD13_4 h, mC13_5 h, mD13_5 h, mC34_0 h, mD34_0 h, mC34_1 h, mD34_1 h, mC34_2 h, mD34_2 h, mC34_3 h, mD34_3 h, mC34_4 h, mD34_4 h, mC34_5 h, mD34_5 h, mC34_6 h, mD34_6 h, mC34_7 h, mD34_7 h, mC34_8 h, mD34_8 h, mC34_9 h, mD34_9 h, mC34_10 h, mD34_10 h, mC34_11 h, mD34_11 h, mC34_12 h, mD34_12 h, mC34_13 h, mD34_13 h, mG1 h, mG2 h, mG3 h, mG4 h, mG5 h, mG6 h, mG7 h, mG8 h, mG9 h, mG10 h, mG11 h, mG12 h, mG13 h, mG14 h, mG15 h, mG16 h, mG17 h, mG18 h, mG19 h, mG20 h, mG21 h, mG22 h, mG24 h, mG25 h, mG26 h, mG27 h, mG28 h, mG29 h, mG30 h, mG33 h, mG34 h, mG35 h, mG36 h, mG37 h, mG38 h, mG40 h, mG41 h, hbd_some, hb2_some, hj_b, if_true, if_false, nI_1] using this
  · rw [if_neg q] at hmv
    simp only [q, if_false]
    have := key (M 9 i) hmv
    simpa only [mR0_1 h, mR0_2 h, mR0_3 h, mR0_4 h, mR0_5 h, mR0_6 h, mR0_7 h, mR0_8 h, mR0_9 h, mR0_10 h, mR0_11 h, mR0_12 h, mR0_13 h, mR0_14 h, mR0_15 h, mR0_16 h, mR0_17 h, mR0_18 h, mR0_19 h, mR0_20 h, mR0_21 h, mR0_22 h, mR0_34 h, mR0_35 h, mR0_36 h, mR0_37 h, mR0_38 h, mR0_39 h, mR0_40 h, mR0_41 h, mR0_42 h, mR0_43 h, mR0_44 h, mR0_45 h, mR0_46 h, mR0_47 h, mR0_48 h, mR0_49 h, mR0_55 h, mR0_58 h, mR0_59 h, mR0_60 h, mI0 h, ms0 h, mK0 h, mC1_0 h, mD1_0 h, mC1_1 h, mD1_1 h, mC1_2 h, mD1_2 h, mC1_3 h, mD1_3 h, mC1_4 h, mD1_4 h, mC1_5 h, mD1_5 h, mC1_6 h, mD1_6 h, mC1_7 h, mD1_7 h, mC1_8 h, mD1_8 h, mC1_9 h, mD1_9 h, mC1_10 h, mD1_10 h, mC1_11 h, mD1_11 h, mC1_12 h, mD1_12 h, mC1_13 h, mD1_13 h, mC13_0 h, mD13_0 h, mC13_1 h, mD13_1 h, mC13_2 h, mD13_2 h, mC13_3 h, mD13_3 h, mC13_4 h, mD13_4 h, mC13_5 h, mD13_5 h, mC34_0 h, mD34_0 h, mC34_1 h, mD34_1 h, mC34_2 h, mD34_2 h, mC34_3 h, mD34_3 h, mC34_4 h, mD34_4 h, mC34_5 h, mD34_5 h, mC34_6 h, mD34_6 h, mC34_7 h, mD34_7 h, mC34_8 h, mD34_8 h, mC34_9 h, mD34_9 h, mC34_10 h, mD34_10 h, mC34_11 h, mD34_11 h, mC34_12 h, mD34_12 h, mC34_13 h, mD34_13 h, mG1 h, mG2 h, mG3 h, mG4 h, mG5 h, mG6 h, mG7 h, mG8 h, mG9 h, mG10 h, mG11 h, mG12 h, mG13 h, mG14 h, mG15 h, mG16 h, mG17 h, mG18 h, mG19 h, mG20 h, mG21 h, mG22 h, mG24 h, mG25 h, mG26 h, mG27 h, mG28 h, mG29 h, mG30 h, mG33 h, mG34 h, mG35 h, mG36 h, mG37 h, mG38 h, mG40 h, mG41 h, hbd_some, hb2_some, hj_b, if_true, if_false, nI_1] using this
theorem CR.blow {c r k f n t T : Nat} {V M : Nat → Nat → Int32} (h : CR c r k f n t T V M) (hT : T ≤ 1000000000) {i : Nat} (hi : i < f) : CR c r k f n t T (blV V i) (fbV c r M i) := by
  obtain ⟨hr, x, hx, hsum⟩ := h
  have hr0 := hr
  obtain ⟨ht, hd, -, hF, -⟩ := hr0
  obtain ⟨⟨c1, c2, r1, r2⟩, -, htab⟩ := ht
  obtain ⟨s, w, z, hs, hw, hz, e6, f7, e7, f8, e8, f9⟩ := hF.2 i hi
  have h80 := seats_le c2 r2
  have hl := sg_lt c1 c2 r2 hs
  have hxs := sumN_le x (c * r) s hs
  have h5 := (htab s hs).2.2.2 w hw.2
  unfold blV fbV
  simp only [e6, f7, e7, f8, e8, f9, nIc (show s < 2000000000 by omega), nIc (show w < 2000000000 by omega), nIc (show sg c s < 2000000000 by omega), us_sg c1 c2, (hx.1 s hs).1, (hx.1 s hs).2, h5]
  obtain ⟨m, hm, m1, m2⟩ : ∃ m, m ≤ x s ∧ (if nI z < nI (x s) then nI z else nI (x s)) = nI m ∧ (if nI (x s) ≤ nI z then nI (x s) else nI z) = nI m := by
    by_cases q : z < x s
    · exact ⟨z, by omega, if_pos (nI_lt q (by omega)), if_neg (nI_ge q (by omega))⟩
    · exact ⟨x s, Nat.le_refl _, if_neg (nI_nlt (by omega) (by omega)), if_pos (nI_le (by omega) (by omega))⟩
  rw [m1, m2, pk_sub hm]
  have hx1 := hx.set (v := x s - m) c1 c2 hs
  have hr1 := hr.heat s (sg c s) (nI (x s - m)) (nI (x s - m))
  have hsu := sumN_up x s (x s - m) (c * r) hs
  cases hn : nxt c r s w with
  | none =>
    simp only [Option.map_none, oi_none, m1_lt, if_true]
    refine ⟨?_, upN x s (x s - m), hx1.sum _ _ _ _, by omega⟩
    have := (hr1.sum (nI m)).2.2
    simpa [up2_at] using this
  | some u =>
    have hu := nxt_lt c1 hs hn
    have hul := sg_lt c1 c2 r2 hu
    simp only [Option.map_some, oi_some, nIn (show u < 2000000000 by omega), nI_ne1 (show sg c u < 2000000000 by omega), if_false, nIc (show u < 2000000000 by omega), nIc (show sg c u < 2000000000 by omega)]
    rw [(hx1.1 u hu).1, (hx1.1 u hu).2, nI_add]
    refine ⟨hr1.heat _ _ _ _, _, hx1.set c1 c2 hu, ?_⟩
    have := sumN_up (upN x s (x s - m)) u (upN x s (x s - m) u + m) (c * r) hu
    omega
