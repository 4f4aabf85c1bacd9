theorem sg_i {c s : Nat} (h1 : 1 ≤ c) (h2 : c ≤ 10) (h3 : sg c s < 80) : nI (sg c s) / 10 = nI (s / c) ∧ nI (sg c s) - nI (sg c s) / 10 * 10 = nI (s % c) := by
  have e10 : (10 : Int32) = nI 10 := rfl
  rw [e10, pk_rem (by omega) (by decide) (by decide), pk_div (by omega) (by decide) (by decide), sg_mod h1 h2, sg_div h1 h2]
  exact ⟨rfl, rfl⟩
theorem s_split {c s : Nat} (h : 1 ≤ c) : s = c * (s / c) + s % c := (Nat.div_add_mod s c).symm
theorem sg_of {c a b : Nat} (h : a < c) : sg c (c * b + a) = 10 * b + a := by
  unfold sg
  rw [Nat.mul_add_div (by omega), Nat.mul_add_mod, Nat.div_eq_of_lt h, Nat.mod_eq_of_lt h]; omega
theorem nI_m1 {n : Nat} (h : 1 ≤ n) : nI n + (-1) = nI (n - 1) := by
  obtain ⟨m, rfl⟩ : ∃ m, n = m + 1 := ⟨n - 1, by omega⟩
  rw [pk_m1]; rfl
theorem nI_m1z : ¬ (0 ≤ nI 0 + (-1)) := by decide
theorem nI_ten (b a : Nat) : 10 * nI b + nI a = nI (10 * b + a) := by rw [show (10 : Int32) = nI 10 from rfl, pk_mul, nI_add]
theorem nxt_0 (c r s : Nat) : nxt c r s 0 = some s := rfl
theorem nxt_1 (c r s : Nat) : nxt c r s 1 = if s / c = 0 then none else some (s - c) := rfl
theorem nxt_2 (c r s : Nat) : nxt c r s 2 = if s % c + 1 = c then none else some (s + 1) := rfl
theorem nxt_3 (c r s : Nat) : nxt c r s 3 = if s / c + 1 = r then none else some (s + c) := rfl
theorem nxt_4 (c r s : Nat) : nxt c r s 4 = if s % c = 0 then none else some (s - 1) := rfl
theorem sg_next {c r s : Nat} (h1 : 1 ≤ c) (hs : s < c * r) :
    (∀ t, nxt c r s 1 = some t → t < c * r ∧ sg c t = 10 * (s / c - 1) + s % c) ∧ (∀ t, nxt c r s 2 = some t → t < c * r ∧ sg c t = 10 * (s / c) + (s % c + 1)) ∧
    (∀ t, nxt c r s 3 = some t → t < c * r ∧ sg c t = 10 * (s / c + 1) + s % c) ∧ (∀ t, nxt c r s 4 = some t → t < c * r ∧ sg c t = 10 * (s / c) + (s % c - 1)) := by
  have ha : s % c < c := Nat.mod_lt _ (by omega)
  have hb := row_lt hs
  have hsp := s_split (s := s) h1
  refine ⟨fun t ht => ?_, fun t ht => ?_, fun t ht => ?_, fun t ht => ?_⟩
  · rw [nxt_1] at ht
    split at ht
    · cases ht
    · rename_i q
      obtain rfl := Option.some.inj ht
      have e : s - c = c * (s / c - 1) + s % c := by
        have : c * (s / c) = c * (s / c - 1) + c := by
          obtain ⟨k, hk⟩ := Nat.exists_eq_succ_of_ne_zero q
          rw [hk, Nat.succ_eq_add_one, Nat.mul_add, Nat.add_sub_cancel, Nat.mul_one]
        omega
      refine ⟨by omega, ?_⟩
      rw [e, sg_of ha]
  · rw [nxt_2] at ht
    split at ht
    · cases ht
    · rename_i q
      obtain rfl := Option.some.inj ht
      have e : s + 1 = c * (s / c) + (s % c + 1) := by omega
      have hlt : c * (s / c) + c ≤ c * r := by
        have : c * (s / c + 1) ≤ c * r := Nat.mul_le_mul (Nat.le_refl _) hb
        rw [Nat.mul_add, Nat.mul_one] at this; exact this
      refine ⟨by omega, ?_⟩
      rw [e, sg_of (by omega)]
  · rw [nxt_3] at ht
    split at ht
    · cases ht
    · rename_i q
      obtain rfl := Option.some.inj ht
      have e : s + c = c * (s / c + 1) + s % c := by rw [Nat.mul_add, Nat.mul_one]; omega
      have hlt : c * (s / c + 1) + c ≤ c * r := by
        have : c * (s / c + 1 + 1) ≤ c * r := Nat.mul_le_mul (Nat.le_refl _) (by omega)
        rw [Nat.mul_add c (s / c + 1), Nat.mul_one] at this; exact this
      refine ⟨by omega, ?_⟩
      rw [e, sg_of ha]
  · rw [nxt_4] at ht
    split at ht
    · cases ht
    · rename_i q
      obtain rfl := Option.some.inj ht
      have e : s - 1 = c * (s / c) + (s % c - 1) := by omega
      refine ⟨by omega, ?_⟩
      rw [e, sg_of (by omega)]
theorem nxt_lt {c r s w t : Nat} (h1 : 1 ≤ c) (hs : s < c * r) (h : nxt c r s w = some t) : t < c * r := by
  obtain ⟨g1, g2, g3, g4⟩ := sg_next h1 hs
  match w, h with
  | 0, h => cases h; exact hs
  | 1, h => exact (g1 t h).1
  | 2, h => exact (g2 t h).1
  | 3, h => exact (g3 t h).1
  | n + 4, h => exact (g4 t h).1
set_option maxHeartbeats 1000000 in
theorem by_spec {S : hS} {M : Nat → Nat → Int32} {y c r s w : Nat} (h : LayM S y) (c1 : 1 ≤ c) (c2 : c ≤ 10) (r2 : r ≤ 8) (m0 : M 1 0 = nI c) (m1 : M 1 1 = nI r) (hs : s < c * r) (hw : w < 5) : f_X9_by y (nI (sg c s)) (nI w) (mS S y M) = some (oi ((nxt c r s w).map (sg c)), mS S y M) := by
  have hlt := sg_lt c1 c2 r2 hs
  obtain ⟨e1, e2⟩ := sg_i c1 c2 hlt
  have ha : s % c < c := Nat.mod_lt _ (by omega)
  have hb := row_lt hs
  have r1 : 1 ≤ r := Nat.lt_of_le_of_lt (Nat.zero_le _) hb
  obtain ⟨g1, g2, g3, g4⟩ := sg_next c1 hs
  have hsp : sg c s = 10 * (s / c) + s % c := rfl
  unfold f_X9_by
  rw [e2, e1]
  simp only [mR0_1 h, mR0_2 h, mR0_3 h, mR0_4 h, mR0_5 h, mR0_6 h, mR0_7 h, mR0_8 h, mR0_9 h, mR0_10 h, mR0_11 h, mR0_12 h, mR0_13 h, mR0_14 h, mR0_15 h, mR0_16 h, mR0_17 h, mR0_18 h, mR0_19 h, mR0_20 h, mR0_21 h, mR0_22 h, mR0_34 h, mR0_35 h, mR0_36 h, mR0_37 h, mR0_38 h, mR0_39 h, mR0_40 h, mR0_41 h, mR0_42 h, mR0_43 h, mR0_44 h, mR0_45 h, mR0_46 h, mR0_47 h, mR0_48 h, mR0_49 h, mR0_55 h, mR0_58 h, mR0_59 h, mR0_60 h, mI0 h, ms0 h, mK0 h, mC1_0 h, mD1_0 h, mC1_1 h, mD1_1 h, mC1_2 h, mD1_2 h, mC1_3 h, mD1_3 h, mC1_4 h, mD1_4 h, mC1_5 h, mD1_5 h, mC1_6 h, mD1_6 h, mC1_7 h, mD1_7 h, mC1_8 h, mD1_8 h, mC1_9 h, mD1_9 h, mC1_10 h, mD1_10 h, mC1_11 h, mD1_11 h, mC1_12 h, mD1_12 h, mC1_13 h, mD1_13 h, mC13_0 h, mD13_0 h, mC13_1 h, mD13_1 h, mC13_2 h, mD13_2 h, mC13_3 h, mD13_3 h, mC13_4 h, mD13_4 h, mC13_5 h, mD13_5 h, mC34_0 h, mD34_0 h, mC34_1 h, mD34_1 h, mC34_2 h, mD34_2 h, mC34_3 h, mD34_3 h, mC34_4 h, mD34_4 h, mC34_5 h, mD34_5 h, mC34_6 h, mD34_6 h, mC34_7 h, mD34_7 h, mC34_8 h, mD34_8 h, mC34_9 h, mD34_9 h, mC34_10 h, mD34_10 h, mC34_11 h, mD34_11 h, mC34_12 h, mD34_12 h, mC34_13 h, mD34_13 h, mG1 h, mG2 h, mG3 h, mG4 h, mG5 h, mG6 h, mG7 h, mG8 h, mG9 h, mG10 h, mG11 h, mG12 h, mG13 h, mG14 h, mG15 h, mG16 h, mG17 h, mG18 h, mG19 h, mG20 h, mG21 h, mG22 h, mG24 h, mG25 h, mG26 h, mG27 h, mG28 h, mG29 h, mG30 h, mG33 h, mG34 h, mG35 h, mG36 h, mG37 h, mG38 h, mG40 h, mG41 h, hbd_some, hb2_some, hj_b, if_true, if_false, nI_1, isSeat_spec h, m0, m1]
  have p1 := nI_in0 (x := s % c) (n := c) (by omega) (by omega) c1
  have p2 := nI_in0 (x := s / c) (n := r) (by omega) (by omega) r1
  match w, hw with
  | 0, _ =>
    rw [show nI 0 = (0 : Int32) from rfl]
    simp only [show ¬ (0 : Int32) = 2 by decide, show ¬ (0 : Int32) = 4 by decide, show ¬ (0 : Int32) = 3 by decide, show ¬ (0 : Int32) = 1 by decide, if_false, Int32.add_zero, p1, p2, ha, hb, and_self, if_true, show ¬ (1 : Int32) = 0 by decide, nI_ten]
    rfl
  | 1, _ =>
    rw [show nI 1 = (1 : Int32) from rfl]
    simp only [show ¬ (1 : Int32) = 2 by decide, show ¬ (1 : Int32) = 4 by decide, show ¬ (1 : Int32) = 3 by decide, if_false, if_true, Int32.add_zero, p1, ha, true_and]
    by_cases q : s / c = 0
    · rw [q]
      simp only [nI_m1z, false_and, and_false, if_false, if_true, nxt_1, q, Option.map_none]
      rfl
    · rw [nI_m1 (Nat.pos_of_ne_zero q)]
      have z : s / c - 1 < r := Nat.lt_of_le_of_lt (Nat.sub_le _ _) hb
      simp only [nI_in0 (x := s / c - 1) (n := r) (by omega) (by omega) r1, z, if_true, show ¬ (1 : Int32) = 0 by decide, if_false, nI_ten]
      have hn : nxt c r s 1 = some (s - c) := by rw [nxt_1, if_neg q]
      rw [hn, Option.map_some, (g1 _ hn).2]; rfl
  | 2, _ =>
    rw [show nI 2 = (2 : Int32) from rfl]
    simp only [show ¬ (2 : Int32) = 3 by decide, show ¬ (2 : Int32) = 1 by decide, if_false, if_true, Int32.add_zero, p2, hb, nI_1, nI_in0 (x := s % c + 1) (n := c) (by omega) (by omega) c1, and_true]
    by_cases q : s % c + 1 = c
    · have z : ¬ s % c + 1 < c := by omega
      simp only [Nat.lt_irrefl, z, if_false, if_true, nxt_2, q, Option.map_none]
      rfl
    · have z : s % c + 1 < c := by omega
      simp only [z, if_true, show ¬ (1 : Int32) = 0 by decide, if_false, nI_ten]
      have hn : nxt c r s 2 = some (s + 1) := by rw [nxt_2, if_neg q]
      rw [hn, Option.map_some, (g2 _ hn).2]; rfl
  | 3, _ =>
    rw [show nI 3 = (3 : Int32) from rfl]
    simp only [show ¬ (3 : Int32) = 2 by decide, show ¬ (3 : Int32) = 4 by decide, if_false, if_true, Int32.add_zero, p1, ha, nI_1, nI_in0 (x := s / c + 1) (n := r) (by omega) (by omega) r1, true_and]
    by_cases q : s / c + 1 = r
    · have z : ¬ s / c + 1 < r := by omega
      simp only [Nat.lt_irrefl, z, if_false, if_true, nxt_3, q, Option.map_none]
      rfl
    · have z : s / c + 1 < r := by omega
      simp only [z, if_true, show ¬ (1 : Int32) = 0 by decide, if_false, nI_ten]
      have hn : nxt c r s 3 = some (s + c) := by rw [nxt_3, if_neg q]
      rw [hn, Option.map_some, (g3 _ hn).2]; rfl
  | 4, _ =>
    rw [show nI 4 = (4 : Int32) from rfl]
    simp only [show ¬ (4 : Int32) = 2 by decide, show ¬ (4 : Int32) = 3 by decide, show ¬ (4 : Int32) = 1 by decide, if_false, if_true, Int32.add_zero, p2, hb, and_true]
    by_cases q : s % c = 0
    · rw [q]
      simp only [nI_m1z, false_and, if_false, if_true, nxt_4, q, Option.map_none]
      rfl
    · rw [nI_m1 (Nat.pos_of_ne_zero q)]
      have z : s % c - 1 < c := Nat.lt_of_le_of_lt (Nat.sub_le _ _) ha
      simp only [nI_in0 (x := s % c - 1) (n := c) (by omega) (by omega) c1, z, if_true, show ¬ (1 : Int32) = 0 by decide, if_false, nI_ten]
      have hn : nxt c r s 4 = some (s - 1) := by rw [nxt_4, if_neg q]
      rw [hn, Option.map_some, (g4 _ hn).2]; rfl
theorem there_spec {S : hS} {M : Nat → Nat → Int32} {y c r : Nat} (h : LayM S y) (c1 : 1 ≤ c) (c2 : c ≤ 10) (r1 : 1 ≤ r) (r2 : r ≤ 8) (m0 : M 1 0 = nI c) (m1 : M 1 1 = nI r) (j : Nat) (hj : j < 80) : f_X9_isThere y (nI j) (mS S y M) = some (if j % 10 < c ∧ j / 10 < r then 1 else 0, mS S y M) := by
  rw [isThere_spec h, m0, m1, show (10 : Int32) = nI 10 from rfl, pk_rem (by omega) (by decide) (by decide), pk_div (by omega) (by decide) (by decide)]
  simp only [nI_in0 (x := j % 10) (n := c) (by omega) (by omega) c1, nI_in0 (x := j / 10) (n := r) (by omega) (by omega) r1]
