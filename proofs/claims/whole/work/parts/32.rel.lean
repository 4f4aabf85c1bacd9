/-- the reference's number of a seat of the class, in a hall of c columns -/
def sg (c s : Nat) : Nat := 10 * (s / c) + s % c
def oi (o : Option Nat) : Int32 := match o with
  | none => -1
  | some s => nI s
/-- the seat by a way -/
def nxt (c r s w : Nat) : Option Nat := match w with
  | 0 => some s
  | 1 => if s / c = 0 then none else some (s - c)
  | 2 => if s % c + 1 = c then none else some (s + 1)
  | 3 => if s / c + 1 = r then none else some (s + c)
  | _ => if s % c = 0 then none else some (s - 1)
def edg (c r s : Nat) : Nat := min (min (s % c) (c - 1 - s % c)) (min (s / c) (r - 1 - s / c))
theorem sg_mod {c s : Nat} (h1 : 1 ≤ c) (h2 : c ≤ 10) : sg c s % 10 = s % c := by
  have : s % c < c := Nat.mod_lt _ (by omega)
  unfold sg; omega
theorem sg_div {c s : Nat} (h1 : 1 ≤ c) (h2 : c ≤ 10) : sg c s / 10 = s / c := by
  have : s % c < c := Nat.mod_lt _ (by omega)
  unfold sg; omega
theorem row_lt {c r s : Nat} (h : s < c * r) : s / c < r := Nat.div_lt_of_lt_mul h
theorem sg_lt {c r s : Nat} (h1 : 1 ≤ c) (h2 : c ≤ 10) (h3 : r ≤ 8) (h : s < c * r) : sg c s < 80 := by
  have a : s % c < c := Nat.mod_lt _ (by omega)
  have b := row_lt h
  unfold sg; omega
theorem sg_inj {c s t : Nat} (h1 : 1 ≤ c) (h2 : c ≤ 10) (h : sg c s = sg c t) : s = t := by
  have e1 := sg_mod (s := s) h1 h2
  have e2 := sg_mod (s := t) h1 h2
  have e3 := sg_div (s := s) h1 h2
  have e4 := sg_div (s := t) h1 h2
  rw [h] at e1 e3
  have a := Nat.div_add_mod s c
  have b := Nat.div_add_mod t c
  rw [← e1, ← e3, e2, e4] at a
  omega
theorem seats_le {c r : Nat} (h2 : c ≤ 10) (h3 : r ≤ 8) : c * r ≤ 80 := Nat.le_trans (Nat.mul_le_mul h2 h3) (by decide)
theorem cmp_lt (a b : Int64) : lg_cmp a b < 0 ↔ a < b := by
  unfold lg_cmp
  by_cases h1 : a > b
  · rw [if_pos h1]
    exact ⟨fun q => absurd q (by decide), fun q => (Int64.lt_irrefl (Int64.lt_trans h1 q)).elim⟩
  · rw [if_neg h1]
    by_cases h2 : a = b
    · rw [if_pos h2]
      exact ⟨fun q => absurd q (by decide), fun q => (by rw [h2] at q; exact (Int64.lt_irrefl q).elim)⟩
    · rw [if_neg h2]
      refine ⟨fun _ => ?_, fun _ => by decide⟩
      rcases Int64.lt_or_eq_of_le (Int64.not_lt.mp h1) with q | q
      · exact q
      · exact absurd q h2
theorem cmp_gt (a b : Int64) : 0 < lg_cmp a b ↔ b < a := by
  unfold lg_cmp
  by_cases h1 : a > b
  · rw [if_pos h1]
    exact ⟨fun _ => h1, fun _ => by decide⟩
  · rw [if_neg h1]
    refine ⟨fun q => ?_, fun q => absurd q h1⟩
    by_cases h2 : a = b
    · rw [if_pos h2] at q; exact absurd q (by decide)
    · rw [if_neg h2] at q; exact absurd q (by decide)
theorem in_spec (a b c : Int64) (S : hS) : f_X9_in a b c S = some (if b ≤ a ∧ a ≤ c then 1 else 0, S) := by
  unfold f_X9_in
  simp only [hj_b, cmp_lt, cmp_gt]
  by_cases h1 : a < b
  · rw [if_pos h1, if_neg (fun q => absurd h1 (Int64.not_lt.mpr q.1))]
  · rw [if_neg h1]
    by_cases h2 : c < a
    · rw [if_pos h2, if_neg (fun q => absurd h2 (Int64.not_lt.mpr q.2))]
    · rw [if_neg h2, if_pos ⟨Int64.not_lt.mp h1, Int64.not_lt.mp h2⟩]
theorem i64le (x y : Int32) : x.toInt64 ≤ y.toInt64 ↔ x ≤ y := by
  rw [Int64.le_iff_toInt_le, Int32.le_iff_toInt_le, Int32.toInt_toInt64, Int32.toInt_toInt64]
theorem z64 : (0 : Int64) = Int32.toInt64 0 := by decide
theorem isSeat_spec {S : hS} {M : Nat → Nat → Int32} {y : Nat} (h : LayM S y) (a b : Int32) : f_X9_isSeat y a b (mS S y M) = some (if (0 ≤ a ∧ a ≤ M 1 0 - 1) ∧ (0 ≤ b ∧ b ≤ M 1 1 - 1) then 1 else 0, mS S y M) := by
  unfold f_X9_isSeat
  have g0 := mN1 (V := M) h (g := 0) (by decide)
  have g1 := mN1 (V := M) h (g := 1) (by decide)
  rw [show nI 0 = 0 from rfl] at g0
  rw [show nI 1 = 1 from rfl] at g1
  simp only [mR0_1 h, mR0_2 h, mR0_3 h, mR0_4 h, mR0_5 h, mR0_6 h, mR0_7 h, mR0_8 h, mR0_9 h, mR0_10 h, mR0_11 h, mR0_12 h, mR0_13 h, mR0_14 h, mR0_15 h, mR0_16 h, mR0_17 h, mR0_18 h, mR0_19 h, mR0_20 h, mR0_21 h, mR0_22 h, mR0_34 h, mR0_35 h, mR0_36 h, mR0_37 h, mR0_38 h, mR0_39 h, mR0_40 h, mR0_41 h, mR0_42 h, mR0_43 h, mR0_44 h, mR0_45 h, mR0_46 h, mR0_47 h, mR0_48 h, mR0_49 h, mR0_55 h, mR0_58 h, mR0_59 h, mR0_60 h, mI0 h, ms0 h, mK0 h, mC1_0 h, mD1_0 h, mC1_1 h, mD1_1 h, mC1_2 h, mD1_2 h, mC1_3 h, mD1_3 h, mC1_4 h, mD1_4 h, mC1_5 h, mD1_5 h, mC1_6 h, mD1_6 h, mC1_7 h, mD1_7 h, mC1_8 h, mD1_8 h, mC1_9 h, mD1_9 h, mC1_10 h, mD1_10 h, mC1_11 h, mD1_11 h, mC1_12 h, mD1_12 h, mC1_13 h, mD1_13 h, mC13_0 h, mD13_0 h, mC13_1 h, mD13_1 h, mC13_2 h, mD13_2 h, mC13_3 h, mD13_3 h, mC13_4 h, mD13_4 h, mC13_5 h, mD13_5 h, mC34_0 h, mD34_0 h, mC34_1 h, mD34_1 h, mC34_2 h, mD34_2 h, mC34_3 h, mD34_3 h, mC34_4 h, mD34_4 h, mC34_5 h, mD34_5 h, mC34_6 h, mD34_6 h, mC34_7 h, mD34_7 h, mC34_8 h, mD34_8 h, mC34_9 h, mD34_9 h, mC34_10 h, mD34_10 h, mC34_11 h, mD34_11 h, mC34_12 h, mD34_12 h, mC34_13 h, mD34_13 h, mG1 h, mG2 h, mG3 h, mG4 h, mG5 h, mG6 h, mG7 h, mG8 h, mG9 h, mG10 h, mG11 h, mG12 h, mG13 h, mG14 h, mG15 h, mG16 h, mG17 h, mG18 h, mG19 h, mG20 h, mG21 h, mG22 h, mG24 h, mG25 h, mG26 h, mG27 h, mG28 h, mG29 h, mG30 h, mG33 h, mG34 h, mG35 h, mG36 h, mG37 h, mG38 h, mG40 h, mG41 h, hbd_some, hb2_some, hj_b, if_true, if_false, nI_1, g0, g1, in_spec, z64, i64le]
  by_cases p : 0 ≤ a ∧ a ≤ M 1 0 - 1
  · by_cases q : 0 ≤ b ∧ b ≤ M 1 1 - 1
    · simp [p, q]
    · simp [p, q]
  · simp [p]
theorem isThere_spec {S : hS} {M : Nat → Nat → Int32} {y : Nat} (h : LayM S y) (a : Int32) : f_X9_isThere y a (mS S y M) = some (if (0 ≤ a - a / 10 * 10 ∧ a - a / 10 * 10 ≤ M 1 0 - 1) ∧ (0 ≤ a / 10 ∧ a / 10 ≤ M 1 1 - 1) then 1 else 0, mS S y M) := by
  unfold f_X9_isThere
  simp only [mR0_1 h, mR0_2 h, mR0_3 h, mR0_4 h, mR0_5 h, mR0_6 h, mR0_7 h, mR0_8 h, mR0_9 h, mR0_10 h, mR0_11 h, mR0_12 h, mR0_13 h, mR0_14 h, mR0_15 h, mR0_16 h, mR0_17 h, mR0_18 h, mR0_19 h, mR0_20 h, mR0_21 h, mR0_22 h, mR0_34 h, mR0_35 h, mR0_36 h, mR0_37 h, mR0_38 h, mR0_39 h, mR0_40 h, mR0_41 h, mR0_42 h, mR0_43 h, mR0_44 h, mR0_45 h, mR0_46 h, mR0_47 h, mR0_48 h, mR0_49 h, mR0_55 h, mR0_58 h, mR0_59 h, mR0_60 h, mI0 h, ms0 h, mK0 h, mC1_0 h, mD1_0 h, mC1_1 h, mD1_1 h, mC1_2 h, mD1_2 h, mC1_3 h, mD1_3 h, mC1_4 h, mD1_4 h, mC1_5 h, mD1_5 h, mC1_6 h, mD1_6 h, mC1_7 h, mD1_7 h, mC1_8 h, mD1_8 h, mC1_9 h, mD1_9 h, mC1_10 h, mD1_10 h, mC1_11 h, mD1_11 h, mC1_12 h, mD1_12 h, mC1_13 h, mD1_13 h, mC13_0 h, mD13_0 h, mC13_1 h, mD13_1 h, mC13_2 h, mD13_2 h, mC13_3 h, mD13_3 h, mC13_4 h, mD13_4 h, mC13_5 h, mD13_5 h, mC34_0 h, mD34_0 h, mC34_1 h, mD34_1 h, mC34_2 h, mD34_2 h, mC34_3 h, mD34_3 h, mC34_4 h, mD34_4 h, mC34_5 h, mD34_5 h, mC34_6 h, mD34_6 h, mC34_7 h, mD34_7 h, mC34_8 h, mD34_8 h, mC34_9 h, mD34_9 h, mC34_10 h, mD34_10 h, mC34_11 h, mD34_11 h, mC34_12 h, mD34_12 h, mC34_13 h, mD34_13 h, mG1 h, mG2 h, mG3 h, mG4 h, mG5 h, mG6 h, mG7 h, mG8 h, mG9 h, mG10 h, mG11 h, mG12 h, mG13 h, mG14 h, mG15 h, mG16 h, mG17 h, mG18 h, mG19 h, mG20 h, mG21 h, mG22 h, mG24 h, mG25 h, mG26 h, mG27 h, mG28 h, mG29 h, mG30 h, mG33 h, mG34 h, mG35 h, mG36 h, mG37 h, mG38 h, mG40 h, mG41 h, hbd_some, hb2_some, hj_b, if_true, if_false, nI_1, isSeat_spec h]
  split <;> rfl
theorem nI_in0 {x n : Nat} (hx : x < 1000000) (hn : n < 1000000) (h1 : 1 ≤ n) : (0 ≤ nI x ∧ nI x ≤ nI n - 1) ↔ x < n := by
  obtain ⟨m, rfl⟩ : ∃ m, n = m + 1 := ⟨n - 1, by omega⟩
  rw [nI_pred]
  refine ⟨fun q => ?_, fun q => ⟨nIp (by omega), nI_le (by omega) (by omega)⟩⟩
  have := (nI_leI (a := x) (b := m) (by omega) (by omega)).mp q.2
  omega
