/-- ahead of seat s -/
def SPo (c r k f n t T s : Nat) (x0 x : Nat → Nat) (V M : Nat → Nat → Int32) : Prop :=
  CRr c r k f n t V M ∧ CRx c r x V M ∧ (∀ u, u < c * r → V 18 u = nI (x0 u / 8) ∧ M 33 (sg c u) = nI (x0 u)) ∧ sumN x (c * r) = sumN x0 (c * r) ∧ sumN x0 (c * r) ≤ T ∧ ∀ u, s ≤ u → u < c * r → x0 u ≤ x u
theorem SPo.sp {c r k f n t T s : Nat} {x0 x : Nat → Nat} {V M : Nat → Nat → Int32} (h : SPo c r k f n t T s x0 x V M) (hs : s < c * r) : SP c r k f n t T s 1 x0 x V M :=
  ⟨h.1, h.2.1, h.2.2.1, h.2.2.2.1, h.2.2.2.2.1, by have := h.2.2.2.2.2 s (Nat.le_refl _) hs; omega, fun u hu => h.2.2.2.2.2 u (by omega)⟩
theorem hsW_0 {c r s w : Nat} {M : Nat → Nat → Int32} (h : M 33 (sg c s) / 8 = 0) : hsW c r s M w = M := by
  unfold hsW
  cases nxt c r s w with
  | none => rfl
  | some u =>
    simp only [h]
    rw [up2_same (I := M) (by rw [Int32.sub_zero]), up2_same (by rw [Int32.add_zero])]
theorem SPo.seat {c r k f n t T s : Nat} {x0 x : Nat → Nat} {V M : Nat → Nat → Int32} (hT : T ≤ 1000000000) (hs : s < c * r) (h : SPo c r k f n t T s x0 x V M) : ∃ x', SPo c r k f n t T (s + 1) x0 x' (spV V s) (itr (hsW c r s) M 1 4) := by
  have hg := h.2.2.1 s hs
  have hx0 := sumN_le x0 (c * r) s hs
  have hT2 := h.2.2.2.2.1
  unfold spV
  by_cases q : V 18 s ≤ 0
  · rw [if_pos q]
    have z : x0 s / 8 = 0 := by
      rw [hg.1] at q
      have := (nI_leI (a := x0 s / 8) (b := 0) (by omega) (by decide)).mp q
      omega
    have e : M 33 (sg c s) / 8 = 0 := by rw [hg.2, nI_8 (by omega), z]; rfl
    have e4 : itr (hsW c r s) M 1 4 = M := by
      show hsW c r s (hsW c r s (hsW c r s (hsW c r s M 1) 2) 3) 4 = M
      rw [hsW_0 (M := M) e, hsW_0 (M := M) e, hsW_0 (M := M) e, hsW_0 (M := M) e]
    rw [e4]
    exact ⟨x, h.1, h.2.1, h.2.2.1, h.2.2.2.1, h.2.2.2.2.1, fun u hu => h.2.2.2.2.2 u (by omega)⟩
  · rw [if_neg q]
    obtain ⟨x', g⟩ := SP.ways hT hs 4 1 x V M (by omega) (by omega) (h.sp hs)
    exact ⟨x', g.1, g.2.1, g.2.2.1, g.2.2.2.1, g.2.2.2.2.1, fun u hu => g.2.2.2.2.2.2 u (by omega)⟩
/-- the gifts, all up to s -/
def gfC (V : Nat → Nat → Int32) (s : Nat) : Nat → Nat → Int32 := fun q j => if q = 18 ∧ j < s then V 17 j / 8 else V q j
theorem gfC_step (V : Nat → Nat → Int32) (s : Nat) : up2 (gfC V s) 18 s (gfC V s 17 s / 8) = gfC V (s + 1) := by
  funext q j
  rw [up2_at]
  unfold gfC
  by_cases h1 : q = 18
  · subst h1
    by_cases h2 : j = s
    · subst h2; simp
    · by_cases h3 : j < s
      · simp [h2, h3, show j < s + 1 by omega]
      · simp [h2, h3, show ¬ j < s + 1 by omega]
  · simp [h1]
theorem gfC_0 (V : Nat → Nat → Int32) : gfC V 0 = V := by
  funext q j
  unfold gfC
  rw [if_neg (by omega)]
theorem gfC_r {V : Nat → Nat → Int32} {s q : Nat} (h : q ≠ 18) : gfC V s q = V q := by
  funext j
  unfold gfC
  rw [if_neg (fun z => h z.1)]
theorem gifts_cls {S : hS} {V : Nat → Nat → Int32} {e N : Nat} (h : LayE S e) (hN : N ≤ 80) (h2 : V 1 2 = nI N) (k0 : hS → Option hS) : f_X0_spread_L2 hfuel e 0 (eS S e V) k0 = k0 (eS S e (gfC V N)) := by
  have := loopI (fun m g V' => f_X0_spread_L2 m e (nI g) (eS S e V') k0) (fun V' g => up2 V' 18 g (V' 17 g / 8)) (fun g V' => V' = gfC V g) N (fun V' => k0 (eS S e V')) ?_ ?_ ?_ hfuel 0 V (Nat.zero_le _) (by unfold hfuel; omega) (gfC_0 V).symm
  · exact this.1.trans (congrArg (fun V' => k0 (eS S e V')) this.2)
  · intro m g V' hg hV
    show f_X0_spread_L2 (m + 1) e (nI g) (eS S e V') k0 = f_X0_spread_L2 m e (nI (g + 1)) (eS S e (up2 V' 18 g (V' 17 g / 8))) k0
    have e2 : V' 1 2 = nI N := by rw [hV, gfC_r (by decide), h2]
    have hn : ¬ nI N ≤ nI g := nI_ge hg (by omega)
    rw [f_X0_spread_L2]
    simp only [eR0_0 h, eR0_1 h, eR0_2 h, eR0_3 h, eR0_11 h, eR1_4 h, eR1_5 h, eR1_6 h, eR1_7 h, eR1_9 h, eR1_10 h, eR1_11 h, eR1_13 h, eR1_14 h, eR11_1 h, eR11_2 h, eR11_3 h, eR11_4 h, eR11_5 h, eI0 h, es0 h, eK0 h, eI1 h, es1 h, eK1 h, eI11 h, es11 h, eK11 h, hbd_some, hb2_some, hj_b, if_true, if_false, nI_1, e2, hn, eN17 h (show g < 80 by omega), eM18 h (show g < 80 by omega)]
  · intro g V' hg hV
    rw [hV, gfC_step]
  · intro m V' hV
    show f_X0_spread_L2 (m + 1) e (nI N) (eS S e V') k0 = _
    have e2 : V' 1 2 = nI N := by rw [hV, gfC_r (by decide), h2]
    rw [f_X0_spread_L2]
    simp only [eR0_0 h, eR0_1 h, eR0_2 h, eR0_3 h, eR0_11 h, eR1_4 h, eR1_5 h, eR1_6 h, eR1_7 h, eR1_9 h, eR1_10 h, eR1_11 h, eR1_13 h, eR1_14 h, eR11_1 h, eR11_2 h, eR11_3 h, eR11_4 h, eR11_5 h, eI0 h, es0 h, eK0 h, eI1 h, es1 h, eK1 h, eI11 h, es11 h, eK11 h, hbd_some, hb2_some, hj_b, if_true, if_false, nI_1, e2, Int32.le_refl]
theorem spread_cls {S : hS} {V : Nat → Nat → Int32} {e c r k f n t T : Nat} (h : LayE S e) (hT : T ≤ 1000000000) (c1 : 1 ≤ c) (h2 : V 1 2 = nI (c * r)) (hN : c * r ≤ 80) {x0 : Nat → Nat} {M : Nat → Nat → Int32} (hp : SPo c r k f n t T 0 x0 x0 (gfC V (c * r)) M) : f_X0_spread e (eS S e V) = some (eS S e (itr spV (gfC V (c * r)) 0 (c * r))) := by
  unfold f_X0_spread
  rw [gifts_cls h hN h2]
  have := loopI (fun m g V' => f_X0_spread_L36 m e (nI g) (eS S e V') (fun S => some S)) spV (fun s V' => ∃ (x : Nat → Nat) (M : Nat → Nat → Int32), SPo c r k f n t T s x0 x V' M) (c * r) (fun V' => some (eS S e V')) ?_ ?_ ?_ hfuel 0 (gfC V (c * r)) (Nat.zero_le _) (by unfold hfuel; omega) ⟨x0, M, hp⟩
  · exact this.1
  · intro m s V' hs ⟨x, M', q⟩
    show f_X0_spread_L36 (m + 1) e (nI s) (eS S e V') (fun S => some S) = f_X0_spread_L36 m e (nI (s + 1)) (eS S e (spV V' s)) (fun S => some S)
    have hn : ¬ nI (c * r) ≤ nI s := nI_ge hs (by omega)
    rw [f_X0_spread_L36]
    simp only [eR0_0 h, eR0_1 h, eR0_2 h, eR0_3 h, eR0_11 h, eR1_4 h, eR1_5 h, eR1_6 h, eR1_7 h, eR1_9 h, eR1_10 h, eR1_11 h, eR1_13 h, eR1_14 h, eR11_1 h, eR11_2 h, eR11_3 h, eR11_4 h, eR11_5 h, eI0 h, es0 h, eK0 h, eI1 h, es1 h, eK1 h, eI11 h, es11 h, eK11 h, hbd_some, hb2_some, hj_b, if_true, if_false, nI_1, q.1.1.2.1.2.2, hn, eN18 h (show s < 80 by omega)]
    unfold spV
    by_cases z : V' 18 s ≤ 0
    · rw [if_pos z]
      rw [show hfuel = 999999 + 1 from rfl, f_X0_spread_L56]
      simp only [show ¬ (5 : Int32) ≤ 1 by decide, if_false, z, if_true]
    · rw [if_neg z]
      exact sp_in h hT hs (q.sp hs) z _
  · intro s V' hs ⟨x, M', q⟩
    obtain ⟨x', q'⟩ := q.seat hT hs
    exact ⟨x', _, q'⟩
  · intro m V' ⟨x, M', q⟩
    show f_X0_spread_L36 (m + 1) e (nI (c * r)) (eS S e V') (fun S => some S) = _
    rw [f_X0_spread_L36]
    simp only [eR0_0 h, eR0_1 h, eR0_2 h, eR0_3 h, eR0_11 h, eR1_4 h, eR1_5 h, eR1_6 h, eR1_7 h, eR1_9 h, eR1_10 h, eR1_11 h, eR1_13 h, eR1_14 h, eR11_1 h, eR11_2 h, eR11_3 h, eR11_4 h, eR11_5 h, eI0 h, es0 h, eK0 h, eI1 h, es1 h, eK1 h, eI11 h, es11 h, eK11 h, hbd_some, hb2_some, hj_b, if_true, if_false, nI_1, q.1.1.2.1.2.2, Int32.le_refl]
/-- how many seats lie ahead of place j -/
def cnt (c r j : Nat) : Nat := if j / 10 < r then c * (j / 10) + min (j % 10) c else c * r
theorem cnt_in {c r j : Nat} (c1 : 1 ≤ c) (c2 : c ≤ 10) (h : j % 10 < c ∧ j / 10 < r) : cnt c r j = us c j ∧ us c j < c * r ∧ sg c (us c j) = j ∧ cnt c r (j + 1) = us c j + 1 := by
  have e1 : cnt c r j = us c j := by
    unfold cnt us
    rw [if_pos h.2, Nat.min_eq_left (by omega)]
  have e2 : us c j < c * r := by
    have : c * (j / 10 + 1) ≤ c * r := Nat.mul_le_mul (Nat.le_refl _) h.2
    rw [Nat.mul_add, Nat.mul_one] at this
    unfold us; omega
  have e3 : sg c (us c j) = j := by
    unfold us
    rw [sg_of h.1]; omega
  refine ⟨e1, e2, e3, ?_⟩
  unfold cnt us
  by_cases q : j % 10 = 9
  · have a1 : (j + 1) / 10 = j / 10 + 1 := by omega
    have a2 : (j + 1) % 10 = 0 := by omega
    have hc : c = 10 := by omega
    rw [a1, a2, q]
    by_cases z : j / 10 + 1 < r
    · rw [if_pos z, Nat.mul_add]; omega
    · rw [if_neg z, show r = j / 10 + 1 by omega, Nat.mul_add]; omega
  · have a1 : (j + 1) / 10 = j / 10 := by omega
    have a2 : (j + 1) % 10 = j % 10 + 1 := by omega
    rw [a1, a2, if_pos h.2, Nat.min_eq_left (by omega)]; omega
theorem cnt_out {c r j : Nat} (c2 : c ≤ 10) (h : ¬ (j % 10 < c ∧ j / 10 < r)) : cnt c r (j + 1) = cnt c r j := by
  unfold cnt
  by_cases q : j % 10 = 9
  · have a1 : (j + 1) / 10 = j / 10 + 1 := by omega
    have a2 : (j + 1) % 10 = 0 := by omega
    rw [a1, a2, q]
    by_cases y : j / 10 < r
    · have hc : c ≤ 9 := by
        have := fun z => h ⟨z, y⟩
        omega
      rw [if_pos y, Nat.min_eq_right (by omega : c ≤ 9)]
      by_cases z : j / 10 + 1 < r
      · rw [if_pos z, Nat.mul_add]; omega
      · rw [if_neg z, show r = j / 10 + 1 by omega, Nat.mul_add]; omega
    · rw [if_neg y, if_neg (by omega)]
  · have a1 : (j + 1) / 10 = j / 10 := by omega
    have a2 : (j + 1) % 10 = j % 10 + 1 := by omega
    rw [a1, a2]
    by_cases y : j / 10 < r
    · have hc : c ≤ j % 10 := by
        have := fun z => h ⟨z, y⟩
        omega
      rw [if_pos y, if_pos y, Nat.min_eq_right hc, Nat.min_eq_right (by omega)]
    · rw [if_neg y, if_neg y]
def hsV (c r : Nat) (M : Nat → Nat → Int32) (j : Nat) : Nat → Nat → Int32 := if j % 10 < c ∧ j / 10 < r then itr (hsW c r (us c j)) M 1 4 else M
theorem SPo.place {c r k f n t T j : Nat} {x0 x : Nat → Nat} {V M : Nat → Nat → Int32} (hT : T ≤ 1000000000) (h : SPo c r k f n t T (cnt c r j) x0 x V M) : ∃ x', SPo c r k f n t T (cnt c r (j + 1)) x0 x' (if j % 10 < c ∧ j / 10 < r then spV V (cnt c r j) else V) (hsV c r M j) := by
  obtain ⟨⟨c1, c2, r1, r2⟩, -⟩ := h.1.1
  unfold hsV
  by_cases q : j % 10 < c ∧ j / 10 < r
  · obtain ⟨e1, e2, e3, e4⟩ := cnt_in c1 c2 q
    rw [if_pos q, if_pos q, e4, e1]
    rw [e1] at h
    exact h.seat hT e2
  · rw [if_neg q, if_neg q, cnt_out c2 q]
    exact ⟨x, h⟩
theorem spread_mdl {S : hS} {M : Nat → Nat → Int32} {y c r k f n t T : Nat} (h : LayM S y) (hT : T ≤ 1000000000) {x0 : Nat → Nat} {V : Nat → Nat → Int32} (hp : SPo c r k f n t T 0 x0 x0 V (cpV M 2 33 80)) : f_X9_heatSpreads y (mS S y M) = some (mS S y (itr (hsV c r) (cpV M 2 33 80) 0 80)) := by
  obtain ⟨⟨c1, c2, r1, r2⟩, -⟩ := hp.1.1
  unfold f_X9_heatSpreads
  have hl := lay_spec (S := S) (y := y) (a := 2) (b := 33) (N := 80) (M := M) (by decide) (by decide) (fun V => mG2 h) (fun V g hg => mN2 h hg) (fun V g v hg => mM33 h hg)
  simp only [mR0_1 h, mR0_2 h, mR0_3 h, mR0_4 h, mR0_5 h, mR0_6 h, mR0_7 h, mR0_8 h, mR0_9 h, mR0_10 h, mR0_11 h, mR0_12 h, mR0_13 h, mR0_14 h, mR0_15 h, mR0_16 h, mR0_17 h, mR0_18 h, mR0_19 h, mR0_20 h, mR0_21 h, mR0_22 h, mR0_34 h, mR0_35 h, mR0_36 h, mR0_37 h, mR0_38 h, mR0_39 h, mR0_40 h, mR0_41 h, mR0_42 h, mR0_43 h, mR0_44 h, mR0_45 h, mR0_46 h, mR0_47 h, mR0_48 h, mR0_49 h, mR0_55 h, mR0_58 h, mR0_59 h, mR0_60 h, mI0 h, ms0 h, mK0 h, mC1_0 h, mD1_0 h, mC1_1 h, mD1_1 h, mC1_2 h, mD1_2 h, mC1_3 h, mD1_3 h, mC1_4 h, mD1_4 h, mC1_5 h, mD1_5 h, mC1_6 h, mD1_6 h, mC1_7 h, mD1_7 h, mC1_8 h, mD1_8 h, mC1_9 h, mD1_9 h, mC1_10 h, mD1_10 h, mC1_11 h, mD1_11 h, mC1_12 h, mD1_12 h, mC1_13 h, mD1_13 h, mC13_0 h, mD13_0 h, mC13_1 h, mD13_1 h, mC13_2 h, mD13_2 h, mC13_3 h, mD13_3 h, mC13_4 h, mD13_4 h, mC13_5 h, mD13_5 h, mC34_0 h, mD34_0 h, mC34_1 h, mD34_1 h, mC34_2 h, mD34_2 h, mC34_3 h, mD34_3 h, mC34_4 h, mD34_4 h, mC34_5 h, mD34_5 h, mC34_6 h, mD34_6 h, mC34_7 h, mD34_7 h, mC34_8 h, mD34_8 h, mC34_9 h, mD34_9 h, mC34_10 h, mD34_10 h, mC34_11 h, mD34_11 h, mC34_12 h, mD34_12 h, mC34_13 h, mD34_13 h, mG1 h, mG2 h, mG3 h, mG4 h, mG5 h, mG6 h, mG7 h, mG8 h, mG9 h, mG10 h, mG11 h, mG12 h, mG13 h, mG14 h, mG15 h, mG16 h, mG17 h, mG18 h, mG19 h, mG20 h, mG21 h, mG22 h, mG24 h, mG25 h, mG26 h, mG27 h, mG28 h, mG29 h, mG30 h, mG33 h, mG34 h, mG35 h, mG36 h, mG37 h, mG38 h, mG40 h, mG41 h, hbd_some, hb2_some, hj_b, if_true, if_false, nI_1, hl]
  have e0 : cnt c r 0 = 0 := by unfold cnt; rw [if_pos (by omega)]; simp
  have := loopI (fun m g M' => f_X9_heatSpreads_L13 m y (nI g) (mS S y M') (fun S => some S)) (hsV c r) (fun j M' => ∃ (x : Nat → Nat) (V : Nat → Nat → Int32), SPo c r k f n t T (cnt c r j) x0 x V M') 80 (fun M' => some (mS S y M')) ?_ ?_ ?_ hfuel 0 (cpV M 2 33 80) (Nat.zero_le _) (by unfold hfuel; omega) ⟨x0, V, by rw [e0]; exact hp⟩
  · exact this.1
  · intro m j M' hj ⟨x, V', q⟩
    have hd := q.1.2.1
    show f_X9_heatSpreads_L13 (m + 1) y (nI j) (mS S y M') (fun S => some S) = f_X9_heatSpreads_L13 m y (nI (j + 1)) (mS S y (hsV c r M' j)) (fun S => some S)
    rw [f_X9_heatSpreads_L13]
    have hn : ¬ (80 : Int32) ≤ nI j := nI_ge (a := j) (b := 80) hj (by decide)
    simp only [hn, if_false, hbd_some, hb2_some, hj_b, if_true, if_false, nI_1]
    unfold hsV
    by_cases z : j % 10 < c ∧ j / 10 < r
    · obtain ⟨e1, e2, e3, e4⟩ := cnt_in c1 c2 z
      rw [if_pos z]
      rw [e1] at q
      have := hs_in h hT e2 (q.sp e2) (fun S2 => f_X9_heatSpreads_L13 m y (nI (j + 1)) S2 fun S => some S)
      rw [e3] at this
      exact this
    · rw [if_neg z]
      rw [show hfuel = 999999 + 1 from rfl, f_X9_heatSpreads_L21]
      simp only [show ¬ (5 : Int32) ≤ 1 by decide, if_false, mR0_1 h, mR0_2 h, mR0_3 h, mR0_4 h, mR0_5 h, mR0_6 h, mR0_7 h, mR0_8 h, mR0_9 h, mR0_10 h, mR0_11 h, mR0_12 h, mR0_13 h, mR0_14 h, mR0_15 h, mR0_16 h, mR0_17 h, mR0_18 h, mR0_19 h, mR0_20 h, mR0_21 h, mR0_22 h, mR0_34 h, mR0_35 h, mR0_36 h, mR0_37 h, mR0_38 h, mR0_39 h, mR0_40 h, mR0_41 h, mR0_42 h, mR0_43 h, mR0_44 h, mR0_45 h, mR0_46 h, mR0_47 h, mR0_48 h, mR0_49 h, mR0_55 h, mR0_58 h, mR0_59 h, mR0_60 h, mI0 h, ms0 h, mK0 h, mC1_0 h, mD1_0 h, mC1_1 h, mD1_1 h, mC1_2 h, mD1_2 h, mC1_3 h, mD1_3 h, mC1_4 h, mD1_4 h, mC1_5 h, mD1_5 h, mC1_6 h, mD1_6 h, mC1_7 h, mD1_7 h, mC1_8 h, mD1_8 h, mC1_9 h, mD1_9 h, mC1_10 h, mD1_10 h, mC1_11 h, mD1_11 h, mC1_12 h, mD1_12 h, mC1_13 h, mD1_13 h, mC13_0 h, mD13_0 h, mC13_1 h, mD13_1 h, mC13_2 h, mD13_2 h, mC13_3 h, mD13_3 h, mC13_4 h, mD13_4 h, mC13_5 h, mD13_5 h, mC34_0 h, mD34_0 h, mC34_1 h, mD34_1 h, mC34_2 h, mD34_2 h, mC34_3 h, mD34_3 h, mC34_4 h, mD34_4 h, mC34_5 h, mD34_5 h, mC34_6 h, mD34_6 h, mC34_7 h, mD34_7 h, mC34_8 h, mD34_8 h, mC34_9 h, mD34_9 h, mC34_10 h, mD34_10 h, mC34_11 h, mD34_11 h, mC34_12 h, mD34_12 h, mC34_13 h, mD34_13 h, mG1 h, mG2 h, mG3 h, mG4 h, mG5 h, mG6 h, mG7 h, mG8 h, mG9 h, mG10 h, mG11 h, mG12 h, mG13 h, mG14 h, mG15 h, mG16 h, mG17 h, mG18 h, mG19 h, mG20 h, mG21 h, mG22 h, mG24 h, mG25 h, mG26 h, mG27 h, mG28 h, mG29 h, mG30 h, mG33 h, mG34 h, mG35 h, mG36 h, mG37 h, mG38 h, mG40 h, mG41 h, hbd_some, hb2_some, hj_b, if_true, if_false, nI_1, there_spec h c1 c2 r1 r2 hd.1 hd.2 j hj, z]
  · intro j M' hj ⟨x, V', q⟩
    obtain ⟨x', q'⟩ := q.place hT
    exact ⟨x', _, q'⟩
  · intro m M' ⟨x, V', q⟩
    show f_X9_heatSpreads_L13 (m + 1) y (nI 80) (mS S y M') (fun S => some S) = _
    rw [f_X9_heatSpreads_L13]
    simp only [show (80 : Int32) ≤ nI 80 from by decide, if_true]
/-- both sides, from place to place -/
theorem SPo.all {c r k f n t T : Nat} {x0 : Nat → Nat} {V M : Nat → Nat → Int32} (hT : T ≤ 1000000000) (h : SPo c r k f n t T 0 x0 x0 V M) : ∀ j, ∃ x, SPo c r k f n t T (cnt c r j) x0 x (itr spV V 0 (cnt c r j)) (itr (hsV c r) M 0 j) := by
  obtain ⟨⟨c1, c2, r1, r2⟩, -⟩ := h.1.1
  intro j
  induction j with
  | zero =>
    have e0 : cnt c r 0 = 0 := by unfold cnt; rw [if_pos (by omega)]; simp
    rw [e0]; exact ⟨x0, h⟩
  | succ j ih =>
    obtain ⟨x, q⟩ := ih
    obtain ⟨x', q'⟩ := q.place hT
    refine ⟨x', ?_⟩
    rw [itr_snoc, Nat.zero_add]
    by_cases z : j % 10 < c ∧ j / 10 < r
    · obtain ⟨e1, e2, e3, e4⟩ := cnt_in c1 c2 z
      rw [if_pos z] at q'
      rw [e4, itr_snoc, Nat.zero_add]
      rw [e4, e1] at q'
      exact q'
    · rw [if_neg z] at q'
      rw [cnt_out c2 z] at q' ⊢
      exact q'
theorem CR.spread {c r k f n t T : Nat} {V M : Nat → Nat → Int32} (hT : T ≤ 1000000000) (h : CR c r k f n t T V M) : ∃ x0, SPo c r k f n t T 0 x0 x0 (gfC V (c * r)) (cpV M 2 33 80) ∧ CR c r k f n t T (itr spV (gfC V (c * r)) 0 (c * r)) (itr (hsV c r) (cpV M 2 33 80) 0 80) := by
  obtain ⟨hr, x, hx, hsum⟩ := h
  have ht := hr.1
  obtain ⟨⟨c1, c2, r1, r2⟩, -⟩ := ht
  have h0 : SPo c r k f n t T 0 x x (gfC V (c * r)) (cpV M 2 33 80) := by
    refine ⟨?_, ?_, ?_, rfl, hsum, fun u _ _ => Nat.le_refl _⟩
    · unfold CRr CRt CRd CRg CRf CRn CRp CRs CRl at *
      simpa [gfC, cpV] using hr
    · unfold CRx at *
      simpa [gfC, cpV] using hx
    · intro u hu
      have hl := sg_lt c1 c2 r2 hu
      have hxu := sumN_le x (c * r) u hu
      refine ⟨?_, ?_⟩
      · show (if 18 = 18 ∧ u < c * r then V 17 u / 8 else V 18 u) = _
        rw [if_pos ⟨rfl, hu⟩, (hx.1 u hu).1, nI_8 (by omega)]
      · show (if 33 = 33 ∧ sg c u < 80 then M 2 (sg c u) else M 33 (sg c u)) = _
        rw [if_pos ⟨rfl, hl⟩, (hx.1 u hu).2]
  refine ⟨x, h0, ?_⟩
  obtain ⟨x', q⟩ := SPo.all hT h0 80
  have e : cnt c r 80 = c * r := by unfold cnt; rw [if_neg (by omega)]
  rw [e] at q
  exact ⟨q.1, x', q.2.1, by rw [q.2.2.2.1]; exact hsum⟩
