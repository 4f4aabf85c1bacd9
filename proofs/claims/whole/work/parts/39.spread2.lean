/-- a counted loop, with what holds at each number -/
theorem loopI {σ β : Type} (L : Nat → Nat → σ → β) (f : σ → Nat → σ) (Inv : Nat → σ → Prop) (N : Nat) (out : σ → β) (hs : ∀ n g s, g < N → Inv g s → L (n + 1) g s = L n (g + 1) (f s g)) (hi : ∀ g s, g < N → Inv g s → Inv (g + 1) (f s g)) (he : ∀ n s, Inv N s → L (n + 1) N s = out s) : ∀ n g s, g ≤ N → N < g + n → Inv g s → L n g s = out (itr f s g (N - g)) ∧ Inv N (itr f s g (N - g)) := by
  intro n
  induction n with
  | zero => intro g s h1 h2; omega
  | succ n ih =>
    intro g s h1 h2 h3
    by_cases q : g = N
    · subst q
      rw [he n s h3, Nat.sub_self]; exact ⟨rfl, h3⟩
    · rw [hs n g s (by omega) h3, show N - g = (N - (g + 1)) + 1 by omega]
      exact ih (g + 1) (f s g) (by omega) (by omega) (hi g s (by omega) h3)
theorem sp_in {S : hS} {V : Nat → Nat → Int32} {e s : Nat} (h : LayE S e) {c r k f n t T : Nat} {x0 : Nat → Nat} (hT : T ≤ 1000000000) (hsc : s < c * r) {x : Nat → Nat} {M : Nat → Nat → Int32} (hp : SP c r k f n t T s 1 x0 x V M) (hpos : ¬ V 18 s ≤ 0) (k0 : hS → Option hS) : f_X0_spread_L56 hfuel e (nI s) (V 18 s) 1 (eS S e V) k0 = k0 (eS S e (itr (spW s) V 1 4)) := by
  have hs : s < 80 := Nat.lt_of_lt_of_le hsc (seats_le hp.1.1.1.2.1 hp.1.1.1.2.2.2)
  have := loopI (fun m w V' => f_X0_spread_L56 m e (nI s) (V 18 s) (nI w) (eS S e V') k0) (spW s) (fun w V' => 1 ≤ w ∧ ∃ (x : Nat → Nat) (M : Nat → Nat → Int32), SP c r k f n t T s w x0 x V' M) 5 (fun V' => k0 (eS S e V')) ?_ ?_ ?_ hfuel 1 V (by decide) (by unfold hfuel; omega) ⟨Nat.le_refl _, x, M, hp⟩
  · exact this.1
  · intro m w V' hw5 ⟨hw1, x', M', q⟩
    have hv : V' 18 s = V 18 s := ((q.2.2.1 s hsc).1).trans (hp.2.2.1 s hsc).1.symm
    have h5 := (q.1.1.2.2 s hsc).2.2.2 w hw5
    have h80 := seats_le q.1.1.1.2.1 q.1.1.1.2.2.2
    show f_X0_spread_L56 (m + 1) e (nI s) (V 18 s) (nI w) (eS S e V') k0 = f_X0_spread_L56 m e (nI s) (V 18 s) (nI (w + 1)) (eS S e (spW s V' w)) k0
    rw [f_X0_spread_L56]
    unfold spW
    have hw : ¬ (5 : Int32) ≤ nI w := nI_ge (a := w) (b := 5) hw5 (by decide)
    simp only [hw, hpos, if_false, eR0_0 h, eR0_1 h, eR0_2 h, eR0_3 h, eR0_11 h, eR1_4 h, eR1_5 h, eR1_6 h, eR1_7 h, eR1_9 h, eR1_10 h, eR1_11 h, eR1_13 h, eR1_14 h, eR11_1 h, eR11_2 h, eR11_3 h, eR11_4 h, eR11_5 h, eI0 h, es0 h, eK0 h, eI1 h, es1 h, eK1 h, eI11 h, es11 h, eK11 h, hbd_some, hb2_some, hj_b, if_true, if_false, nI_1, nI_5, eN5 h (show s * 5 + w < 400 by omega), h5, hv]
    cases hn : nxt c r s w with
    | none => simp only [oi_none, m1_lt, if_true]
    | some u =>
      have hu := nxt_lt q.1.1.1.1 hsc hn
      simp only [oi_some, nIn (show u < 2000000000 by omega), if_false, eR0_0 h, eR0_1 h, eR0_2 h, eR0_3 h, eR0_11 h, eR1_4 h, eR1_5 h, eR1_6 h, eR1_7 h, eR1_9 h, eR1_10 h, eR1_11 h, eR1_13 h, eR1_14 h, eR11_1 h, eR11_2 h, eR11_3 h, eR11_4 h, eR11_5 h, eI0 h, es0 h, eK0 h, eI1 h, es1 h, eK1 h, eI11 h, es11 h, eK11 h, hbd_some, hb2_some, hj_b, if_true, if_false, nI_1, eN17 h hs, eM17 h hs, eN17 h (show u < 80 by omega), eM17 h (show u < 80 by omega), nIc (show u < 2000000000 by omega)]
  · intro w V' hw5 ⟨hw1, x', M', q⟩
    obtain ⟨x2, q2⟩ := q.way hT hsc ⟨hw1, hw5⟩
    exact ⟨by omega, x2, _, q2⟩
  · intro m V' hI
    show f_X0_spread_L56 (m + 1) e (nI s) (V 18 s) (nI 5) (eS S e V') k0 = _
    rw [f_X0_spread_L56]
    simp only [show (5 : Int32) ≤ nI 5 from by decide, if_true]
/-- the gifts are measured -/
def gfV (V : Nat → Nat → Int32) (s : Nat) : Nat → Nat → Int32 := up2 V 18 s (V 17 s / 8)
def spV (V : Nat → Nat → Int32) (s : Nat) : Nat → Nat → Int32 := if V 18 s ≤ 0 then V else itr (spW s) V 1 4
/-- rows laid over rows -/
def cpV (M : Nat → Nat → Int32) (a b N : Nat) : Nat → Nat → Int32 := fun q j => if q = b ∧ j < N then M a j else M q j
theorem cpV_step (M : Nat → Nat → Int32) {a b g : Nat} (h : a ≠ b) : up2 (cpV M a b g) b g (cpV M a b g a g) = cpV M a b (g + 1) := by
  funext q j
  rw [up2_at]
  unfold cpV
  by_cases h1 : q = b
  · subst h1
    by_cases h2 : j = g
    · subst h2
      simp [h]
    · by_cases h3 : j < g
      · simp [h2, h3, show j < g + 1 by omega]
      · simp [h2, h3, show ¬ j < g + 1 by omega]
  · simp [h1]
theorem cpV_0 (M : Nat → Nat → Int32) (a b : Nat) : cpV M a b 0 = M := by
  funext q j
  unfold cpV
  rw [if_neg (by omega)]
theorem lay_spec {S : hS} {y a b N : Nat} {M : Nat → Nat → Int32} (hab : a ≠ b) (hN : N ≤ 2000) (g0 : ∀ V, gN (mS S y V) (y + a) = some (nI N)) (g1 : ∀ V g, g < N → gA (mS S y V) (y + a) 12 (nI g) = some (V a g)) (g2 : ∀ V g v, g < N → sA (mS S y V) (y + b) (nI g) v = some (mS S y (up2 V b g v))) : f_X9_lay (y + a) (y + b) (mS S y M) = some (mS S y (cpV M a b N)) := by
  unfold f_X9_lay
  have := loopI (fun m g V => f_X9_lay_L2 m (y + a) (y + b) (nI g) (mS S y V) (fun S => some S)) (fun V g => up2 V b g (V a g)) (fun g V => V = cpV M a b g) N (fun V => some (mS S y V)) ?_ ?_ ?_ hfuel 0 M (Nat.zero_le _) (by unfold hfuel; omega) (cpV_0 M a b).symm
  · exact this.1.trans (congrArg (fun V => some (mS S y V)) this.2)
  · intro m g V hg hV
    show f_X9_lay_L2 (m + 1) (y + a) (y + b) (nI g) (mS S y V) (fun S => some S) = f_X9_lay_L2 m (y + a) (y + b) (nI (g + 1)) (mS S y (up2 V b g (V a g))) (fun S => some S)
    rw [f_X9_lay_L2]
    have hn : ¬ nI N ≤ nI g := nI_ge hg (by omega)
    simp only [hbd_some, hb2_some, hj_b, if_true, if_false, nI_1, g0, g1 _ _ hg, g2 _ _ _ hg, hn]
  · intro g V hg hV
    rw [hV, cpV_step M hab]
  · intro m V hV
    show f_X9_lay_L2 (m + 1) (y + a) (y + b) (nI N) (mS S y V) (fun S => some S) = _
    rw [f_X9_lay_L2]
    simp only [hbd_some, hb2_some, hj_b, if_true, if_false, nI_1, g0, Int32.le_refl]
theorem hs_in {S : hS} {M : Nat → Nat → Int32} {y s : Nat} (h : LayM S y) {c r k f n t T : Nat} {x0 : Nat → Nat} (hT : T ≤ 1000000000) (hsc : s < c * r) {x : Nat → Nat} {V : Nat → Nat → Int32} (hp : SP c r k f n t T s 1 x0 x V M) (k0 : hS → Option hS) : f_X9_heatSpreads_L21 hfuel y (nI (sg c s)) 1 (mS S y M) k0 = k0 (mS S y (itr (hsW c r s) M 1 4)) := by
  obtain ⟨⟨c1, c2, r1, r2⟩, -⟩ := hp.1.1
  have hl := sg_lt c1 c2 r2 hsc
  have hd := hp.1.2.1
  have := loopI (fun m w M' => f_X9_heatSpreads_L21 m y (nI (sg c s)) (nI w) (mS S y M') k0) (hsW c r s) (fun w M' => 1 ≤ w ∧ ∃ (x : Nat → Nat) (V : Nat → Nat → Int32), SP c r k f n t T s w x0 x V M') 5 (fun M' => k0 (mS S y M')) ?_ ?_ ?_ hfuel 1 M (by decide) (by unfold hfuel; omega) ⟨Nat.le_refl _, x, V, hp⟩
  · exact this.1
  · intro m w M' hw5 ⟨hw1, x', V', q⟩
    have hd := q.1.2.1
    have h80 := seats_le c2 r2
    show f_X9_heatSpreads_L21 (m + 1) y (nI (sg c s)) (nI w) (mS S y M') k0 = f_X9_heatSpreads_L21 m y (nI (sg c s)) (nI (w + 1)) (mS S y (hsW c r s M' w)) k0
    rw [f_X9_heatSpreads_L21]
    unfold hsW
    have hw : ¬ (5 : Int32) ≤ nI w := nI_ge (a := w) (b := 5) hw5 (by decide)
    have hin : sg c s % 10 < c ∧ sg c s / 10 < r := by
      rw [sg_mod c1 c2, sg_div c1 c2]
      exact ⟨Nat.mod_lt _ (by omega), row_lt hsc⟩
    simp only [hw, if_false, mR0_1 h, mR0_2 h, mR0_3 h, mR0_4 h, mR0_5 h, mR0_6 h, mR0_7 h, mR0_8 h, mR0_9 h, mR0_10 h, mR0_11 h, mR0_12 h, mR0_13 h, mR0_14 h, mR0_15 h, mR0_16 h, mR0_17 h, mR0_18 h, mR0_19 h, mR0_20 h, mR0_21 h, mR0_22 h, mR0_34 h, mR0_35 h, mR0_36 h, mR0_37 h, mR0_38 h, mR0_39 h, mR0_40 h, mR0_41 h, mR0_42 h, mR0_43 h, mR0_44 h, mR0_45 h, mR0_46 h, mR0_47 h, mR0_48 h, mR0_49 h, mR0_55 h, mR0_58 h, mR0_59 h, mR0_60 h, mI0 h, ms0 h, mK0 h, mC1_0 h, mD1_0 h, mC1_1 h, mD1_1 h, mC1_2 h, mD1_2 h, mC1_3 h, mD1_3 h, mC1_4 h, mD1_4 h, mC1_5 h, mD1_5 h, mC1_6 h, mD1_6 h, mC1_7 h, mD1_7 h, mC1_8 h, mD1_8 h, mC1_9 h, mD1_9 h, mC1_10 h, mD1_10 h, mC1_11 h, mD1_11 h, mC1_12 h, mD1_12 h, mC1_13 h, mD1_13 h, mC13_0 h, mD13_0 h, mC13_1 h, mD13_1 h, mC13_2 h, mD13_2 h, mC13_3 h, mD13_3 h, mC13_4 h, mD13_4 h, mC13_5 h, mD13_5 h, mC34_0 h, mD34_0 h, mC34_1 h, mD34_1 h, mC34_2 h, mD34_2 h, mC34_3 h, mD34_3 h, mC34_4 h, mD34_4 h, mC34_5 h, mD34_5 h, mC34_6 h, mD34_6 h, mC34_7 h, mD34_7 h, mC34_8 h, mD34_8 h, mC34_9 h, mD34_9 h, mC34_10 h, mD34_10 h, mC34_11 h, mD34_11 h, mC34_12 h, mD34_12 h, mC34_13 h, mD34_13 h, mG1 h, mG2 h, mG3 h, mG4 h, mG5 h, mG6 h, mG7 h, mG8 h, mG9 h, mG10 h, mG11 h, mG12 h, mG13 h, mG14 h, mG15 h, mG16 h, mG17 h, mG18 h, mG19 h, mG20 h, mG21 h, mG22 h, mG24 h, mG25 h, mG26 h, mG27 h, mG28 h, mG29 h, mG30 h, mG33 h, mG34 h, mG35 h, mG36 h, mG37 h, mG38 h, mG40 h, mG41 h, hbd_some, hb2_some, hj_b, if_true, if_false, nI_1, there_spec h c1 c2 r1 r2 hd.1 hd.2 (sg c s) hl, hin, and_self, show ¬ (1 : Int32) = 0 by decide, by_spec h c1 c2 r2 hd.1 hd.2 hsc hw5]
    cases hn : nxt c r s w with
    | none => simp only [Option.map_none, oi_none, if_true]
    | some u =>
      have hu := sg_lt c1 c2 r2 (nxt_lt c1 hsc hn)
      simp only [Option.map_some, oi_some, nI_ne1 (show sg c u < 2000000000 by omega), if_false, mR0_1 h, mR0_2 h, mR0_3 h, mR0_4 h, mR0_5 h, mR0_6 h, mR0_7 h, mR0_8 h, mR0_9 h, mR0_10 h, mR0_11 h, mR0_12 h, mR0_13 h, mR0_14 h, mR0_15 h, mR0_16 h, mR0_17 h, mR0_18 h, mR0_19 h, mR0_20 h, mR0_21 h, mR0_22 h, mR0_34 h, mR0_35 h, mR0_36 h, mR0_37 h, mR0_38 h, mR0_39 h, mR0_40 h, mR0_41 h, mR0_42 h, mR0_43 h, mR0_44 h, mR0_45 h, mR0_46 h, mR0_47 h, mR0_48 h, mR0_49 h, mR0_55 h, mR0_58 h, mR0_59 h, mR0_60 h, mI0 h, ms0 h, mK0 h, mC1_0 h, mD1_0 h, mC1_1 h, mD1_1 h, mC1_2 h, mD1_2 h, mC1_3 h, mD1_3 h, mC1_4 h, mD1_4 h, mC1_5 h, mD1_5 h, mC1_6 h, mD1_6 h, mC1_7 h, mD1_7 h, mC1_8 h, mD1_8 h, mC1_9 h, mD1_9 h, mC1_10 h, mD1_10 h, mC1_11 h, mD1_11 h, mC1_12 h, mD1_12 h, mC1_13 h, mD1_13 h, mC13_0 h, mD13_0 h, mC13_1 h, mD13_1 h, mC13_2 h, mD13_2 h, mC13_3 h, mD13_3 h, mC13_4 h, mD13_4 h, mC13_5 h, mD13_5 h, mC34_0 h, mD34_0 h, mC34_1 h, mD34_1 h, mC34_2 h, mD34_2 h, mC34_3 h, mD34_3 h, mC34_4 h, mD34_4 h, mC34_5 h, mD34_5 h, mC34_6 h, mD34_6 h, mC34_7 h, mD34_7 h, mC34_8 h, mD34_8 h, mC34_9 h, mD34_9 h, mC34_10 h, mD34_10 h, mC34_11 h, mD34_11 h, mC34_12 h, mD34_12 h, mC34_13 h, mD34_13 h, mG1 h, mG2 h, mG3 h, mG4 h, mG5 h, mG6 h, mG7 h, mG8 h, mG9 h, mG10 h, mG11 h, mG12 h, mG13 h, mG14 h, mG15 h, mG16 h, mG17 h, mG18 h, mG19 h, mG20 h, mG21 h, mG22 h, mG24 h, mG25 h, mG26 h, mG27 h, mG28 h, mG29 h, mG30 h, mG33 h, mG34 h, mG35 h, mG36 h, mG37 h, mG38 h, mG40 h, mG41 h, hbd_some, hb2_some, hj_b, if_true, if_false, nI_1, mN2 h hl, mM2 h hl, mN2 h hu, mM2 h hu, mN33 h hl]
      simp only [up2_at]
      simp
  · intro w M' hw5 ⟨hw1, x', V', q⟩
    obtain ⟨x2, q2⟩ := q.way hT hsc ⟨hw1, hw5⟩
    exact ⟨by omega, x2, _, q2⟩
  · intro m M' hI
    show f_X9_heatSpreads_L21 (m + 1) y (nI (sg c s)) (nI 5) (mS S y M') k0 = _
    rw [f_X9_heatSpreads_L21]
    simp only [show (5 : Int32) ≤ nI 5 from by decide, if_true]
