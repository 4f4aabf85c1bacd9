def sumN (x : Nat → Nat) : Nat → Nat
  | 0 => 0
  | n + 1 => sumN x n + x n
def upN (x : Nat → Nat) (s v : Nat) : Nat → Nat := fun u => if u = s then v else x u
theorem upN_s (x : Nat → Nat) (s v : Nat) : upN x s v s = v := if_pos rfl
theorem upN_n (x : Nat → Nat) (s v : Nat) {u : Nat} (h : u ≠ s) : upN x s v u = x u := if_neg h
theorem sumN_out (x : Nat → Nat) (s v : Nat) : ∀ n, n ≤ s → sumN (upN x s v) n = sumN x n := by
  intro n
  induction n with
  | zero => intro _; rfl
  | succ n ih => intro h; show sumN _ n + upN x s v n = _; rw [ih (by omega), upN_n x s v (by omega)]; rfl
theorem sumN_up (x : Nat → Nat) (s v : Nat) : ∀ n, s < n → sumN (upN x s v) n + x s = sumN x n + v := by
  intro n
  induction n with
  | zero => intro h; omega
  | succ n ih =>
    intro h
    show sumN _ n + upN x s v n + x s = sumN x n + x n + v
    by_cases q : s = n
    · subst q
      rw [sumN_out x s v s (Nat.le_refl _), upN_s]; omega
    · have := ih (by omega)
      rw [upN_n x s v (fun z => q z.symm)]; omega
theorem sumN_le (x : Nat → Nat) : ∀ n s, s < n → x s ≤ sumN x n := by
  intro n
  induction n with
  | zero => intro s h; omega
  | succ n ih =>
    intro s h
    show x s ≤ sumN x n + x n
    by_cases q : s = n
    · subst q; omega
    · have := ih s (by omega); omega
/-- the tables of a room of c columns and r rows -/
def CRt (c r : Nat) (V : Nat → Nat → Int32) : Prop := (1 ≤ c ∧ c ≤ 10 ∧ 1 ≤ r ∧ r ≤ 8) ∧ (V 1 0 = nI c ∧ V 1 1 = nI r ∧ V 1 2 = nI (c * r)) ∧ ∀ s, s < c * r → V 2 s = nI (s % c) ∧ V 3 s = nI (s / c) ∧ V 4 s = nI (edg c r s) ∧ ∀ w, w < 5 → V 5 (s * 5 + w) = oi (nxt c r s w)
def CRd (c r : Nat) (M : Nat → Nat → Int32) : Prop := M 1 0 = nI c ∧ M 1 1 = nI r
/-- the heat x of each seat, of both sides -/
def CRx (c r : Nat) (x : Nat → Nat) (V M : Nat → Nat → Int32) : Prop := (∀ s, s < c * r → V 17 s = nI (x s) ∧ M 2 (sg c s) = nI (x s)) ∧ ∀ j, j < 80 → (∀ s, s < c * r → sg c s ≠ j) → M 2 j = 0
def CRh (c r T : Nat) (V M : Nat → Nat → Int32) : Prop := ∃ x : Nat → Nat, CRx c r x V M ∧ sumN x (c * r) ≤ T
/-- a seat or none, of both sides -/
def CRo (c r : Nat) (a b : Int32) (o : Option Nat) : Prop := (∀ s, o = some s → s < c * r) ∧ a = oi o ∧ b = oi (o.map (sg c))
def CRg (c r k : Nat) (V M : Nat → Nat → Int32) : Prop := (k ≤ 12 ∧ V 11 0 = nI k ∧ M 1 2 = nI k) ∧ (∀ g, g < k → ∃ o, CRo c r (V 12 g) (M 3 g) o ∧ ∀ s, o = some s → V 16 s = nI g) ∧ (∀ s, s < c * r → V 16 s = -1 ∨ ∃ g, g < k ∧ V 16 s = nI g ∧ V 12 g = nI s) ∧ ∀ g, g < k → (∃ w, w ≤ 99 ∧ V 13 g = nI w ∧ M 4 g = nI w) ∧ V 14 g = M 5 g ∧ V 15 g = M 6 g
def CRf (c r f : Nat) (V M : Nat → Nat → Int32) : Prop := (f ≤ 7 ∧ V 1 8 = nI f ∧ M 1 3 = nI f) ∧ ∀ i, i < f → ∃ s w z, s < c * r ∧ (1 ≤ w ∧ w < 5) ∧ z ≤ 99 ∧ V 6 i = nI s ∧ M 7 i = nI (sg c s) ∧ V 7 i = nI w ∧ M 8 i = nI w ∧ V 8 i = nI z ∧ M 9 i = nI z
def CRn (c r n : Nat) (V M : Nat → Nat → Int32) : Prop := (n ≤ 8 ∧ V 1 12 = nI n ∧ M 1 4 = nI n) ∧ ∀ i, i < n → ∃ s z, s < c * r ∧ z ≤ 99 ∧ V 9 i = nI s ∧ M 10 i = nI (sg c s) ∧ V 10 i = nI z ∧ M 11 i = nI z
/-- the spot, and where it was ahead of the last minute -/
def CRp (c r : Nat) (V M : Nat → Nat → Int32) : Prop := (∃ s, s < c * r ∧ V 0 4 = nI s ∧ M 1 5 = nI (sg c s)) ∧ ∃ o, CRo c r (V 0 5) (M 1 6) o
def CRs (t : Nat) (V M : Nat → Nat → Int32) : Prop := (t ≤ 20000 ∧ V 0 6 = nI t ∧ M 1 7 = nI t ∧ M 1 12 = nI (min t 120)) ∧ V 0 7 = M 1 8 ∧ V 0 8 = M 1 9 ∧ V 0 9 = M 1 10 ∧ V 1 3 = M 1 11 ∧ (V 20 1 = 0 → V 0 10 = M 1 13 ∧ 0 ≤ M 1 13)
/-- the log; row 20 is no row of an Evening: with a 1 there nothing is said of the log -/
def CRl (c r t : Nat) (V M : Nat → Nat → Int32) : Prop := V 20 0 = 0 → ∀ a, a < min t 120 → ∃ s, s < c * r ∧ V 19 ((t - 1 - a) % 120) = nI s ∧ M 12 a = nI (sg c s)
/-- all but the heat -/
def CRr (c r k f n t : Nat) (V M : Nat → Nat → Int32) : Prop := CRt c r V ∧ CRd c r M ∧ CRg c r k V M ∧ CRf c r f V M ∧ CRn c r n V M ∧ CRp c r V M ∧ CRs t V M ∧ CRl c r t V M
def CR (c r k f n t T : Nat) (V M : Nat → Nat → Int32) : Prop := CRr c r k f n t V M ∧ CRh c r T V M
theorem CRx.set {c r : Nat} {x : Nat → Nat} {V M : Nat → Nat → Int32} (c1 : 1 ≤ c) (c2 : c ≤ 10) (h : CRx c r x V M) {s v : Nat} (hs : s < c * r) : CRx c r (upN x s v) (up2 V 17 s (nI v)) (up2 M 2 (sg c s) (nI v)) := by
  refine ⟨fun u hu => ?_, fun j hj hn => ?_⟩
  · by_cases q : u = s
    · subst q
      rw [up2_s, up2_s, upN_s]; exact ⟨rfl, rfl⟩
    · have q2 : sg c u ≠ sg c s := fun z => q (sg_inj c1 c2 z)
      rw [up2_k _ _ _ _ q, up2_k _ _ _ _ q2, upN_n _ _ _ q]
      exact h.1 u hu
  · rw [up2_k _ _ _ _ (fun z => hn s hs z.symm)]
    exact h.2 j hj hn
/-- what the heat's rows and the sums don't touch -/
theorem CRr.heat {c r k f n t : Nat} {V M : Nat → Nat → Int32} (h : CRr c r k f n t V M) (i j : Nat) (a b : Int32) : CRr c r k f n t (up2 V 17 i a) (up2 M 2 j b) := by
  unfold CRr CRt CRd CRg CRf CRn CRp CRs CRl at *
  simpa [up2_at] using h
theorem CRr.sum {c r k f n t : Nat} {V M : Nat → Nat → Int32} (h : CRr c r k f n t V M) (a : Int32) : CRr c r k f n t (up2 V 0 9 (V 0 9 + a)) (up2 M 1 10 (M 1 10 + a)) ∧ CRr c r k f n t (up2 V 0 8 (V 0 8 + a)) (up2 M 1 9 (M 1 9 + a)) ∧ CRr c r k f n t (up2 V 0 7 (V 0 7 + a)) (up2 M 1 8 (M 1 8 + a)) := by
  obtain ⟨h1, h2, h3, h4, h5, h6, h7, h8⟩ := h
  obtain ⟨g0, g1, g2, g3, g4, g5⟩ := h7
  refine ⟨⟨?_, ?_, ?_, ?_, ?_, ?_, ?_, ?_⟩, ⟨?_, ?_, ?_, ?_, ?_, ?_, ?_, ?_⟩, ⟨?_, ?_, ?_, ?_, ?_, ?_, ?_, ?_⟩⟩ <;> first
    | (unfold CRt at *; simpa [up2_at] using h1)
    | (unfold CRd at *; simpa [up2_at] using h2)
    | (unfold CRg at *; simpa [up2_at] using h3)
    | (unfold CRf at *; simpa [up2_at] using h4)
    | (unfold CRn at *; simpa [up2_at] using h5)
    | (unfold CRp at *; simpa [up2_at] using h6)
    | (unfold CRl at *; simpa [up2_at] using h8)
    | (unfold CRs; simpa [up2_at, g0, g1, g2, g3, g4] using g5)
theorem CRx.sum {c r : Nat} {x : Nat → Nat} {V M : Nat → Nat → Int32} (h : CRx c r x V M) (i j : Nat) (a b : Int32) : CRx c r x (up2 V 0 i a) (up2 M 1 j b) := by
  unfold CRx at *
  simpa [up2_at] using h
