theorem itr_snoc {α : Type} (f : α → Nat → α) : ∀ n a g, itr f a g (n + 1) = f (itr f a g n) (g + n) := by
  intro n
  induction n with
  | zero => intro a g; rfl
  | succ n ih =>
    intro a g
    show itr f (f a g) (g + 1) (n + 1) = f (itr f (f a g) (g + 1) n) (g + (n + 1))
    rw [ih (f a g) (g + 1), show g + 1 + n = g + (n + 1) by omega]
theorem up2_same {I : Nat → Nat → Int32} {a k : Nat} {v : Int32} (h : v = I a k) : up2 I a k v = I := by
  funext b j
  rw [up2_at]
  by_cases q : b = a ∧ j = k
  · rw [if_pos q, h, q.1, q.2]
  · rw [if_neg q]
theorem CRr.row18 {c r k f n t : Nat} {V M : Nat → Nat → Int32} (h : CRr c r k f n t V M) (i : Nat) (a : Int32) : CRr c r k f n t (up2 V 18 i a) M := by
  unfold CRr CRt CRd CRg CRf CRn CRp CRs CRl at *
  simpa [up2_at] using h
theorem CRr.row33 {c r k f n t : Nat} {V M : Nat → Nat → Int32} (h : CRr c r k f n t V M) (i : Nat) (a : Int32) : CRr c r k f n t V (up2 M 33 i a) := by
  unfold CRr CRt CRd CRg CRf CRn CRp CRs CRl at *
  simpa [up2_at] using h
theorem CRx.row18 {c r : Nat} {x : Nat → Nat} {V M : Nat → Nat → Int32} (h : CRx c r x V M) (i : Nat) (a : Int32) : CRx c r x (up2 V 18 i a) M := by
  unfold CRx at *
  simpa [up2_at] using h
theorem CRx.row33 {c r : Nat} {x : Nat → Nat} {V M : Nat → Nat → Int32} (h : CRx c r x V M) (i : Nat) (a : Int32) : CRx c r x V (up2 M 33 i a) := by
  unfold CRx at *
  simpa [up2_at] using h
/-- a seat gives by one way: the class (its gift in row 18), the reference (an eighth of row 33) -/
def spW (s : Nat) (V : Nat → Nat → Int32) (w : Nat) : Nat → Nat → Int32 :=
  if V 5 (s * 5 + w) < 0 then V
  else up2 (up2 V 17 s (V 17 s - V 18 s)) 17 (V 5 (s * 5 + w)).toNatClampNeg (up2 V 17 s (V 17 s - V 18 s) 17 (V 5 (s * 5 + w)).toNatClampNeg + V 18 s)
def hsW (c r s : Nat) (M : Nat → Nat → Int32) (w : Nat) : Nat → Nat → Int32 := match nxt c r s w with
  | none => M
  | some u => up2 (up2 M 2 (sg c s) (M 2 (sg c s) - M 33 (sg c s) / 8)) 2 (sg c u) (up2 M 2 (sg c s) (M 2 (sg c s) - M 33 (sg c s) / 8) 2 (sg c u) + M 33 (sg c s) / 8)
/-- what holds while seat s gives, ahead of way w; x0: the heat ahead of it all, x: now -/
def SP (c r k f n t T s w : Nat) (x0 x : Nat → Nat) (V M : Nat → Nat → Int32) : Prop :=
  CRr c r k f n t V M ∧ CRx c r x V M ∧ (∀ u, u < c * r → V 18 u = nI (x0 u / 8) ∧ M 33 (sg c u) = nI (x0 u)) ∧ sumN x (c * r) = sumN x0 (c * r) ∧ sumN x0 (c * r) ≤ T ∧ x0 s ≤ x s + (w - 1) * (x0 s / 8) ∧ ∀ u, s < u → u < c * r → x0 u ≤ x u
theorem nI_8 {a : Nat} (h : a < 2147483648) : nI a / 8 = nI (a / 8) := by rw [show (8 : Int32) = nI 8 from rfl, pk_div (by omega) (by decide) (by decide)]
theorem SP.way {c r k f n t T s w : Nat} {x0 x : Nat → Nat} {V M : Nat → Nat → Int32} (hT : T ≤ 1000000000) (hs : s < c * r) (hw : 1 ≤ w ∧ w < 5) (h : SP c r k f n t T s w x0 x V M) : ∃ x', SP c r k f n t T s (w + 1) x0 x' (spW s V w) (hsW c r s M w) := by
  obtain ⟨hr, hx, hg, h1, h2, h3, h4⟩ := h
  have ht := hr.1
  obtain ⟨⟨c1, c2, r1, r2⟩, -, htab⟩ := ht
  have h5 := (htab s hs).2.2.2 w hw.2
  have h80 := seats_le c2 r2
  have hx0 := sumN_le x0 (c * r) s hs
  unfold spW hsW
  rw [h5, (hg s hs).1, (hg s hs).2, nI_8 (by omega), (hx.1 s hs).1, (hx.1 s hs).2]
  cases hn : nxt c r s w with
  | none =>
    simp only [oi_none, m1_lt, if_true]
    refine ⟨x, hr, hx, hg, h1, h2, ?_, h4⟩
    have : (w - 1) * (x0 s / 8) ≤ (w + 1 - 1) * (x0 s / 8) := Nat.mul_le_mul (by omega) (Nat.le_refl _)
    omega
  | some u =>
    have hu := nxt_lt c1 hs hn
    have hw3 : (w - 1) * (x0 s / 8) ≤ 3 * (x0 s / 8) := Nat.mul_le_mul (by omega) (Nat.le_refl _)
    have hgl : x0 s / 8 ≤ x s := by omega
    simp only [oi_some, nIn (show u < 2000000000 by omega), if_false, nIc (show u < 2000000000 by omega)]
    rw [pk_sub hgl]
    have hx1 := hx.set (v := x s - x0 s / 8) c1 c2 hs
    rw [(hx1.1 u hu).1, (hx1.1 u hu).2, nI_add]
    have hx2 := hx1.set (v := upN x s (x s - x0 s / 8) u + x0 s / 8) c1 c2 hu
    have s1 := sumN_up x s (x s - x0 s / 8) (c * r) hs
    have s2 := sumN_up (upN x s (x s - x0 s / 8)) u (upN x s (x s - x0 s / 8) u + x0 s / 8) (c * r) hu
    have e1 : w + 1 - 1 = (w - 1) + 1 := by omega
    refine ⟨_, (hr.heat _ _ _ _).heat _ _ _ _, hx2, ?_, by omega, h2, ?_, ?_⟩
    · intro v hv
      have := hg v hv
      simpa [up2_at] using this
    · rw [e1, Nat.add_mul, Nat.one_mul]
      by_cases q : s = u
      · subst q
        rw [upN_s, upN_s]; omega
      · rw [upN_n _ _ _ q, upN_s]; omega
    · intro v hv1 hv2
      have := h4 v hv1 hv2
      by_cases q : v = u
      · subst q
        rw [upN_s, upN_n _ _ _ (by omega)]; omega
      · rw [upN_n _ _ _ q, upN_n _ _ _ (by omega)]; omega
theorem SP.ways {c r k f n t T s : Nat} {x0 : Nat → Nat} (hT : T ≤ 1000000000) (hs : s < c * r) : ∀ (m w : Nat) (x : Nat → Nat) (V M : Nat → Nat → Int32), 1 ≤ w → w + m ≤ 5 → SP c r k f n t T s w x0 x V M → ∃ x', SP c r k f n t T s (w + m) x0 x' (itr (spW s) V w m) (itr (hsW c r s) M w m) := by
  intro m
  induction m with
  | zero => intro w x V M _ _ h; exact ⟨x, h⟩
  | succ m ih =>
    intro w x V M h1 h2 h
    obtain ⟨x1, g⟩ := h.way hT hs ⟨h1, by omega⟩
    obtain ⟨x2, g2⟩ := ih (w + 1) x1 _ _ (by omega) (by omega) g
    exact ⟨x2, by rw [show w + (m + 1) = w + 1 + m by omega]; exact g2⟩
/-- from seat to seat: at seat s, ahead of its first way -/
theorem SP.next {c r k f n t T s w : Nat} {x0 x : Nat → Nat} {V M : Nat → Nat → Int32} (h : SP c r k f n t T s w x0 x V M) (hs : s + 1 < c * r) : SP c r k f n t T (s + 1) 1 x0 x V M := by
  obtain ⟨hr, hx, hg, h1, h2, h3, h4⟩ := h
  exact ⟨hr, hx, hg, h1, h2, by have := h4 (s + 1) (by omega) hs; omega, fun u hu => h4 u (by omega)⟩
