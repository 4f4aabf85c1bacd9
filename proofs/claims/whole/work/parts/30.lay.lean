/-- the state with other ints -/
def hS.wI (S : hS) (I : Nat → Nat → Int32) : hS := (S.nx, S.K, S.n, I, S.J, S.R)
/-- one int told anew -/
def up2 (I : Nat → Nat → Int32) (a k : Nat) (v : Int32) : Nat → Nat → Int32 := va_up I a (va_up (I a) k v)
theorem up2_at (I : Nat → Nat → Int32) (a k : Nat) (v : Int32) (b j : Nat) : up2 I a k v b j = if b = a ∧ j = k then v else I b j := by
  unfold up2 va_up
  by_cases h : b = a
  · subst h; by_cases h2 : j = k <;> simp [h2]
  · simp [h]
theorem up2_s (I : Nat → Nat → Int32) (a k : Nat) (v : Int32) : up2 I a k v a k = v := by rw [up2_at, if_pos ⟨rfl, rfl⟩]
theorem up2_r (I : Nat → Nat → Int32) (a k : Nat) (v : Int32) {b : Nat} (h : b ≠ a) : up2 I a k v b = I b := by funext j; rw [up2_at, if_neg (fun q => h q.1)]
theorem up2_k (I : Nat → Nat → Int32) (a k : Nat) (v : Int32) {j : Nat} (h : j ≠ k) : up2 I a k v a j = I a j := by rw [up2_at, if_neg (fun q => h q.2)]
/-- the rows a .. a + w - 1 are those of V -/
def vS (S : hS) (a w : Nat) (V : Nat → Nat → Int32) : hS := S.wI (fun q => if a ≤ q ∧ q < a + w then V (q - a) else S.I q)
theorem vS_nx (S : hS) (a w : Nat) (V : Nat → Nat → Int32) : (vS S a w V).nx = S.nx := rfl
theorem vS_K (S : hS) (a w : Nat) (V : Nat → Nat → Int32) : (vS S a w V).K = S.K := rfl
theorem vS_n (S : hS) (a w : Nat) (V : Nat → Nat → Int32) : (vS S a w V).n = S.n := rfl
theorem vS_J (S : hS) (a w : Nat) (V : Nat → Nat → Int32) : (vS S a w V).J = S.J := rfl
theorem vS_R (S : hS) (a w : Nat) (V : Nat → Nat → Int32) : (vS S a w V).R = S.R := rfl
theorem vS_I (S : hS) (a w : Nat) (V : Nat → Nat → Int32) {k : Nat} (h : k < w) : (vS S a w V).I (a + k) = V k := by
  show (if a ≤ a + k ∧ a + k < a + w then V (a + k - a) else S.I (a + k)) = V k
  rw [if_pos (by omega), Nat.add_sub_cancel_left]
theorem vS_I0 (S : hS) (a w : Nat) (V : Nat → Nat → Int32) (h : 0 < w) : (vS S a w V).I a = V 0 := vS_I S a w V (k := 0) h
theorem vS_o (S : hS) (a w : Nat) (V : Nat → Nat → Int32) {q : Nat} (h : q < a ∨ a + w ≤ q) : (vS S a w V).I q = S.I q := by
  show (if a ≤ q ∧ q < a + w then V (q - a) else S.I q) = S.I q
  rw [if_neg (by omega)]
theorem vS_set (S : hS) (a w : Nat) (V : Nat → Nat → Int32) {k : Nat} (h : k < w) (i : Nat) (v : Int32) : (vS S a w V).setI (a + k) i v = vS S a w (up2 V k i v) := by
  have e : va_up (vS S a w V).I (a + k) (va_up ((vS S a w V).I (a + k)) i v) = (vS S a w (up2 V k i v)).I := by
    funext q
    by_cases hq : q = a + k
    · subst hq
      rw [vS_I S a w _ h, vS_I S a w _ h]
      simp [va_up, up2]
    · by_cases hr : a ≤ q ∧ q < a + w
      · obtain ⟨j, rfl⟩ : ∃ j, q = a + j := ⟨q - a, by omega⟩
        have hj : j ≠ k := fun z => hq (by rw [z])
        have e1 := vS_I S a w V (k := j) (by omega)
        have e2 := vS_I S a w (up2 V k i v) (k := j) (by omega)
        rw [e2, up2_r _ _ _ _ hj]
        show (if a + j = a + k then _ else (vS S a w V).I (a + j)) = _
        rw [if_neg hq, e1]
      · have e1 := vS_o S a w V (q := q) (by omega)
        have e2 := vS_o S a w (up2 V k i v) (q := q) (by omega)
        rw [e2]
        show (if q = a + k then _ else (vS S a w V).I q) = _
        rw [if_neg hq, e1]
  show (_, _, _, va_up (vS S a w V).I (a + k) (va_up ((vS S a w V).I (a + k)) i v), _, _) = (_, _, _, (vS S a w (up2 V k i v)).I, _, _)
  rw [e]
  rfl
theorem vS_set0 (S : hS) (a w : Nat) (V : Nat → Nat → Int32) (h : 0 < w) (i : Nat) (v : Int32) : (vS S a w V).setI a i v = vS S a w (up2 V 0 i v) := vS_set S a w V (k := 0) h i v
theorem vS_self (S : hS) (a w : Nat) : vS S a w (fun k => S.I (a + k)) = S := by
  have e : (fun q => if a ≤ q ∧ q < a + w then S.I (a + (q - a)) else S.I q) = S.I := by
    funext q
    by_cases h : a ≤ q ∧ q < a + w
    · rw [if_pos h, show a + (q - a) = q by omega]
    · rw [if_neg h]
  show S.wI (fun q => if a ≤ q ∧ q < a + w then S.I (a + (q - a)) else S.I q) = S
  rw [e]; rfl
theorem hbd_some {α β : Type} (v : α) (k : α → Option β) : hbd (some v) k = k v := rfl
theorem hb2_some {α β : Type} (v : α) (S : hS) (k : α → hS → Option β) : hb2 (some (v, S)) k = k v S := rfl
theorem hck_true {β : Type} {c : Prop} [Decidable c] (h : c) (k : Option β) : hck c k = k := if_pos h
theorem hj_b {γ β : Type} (J : γ) (b : γ → Option β) : hj J b = b J := rfl
theorem hnl_0 {β : Type} (a : Option β) (b : Nat → Option β) : hnl none a b = a := rfl
theorem hnl_1 {β : Type} (x : Nat) (a : Option β) (b : Nat → Option β) : hnl (some x) a b = b x := rfl
theorem gI_of {S : hS} {a ci k : Nat} (h : S.K a = ci + 1) : gI S a ci k = some (S.I a k) := if_pos h
theorem gR_of {S : hS} {a ci k v : Nat} (h : S.K a = ci + 1) (hr : S.R a k = some v) : gR S a ci k = some v := by unfold gR; rw [if_pos h, hr]
theorem gA_of {S : hS} {a kd : Nat} {i : Int32} (h : S.K a = kd) (hi : 0 ≤ i) (hn : i.toNatClampNeg < S.n a) : gA S a kd i = some (S.I a i.toNatClampNeg) := if_pos ⟨h, hi, hn⟩
theorem sI_of {S : hS} {a ci k : Nat} {v : Int32} (h : S.K a = ci + 1) : sI S a ci k v = some (S.setI a k v) := if_pos h
theorem sA_of {S : hS} {a : Nat} {i v : Int32} (h : S.K a = 12) (hi : 0 ≤ i) (hn : i.toNatClampNeg < S.n a) : sA S a i v = some (S.setI a i.toNatClampNeg v) := if_pos ⟨h, hi, hn⟩
/-- a step at each number from g on, n of them -/
def itr {α : Type} (f : α → Nat → α) : α → Nat → Nat → α
  | a, _, 0 => a
  | a, g, n + 1 => itr f (f a g) (g + 1) n
/-- a counted loop -/
theorem loopN {σ β : Type} (L : Nat → Nat → σ → β) (f : σ → Nat → σ) (Inv : σ → Prop) (N : Nat) (out : σ → β) (hs : ∀ n g s, g < N → Inv s → L (n + 1) g s = L n (g + 1) (f s g)) (hi : ∀ g s, g < N → Inv s → Inv (f s g)) (he : ∀ n s, Inv s → L (n + 1) N s = out s) : ∀ n g s, g ≤ N → N < g + n → Inv s → L n g s = out (itr f s g (N - g)) := by
  intro n
  induction n with
  | zero => intro g s h1 h2; omega
  | succ n ih =>
    intro g s h1 h2 h3
    by_cases q : g = N
    · subst q
      rw [he n s h3, Nat.sub_self]; rfl
    · rw [hs n g s (by omega) h3, ih (g + 1) (f s g) (by omega) (by omega) (hi g s (by omega) h3), show N - g = (N - (g + 1)) + 1 by omega]
      rfl
theorem itr_inv {α : Type} (f : α → Nat → α) (P : α → Prop) (N : Nat) (h : ∀ a g, g < N → P a → P (f a g)) : ∀ n a g, g + n ≤ N → P a → P (itr f a g n) := by
  intro n
  induction n with
  | zero => intro a g _ ha; exact ha
  | succ n ih => intro a g hg ha; exact ih (f a g) (g + 1) (by omega) (h a g (by omega) ha)
/-- two sides go along with one another -/
theorem itr_rel {α β : Type} (f : α → Nat → α) (f2 : β → Nat → β) (R : α → β → Prop) (N : Nat) (h : ∀ a b g, g < N → R a b → R (f a g) (f2 b g)) : ∀ n a b g, g + n ≤ N → R a b → R (itr f a g n) (itr f2 b g n) := by
  intro n
  induction n with
  | zero => intro a b g _ ha; exact ha
  | succ n ih => intro a b g hg ha; exact ih (f a g) (f2 b g) (g + 1) (by omega) (h a b g (by omega) ha)
theorem nIc {g : Nat} (h : g < 2000000000) : (nI g).toNatClampNeg = g := nI_clamp (by omega)
theorem nIp {g : Nat} (h : g < 2000000000) : (0 : Int32) ≤ nI g := nI_pos' (by omega)
theorem nIn {g : Nat} (h : g < 2000000000) : ¬ nI g < 0 := nI_pos (by omega)
def LayE (S : hS) (e : Nat) : Prop :=
  S.K e = 1 ∧
  S.K (e + 1) = 7 ∧
  S.K (e + 2) = 12 ∧
  S.K (e + 3) = 12 ∧
  S.K (e + 4) = 12 ∧
  S.K (e + 5) = 12 ∧
  S.K (e + 6) = 12 ∧
  S.K (e + 7) = 12 ∧
  S.K (e + 8) = 12 ∧
  S.K (e + 9) = 12 ∧
  S.K (e + 10) = 12 ∧
  S.K (e + 11) = 3 ∧
  S.K (e + 12) = 12 ∧
  S.K (e + 13) = 12 ∧
  S.K (e + 14) = 12 ∧
  S.K (e + 15) = 12 ∧
  S.K (e + 16) = 12 ∧
  S.K (e + 17) = 12 ∧
  S.K (e + 18) = 12 ∧
  S.K (e + 19) = 12 ∧
  S.n (e + 2) = 80 ∧
  S.n (e + 3) = 80 ∧
  S.n (e + 4) = 80 ∧
  S.n (e + 5) = 400 ∧
  S.n (e + 6) = 7 ∧
  S.n (e + 7) = 7 ∧
  S.n (e + 8) = 7 ∧
  S.n (e + 9) = 8 ∧
  S.n (e + 10) = 8 ∧
  S.n (e + 12) = 12 ∧
  S.n (e + 13) = 12 ∧
  S.n (e + 14) = 12 ∧
  S.n (e + 15) = 12 ∧
  S.n (e + 16) = 80 ∧
  S.n (e + 17) = 80 ∧
  S.n (e + 18) = 80 ∧
  S.n (e + 19) = 120 ∧
  S.R e 0 = some (e + 1) ∧
  S.R e 1 = some (e + 11) ∧
  S.R e 2 = some (e + 17) ∧
  S.R e 3 = some (e + 18) ∧
  S.R e 11 = some (e + 19) ∧
  S.R (e + 1) 4 = some (e + 2) ∧
  S.R (e + 1) 5 = some (e + 3) ∧
  S.R (e + 1) 6 = some (e + 4) ∧
  S.R (e + 1) 7 = some (e + 5) ∧
  S.R (e + 1) 9 = some (e + 6) ∧
  S.R (e + 1) 10 = some (e + 7) ∧
  S.R (e + 1) 11 = some (e + 8) ∧
  S.R (e + 1) 13 = some (e + 9) ∧
  S.R (e + 1) 14 = some (e + 10) ∧
  S.R (e + 11) 1 = some (e + 12) ∧
  S.R (e + 11) 2 = some (e + 13) ∧
  S.R (e + 11) 3 = some (e + 14) ∧
  S.R (e + 11) 4 = some (e + 15) ∧
  S.R (e + 11) 5 = some (e + 16)
theorem LayE.K0 {S : hS} {e : Nat} (h : LayE S e) : S.K e = 1 := h.1
theorem LayE.K1 {S : hS} {e : Nat} (h : LayE S e) : S.K (e + 1) = 7 := h.2.1
theorem LayE.K2 {S : hS} {e : Nat} (h : LayE S e) : S.K (e + 2) = 12 := h.2.2.1
theorem LayE.K3 {S : hS} {e : Nat} (h : LayE S e) : S.K (e + 3) = 12 := h.2.2.2.1
theorem LayE.K4 {S : hS} {e : Nat} (h : LayE S e) : S.K (e + 4) = 12 := h.2.2.2.2.1
theorem LayE.K5 {S : hS} {e : Nat} (h : LayE S e) : S.K (e + 5) = 12 := h.2.2.2.2.2.1
theorem LayE.K6 {S : hS} {e : Nat} (h : LayE S e) : S.K (e + 6) = 12 := h.2.2.2.2.2.2.1
theorem LayE.K7 {S : hS} {e : Nat} (h : LayE S e) : S.K (e + 7) = 12 := h.2.2.2.2.2.2.2.1
theorem LayE.K8 {S : hS} {e : Nat} (h : LayE S e) : S.K (e + 8) = 12 := h.2.2.2.2.2.2.2.2.1
theorem LayE.K9 {S : hS} {e : Nat} (h : LayE S e) : S.K (e + 9) = 12 := h.2.2.2.2.2.2.2.2.2.1
theorem LayE.K10 {S : hS} {e : Nat} (h : LayE S e) : S.K (e + 10) = 12 := h.2.2.2.2.2.2.2.2.2.2.1
theorem LayE.K11 {S : hS} {e : Nat} (h : LayE S e) : S.K (e + 11) = 3 := h.2.2.2.2.2.2.2.2.2.2.2.1
theorem LayE.K12 {S : hS} {e : Nat} (h : LayE S e) : S.K (e + 12) = 12 := h.2.2.2.2.2.2.2.2.2.2.2.2.1
theorem LayE.K13 {S : hS} {e : Nat} (h : LayE S e) : S.K (e + 13) = 12 := h.2.2.2.2.2.2.2.2.2.2.2.2.2.1
theorem LayE.K14 {S : hS} {e : Nat} (h : LayE S e) : S.K (e + 14) = 12 := h.2.2.2.2.2.2.2.2.2.2.2.2.2.2.1
theorem LayE.K15 {S : hS} {e : Nat} (h : LayE S e) : S.K (e + 15) = 12 := h.2.2.2.2.2.2.2.2.2.2.2.2.2.2.2.1
theorem LayE.K16 {S : hS} {e : Nat} (h : LayE S e) : S.K (e + 16) = 12 := h.2.2.2.2.2.2.2.2.2.2.2.2.2.2.2.2.1
theorem LayE.K17 {S : hS} {e : Nat} (h : LayE S e) : S.K (e + 17) = 12 := h.2.2.2.2.2.2.2.2.2.2.2.2.2.2.2.2.2.1
theorem LayE.K18 {S : hS} {e : Nat} (h : LayE S e) : S.K (e + 18) = 12 := h.2.2.2.2.2.2.2.2.2.2.2.2.2.2.2.2.2.2.1
theorem LayE.K19 {S : hS} {e : Nat} (h : LayE S e) : S.K (e + 19) = 12 := h.2.2.2.2.2.2.2.2.2.2.2.2.2.2.2.2.2.2.2.1
theorem LayE.n2 {S : hS} {e : Nat} (h : LayE S e) : S.n (e + 2) = 80 := h.2.2.2.2.2.2.2.2.2.2.2.2.2.2.2.2.2.2.2.2.1
theorem LayE.n3 {S : hS} {e : Nat} (h : LayE S e) : S.n (e + 3) = 80 := h.2.2.2.2.2.2.2.2.2.2.2.2.2.2.2.2.2.2.2.2.2.1
theorem LayE.n4 {S : hS} {e : Nat} (h : LayE S e) : S.n (e + 4) = 80 := h.2.2.2.2.2.2.2.2.2.2.2.2.2.2.2.2.2.2.2.2.2.2.1
theorem LayE.n5 {S : hS} {e : Nat} (h : LayE S e) : S.n (e + 5) = 400 := h.2.2.2.2.2.2.2.2.2.2.2.2.2.2.2.2.2.2.2.2.2.2.2.1
theorem LayE.n6 {S : hS} {e : Nat} (h : LayE S e) : S.n (e + 6) = 7 := h.2.2.2.2.2.2.2.2.2.2.2.2.2.2.2.2.2.2.2.2.2.2.2.2.1
theorem LayE.n7 {S : hS} {e : Nat} (h : LayE S e) : S.n (e + 7) = 7 := h.2.2.2.2.2.2.2.2.2.2.2.2.2.2.2.2.2.2.2.2.2.2.2.2.2.1
theorem LayE.n8 {S : hS} {e : Nat} (h : LayE S e) : S.n (e + 8) = 7 := h.2.2.2.2.2.2.2.2.2.2.2.2.2.2.2.2.2.2.2.2.2.2.2.2.2.2.1
theorem LayE.n9 {S : hS} {e : Nat} (h : LayE S e) : S.n (e + 9) = 8 := h.2.2.2.2.2.2.2.2.2.2.2.2.2.2.2.2.2.2.2.2.2.2.2.2.2.2.2.1
theorem LayE.n10 {S : hS} {e : Nat} (h : LayE S e) : S.n (e + 10) = 8 := h.2.2.2.2.2.2.2.2.2.2.2.2.2.2.2.2.2.2.2.2.2.2.2.2.2.2.2.2.1
theorem LayE.n12 {S : hS} {e : Nat} (h : LayE S e) : S.n (e + 12) = 12 := h.2.2.2.2.2.2.2.2.2.2.2.2.2.2.2.2.2.2.2.2.2.2.2.2.2.2.2.2.2.1
theorem LayE.n13 {S : hS} {e : Nat} (h : LayE S e) : S.n (e + 13) = 12 := h.2.2.2.2.2.2.2.2.2.2.2.2.2.2.2.2.2.2.2.2.2.2.2.2.2.2.2.2.2.2.1
theorem LayE.n14 {S : hS} {e : Nat} (h : LayE S e) : S.n (e + 14) = 12 := h.2.2.2.2.2.2.2.2.2.2.2.2.2.2.2.2.2.2.2.2.2.2.2.2.2.2.2.2.2.2.2.1
theorem LayE.n15 {S : hS} {e : Nat} (h : LayE S e) : S.n (e + 15) = 12 := h.2.2.2.2.2.2.2.2.2.2.2.2.2.2.2.2.2.2.2.2.2.2.2.2.2.2.2.2.2.2.2.2.1
theorem LayE.n16 {S : hS} {e : Nat} (h : LayE S e) : S.n (e + 16) = 80 := h.2.2.2.2.2.2.2.2.2.2.2.2.2.2.2.2.2.2.2.2.2.2.2.2.2.2.2.2.2.2.2.2.2.1
theorem LayE.n17 {S : hS} {e : Nat} (h : LayE S e) : S.n (e + 17) = 80 := h.2.2.2.2.2.2.2.2.2.2.2.2.2.2.2.2.2.2.2.2.2.2.2.2.2.2.2.2.2.2.2.2.2.2.1
theorem LayE.n18 {S : hS} {e : Nat} (h : LayE S e) : S.n (e + 18) = 80 := h.2.2.2.2.2.2.2.2.2.2.2.2.2.2.2.2.2.2.2.2.2.2.2.2.2.2.2.2.2.2.2.2.2.2.2.1
theorem LayE.n19 {S : hS} {e : Nat} (h : LayE S e) : S.n (e + 19) = 120 := h.2.2.2.2.2.2.2.2.2.2.2.2.2.2.2.2.2.2.2.2.2.2.2.2.2.2.2.2.2.2.2.2.2.2.2.2.1
theorem LayE.r0_0 {S : hS} {e : Nat} (h : LayE S e) : S.R e 0 = some (e + 1) := h.2.2.2.2.2.2.2.2.2.2.2.2.2.2.2.2.2.2.2.2.2.2.2.2.2.2.2.2.2.2.2.2.2.2.2.2.2.1
theorem LayE.r0_1 {S : hS} {e : Nat} (h : LayE S e) : S.R e 1 = some (e + 11) := h.2.2.2.2.2.2.2.2.2.2.2.2.2.2.2.2.2.2.2.2.2.2.2.2.2.2.2.2.2.2.2.2.2.2.2.2.2.2.1
theorem LayE.r0_2 {S : hS} {e : Nat} (h : LayE S e) : S.R e 2 = some (e + 17) := h.2.2.2.2.2.2.2.2.2.2.2.2.2.2.2.2.2.2.2.2.2.2.2.2.2.2.2.2.2.2.2.2.2.2.2.2.2.2.2.1
theorem LayE.r0_3 {S : hS} {e : Nat} (h : LayE S e) : S.R e 3 = some (e + 18) := h.2.2.2.2.2.2.2.2.2.2.2.2.2.2.2.2.2.2.2.2.2.2.2.2.2.2.2.2.2.2.2.2.2.2.2.2.2.2.2.2.1
theorem LayE.r0_11 {S : hS} {e : Nat} (h : LayE S e) : S.R e 11 = some (e + 19) := h.2.2.2.2.2.2.2.2.2.2.2.2.2.2.2.2.2.2.2.2.2.2.2.2.2.2.2.2.2.2.2.2.2.2.2.2.2.2.2.2.2.1
theorem LayE.r1_4 {S : hS} {e : Nat} (h : LayE S e) : S.R (e + 1) 4 = some (e + 2) := h.2.2.2.2.2.2.2.2.2.2.2.2.2.2.2.2.2.2.2.2.2.2.2.2.2.2.2.2.2.2.2.2.2.2.2.2.2.2.2.2.2.2.1
theorem LayE.r1_5 {S : hS} {e : Nat} (h : LayE S e) : S.R (e + 1) 5 = some (e + 3) := h.2.2.2.2.2.2.2.2.2.2.2.2.2.2.2.2.2.2.2.2.2.2.2.2.2.2.2.2.2.2.2.2.2.2.2.2.2.2.2.2.2.2.2.1
theorem LayE.r1_6 {S : hS} {e : Nat} (h : LayE S e) : S.R (e + 1) 6 = some (e + 4) := h.2.2.2.2.2.2.2.2.2.2.2.2.2.2.2.2.2.2.2.2.2.2.2.2.2.2.2.2.2.2.2.2.2.2.2.2.2.2.2.2.2.2.2.2.1
theorem LayE.r1_7 {S : hS} {e : Nat} (h : LayE S e) : S.R (e + 1) 7 = some (e + 5) := h.2.2.2.2.2.2.2.2.2.2.2.2.2.2.2.2.2.2.2.2.2.2.2.2.2.2.2.2.2.2.2.2.2.2.2.2.2.2.2.2.2.2.2.2.2.1
theorem LayE.r1_9 {S : hS} {e : Nat} (h : LayE S e) : S.R (e + 1) 9 = some (e + 6) := h.2.2.2.2.2.2.2.2.2.2.2.2.2.2.2.2.2.2.2.2.2.2.2.2.2.2.2.2.2.2.2.2.2.2.2.2.2.2.2.2.2.2.2.2.2.2.1
theorem LayE.r1_10 {S : hS} {e : Nat} (h : LayE S e) : S.R (e + 1) 10 = some (e + 7) := h.2.2.2.2.2.2.2.2.2.2.2.2.2.2.2.2.2.2.2.2.2.2.2.2.2.2.2.2.2.2.2.2.2.2.2.2.2.2.2.2.2.2.2.2.2.2.2.1
theorem LayE.r1_11 {S : hS} {e : Nat} (h : LayE S e) : S.R (e + 1) 11 = some (e + 8) := h.2.2.2.2.2.2.2.2.2.2.2.2.2.2.2.2.2.2.2.2.2.2.2.2.2.2.2.2.2.2.2.2.2.2.2.2.2.2.2.2.2.2.2.2.2.2.2.2.1
theorem LayE.r1_13 {S : hS} {e : Nat} (h : LayE S e) : S.R (e + 1) 13 = some (e + 9) := h.2.2.2.2.2.2.2.2.2.2.2.2.2.2.2.2.2.2.2.2.2.2.2.2.2.2.2.2.2.2.2.2.2.2.2.2.2.2.2.2.2.2.2.2.2.2.2.2.2.1
theorem LayE.r1_14 {S : hS} {e : Nat} (h : LayE S e) : S.R (e + 1) 14 = some (e + 10) := h.2.2.2.2.2.2.2.2.2.2.2.2.2.2.2.2.2.2.2.2.2.2.2.2.2.2.2.2.2.2.2.2.2.2.2.2.2.2.2.2.2.2.2.2.2.2.2.2.2.2.1
theorem LayE.r11_1 {S : hS} {e : Nat} (h : LayE S e) : S.R (e + 11) 1 = some (e + 12) := h.2.2.2.2.2.2.2.2.2.2.2.2.2.2.2.2.2.2.2.2.2.2.2.2.2.2.2.2.2.2.2.2.2.2.2.2.2.2.2.2.2.2.2.2.2.2.2.2.2.2.2.1
theorem LayE.r11_2 {S : hS} {e : Nat} (h : LayE S e) : S.R (e + 11) 2 = some (e + 13) := h.2.2.2.2.2.2.2.2.2.2.2.2.2.2.2.2.2.2.2.2.2.2.2.2.2.2.2.2.2.2.2.2.2.2.2.2.2.2.2.2.2.2.2.2.2.2.2.2.2.2.2.2.1
theorem LayE.r11_3 {S : hS} {e : Nat} (h : LayE S e) : S.R (e + 11) 3 = some (e + 14) := h.2.2.2.2.2.2.2.2.2.2.2.2.2.2.2.2.2.2.2.2.2.2.2.2.2.2.2.2.2.2.2.2.2.2.2.2.2.2.2.2.2.2.2.2.2.2.2.2.2.2.2.2.2.1
theorem LayE.r11_4 {S : hS} {e : Nat} (h : LayE S e) : S.R (e + 11) 4 = some (e + 15) := h.2.2.2.2.2.2.2.2.2.2.2.2.2.2.2.2.2.2.2.2.2.2.2.2.2.2.2.2.2.2.2.2.2.2.2.2.2.2.2.2.2.2.2.2.2.2.2.2.2.2.2.2.2.2.1
theorem LayE.r11_5 {S : hS} {e : Nat} (h : LayE S e) : S.R (e + 11) 5 = some (e + 16) := h.2.2.2.2.2.2.2.2.2.2.2.2.2.2.2.2.2.2.2.2.2.2.2.2.2.2.2.2.2.2.2.2.2.2.2.2.2.2.2.2.2.2.2.2.2.2.2.2.2.2.2.2.2.2.2
abbrev eS (S : hS) (e : Nat) (V : Nat → Nat → Int32) : hS := vS S e 20 V
theorem eR0_0 {S : hS} {e : Nat} {V : Nat → Nat → Int32} (h : LayE S e) : gR (eS S e V) e 0 0 = some (e + 1) := gR_of h.K0 h.r0_0
theorem eR0_1 {S : hS} {e : Nat} {V : Nat → Nat → Int32} (h : LayE S e) : gR (eS S e V) e 0 1 = some (e + 11) := gR_of h.K0 h.r0_1
theorem eR0_2 {S : hS} {e : Nat} {V : Nat → Nat → Int32} (h : LayE S e) : gR (eS S e V) e 0 2 = some (e + 17) := gR_of h.K0 h.r0_2
theorem eR0_3 {S : hS} {e : Nat} {V : Nat → Nat → Int32} (h : LayE S e) : gR (eS S e V) e 0 3 = some (e + 18) := gR_of h.K0 h.r0_3
theorem eR0_11 {S : hS} {e : Nat} {V : Nat → Nat → Int32} (h : LayE S e) : gR (eS S e V) e 0 11 = some (e + 19) := gR_of h.K0 h.r0_11
theorem eR1_4 {S : hS} {e : Nat} {V : Nat → Nat → Int32} (h : LayE S e) : gR (eS S e V) (e + 1) 6 4 = some (e + 2) := gR_of h.K1 h.r1_4
theorem eR1_5 {S : hS} {e : Nat} {V : Nat → Nat → Int32} (h : LayE S e) : gR (eS S e V) (e + 1) 6 5 = some (e + 3) := gR_of h.K1 h.r1_5
theorem eR1_6 {S : hS} {e : Nat} {V : Nat → Nat → Int32} (h : LayE S e) : gR (eS S e V) (e + 1) 6 6 = some (e + 4) := gR_of h.K1 h.r1_6
theorem eR1_7 {S : hS} {e : Nat} {V : Nat → Nat → Int32} (h : LayE S e) : gR (eS S e V) (e + 1) 6 7 = some (e + 5) := gR_of h.K1 h.r1_7
theorem eR1_9 {S : hS} {e : Nat} {V : Nat → Nat → Int32} (h : LayE S e) : gR (eS S e V) (e + 1) 6 9 = some (e + 6) := gR_of h.K1 h.r1_9
theorem eR1_10 {S : hS} {e : Nat} {V : Nat → Nat → Int32} (h : LayE S e) : gR (eS S e V) (e + 1) 6 10 = some (e + 7) := gR_of h.K1 h.r1_10
theorem eR1_11 {S : hS} {e : Nat} {V : Nat → Nat → Int32} (h : LayE S e) : gR (eS S e V) (e + 1) 6 11 = some (e + 8) := gR_of h.K1 h.r1_11
theorem eR1_13 {S : hS} {e : Nat} {V : Nat → Nat → Int32} (h : LayE S e) : gR (eS S e V) (e + 1) 6 13 = some (e + 9) := gR_of h.K1 h.r1_13
theorem eR1_14 {S : hS} {e : Nat} {V : Nat → Nat → Int32} (h : LayE S e) : gR (eS S e V) (e + 1) 6 14 = some (e + 10) := gR_of h.K1 h.r1_14
theorem eR11_1 {S : hS} {e : Nat} {V : Nat → Nat → Int32} (h : LayE S e) : gR (eS S e V) (e + 11) 2 1 = some (e + 12) := gR_of h.K11 h.r11_1
theorem eR11_2 {S : hS} {e : Nat} {V : Nat → Nat → Int32} (h : LayE S e) : gR (eS S e V) (e + 11) 2 2 = some (e + 13) := gR_of h.K11 h.r11_2
theorem eR11_3 {S : hS} {e : Nat} {V : Nat → Nat → Int32} (h : LayE S e) : gR (eS S e V) (e + 11) 2 3 = some (e + 14) := gR_of h.K11 h.r11_3
theorem eR11_4 {S : hS} {e : Nat} {V : Nat → Nat → Int32} (h : LayE S e) : gR (eS S e V) (e + 11) 2 4 = some (e + 15) := gR_of h.K11 h.r11_4
theorem eR11_5 {S : hS} {e : Nat} {V : Nat → Nat → Int32} (h : LayE S e) : gR (eS S e V) (e + 11) 2 5 = some (e + 16) := gR_of h.K11 h.r11_5
theorem eI0 {S : hS} {e : Nat} {V : Nat → Nat → Int32} (h : LayE S e) (k : Nat) : gI (eS S e V) e 0 k = some (V 0 k) := by rw [gI_of (S := eS S e V) (ci := 0) h.K0, vS_I0 _ _ _ _ (by decide)]
theorem es0 {S : hS} {e : Nat} {V : Nat → Nat → Int32} (h : LayE S e) (k : Nat) (v : Int32) : sI (eS S e V) e 0 k v = some (eS S e (up2 V 0 k v)) := by rw [sI_of (S := eS S e V) (ci := 0) h.K0, vS_set0 _ _ _ _ (by decide)]
theorem eK0 {S : hS} {e : Nat} {V : Nat → Nat → Int32} {β : Type} (h : LayE S e) (k : Option β) : hck ((eS S e V).K e = 1) k = k := if_pos h.K0
theorem eI1 {S : hS} {e : Nat} {V : Nat → Nat → Int32} (h : LayE S e) (k : Nat) : gI (eS S e V) (e + 1) 6 k = some (V 1 k) := by rw [gI_of (S := eS S e V) (ci := 6) h.K1, vS_I _ _ _ _ (by decide)]
theorem es1 {S : hS} {e : Nat} {V : Nat → Nat → Int32} (h : LayE S e) (k : Nat) (v : Int32) : sI (eS S e V) (e + 1) 6 k v = some (eS S e (up2 V 1 k v)) := by rw [sI_of (S := eS S e V) (ci := 6) h.K1, vS_set _ _ _ _ (by decide)]
theorem eK1 {S : hS} {e : Nat} {V : Nat → Nat → Int32} {β : Type} (h : LayE S e) (k : Option β) : hck ((eS S e V).K (e + 1) = 7) k = k := if_pos h.K1
theorem eA2 {S : hS} {e : Nat} {V : Nat → Nat → Int32} (h : LayE S e) {i : Int32} (hi : 0 ≤ i) (hn : i.toNatClampNeg < 80) : gA (eS S e V) (e + 2) 12 i = some (V 2 i.toNatClampNeg) := by rw [gA_of (S := eS S e V) h.K2 hi (by rw [vS_n, h.n2]; exact hn), vS_I _ _ _ _ (by decide)]
theorem eT2 {S : hS} {e : Nat} {V : Nat → Nat → Int32} (h : LayE S e) {i v : Int32} (hi : 0 ≤ i) (hn : i.toNatClampNeg < 80) : sA (eS S e V) (e + 2) i v = some (eS S e (up2 V 2 i.toNatClampNeg v)) := by rw [sA_of (S := eS S e V) h.K2 hi (by rw [vS_n, h.n2]; exact hn), vS_set _ _ _ _ (by decide)]
theorem eN2 {S : hS} {e : Nat} {V : Nat → Nat → Int32} (h : LayE S e) {g : Nat} (hg : g < 80) : gA (eS S e V) (e + 2) 12 (nI g) = some (V 2 g) := by rw [eA2 h (nIp (by omega)) (by rw [nIc (by omega)]; exact hg), nIc (by omega)]
theorem eM2 {S : hS} {e : Nat} {V : Nat → Nat → Int32} (h : LayE S e) {g : Nat} {v : Int32} (hg : g < 80) : sA (eS S e V) (e + 2) (nI g) v = some (eS S e (up2 V 2 g v)) := by rw [eT2 h (nIp (by omega)) (by rw [nIc (by omega)]; exact hg), nIc (by omega)]
theorem eA3 {S : hS} {e : Nat} {V : Nat → Nat → Int32} (h : LayE S e) {i : Int32} (hi : 0 ≤ i) (hn : i.toNatClampNeg < 80) : gA (eS S e V) (e + 3) 12 i = some (V 3 i.toNatClampNeg) := by rw [gA_of (S := eS S e V) h.K3 hi (by rw [vS_n, h.n3]; exact hn), vS_I _ _ _ _ (by decide)]
theorem eT3 {S : hS} {e : Nat} {V : Nat → Nat → Int32} (h : LayE S e) {i v : Int32} (hi : 0 ≤ i) (hn : i.toNatClampNeg < 80) : sA (eS S e V) (e + 3) i v = some (eS S e (up2 V 3 i.toNatClampNeg v)) := by rw [sA_of (S := eS S e V) h.K3 hi (by rw [vS_n, h.n3]; exact hn), vS_set _ _ _ _ (by decide)]
theorem eN3 {S : hS} {e : Nat} {V : Nat → Nat → Int32} (h : LayE S e) {g : Nat} (hg : g < 80) : gA (eS S e V) (e + 3) 12 (nI g) = some (V 3 g) := by rw [eA3 h (nIp (by omega)) (by rw [nIc (by omega)]; exact hg), nIc (by omega)]
theorem eM3 {S : hS} {e : Nat} {V : Nat → Nat → Int32} (h : LayE S e) {g : Nat} {v : Int32} (hg : g < 80) : sA (eS S e V) (e + 3) (nI g) v = some (eS S e (up2 V 3 g v)) := by rw [eT3 h (nIp (by omega)) (by rw [nIc (by omega)]; exact hg), nIc (by omega)]
theorem eA4 {S : hS} {e : Nat} {V : Nat → Nat → Int32} (h : LayE S e) {i : Int32} (hi : 0 ≤ i) (hn : i.toNatClampNeg < 80) : gA (eS S e V) (e + 4) 12 i = some (V 4 i.toNatClampNeg) := by rw [gA_of (S := eS S e V) h.K4 hi (by rw [vS_n, h.n4]; exact hn), vS_I _ _ _ _ (by decide)]
theorem eT4 {S : hS} {e : Nat} {V : Nat → Nat → Int32} (h : LayE S e) {i v : Int32} (hi : 0 ≤ i) (hn : i.toNatClampNeg < 80) : sA (eS S e V) (e + 4) i v = some (eS S e (up2 V 4 i.toNatClampNeg v)) := by rw [sA_of (S := eS S e V) h.K4 hi (by rw [vS_n, h.n4]; exact hn), vS_set _ _ _ _ (by decide)]
theorem eN4 {S : hS} {e : Nat} {V : Nat → Nat → Int32} (h : LayE S e) {g : Nat} (hg : g < 80) : gA (eS S e V) (e + 4) 12 (nI g) = some (V 4 g) := by rw [eA4 h (nIp (by omega)) (by rw [nIc (by omega)]; exact hg), nIc (by omega)]
theorem eM4 {S : hS} {e : Nat} {V : Nat → Nat → Int32} (h : LayE S e) {g : Nat} {v : Int32} (hg : g < 80) : sA (eS S e V) (e + 4) (nI g) v = some (eS S e (up2 V 4 g v)) := by rw [eT4 h (nIp (by omega)) (by rw [nIc (by omega)]; exact hg), nIc (by omega)]
theorem eA5 {S : hS} {e : Nat} {V : Nat → Nat → Int32} (h : LayE S e) {i : Int32} (hi : 0 ≤ i) (hn : i.toNatClampNeg < 400) : gA (eS S e V) (e + 5) 12 i = some (V 5 i.toNatClampNeg) := by rw [gA_of (S := eS S e V) h.K5 hi (by rw [vS_n, h.n5]; exact hn), vS_I _ _ _ _ (by decide)]
theorem eT5 {S : hS} {e : Nat} {V : Nat → Nat → Int32} (h : LayE S e) {i v : Int32} (hi : 0 ≤ i) (hn : i.toNatClampNeg < 400) : sA (eS S e V) (e + 5) i v = some (eS S e (up2 V 5 i.toNatClampNeg v)) := by rw [sA_of (S := eS S e V) h.K5 hi (by rw [vS_n, h.n5]; exact hn), vS_set _ _ _ _ (by decide)]
theorem eN5 {S : hS} {e : Nat} {V : Nat → Nat → Int32} (h : LayE S e) {g : Nat} (hg : g < 400) : gA (eS S e V) (e + 5) 12 (nI g) = some (V 5 g) := by rw [eA5 h (nIp (by omega)) (by rw [nIc (by omega)]; exact hg), nIc (by omega)]
theorem eM5 {S : hS} {e : Nat} {V : Nat → Nat → Int32} (h : LayE S e) {g : Nat} {v : Int32} (hg : g < 400) : sA (eS S e V) (e + 5) (nI g) v = some (eS S e (up2 V 5 g v)) := by rw [eT5 h (nIp (by omega)) (by rw [nIc (by omega)]; exact hg), nIc (by omega)]
theorem eA6 {S : hS} {e : Nat} {V : Nat → Nat → Int32} (h : LayE S e) {i : Int32} (hi : 0 ≤ i) (hn : i.toNatClampNeg < 7) : gA (eS S e V) (e + 6) 12 i = some (V 6 i.toNatClampNeg) := by rw [gA_of (S := eS S e V) h.K6 hi (by rw [vS_n, h.n6]; exact hn), vS_I _ _ _ _ (by decide)]
theorem eT6 {S : hS} {e : Nat} {V : Nat → Nat → Int32} (h : LayE S e) {i v : Int32} (hi : 0 ≤ i) (hn : i.toNatClampNeg < 7) : sA (eS S e V) (e + 6) i v = some (eS S e (up2 V 6 i.toNatClampNeg v)) := by rw [sA_of (S := eS S e V) h.K6 hi (by rw [vS_n, h.n6]; exact hn), vS_set _ _ _ _ (by decide)]
theorem eN6 {S : hS} {e : Nat} {V : Nat → Nat → Int32} (h : LayE S e) {g : Nat} (hg : g < 7) : gA (eS S e V) (e + 6) 12 (nI g) = some (V 6 g) := by rw [eA6 h (nIp (by omega)) (by rw [nIc (by omega)]; exact hg), nIc (by omega)]
theorem eM6 {S : hS} {e : Nat} {V : Nat → Nat → Int32} (h : LayE S e) {g : Nat} {v : Int32} (hg : g < 7) : sA (eS S e V) (e + 6) (nI g) v = some (eS S e (up2 V 6 g v)) := by rw [eT6 h (nIp (by omega)) (by rw [nIc (by omega)]; exact hg), nIc (by omega)]
theorem eA7 {S : hS} {e : Nat} {V : Nat → Nat → Int32} (h : LayE S e) {i : Int32} (hi : 0 ≤ i) (hn : i.toNatClampNeg < 7) : gA (eS S e V) (e + 7) 12 i = some (V 7 i.toNatClampNeg) := by rw [gA_of (S := eS S e V) h.K7 hi (by rw [vS_n, h.n7]; exact hn), vS_I _ _ _ _ (by decide)]
theorem eT7 {S : hS} {e : Nat} {V : Nat → Nat → Int32} (h : LayE S e) {i v : Int32} (hi : 0 ≤ i) (hn : i.toNatClampNeg < 7) : sA (eS S e V) (e + 7) i v = some (eS S e (up2 V 7 i.toNatClampNeg v)) := by rw [sA_of (S := eS S e V) h.K7 hi (by rw [vS_n, h.n7]; exact hn), vS_set _ _ _ _ (by decide)]
theorem eN7 {S : hS} {e : Nat} {V : Nat → Nat → Int32} (h : LayE S e) {g : Nat} (hg : g < 7) : gA (eS S e V) (e + 7) 12 (nI g) = some (V 7 g) := by rw [eA7 h (nIp (by omega)) (by rw [nIc (by omega)]; exact hg), nIc (by omega)]
theorem eM7 {S : hS} {e : Nat} {V : Nat → Nat → Int32} (h : LayE S e) {g : Nat} {v : Int32} (hg : g < 7) : sA (eS S e V) (e + 7) (nI g) v = some (eS S e (up2 V 7 g v)) := by rw [eT7 h (nIp (by omega)) (by rw [nIc (by omega)]; exact hg), nIc (by omega)]
theorem eA8 {S : hS} {e : Nat} {V : Nat → Nat → Int32} (h : LayE S e) {i : Int32} (hi : 0 ≤ i) (hn : i.toNatClampNeg < 7) : gA (eS S e V) (e + 8) 12 i = some (V 8 i.toNatClampNeg) := by rw [gA_of (S := eS S e V) h.K8 hi (by rw [vS_n, h.n8]; exact hn), vS_I _ _ _ _ (by decide)]
theorem eT8 {S : hS} {e : Nat} {V : Nat → Nat → Int32} (h : LayE S e) {i v : Int32} (hi : 0 ≤ i) (hn : i.toNatClampNeg < 7) : sA (eS S e V) (e + 8) i v = some (eS S e (up2 V 8 i.toNatClampNeg v)) := by rw [sA_of (S := eS S e V) h.K8 hi (by rw [vS_n, h.n8]; exact hn), vS_set _ _ _ _ (by decide)]
theorem eN8 {S : hS} {e : Nat} {V : Nat → Nat → Int32} (h : LayE S e) {g : Nat} (hg : g < 7) : gA (eS S e V) (e + 8) 12 (nI g) = some (V 8 g) := by rw [eA8 h (nIp (by omega)) (by rw [nIc (by omega)]; exact hg), nIc (by omega)]
theorem eM8 {S : hS} {e : Nat} {V : Nat → Nat → Int32} (h : LayE S e) {g : Nat} {v : Int32} (hg : g < 7) : sA (eS S e V) (e + 8) (nI g) v = some (eS S e (up2 V 8 g v)) := by rw [eT8 h (nIp (by omega)) (by rw [nIc (by omega)]; exact hg), nIc (by omega)]
theorem eA9 {S : hS} {e : Nat} {V : Nat → Nat → Int32} (h : LayE S e) {i : Int32} (hi : 0 ≤ i) (hn : i.toNatClampNeg < 8) : gA (eS S e V) (e + 9) 12 i = some (V 9 i.toNatClampNeg) := by rw [gA_of (S := eS S e V) h.K9 hi (by rw [vS_n, h.n9]; exact hn), vS_I _ _ _ _ (by decide)]
theorem eT9 {S : hS} {e : Nat} {V : Nat → Nat → Int32} (h : LayE S e) {i v : Int32} (hi : 0 ≤ i) (hn : i.toNatClampNeg < 8) : sA (eS S e V) (e + 9) i v = some (eS S e (up2 V 9 i.toNatClampNeg v)) := by rw [sA_of (S := eS S e V) h.K9 hi (by rw [vS_n, h.n9]; exact hn), vS_set _ _ _ _ (by decide)]
theorem eN9 {S : hS} {e : Nat} {V : Nat → Nat → Int32} (h : LayE S e) {g : Nat} (hg : g < 8) : gA (eS S e V) (e + 9) 12 (nI g) = some (V 9 g) := by rw [eA9 h (nIp (by omega)) (by rw [nIc (by omega)]; exact hg), nIc (by omega)]
theorem eM9 {S : hS} {e : Nat} {V : Nat → Nat → Int32} (h : LayE S e) {g : Nat} {v : Int32} (hg : g < 8) : sA (eS S e V) (e + 9) (nI g) v = some (eS S e (up2 V 9 g v)) := by rw [eT9 h (nIp (by omega)) (by rw [nIc (by omega)]; exact hg), nIc (by omega)]
theorem eA10 {S : hS} {e : Nat} {V : Nat → Nat → Int32} (h : LayE S e) {i : Int32} (hi : 0 ≤ i) (hn : i.toNatClampNeg < 8) : gA (eS S e V) (e + 10) 12 i = some (V 10 i.toNatClampNeg) := by rw [gA_of (S := eS S e V) h.K10 hi (by rw [vS_n, h.n10]; exact hn), vS_I _ _ _ _ (by decide)]
theorem eT10 {S : hS} {e : Nat} {V : Nat → Nat → Int32} (h : LayE S e) {i v : Int32} (hi : 0 ≤ i) (hn : i.toNatClampNeg < 8) : sA (eS S e V) (e + 10) i v = some (eS S e (up2 V 10 i.toNatClampNeg v)) := by rw [sA_of (S := eS S e V) h.K10 hi (by rw [vS_n, h.n10]; exact hn), vS_set _ _ _ _ (by decide)]
theorem eN10 {S : hS} {e : Nat} {V : Nat → Nat → Int32} (h : LayE S e) {g : Nat} (hg : g < 8) : gA (eS S e V) (e + 10) 12 (nI g) = some (V 10 g) := by rw [eA10 h (nIp (by omega)) (by rw [nIc (by omega)]; exact hg), nIc (by omega)]
theorem eM10 {S : hS} {e : Nat} {V : Nat → Nat → Int32} (h : LayE S e) {g : Nat} {v : Int32} (hg : g < 8) : sA (eS S e V) (e + 10) (nI g) v = some (eS S e (up2 V 10 g v)) := by rw [eT10 h (nIp (by omega)) (by rw [nIc (by omega)]; exact hg), nIc (by omega)]
theorem eI11 {S : hS} {e : Nat} {V : Nat → Nat → Int32} (h : LayE S e) (k : Nat) : gI (eS S e V) (e + 11) 2 k = some (V 11 k) := by rw [gI_of (S := eS S e V) (ci := 2) h.K11, vS_I _ _ _ _ (by decide)]
theorem es11 {S : hS} {e : Nat} {V : Nat → Nat → Int32} (h : LayE S e) (k : Nat) (v : Int32) : sI (eS S e V) (e + 11) 2 k v = some (eS S e (up2 V 11 k v)) := by rw [sI_of (S := eS S e V) (ci := 2) h.K11, vS_set _ _ _ _ (by decide)]
theorem eK11 {S : hS} {e : Nat} {V : Nat → Nat → Int32} {β : Type} (h : LayE S e) (k : Option β) : hck ((eS S e V).K (e + 11) = 3) k = k := if_pos h.K11
theorem eA12 {S : hS} {e : Nat} {V : Nat → Nat → Int32} (h : LayE S e) {i : Int32} (hi : 0 ≤ i) (hn : i.toNatClampNeg < 12) : gA (eS S e V) (e + 12) 12 i = some (V 12 i.toNatClampNeg) := by rw [gA_of (S := eS S e V) h.K12 hi (by rw [vS_n, h.n12]; exact hn), vS_I _ _ _ _ (by decide)]
theorem eT12 {S : hS} {e : Nat} {V : Nat → Nat → Int32} (h : LayE S e) {i v : Int32} (hi : 0 ≤ i) (hn : i.toNatClampNeg < 12) : sA (eS S e V) (e + 12) i v = some (eS S e (up2 V 12 i.toNatClampNeg v)) := by rw [sA_of (S := eS S e V) h.K12 hi (by rw [vS_n, h.n12]; exact hn), vS_set _ _ _ _ (by decide)]
theorem eN12 {S : hS} {e : Nat} {V : Nat → Nat → Int32} (h : LayE S e) {g : Nat} (hg : g < 12) : gA (eS S e V) (e + 12) 12 (nI g) = some (V 12 g) := by rw [eA12 h (nIp (by omega)) (by rw [nIc (by omega)]; exact hg), nIc (by omega)]
theorem eM12 {S : hS} {e : Nat} {V : Nat → Nat → Int32} (h : LayE S e) {g : Nat} {v : Int32} (hg : g < 12) : sA (eS S e V) (e + 12) (nI g) v = some (eS S e (up2 V 12 g v)) := by rw [eT12 h (nIp (by omega)) (by rw [nIc (by omega)]; exact hg), nIc (by omega)]
theorem eA13 {S : hS} {e : Nat} {V : Nat → Nat → Int32} (h : LayE S e) {i : Int32} (hi : 0 ≤ i) (hn : i.toNatClampNeg < 12) : gA (eS S e V) (e + 13) 12 i = some (V 13 i.toNatClampNeg) := by rw [gA_of (S := eS S e V) h.K13 hi (by rw [vS_n, h.n13]; exact hn), vS_I _ _ _ _ (by decide)]
theorem eT13 {S : hS} {e : Nat} {V : Nat → Nat → Int32} (h : LayE S e) {i v : Int32} (hi : 0 ≤ i) (hn : i.toNatClampNeg < 12) : sA (eS S e V) (e + 13) i v = some (eS S e (up2 V 13 i.toNatClampNeg v)) := by rw [sA_of (S := eS S e V) h.K13 hi (by rw [vS_n, h.n13]; exact hn), vS_set _ _ _ _ (by decide)]
theorem eN13 {S : hS} {e : Nat} {V : Nat → Nat → Int32} (h : LayE S e) {g : Nat} (hg : g < 12) : gA (eS S e V) (e + 13) 12 (nI g) = some (V 13 g) := by rw [eA13 h (nIp (by omega)) (by rw [nIc (by omega)]; exact hg), nIc (by omega)]
theorem eM13 {S : hS} {e : Nat} {V : Nat → Nat → Int32} (h : LayE S e) {g : Nat} {v : Int32} (hg : g < 12) : sA (eS S e V) (e + 13) (nI g) v = some (eS S e (up2 V 13 g v)) := by rw [eT13 h (nIp (by omega)) (by rw [nIc (by omega)]; exact hg), nIc (by omega)]
theorem eA14 {S : hS} {e : Nat} {V : Nat → Nat → Int32} (h : LayE S e) {i : Int32} (hi : 0 ≤ i) (hn : i.toNatClampNeg < 12) : gA (eS S e V) (e + 14) 12 i = some (V 14 i.toNatClampNeg) := by rw [gA_of (S := eS S e V) h.K14 hi (by rw [vS_n, h.n14]; exact hn), vS_I _ _ _ _ (by decide)]
theorem eT14 {S : hS} {e : Nat} {V : Nat → Nat → Int32} (h : LayE S e) {i v : Int32} (hi : 0 ≤ i) (hn : i.toNatClampNeg < 12) : sA (eS S e V) (e + 14) i v = some (eS S e (up2 V 14 i.toNatClampNeg v)) := by rw [sA_of (S := eS S e V) h.K14 hi (by rw [vS_n, h.n14]; exact hn), vS_set _ _ _ _ (by decide)]
theorem eN14 {S : hS} {e : Nat} {V : Nat → Nat → Int32} (h : LayE S e) {g : Nat} (hg : g < 12) : gA (eS S e V) (e + 14) 12 (nI g) = some (V 14 g) := by rw [eA14 h (nIp (by omega)) (by rw [nIc (by omega)]; exact hg), nIc (by omega)]
theorem eM14 {S : hS} {e : Nat} {V : Nat → Nat → Int32} (h : LayE S e) {g : Nat} {v : Int32} (hg : g < 12) : sA (eS S e V) (e + 14) (nI g) v = some (eS S e (up2 V 14 g v)) := by rw [eT14 h (nIp (by omega)) (by rw [nIc (by omega)]; exact hg), nIc (by omega)]
theorem eA15 {S : hS} {e : Nat} {V : Nat → Nat → Int32} (h : LayE S e) {i : Int32} (hi : 0 ≤ i) (hn : i.toNatClampNeg < 12) : gA (eS S e V) (e + 15) 12 i = some (V 15 i.toNatClampNeg) := by rw [gA_of (S := eS S e V) h.K15 hi (by rw [vS_n, h.n15]; exact hn), vS_I _ _ _ _ (by decide)]
theorem eT15 {S : hS} {e : Nat} {V : Nat → Nat → Int32} (h : LayE S e) {i v : Int32} (hi : 0 ≤ i) (hn : i.toNatClampNeg < 12) : sA (eS S e V) (e + 15) i v = some (eS S e (up2 V 15 i.toNatClampNeg v)) := by rw [sA_of (S := eS S e V) h.K15 hi (by rw [vS_n, h.n15]; exact hn), vS_set _ _ _ _ (by decide)]
theorem eN15 {S : hS} {e : Nat} {V : Nat → Nat → Int32} (h : LayE S e) {g : Nat} (hg : g < 12) : gA (eS S e V) (e + 15) 12 (nI g) = some (V 15 g) := by rw [eA15 h (nIp (by omega)) (by rw [nIc (by omega)]; exact hg), nIc (by omega)]
theorem eM15 {S : hS} {e : Nat} {V : Nat → Nat → Int32} (h : LayE S e) {g : Nat} {v : Int32} (hg : g < 12) : sA (eS S e V) (e + 15) (nI g) v = some (eS S e (up2 V 15 g v)) := by rw [eT15 h (nIp (by omega)) (by rw [nIc (by omega)]; exact hg), nIc (by omega)]
theorem eA16 {S : hS} {e : Nat} {V : Nat → Nat → Int32} (h : LayE S e) {i : Int32} (hi : 0 ≤ i) (hn : i.toNatClampNeg < 80) : gA (eS S e V) (e + 16) 12 i = some (V 16 i.toNatClampNeg) := by rw [gA_of (S := eS S e V) h.K16 hi (by rw [vS_n, h.n16]; exact hn), vS_I _ _ _ _ (by decide)]
theorem eT16 {S : hS} {e : Nat} {V : Nat → Nat → Int32} (h : LayE S e) {i v : Int32} (hi : 0 ≤ i) (hn : i.toNatClampNeg < 80) : sA (eS S e V) (e + 16) i v = some (eS S e (up2 V 16 i.toNatClampNeg v)) := by rw [sA_of (S := eS S e V) h.K16 hi (by rw [vS_n, h.n16]; exact hn), vS_set _ _ _ _ (by decide)]
theorem eN16 {S : hS} {e : Nat} {V : Nat → Nat → Int32} (h : LayE S e) {g : Nat} (hg : g < 80) : gA (eS S e V) (e + 16) 12 (nI g) = some (V 16 g) := by rw [eA16 h (nIp (by omega)) (by rw [nIc (by omega)]; exact hg), nIc (by omega)]
theorem eM16 {S : hS} {e : Nat} {V : Nat → Nat → Int32} (h : LayE S e) {g : Nat} {v : Int32} (hg : g < 80) : sA (eS S e V) (e + 16) (nI g) v = some (eS S e (up2 V 16 g v)) := by rw [eT16 h (nIp (by omega)) (by rw [nIc (by omega)]; exact hg), nIc (by omega)]
theorem eA17 {S : hS} {e : Nat} {V : Nat → Nat → Int32} (h : LayE S e) {i : Int32} (hi : 0 ≤ i) (hn : i.toNatClampNeg < 80) : gA (eS S e V) (e + 17) 12 i = some (V 17 i.toNatClampNeg) := by rw [gA_of (S := eS S e V) h.K17 hi (by rw [vS_n, h.n17]; exact hn), vS_I _ _ _ _ (by decide)]
theorem eT17 {S : hS} {e : Nat} {V : Nat → Nat → Int32} (h : LayE S e) {i v : Int32} (hi : 0 ≤ i) (hn : i.toNatClampNeg < 80) : sA (eS S e V) (e + 17) i v = some (eS S e (up2 V 17 i.toNatClampNeg v)) := by rw [sA_of (S := eS S e V) h.K17 hi (by rw [vS_n, h.n17]; exact hn), vS_set _ _ _ _ (by decide)]
theorem eN17 {S : hS} {e : Nat} {V : Nat → Nat → Int32} (h : LayE S e) {g : Nat} (hg : g < 80) : gA (eS S e V) (e + 17) 12 (nI g) = some (V 17 g) := by rw [eA17 h (nIp (by omega)) (by rw [nIc (by omega)]; exact hg), nIc (by omega)]
theorem eM17 {S : hS} {e : Nat} {V : Nat → Nat → Int32} (h : LayE S e) {g : Nat} {v : Int32} (hg : g < 80) : sA (eS S e V) (e + 17) (nI g) v = some (eS S e (up2 V 17 g v)) := by rw [eT17 h (nIp (by omega)) (by rw [nIc (by omega)]; exact hg), nIc (by omega)]
theorem eA18 {S : hS} {e : Nat} {V : Nat → Nat → Int32} (h : LayE S e) {i : Int32} (hi : 0 ≤ i) (hn : i.toNatClampNeg < 80) : gA (eS S e V) (e + 18) 12 i = some (V 18 i.toNatClampNeg) := by rw [gA_of (S := eS S e V) h.K18 hi (by rw [vS_n, h.n18]; exact hn), vS_I _ _ _ _ (by decide)]
theorem eT18 {S : hS} {e : Nat} {V : Nat → Nat → Int32} (h : LayE S e) {i v : Int32} (hi : 0 ≤ i) (hn : i.toNatClampNeg < 80) : sA (eS S e V) (e + 18) i v = some (eS S e (up2 V 18 i.toNatClampNeg v)) := by rw [sA_of (S := eS S e V) h.K18 hi (by rw [vS_n, h.n18]; exact hn), vS_set _ _ _ _ (by decide)]
theorem eN18 {S : hS} {e : Nat} {V : Nat → Nat → Int32} (h : LayE S e) {g : Nat} (hg : g < 80) : gA (eS S e V) (e + 18) 12 (nI g) = some (V 18 g) := by rw [eA18 h (nIp (by omega)) (by rw [nIc (by omega)]; exact hg), nIc (by omega)]
theorem eM18 {S : hS} {e : Nat} {V : Nat → Nat → Int32} (h : LayE S e) {g : Nat} {v : Int32} (hg : g < 80) : sA (eS S e V) (e + 18) (nI g) v = some (eS S e (up2 V 18 g v)) := by rw [eT18 h (nIp (by omega)) (by rw [nIc (by omega)]; exact hg), nIc (by omega)]
theorem eA19 {S : hS} {e : Nat} {V : Nat → Nat → Int32} (h : LayE S e) {i : Int32} (hi : 0 ≤ i) (hn : i.toNatClampNeg < 120) : gA (eS S e V) (e + 19) 12 i = some (V 19 i.toNatClampNeg) := by rw [gA_of (S := eS S e V) h.K19 hi (by rw [vS_n, h.n19]; exact hn), vS_I _ _ _ _ (by decide)]
theorem eT19 {S : hS} {e : Nat} {V : Nat → Nat → Int32} (h : LayE S e) {i v : Int32} (hi : 0 ≤ i) (hn : i.toNatClampNeg < 120) : sA (eS S e V) (e + 19) i v = some (eS S e (up2 V 19 i.toNatClampNeg v)) := by rw [sA_of (S := eS S e V) h.K19 hi (by rw [vS_n, h.n19]; exact hn), vS_set _ _ _ _ (by decide)]
theorem eN19 {S : hS} {e : Nat} {V : Nat → Nat → Int32} (h : LayE S e) {g : Nat} (hg : g < 120) : gA (eS S e V) (e + 19) 12 (nI g) = some (V 19 g) := by rw [eA19 h (nIp (by omega)) (by rw [nIc (by omega)]; exact hg), nIc (by omega)]
theorem eM19 {S : hS} {e : Nat} {V : Nat → Nat → Int32} (h : LayE S e) {g : Nat} {v : Int32} (hg : g < 120) : sA (eS S e V) (e + 19) (nI g) v = some (eS S e (up2 V 19 g v)) := by rw [eT19 h (nIp (by omega)) (by rw [nIc (by omega)]; exact hg), nIc (by omega)]
def LayM (S : hS) (y : Nat) : Prop :=
  S.K y = 10 ∧
  S.K (y + 1) = 12 ∧
  S.K (y + 2) = 12 ∧
  S.K (y + 3) = 12 ∧
  S.K (y + 4) = 12 ∧
  S.K (y + 5) = 12 ∧
  S.K (y + 6) = 12 ∧
  S.K (y + 7) = 12 ∧
  S.K (y + 8) = 12 ∧
  S.K (y + 9) = 12 ∧
  S.K (y + 10) = 12 ∧
  S.K (y + 11) = 12 ∧
  S.K (y + 12) = 12 ∧
  S.K (y + 13) = 12 ∧
  S.K (y + 14) = 12 ∧
  S.K (y + 15) = 12 ∧
  S.K (y + 16) = 12 ∧
  S.K (y + 17) = 12 ∧
  S.K (y + 18) = 12 ∧
  S.K (y + 19) = 12 ∧
  S.K (y + 20) = 12 ∧
  S.K (y + 21) = 12 ∧
  S.K (y + 22) = 12 ∧
  S.K (y + 23) = 11 ∧
  S.K (y + 24) = 12 ∧
  S.K (y + 25) = 12 ∧
  S.K (y + 26) = 12 ∧
  S.K (y + 27) = 12 ∧
  S.K (y + 28) = 12 ∧
  S.K (y + 29) = 12 ∧
  S.K (y + 30) = 12 ∧
  S.K (y + 31) = 13 ∧
  S.K (y + 32) = 13 ∧
  S.K (y + 33) = 12 ∧
  S.K (y + 34) = 12 ∧
  S.K (y + 35) = 12 ∧
  S.K (y + 36) = 12 ∧
  S.K (y + 37) = 12 ∧
  S.K (y + 38) = 12 ∧
  S.K (y + 39) = 14 ∧
  S.K (y + 40) = 12 ∧
  S.K (y + 41) = 12 ∧
  S.K (y + 42) = 14 ∧
  S.n (y + 1) = 14 ∧
  S.n (y + 2) = 80 ∧
  S.n (y + 3) = 12 ∧
  S.n (y + 4) = 12 ∧
  S.n (y + 5) = 12 ∧
  S.n (y + 6) = 12 ∧
  S.n (y + 7) = 7 ∧
  S.n (y + 8) = 7 ∧
  S.n (y + 9) = 7 ∧
  S.n (y + 10) = 8 ∧
  S.n (y + 11) = 8 ∧
  S.n (y + 12) = 120 ∧
  S.n (y + 13) = 6 ∧
  S.n (y + 14) = 80 ∧
  S.n (y + 15) = 12 ∧
  S.n (y + 16) = 12 ∧
  S.n (y + 17) = 12 ∧
  S.n (y + 18) = 7 ∧
  S.n (y + 19) = 7 ∧
  S.n (y + 20) = 7 ∧
  S.n (y + 21) = 8 ∧
  S.n (y + 22) = 8 ∧
  S.n (y + 23) = 400 ∧
  S.n (y + 24) = 1800 ∧
  S.n (y + 25) = 1800 ∧
  S.n (y + 26) = 6 ∧
  S.n (y + 27) = 72 ∧
  S.n (y + 28) = 72 ∧
  S.n (y + 29) = 72 ∧
  S.n (y + 30) = 402 ∧
  S.n (y + 31) = 9 ∧
  S.n (y + 32) = 300 ∧
  S.n (y + 33) = 80 ∧
  S.n (y + 34) = 14 ∧
  S.n (y + 35) = 80 ∧
  S.n (y + 36) = 12 ∧
  S.n (y + 37) = 120 ∧
  S.n (y + 38) = 12 ∧
  S.n (y + 39) = 80 ∧
  S.n (y + 40) = 12 ∧
  S.n (y + 41) = 1240 ∧
  S.n (y + 42) = 4 ∧
  S.R y 1 = some (y + 1) ∧
  S.R y 2 = some (y + 2) ∧
  S.R y 3 = some (y + 3) ∧
  S.R y 4 = some (y + 4) ∧
  S.R y 5 = some (y + 5) ∧
  S.R y 6 = some (y + 6) ∧
  S.R y 7 = some (y + 7) ∧
  S.R y 8 = some (y + 8) ∧
  S.R y 9 = some (y + 9) ∧
  S.R y 10 = some (y + 10) ∧
  S.R y 11 = some (y + 11) ∧
  S.R y 12 = some (y + 12) ∧
  S.R y 13 = some (y + 13) ∧
  S.R y 14 = some (y + 14) ∧
  S.R y 15 = some (y + 15) ∧
  S.R y 16 = some (y + 16) ∧
  S.R y 17 = some (y + 17) ∧
  S.R y 18 = some (y + 18) ∧
  S.R y 19 = some (y + 19) ∧
  S.R y 20 = some (y + 20) ∧
  S.R y 21 = some (y + 21) ∧
  S.R y 22 = some (y + 22) ∧
  S.R y 34 = some (y + 23) ∧
  S.R y 35 = some (y + 24) ∧
  S.R y 36 = some (y + 25) ∧
  S.R y 37 = some (y + 26) ∧
  S.R y 38 = some (y + 27) ∧
  S.R y 39 = some (y + 28) ∧
  S.R y 40 = some (y + 29) ∧
  S.R y 41 = some (y + 30) ∧
  S.R y 42 = some (y + 31) ∧
  S.R y 43 = some (y + 32) ∧
  S.R y 44 = some (y + 33) ∧
  S.R y 45 = some (y + 34) ∧
  S.R y 46 = some (y + 35) ∧
  S.R y 47 = some (y + 36) ∧
  S.R y 48 = some (y + 37) ∧
  S.R y 49 = some (y + 38) ∧
  S.R y 55 = some (y + 39) ∧
  S.R y 58 = some (y + 40) ∧
  S.R y 59 = some (y + 41) ∧
  S.R y 60 = some (y + 42)
theorem LayM.K0 {S : hS} {y : Nat} (h : LayM S y) : S.K y = 10 := h.1
theorem LayM.K1 {S : hS} {y : Nat} (h : LayM S y) : S.K (y + 1) = 12 := h.2.1
theorem LayM.K2 {S : hS} {y : Nat} (h : LayM S y) : S.K (y + 2) = 12 := h.2.2.1
theorem LayM.K3 {S : hS} {y : Nat} (h : LayM S y) : S.K (y + 3) = 12 := h.2.2.2.1
theorem LayM.K4 {S : hS} {y : Nat} (h : LayM S y) : S.K (y + 4) = 12 := h.2.2.2.2.1
theorem LayM.K5 {S : hS} {y : Nat} (h : LayM S y) : S.K (y + 5) = 12 := h.2.2.2.2.2.1
theorem LayM.K6 {S : hS} {y : Nat} (h : LayM S y) : S.K (y + 6) = 12 := h.2.2.2.2.2.2.1
theorem LayM.K7 {S : hS} {y : Nat} (h : LayM S y) : S.K (y + 7) = 12 := h.2.2.2.2.2.2.2.1
theorem LayM.K8 {S : hS} {y : Nat} (h : LayM S y) : S.K (y + 8) = 12 := h.2.2.2.2.2.2.2.2.1
theorem LayM.K9 {S : hS} {y : Nat} (h : LayM S y) : S.K (y + 9) = 12 := h.2.2.2.2.2.2.2.2.2.1
theorem LayM.K10 {S : hS} {y : Nat} (h : LayM S y) : S.K (y + 10) = 12 := h.2.2.2.2.2.2.2.2.2.2.1
theorem LayM.K11 {S : hS} {y : Nat} (h : LayM S y) : S.K (y + 11) = 12 := h.2.2.2.2.2.2.2.2.2.2.2.1
theorem LayM.K12 {S : hS} {y : Nat} (h : LayM S y) : S.K (y + 12) = 12 := h.2.2.2.2.2.2.2.2.2.2.2.2.1
theorem LayM.K13 {S : hS} {y : Nat} (h : LayM S y) : S.K (y + 13) = 12 := h.2.2.2.2.2.2.2.2.2.2.2.2.2.1
theorem LayM.K14 {S : hS} {y : Nat} (h : LayM S y) : S.K (y + 14) = 12 := h.2.2.2.2.2.2.2.2.2.2.2.2.2.2.1
theorem LayM.K15 {S : hS} {y : Nat} (h : LayM S y) : S.K (y + 15) = 12 := h.2.2.2.2.2.2.2.2.2.2.2.2.2.2.2.1
theorem LayM.K16 {S : hS} {y : Nat} (h : LayM S y) : S.K (y + 16) = 12 := h.2.2.2.2.2.2.2.2.2.2.2.2.2.2.2.2.1
theorem LayM.K17 {S : hS} {y : Nat} (h : LayM S y) : S.K (y + 17) = 12 := h.2.2.2.2.2.2.2.2.2.2.2.2.2.2.2.2.2.1
theorem LayM.K18 {S : hS} {y : Nat} (h : LayM S y) : S.K (y + 18) = 12 := h.2.2.2.2.2.2.2.2.2.2.2.2.2.2.2.2.2.2.1
theorem LayM.K19 {S : hS} {y : Nat} (h : LayM S y) : S.K (y + 19) = 12 := h.2.2.2.2.2.2.2.2.2.2.2.2.2.2.2.2.2.2.2.1
theorem LayM.K20 {S : hS} {y : Nat} (h : LayM S y) : S.K (y + 20) = 12 := h.2.2.2.2.2.2.2.2.2.2.2.2.2.2.2.2.2.2.2.2.1
theorem LayM.K21 {S : hS} {y : Nat} (h : LayM S y) : S.K (y + 21) = 12 := h.2.2.2.2.2.2.2.2.2.2.2.2.2.2.2.2.2.2.2.2.2.1
theorem LayM.K22 {S : hS} {y : Nat} (h : LayM S y) : S.K (y + 22) = 12 := h.2.2.2.2.2.2.2.2.2.2.2.2.2.2.2.2.2.2.2.2.2.2.1
theorem LayM.K23 {S : hS} {y : Nat} (h : LayM S y) : S.K (y + 23) = 11 := h.2.2.2.2.2.2.2.2.2.2.2.2.2.2.2.2.2.2.2.2.2.2.2.1
theorem LayM.K24 {S : hS} {y : Nat} (h : LayM S y) : S.K (y + 24) = 12 := h.2.2.2.2.2.2.2.2.2.2.2.2.2.2.2.2.2.2.2.2.2.2.2.2.1
theorem LayM.K25 {S : hS} {y : Nat} (h : LayM S y) : S.K (y + 25) = 12 := h.2.2.2.2.2.2.2.2.2.2.2.2.2.2.2.2.2.2.2.2.2.2.2.2.2.1
theorem LayM.K26 {S : hS} {y : Nat} (h : LayM S y) : S.K (y + 26) = 12 := h.2.2.2.2.2.2.2.2.2.2.2.2.2.2.2.2.2.2.2.2.2.2.2.2.2.2.1
theorem LayM.K27 {S : hS} {y : Nat} (h : LayM S y) : S.K (y + 27) = 12 := h.2.2.2.2.2.2.2.2.2.2.2.2.2.2.2.2.2.2.2.2.2.2.2.2.2.2.2.1
theorem LayM.K28 {S : hS} {y : Nat} (h : LayM S y) : S.K (y + 28) = 12 := h.2.2.2.2.2.2.2.2.2.2.2.2.2.2.2.2.2.2.2.2.2.2.2.2.2.2.2.2.1
theorem LayM.K29 {S : hS} {y : Nat} (h : LayM S y) : S.K (y + 29) = 12 := h.2.2.2.2.2.2.2.2.2.2.2.2.2.2.2.2.2.2.2.2.2.2.2.2.2.2.2.2.2.1
theorem LayM.K30 {S : hS} {y : Nat} (h : LayM S y) : S.K (y + 30) = 12 := h.2.2.2.2.2.2.2.2.2.2.2.2.2.2.2.2.2.2.2.2.2.2.2.2.2.2.2.2.2.2.1
theorem LayM.K31 {S : hS} {y : Nat} (h : LayM S y) : S.K (y + 31) = 13 := h.2.2.2.2.2.2.2.2.2.2.2.2.2.2.2.2.2.2.2.2.2.2.2.2.2.2.2.2.2.2.2.1
theorem LayM.K32 {S : hS} {y : Nat} (h : LayM S y) : S.K (y + 32) = 13 := h.2.2.2.2.2.2.2.2.2.2.2.2.2.2.2.2.2.2.2.2.2.2.2.2.2.2.2.2.2.2.2.2.1
theorem LayM.K33 {S : hS} {y : Nat} (h : LayM S y) : S.K (y + 33) = 12 := h.2.2.2.2.2.2.2.2.2.2.2.2.2.2.2.2.2.2.2.2.2.2.2.2.2.2.2.2.2.2.2.2.2.1
theorem LayM.K34 {S : hS} {y : Nat} (h : LayM S y) : S.K (y + 34) = 12 := h.2.2.2.2.2.2.2.2.2.2.2.2.2.2.2.2.2.2.2.2.2.2.2.2.2.2.2.2.2.2.2.2.2.2.1
theorem LayM.K35 {S : hS} {y : Nat} (h : LayM S y) : S.K (y + 35) = 12 := h.2.2.2.2.2.2.2.2.2.2.2.2.2.2.2.2.2.2.2.2.2.2.2.2.2.2.2.2.2.2.2.2.2.2.2.1
theorem LayM.K36 {S : hS} {y : Nat} (h : LayM S y) : S.K (y + 36) = 12 := h.2.2.2.2.2.2.2.2.2.2.2.2.2.2.2.2.2.2.2.2.2.2.2.2.2.2.2.2.2.2.2.2.2.2.2.2.1
theorem LayM.K37 {S : hS} {y : Nat} (h : LayM S y) : S.K (y + 37) = 12 := h.2.2.2.2.2.2.2.2.2.2.2.2.2.2.2.2.2.2.2.2.2.2.2.2.2.2.2.2.2.2.2.2.2.2.2.2.2.1
theorem LayM.K38 {S : hS} {y : Nat} (h : LayM S y) : S.K (y + 38) = 12 := h.2.2.2.2.2.2.2.2.2.2.2.2.2.2.2.2.2.2.2.2.2.2.2.2.2.2.2.2.2.2.2.2.2.2.2.2.2.2.1
theorem LayM.K39 {S : hS} {y : Nat} (h : LayM S y) : S.K (y + 39) = 14 := h.2.2.2.2.2.2.2.2.2.2.2.2.2.2.2.2.2.2.2.2.2.2.2.2.2.2.2.2.2.2.2.2.2.2.2.2.2.2.2.1
theorem LayM.K40 {S : hS} {y : Nat} (h : LayM S y) : S.K (y + 40) = 12 := h.2.2.2.2.2.2.2.2.2.2.2.2.2.2.2.2.2.2.2.2.2.2.2.2.2.2.2.2.2.2.2.2.2.2.2.2.2.2.2.2.1
theorem LayM.K41 {S : hS} {y : Nat} (h : LayM S y) : S.K (y + 41) = 12 := h.2.2.2.2.2.2.2.2.2.2.2.2.2.2.2.2.2.2.2.2.2.2.2.2.2.2.2.2.2.2.2.2.2.2.2.2.2.2.2.2.2.1
theorem LayM.K42 {S : hS} {y : Nat} (h : LayM S y) : S.K (y + 42) = 14 := h.2.2.2.2.2.2.2.2.2.2.2.2.2.2.2.2.2.2.2.2.2.2.2.2.2.2.2.2.2.2.2.2.2.2.2.2.2.2.2.2.2.2.1
theorem LayM.n1 {S : hS} {y : Nat} (h : LayM S y) : S.n (y + 1) = 14 := h.2.2.2.2.2.2.2.2.2.2.2.2.2.2.2.2.2.2.2.2.2.2.2.2.2.2.2.2.2.2.2.2.2.2.2.2.2.2.2.2.2.2.2.1
theorem LayM.n2 {S : hS} {y : Nat} (h : LayM S y) : S.n (y + 2) = 80 := h.2.2.2.2.2.2.2.2.2.2.2.2.2.2.2.2.2.2.2.2.2.2.2.2.2.2.2.2.2.2.2.2.2.2.2.2.2.2.2.2.2.2.2.2.1
theorem LayM.n3 {S : hS} {y : Nat} (h : LayM S y) : S.n (y + 3) = 12 := h.2.2.2.2.2.2.2.2.2.2.2.2.2.2.2.2.2.2.2.2.2.2.2.2.2.2.2.2.2.2.2.2.2.2.2.2.2.2.2.2.2.2.2.2.2.1
theorem LayM.n4 {S : hS} {y : Nat} (h : LayM S y) : S.n (y + 4) = 12 := h.2.2.2.2.2.2.2.2.2.2.2.2.2.2.2.2.2.2.2.2.2.2.2.2.2.2.2.2.2.2.2.2.2.2.2.2.2.2.2.2.2.2.2.2.2.2.1
theorem LayM.n5 {S : hS} {y : Nat} (h : LayM S y) : S.n (y + 5) = 12 := h.2.2.2.2.2.2.2.2.2.2.2.2.2.2.2.2.2.2.2.2.2.2.2.2.2.2.2.2.2.2.2.2.2.2.2.2.2.2.2.2.2.2.2.2.2.2.2.1
theorem LayM.n6 {S : hS} {y : Nat} (h : LayM S y) : S.n (y + 6) = 12 := h.2.2.2.2.2.2.2.2.2.2.2.2.2.2.2.2.2.2.2.2.2.2.2.2.2.2.2.2.2.2.2.2.2.2.2.2.2.2.2.2.2.2.2.2.2.2.2.2.1
theorem LayM.n7 {S : hS} {y : Nat} (h : LayM S y) : S.n (y + 7) = 7 := h.2.2.2.2.2.2.2.2.2.2.2.2.2.2.2.2.2.2.2.2.2.2.2.2.2.2.2.2.2.2.2.2.2.2.2.2.2.2.2.2.2.2.2.2.2.2.2.2.2.1
theorem LayM.n8 {S : hS} {y : Nat} (h : LayM S y) : S.n (y + 8) = 7 := h.2.2.2.2.2.2.2.2.2.2.2.2.2.2.2.2.2.2.2.2.2.2.2.2.2.2.2.2.2.2.2.2.2.2.2.2.2.2.2.2.2.2.2.2.2.2.2.2.2.2.1
theorem LayM.n9 {S : hS} {y : Nat} (h : LayM S y) : S.n (y + 9) = 7 := h.2.2.2.2.2.2.2.2.2.2.2.2.2.2.2.2.2.2.2.2.2.2.2.2.2.2.2.2.2.2.2.2.2.2.2.2.2.2.2.2.2.2.2.2.2.2.2.2.2.2.2.1
theorem LayM.n10 {S : hS} {y : Nat} (h : LayM S y) : S.n (y + 10) = 8 := h.2.2.2.2.2.2.2.2.2.2.2.2.2.2.2.2.2.2.2.2.2.2.2.2.2.2.2.2.2.2.2.2.2.2.2.2.2.2.2.2.2.2.2.2.2.2.2.2.2.2.2.2.1
theorem LayM.n11 {S : hS} {y : Nat} (h : LayM S y) : S.n (y + 11) = 8 := h.2.2.2.2.2.2.2.2.2.2.2.2.2.2.2.2.2.2.2.2.2.2.2.2.2.2.2.2.2.2.2.2.2.2.2.2.2.2.2.2.2.2.2.2.2.2.2.2.2.2.2.2.2.1
theorem LayM.n12 {S : hS} {y : Nat} (h : LayM S y) : S.n (y + 12) = 120 := h.2.2.2.2.2.2.2.2.2.2.2.2.2.2.2.2.2.2.2.2.2.2.2.2.2.2.2.2.2.2.2.2.2.2.2.2.2.2.2.2.2.2.2.2.2.2.2.2.2.2.2.2.2.2.1
theorem LayM.n13 {S : hS} {y : Nat} (h : LayM S y) : S.n (y + 13) = 6 := h.2.2.2.2.2.2.2.2.2.2.2.2.2.2.2.2.2.2.2.2.2.2.2.2.2.2.2.2.2.2.2.2.2.2.2.2.2.2.2.2.2.2.2.2.2.2.2.2.2.2.2.2.2.2.2.1
theorem LayM.n14 {S : hS} {y : Nat} (h : LayM S y) : S.n (y + 14) = 80 := h.2.2.2.2.2.2.2.2.2.2.2.2.2.2.2.2.2.2.2.2.2.2.2.2.2.2.2.2.2.2.2.2.2.2.2.2.2.2.2.2.2.2.2.2.2.2.2.2.2.2.2.2.2.2.2.2.1
theorem LayM.n15 {S : hS} {y : Nat} (h : LayM S y) : S.n (y + 15) = 12 := h.2.2.2.2.2.2.2.2.2.2.2.2.2.2.2.2.2.2.2.2.2.2.2.2.2.2.2.2.2.2.2.2.2.2.2.2.2.2.2.2.2.2.2.2.2.2.2.2.2.2.2.2.2.2.2.2.2.1
theorem LayM.n16 {S : hS} {y : Nat} (h : LayM S y) : S.n (y + 16) = 12 := h.2.2.2.2.2.2.2.2.2.2.2.2.2.2.2.2.2.2.2.2.2.2.2.2.2.2.2.2.2.2.2.2.2.2.2.2.2.2.2.2.2.2.2.2.2.2.2.2.2.2.2.2.2.2.2.2.2.2.1
theorem LayM.n17 {S : hS} {y : Nat} (h : LayM S y) : S.n (y + 17) = 12 := h.2.2.2.2.2.2.2.2.2.2.2.2.2.2.2.2.2.2.2.2.2.2.2.2.2.2.2.2.2.2.2.2.2.2.2.2.2.2.2.2.2.2.2.2.2.2.2.2.2.2.2.2.2.2.2.2.2.2.2.1
theorem LayM.n18 {S : hS} {y : Nat} (h : LayM S y) : S.n (y + 18) = 7 := h.2.2.2.2.2.2.2.2.2.2.2.2.2.2.2.2.2.2.2.2.2.2.2.2.2.2.2.2.2.2.2.2.2.2.2.2.2.2.2.2.2.2.2.2.2.2.2.2.2.2.2.2.2.2.2.2.2.2.2.2.1
theorem LayM.n19 {S : hS} {y : Nat} (h : LayM S y) : S.n (y + 19) = 7 := h.2.2.2.2.2.2.2.2.2.2.2.2.2.2.2.2.2.2.2.2.2.2.2.2.2.2.2.2.2.2.2.2.2.2.2.2.2.2.2.2.2.2.2.2.2.2.2.2.2.2.2.2.2.2.2.2.2.2.2.2.2.1
theorem LayM.n20 {S : hS} {y : Nat} (h : LayM S y) : S.n (y + 20) = 7 := h.2.2.2.2.2.2.2.2.2.2.2.2.2.2.2.2.2.2.2.2.2.2.2.2.2.2.2.2.2.2.2.2.2.2.2.2.2.2.2.2.2.2.2.2.2.2.2.2.2.2.2.2.2.2.2.2.2.2.2.2.2.2.1
theorem LayM.n21 {S : hS} {y : Nat} (h : LayM S y) : S.n (y + 21) = 8 := h.2.2.2.2.2.2.2.2.2.2.2.2.2.2.2.2.2.2.2.2.2.2.2.2.2.2.2.2.2.2.2.2.2.2.2.2.2.2.2.2.2.2.2.2.2.2.2.2.2.2.2.2.2.2.2.2.2.2.2.2.2.2.2.1
theorem LayM.n22 {S : hS} {y : Nat} (h : LayM S y) : S.n (y + 22) = 8 := h.2.2.2.2.2.2.2.2.2.2.2.2.2.2.2.2.2.2.2.2.2.2.2.2.2.2.2.2.2.2.2.2.2.2.2.2.2.2.2.2.2.2.2.2.2.2.2.2.2.2.2.2.2.2.2.2.2.2.2.2.2.2.2.2.1
theorem LayM.n23 {S : hS} {y : Nat} (h : LayM S y) : S.n (y + 23) = 400 := h.2.2.2.2.2.2.2.2.2.2.2.2.2.2.2.2.2.2.2.2.2.2.2.2.2.2.2.2.2.2.2.2.2.2.2.2.2.2.2.2.2.2.2.2.2.2.2.2.2.2.2.2.2.2.2.2.2.2.2.2.2.2.2.2.2.1
theorem LayM.n24 {S : hS} {y : Nat} (h : LayM S y) : S.n (y + 24) = 1800 := h.2.2.2.2.2.2.2.2.2.2.2.2.2.2.2.2.2.2.2.2.2.2.2.2.2.2.2.2.2.2.2.2.2.2.2.2.2.2.2.2.2.2.2.2.2.2.2.2.2.2.2.2.2.2.2.2.2.2.2.2.2.2.2.2.2.2.1
theorem LayM.n25 {S : hS} {y : Nat} (h : LayM S y) : S.n (y + 25) = 1800 := h.2.2.2.2.2.2.2.2.2.2.2.2.2.2.2.2.2.2.2.2.2.2.2.2.2.2.2.2.2.2.2.2.2.2.2.2.2.2.2.2.2.2.2.2.2.2.2.2.2.2.2.2.2.2.2.2.2.2.2.2.2.2.2.2.2.2.2.1
theorem LayM.n26 {S : hS} {y : Nat} (h : LayM S y) : S.n (y + 26) = 6 := h.2.2.2.2.2.2.2.2.2.2.2.2.2.2.2.2.2.2.2.2.2.2.2.2.2.2.2.2.2.2.2.2.2.2.2.2.2.2.2.2.2.2.2.2.2.2.2.2.2.2.2.2.2.2.2.2.2.2.2.2.2.2.2.2.2.2.2.2.1
theorem LayM.n27 {S : hS} {y : Nat} (h : LayM S y) : S.n (y + 27) = 72 := h.2.2.2.2.2.2.2.2.2.2.2.2.2.2.2.2.2.2.2.2.2.2.2.2.2.2.2.2.2.2.2.2.2.2.2.2.2.2.2.2.2.2.2.2.2.2.2.2.2.2.2.2.2.2.2.2.2.2.2.2.2.2.2.2.2.2.2.2.2.1
theorem LayM.n28 {S : hS} {y : Nat} (h : LayM S y) : S.n (y + 28) = 72 := h.2.2.2.2.2.2.2.2.2.2.2.2.2.2.2.2.2.2.2.2.2.2.2.2.2.2.2.2.2.2.2.2.2.2.2.2.2.2.2.2.2.2.2.2.2.2.2.2.2.2.2.2.2.2.2.2.2.2.2.2.2.2.2.2.2.2.2.2.2.2.1
theorem LayM.n29 {S : hS} {y : Nat} (h : LayM S y) : S.n (y + 29) = 72 := h.2.2.2.2.2.2.2.2.2.2.2.2.2.2.2.2.2.2.2.2.2.2.2.2.2.2.2.2.2.2.2.2.2.2.2.2.2.2.2.2.2.2.2.2.2.2.2.2.2.2.2.2.2.2.2.2.2.2.2.2.2.2.2.2.2.2.2.2.2.2.2.1
theorem LayM.n30 {S : hS} {y : Nat} (h : LayM S y) : S.n (y + 30) = 402 := h.2.2.2.2.2.2.2.2.2.2.2.2.2.2.2.2.2.2.2.2.2.2.2.2.2.2.2.2.2.2.2.2.2.2.2.2.2.2.2.2.2.2.2.2.2.2.2.2.2.2.2.2.2.2.2.2.2.2.2.2.2.2.2.2.2.2.2.2.2.2.2.2.1
theorem LayM.n31 {S : hS} {y : Nat} (h : LayM S y) : S.n (y + 31) = 9 := h.2.2.2.2.2.2.2.2.2.2.2.2.2.2.2.2.2.2.2.2.2.2.2.2.2.2.2.2.2.2.2.2.2.2.2.2.2.2.2.2.2.2.2.2.2.2.2.2.2.2.2.2.2.2.2.2.2.2.2.2.2.2.2.2.2.2.2.2.2.2.2.2.2.1
theorem LayM.n32 {S : hS} {y : Nat} (h : LayM S y) : S.n (y + 32) = 300 := h.2.2.2.2.2.2.2.2.2.2.2.2.2.2.2.2.2.2.2.2.2.2.2.2.2.2.2.2.2.2.2.2.2.2.2.2.2.2.2.2.2.2.2.2.2.2.2.2.2.2.2.2.2.2.2.2.2.2.2.2.2.2.2.2.2.2.2.2.2.2.2.2.2.2.1
theorem LayM.n33 {S : hS} {y : Nat} (h : LayM S y) : S.n (y + 33) = 80 := h.2.2.2.2.2.2.2.2.2.2.2.2.2.2.2.2.2.2.2.2.2.2.2.2.2.2.2.2.2.2.2.2.2.2.2.2.2.2.2.2.2.2.2.2.2.2.2.2.2.2.2.2.2.2.2.2.2.2.2.2.2.2.2.2.2.2.2.2.2.2.2.2.2.2.2.1
theorem LayM.n34 {S : hS} {y : Nat} (h : LayM S y) : S.n (y + 34) = 14 := h.2.2.2.2.2.2.2.2.2.2.2.2.2.2.2.2.2.2.2.2.2.2.2.2.2.2.2.2.2.2.2.2.2.2.2.2.2.2.2.2.2.2.2.2.2.2.2.2.2.2.2.2.2.2.2.2.2.2.2.2.2.2.2.2.2.2.2.2.2.2.2.2.2.2.2.2.1
theorem LayM.n35 {S : hS} {y : Nat} (h : LayM S y) : S.n (y + 35) = 80 := h.2.2.2.2.2.2.2.2.2.2.2.2.2.2.2.2.2.2.2.2.2.2.2.2.2.2.2.2.2.2.2.2.2.2.2.2.2.2.2.2.2.2.2.2.2.2.2.2.2.2.2.2.2.2.2.2.2.2.2.2.2.2.2.2.2.2.2.2.2.2.2.2.2.2.2.2.2.1
theorem LayM.n36 {S : hS} {y : Nat} (h : LayM S y) : S.n (y + 36) = 12 := h.2.2.2.2.2.2.2.2.2.2.2.2.2.2.2.2.2.2.2.2.2.2.2.2.2.2.2.2.2.2.2.2.2.2.2.2.2.2.2.2.2.2.2.2.2.2.2.2.2.2.2.2.2.2.2.2.2.2.2.2.2.2.2.2.2.2.2.2.2.2.2.2.2.2.2.2.2.2.1
theorem LayM.n37 {S : hS} {y : Nat} (h : LayM S y) : S.n (y + 37) = 120 := h.2.2.2.2.2.2.2.2.2.2.2.2.2.2.2.2.2.2.2.2.2.2.2.2.2.2.2.2.2.2.2.2.2.2.2.2.2.2.2.2.2.2.2.2.2.2.2.2.2.2.2.2.2.2.2.2.2.2.2.2.2.2.2.2.2.2.2.2.2.2.2.2.2.2.2.2.2.2.2.1
theorem LayM.n38 {S : hS} {y : Nat} (h : LayM S y) : S.n (y + 38) = 12 := h.2.2.2.2.2.2.2.2.2.2.2.2.2.2.2.2.2.2.2.2.2.2.2.2.2.2.2.2.2.2.2.2.2.2.2.2.2.2.2.2.2.2.2.2.2.2.2.2.2.2.2.2.2.2.2.2.2.2.2.2.2.2.2.2.2.2.2.2.2.2.2.2.2.2.2.2.2.2.2.2.1
theorem LayM.n39 {S : hS} {y : Nat} (h : LayM S y) : S.n (y + 39) = 80 := h.2.2.2.2.2.2.2.2.2.2.2.2.2.2.2.2.2.2.2.2.2.2.2.2.2.2.2.2.2.2.2.2.2.2.2.2.2.2.2.2.2.2.2.2.2.2.2.2.2.2.2.2.2.2.2.2.2.2.2.2.2.2.2.2.2.2.2.2.2.2.2.2.2.2.2.2.2.2.2.2.2.1
theorem LayM.n40 {S : hS} {y : Nat} (h : LayM S y) : S.n (y + 40) = 12 := h.2.2.2.2.2.2.2.2.2.2.2.2.2.2.2.2.2.2.2.2.2.2.2.2.2.2.2.2.2.2.2.2.2.2.2.2.2.2.2.2.2.2.2.2.2.2.2.2.2.2.2.2.2.2.2.2.2.2.2.2.2.2.2.2.2.2.2.2.2.2.2.2.2.2.2.2.2.2.2.2.2.2.1
theorem LayM.n41 {S : hS} {y : Nat} (h : LayM S y) : S.n (y + 41) = 1240 := h.2.2.2.2.2.2.2.2.2.2.2.2.2.2.2.2.2.2.2.2.2.2.2.2.2.2.2.2.2.2.2.2.2.2.2.2.2.2.2.2.2.2.2.2.2.2.2.2.2.2.2.2.2.2.2.2.2.2.2.2.2.2.2.2.2.2.2.2.2.2.2.2.2.2.2.2.2.2.2.2.2.2.2.1
theorem LayM.n42 {S : hS} {y : Nat} (h : LayM S y) : S.n (y + 42) = 4 := h.2.2.2.2.2.2.2.2.2.2.2.2.2.2.2.2.2.2.2.2.2.2.2.2.2.2.2.2.2.2.2.2.2.2.2.2.2.2.2.2.2.2.2.2.2.2.2.2.2.2.2.2.2.2.2.2.2.2.2.2.2.2.2.2.2.2.2.2.2.2.2.2.2.2.2.2.2.2.2.2.2.2.2.2.1
theorem LayM.r0_1 {S : hS} {y : Nat} (h : LayM S y) : S.R y 1 = some (y + 1) := h.2.2.2.2.2.2.2.2.2.2.2.2.2.2.2.2.2.2.2.2.2.2.2.2.2.2.2.2.2.2.2.2.2.2.2.2.2.2.2.2.2.2.2.2.2.2.2.2.2.2.2.2.2.2.2.2.2.2.2.2.2.2.2.2.2.2.2.2.2.2.2.2.2.2.2.2.2.2.2.2.2.2.2.2.2.1
theorem LayM.r0_2 {S : hS} {y : Nat} (h : LayM S y) : S.R y 2 = some (y + 2) := h.2.2.2.2.2.2.2.2.2.2.2.2.2.2.2.2.2.2.2.2.2.2.2.2.2.2.2.2.2.2.2.2.2.2.2.2.2.2.2.2.2.2.2.2.2.2.2.2.2.2.2.2.2.2.2.2.2.2.2.2.2.2.2.2.2.2.2.2.2.2.2.2.2.2.2.2.2.2.2.2.2.2.2.2.2.2.1
theorem LayM.r0_3 {S : hS} {y : Nat} (h : LayM S y) : S.R y 3 = some (y + 3) := h.2.2.2.2.2.2.2.2.2.2.2.2.2.2.2.2.2.2.2.2.2.2.2.2.2.2.2.2.2.2.2.2.2.2.2.2.2.2.2.2.2.2.2.2.2.2.2.2.2.2.2.2.2.2.2.2.2.2.2.2.2.2.2.2.2.2.2.2.2.2.2.2.2.2.2.2.2.2.2.2.2.2.2.2.2.2.2.1
theorem LayM.r0_4 {S : hS} {y : Nat} (h : LayM S y) : S.R y 4 = some (y + 4) := h.2.2.2.2.2.2.2.2.2.2.2.2.2.2.2.2.2.2.2.2.2.2.2.2.2.2.2.2.2.2.2.2.2.2.2.2.2.2.2.2.2.2.2.2.2.2.2.2.2.2.2.2.2.2.2.2.2.2.2.2.2.2.2.2.2.2.2.2.2.2.2.2.2.2.2.2.2.2.2.2.2.2.2.2.2.2.2.2.1
theorem LayM.r0_5 {S : hS} {y : Nat} (h : LayM S y) : S.R y 5 = some (y + 5) := h.2.2.2.2.2.2.2.2.2.2.2.2.2.2.2.2.2.2.2.2.2.2.2.2.2.2.2.2.2.2.2.2.2.2.2.2.2.2.2.2.2.2.2.2.2.2.2.2.2.2.2.2.2.2.2.2.2.2.2.2.2.2.2.2.2.2.2.2.2.2.2.2.2.2.2.2.2.2.2.2.2.2.2.2.2.2.2.2.2.1
theorem LayM.r0_6 {S : hS} {y : Nat} (h : LayM S y) : S.R y 6 = some (y + 6) := h.2.2.2.2.2.2.2.2.2.2.2.2.2.2.2.2.2.2.2.2.2.2.2.2.2.2.2.2.2.2.2.2.2.2.2.2.2.2.2.2.2.2.2.2.2.2.2.2.2.2.2.2.2.2.2.2.2.2.2.2.2.2.2.2.2.2.2.2.2.2.2.2.2.2.2.2.2.2.2.2.2.2.2.2.2.2.2.2.2.2.1
theorem LayM.r0_7 {S : hS} {y : Nat} (h : LayM S y) : S.R y 7 = some (y + 7) := h.2.2.2.2.2.2.2.2.2.2.2.2.2.2.2.2.2.2.2.2.2.2.2.2.2.2.2.2.2.2.2.2.2.2.2.2.2.2.2.2.2.2.2.2.2.2.2.2.2.2.2.2.2.2.2.2.2.2.2.2.2.2.2.2.2.2.2.2.2.2.2.2.2.2.2.2.2.2.2.2.2.2.2.2.2.2.2.2.2.2.2.1
theorem LayM.r0_8 {S : hS} {y : Nat} (h : LayM S y) : S.R y 8 = some (y + 8) := h.2.2.2.2.2.2.2.2.2.2.2.2.2.2.2.2.2.2.2.2.2.2.2.2.2.2.2.2.2.2.2.2.2.2.2.2.2.2.2.2.2.2.2.2.2.2.2.2.2.2.2.2.2.2.2.2.2.2.2.2.2.2.2.2.2.2.2.2.2.2.2.2.2.2.2.2.2.2.2.2.2.2.2.2.2.2.2.2.2.2.2.2.1
theorem LayM.r0_9 {S : hS} {y : Nat} (h : LayM S y) : S.R y 9 = some (y + 9) := h.2.2.2.2.2.2.2.2.2.2.2.2.2.2.2.2.2.2.2.2.2.2.2.2.2.2.2.2.2.2.2.2.2.2.2.2.2.2.2.2.2.2.2.2.2.2.2.2.2.2.2.2.2.2.2.2.2.2.2.2.2.2.2.2.2.2.2.2.2.2.2.2.2.2.2.2.2.2.2.2.2.2.2.2.2.2.2.2.2.2.2.2.2.1
theorem LayM.r0_10 {S : hS} {y : Nat} (h : LayM S y) : S.R y 10 = some (y + 10) := h.2.2.2.2.2.2.2.2.2.2.2.2.2.2.2.2.2.2.2.2.2.2.2.2.2.2.2.2.2.2.2.2.2.2.2.2.2.2.2.2.2.2.2.2.2.2.2.2.2.2.2.2.2.2.2.2.2.2.2.2.2.2.2.2.2.2.2.2.2.2.2.2.2.2.2.2.2.2.2.2.2.2.2.2.2.2.2.2.2.2.2.2.2.2.1
theorem LayM.r0_11 {S : hS} {y : Nat} (h : LayM S y) : S.R y 11 = some (y + 11) := h.2.2.2.2.2.2.2.2.2.2.2.2.2.2.2.2.2.2.2.2.2.2.2.2.2.2.2.2.2.2.2.2.2.2.2.2.2.2.2.2.2.2.2.2.2.2.2.2.2.2.2.2.2.2.2.2.2.2.2.2.2.2.2.2.2.2.2.2.2.2.2.2.2.2.2.2.2.2.2.2.2.2.2.2.2.2.2.2.2.2.2.2.2.2.2.1
theorem LayM.r0_12 {S : hS} {y : Nat} (h : LayM S y) : S.R y 12 = some (y + 12) := h.2.2.2.2.2.2.2.2.2.2.2.2.2.2.2.2.2.2.2.2.2.2.2.2.2.2.2.2.2.2.2.2.2.2.2.2.2.2.2.2.2.2.2.2.2.2.2.2.2.2.2.2.2.2.2.2.2.2.2.2.2.2.2.2.2.2.2.2.2.2.2.2.2.2.2.2.2.2.2.2.2.2.2.2.2.2.2.2.2.2.2.2.2.2.2.2.1
theorem LayM.r0_13 {S : hS} {y : Nat} (h : LayM S y) : S.R y 13 = some (y + 13) := h.2.2.2.2.2.2.2.2.2.2.2.2.2.2.2.2.2.2.2.2.2.2.2.2.2.2.2.2.2.2.2.2.2.2.2.2.2.2.2.2.2.2.2.2.2.2.2.2.2.2.2.2.2.2.2.2.2.2.2.2.2.2.2.2.2.2.2.2.2.2.2.2.2.2.2.2.2.2.2.2.2.2.2.2.2.2.2.2.2.2.2.2.2.2.2.2.2.1
theorem LayM.r0_14 {S : hS} {y : Nat} (h : LayM S y) : S.R y 14 = some (y + 14) := h.2.2.2.2.2.2.2.2.2.2.2.2.2.2.2.2.2.2.2.2.2.2.2.2.2.2.2.2.2.2.2.2.2.2.2.2.2.2.2.2.2.2.2.2.2.2.2.2.2.2.2.2.2.2.2.2.2.2.2.2.2.2.2.2.2.2.2.2.2.2.2.2.2.2.2.2.2.2.2.2.2.2.2.2.2.2.2.2.2.2.2.2.2.2.2.2.2.2.1
theorem LayM.r0_15 {S : hS} {y : Nat} (h : LayM S y) : S.R y 15 = some (y + 15) := h.2.2.2.2.2.2.2.2.2.2.2.2.2.2.2.2.2.2.2.2.2.2.2.2.2.2.2.2.2.2.2.2.2.2.2.2.2.2.2.2.2.2.2.2.2.2.2.2.2.2.2.2.2.2.2.2.2.2.2.2.2.2.2.2.2.2.2.2.2.2.2.2.2.2.2.2.2.2.2.2.2.2.2.2.2.2.2.2.2.2.2.2.2.2.2.2.2.2.2.1
theorem LayM.r0_16 {S : hS} {y : Nat} (h : LayM S y) : S.R y 16 = some (y + 16) := h.2.2.2.2.2.2.2.2.2.2.2.2.2.2.2.2.2.2.2.2.2.2.2.2.2.2.2.2.2.2.2.2.2.2.2.2.2.2.2.2.2.2.2.2.2.2.2.2.2.2.2.2.2.2.2.2.2.2.2.2.2.2.2.2.2.2.2.2.2.2.2.2.2.2.2.2.2.2.2.2.2.2.2.2.2.2.2.2.2.2.2.2.2.2.2.2.2.2.2.2.1
theorem LayM.r0_17 {S : hS} {y : Nat} (h : LayM S y) : S.R y 17 = some (y + 17) := h.2.2.2.2.2.2.2.2.2.2.2.2.2.2.2.2.2.2.2.2.2.2.2.2.2.2.2.2.2.2.2.2.2.2.2.2.2.2.2.2.2.2.2.2.2.2.2.2.2.2.2.2.2.2.2.2.2.2.2.2.2.2.2.2.2.2.2.2.2.2.2.2.2.2.2.2.2.2.2.2.2.2.2.2.2.2.2.2.2.2.2.2.2.2.2.2.2.2.2.2.2.1
theorem LayM.r0_18 {S : hS} {y : Nat} (h : LayM S y) : S.R y 18 = some (y + 18) := h.2.2.2.2.2.2.2.2.2.2.2.2.2.2.2.2.2.2.2.2.2.2.2.2.2.2.2.2.2.2.2.2.2.2.2.2.2.2.2.2.2.2.2.2.2.2.2.2.2.2.2.2.2.2.2.2.2.2.2.2.2.2.2.2.2.2.2.2.2.2.2.2.2.2.2.2.2.2.2.2.2.2.2.2.2.2.2.2.2.2.2.2.2.2.2.2.2.2.2.2.2.2.1
theorem LayM.r0_19 {S : hS} {y : Nat} (h : LayM S y) : S.R y 19 = some (y + 19) := h.2.2.2.2.2.2.2.2.2.2.2.2.2.2.2.2.2.2.2.2.2.2.2.2.2.2.2.2.2.2.2.2.2.2.2.2.2.2.2.2.2.2.2.2.2.2.2.2.2.2.2.2.2.2.2.2.2.2.2.2.2.2.2.2.2.2.2.2.2.2.2.2.2.2.2.2.2.2.2.2.2.2.2.2.2.2.2.2.2.2.2.2.2.2.2.2.2.2.2.2.2.2.2.1
theorem LayM.r0_20 {S : hS} {y : Nat} (h : LayM S y) : S.R y 20 = some (y + 20) := h.2.2.2.2.2.2.2.2.2.2.2.2.2.2.2.2.2.2.2.2.2.2.2.2.2.2.2.2.2.2.2.2.2.2.2.2.2.2.2.2.2.2.2.2.2.2.2.2.2.2.2.2.2.2.2.2.2.2.2.2.2.2.2.2.2.2.2.2.2.2.2.2.2.2.2.2.2.2.2.2.2.2.2.2.2.2.2.2.2.2.2.2.2.2.2.2.2.2.2.2.2.2.2.2.1
theorem LayM.r0_21 {S : hS} {y : Nat} (h : LayM S y) : S.R y 21 = some (y + 21) := h.2.2.2.2.2.2.2.2.2.2.2.2.2.2.2.2.2.2.2.2.2.2.2.2.2.2.2.2.2.2.2.2.2.2.2.2.2.2.2.2.2.2.2.2.2.2.2.2.2.2.2.2.2.2.2.2.2.2.2.2.2.2.2.2.2.2.2.2.2.2.2.2.2.2.2.2.2.2.2.2.2.2.2.2.2.2.2.2.2.2.2.2.2.2.2.2.2.2.2.2.2.2.2.2.2.1
theorem LayM.r0_22 {S : hS} {y : Nat} (h : LayM S y) : S.R y 22 = some (y + 22) := h.2.2.2.2.2.2.2.2.2.2.2.2.2.2.2.2.2.2.2.2.2.2.2.2.2.2.2.2.2.2.2.2.2.2.2.2.2.2.2.2.2.2.2.2.2.2.2.2.2.2.2.2.2.2.2.2.2.2.2.2.2.2.2.2.2.2.2.2.2.2.2.2.2.2.2.2.2.2.2.2.2.2.2.2.2.2.2.2.2.2.2.2.2.2.2.2.2.2.2.2.2.2.2.2.2.2.1
theorem LayM.r0_34 {S : hS} {y : Nat} (h : LayM S y) : S.R y 34 = some (y + 23) := h.2.2.2.2.2.2.2.2.2.2.2.2.2.2.2.2.2.2.2.2.2.2.2.2.2.2.2.2.2.2.2.2.2.2.2.2.2.2.2.2.2.2.2.2.2.2.2.2.2.2.2.2.2.2.2.2.2.2.2.2.2.2.2.2.2.2.2.2.2.2.2.2.2.2.2.2.2.2.2.2.2.2.2.2.2.2.2.2.2.2.2.2.2.2.2.2.2.2.2.2.2.2.2.2.2.2.2.1
theorem LayM.r0_35 {S : hS} {y : Nat} (h : LayM S y) : S.R y 35 = some (y + 24) := h.2.2.2.2.2.2.2.2.2.2.2.2.2.2.2.2.2.2.2.2.2.2.2.2.2.2.2.2.2.2.2.2.2.2.2.2.2.2.2.2.2.2.2.2.2.2.2.2.2.2.2.2.2.2.2.2.2.2.2.2.2.2.2.2.2.2.2.2.2.2.2.2.2.2.2.2.2.2.2.2.2.2.2.2.2.2.2.2.2.2.2.2.2.2.2.2.2.2.2.2.2.2.2.2.2.2.2.2.1
theorem LayM.r0_36 {S : hS} {y : Nat} (h : LayM S y) : S.R y 36 = some (y + 25) := h.2.2.2.2.2.2.2.2.2.2.2.2.2.2.2.2.2.2.2.2.2.2.2.2.2.2.2.2.2.2.2.2.2.2.2.2.2.2.2.2.2.2.2.2.2.2.2.2.2.2.2.2.2.2.2.2.2.2.2.2.2.2.2.2.2.2.2.2.2.2.2.2.2.2.2.2.2.2.2.2.2.2.2.2.2.2.2.2.2.2.2.2.2.2.2.2.2.2.2.2.2.2.2.2.2.2.2.2.2.1
theorem LayM.r0_37 {S : hS} {y : Nat} (h : LayM S y) : S.R y 37 = some (y + 26) := h.2.2.2.2.2.2.2.2.2.2.2.2.2.2.2.2.2.2.2.2.2.2.2.2.2.2.2.2.2.2.2.2.2.2.2.2.2.2.2.2.2.2.2.2.2.2.2.2.2.2.2.2.2.2.2.2.2.2.2.2.2.2.2.2.2.2.2.2.2.2.2.2.2.2.2.2.2.2.2.2.2.2.2.2.2.2.2.2.2.2.2.2.2.2.2.2.2.2.2.2.2.2.2.2.2.2.2.2.2.2.1
theorem LayM.r0_38 {S : hS} {y : Nat} (h : LayM S y) : S.R y 38 = some (y + 27) := h.2.2.2.2.2.2.2.2.2.2.2.2.2.2.2.2.2.2.2.2.2.2.2.2.2.2.2.2.2.2.2.2.2.2.2.2.2.2.2.2.2.2.2.2.2.2.2.2.2.2.2.2.2.2.2.2.2.2.2.2.2.2.2.2.2.2.2.2.2.2.2.2.2.2.2.2.2.2.2.2.2.2.2.2.2.2.2.2.2.2.2.2.2.2.2.2.2.2.2.2.2.2.2.2.2.2.2.2.2.2.2.1
theorem LayM.r0_39 {S : hS} {y : Nat} (h : LayM S y) : S.R y 39 = some (y + 28) := h.2.2.2.2.2.2.2.2.2.2.2.2.2.2.2.2.2.2.2.2.2.2.2.2.2.2.2.2.2.2.2.2.2.2.2.2.2.2.2.2.2.2.2.2.2.2.2.2.2.2.2.2.2.2.2.2.2.2.2.2.2.2.2.2.2.2.2.2.2.2.2.2.2.2.2.2.2.2.2.2.2.2.2.2.2.2.2.2.2.2.2.2.2.2.2.2.2.2.2.2.2.2.2.2.2.2.2.2.2.2.2.2.1
theorem LayM.r0_40 {S : hS} {y : Nat} (h : LayM S y) : S.R y 40 = some (y + 29) := h.2.2.2.2.2.2.2.2.2.2.2.2.2.2.2.2.2.2.2.2.2.2.2.2.2.2.2.2.2.2.2.2.2.2.2.2.2.2.2.2.2.2.2.2.2.2.2.2.2.2.2.2.2.2.2.2.2.2.2.2.2.2.2.2.2.2.2.2.2.2.2.2.2.2.2.2.2.2.2.2.2.2.2.2.2.2.2.2.2.2.2.2.2.2.2.2.2.2.2.2.2.2.2.2.2.2.2.2.2.2.2.2.2.1
theorem LayM.r0_41 {S : hS} {y : Nat} (h : LayM S y) : S.R y 41 = some (y + 30) := h.2.2.2.2.2.2.2.2.2.2.2.2.2.2.2.2.2.2.2.2.2.2.2.2.2.2.2.2.2.2.2.2.2.2.2.2.2.2.2.2.2.2.2.2.2.2.2.2.2.2.2.2.2.2.2.2.2.2.2.2.2.2.2.2.2.2.2.2.2.2.2.2.2.2.2.2.2.2.2.2.2.2.2.2.2.2.2.2.2.2.2.2.2.2.2.2.2.2.2.2.2.2.2.2.2.2.2.2.2.2.2.2.2.2.1
theorem LayM.r0_42 {S : hS} {y : Nat} (h : LayM S y) : S.R y 42 = some (y + 31) := h.2.2.2.2.2.2.2.2.2.2.2.2.2.2.2.2.2.2.2.2.2.2.2.2.2.2.2.2.2.2.2.2.2.2.2.2.2.2.2.2.2.2.2.2.2.2.2.2.2.2.2.2.2.2.2.2.2.2.2.2.2.2.2.2.2.2.2.2.2.2.2.2.2.2.2.2.2.2.2.2.2.2.2.2.2.2.2.2.2.2.2.2.2.2.2.2.2.2.2.2.2.2.2.2.2.2.2.2.2.2.2.2.2.2.2.1
theorem LayM.r0_43 {S : hS} {y : Nat} (h : LayM S y) : S.R y 43 = some (y + 32) := h.2.2.2.2.2.2.2.2.2.2.2.2.2.2.2.2.2.2.2.2.2.2.2.2.2.2.2.2.2.2.2.2.2.2.2.2.2.2.2.2.2.2.2.2.2.2.2.2.2.2.2.2.2.2.2.2.2.2.2.2.2.2.2.2.2.2.2.2.2.2.2.2.2.2.2.2.2.2.2.2.2.2.2.2.2.2.2.2.2.2.2.2.2.2.2.2.2.2.2.2.2.2.2.2.2.2.2.2.2.2.2.2.2.2.2.2.1
theorem LayM.r0_44 {S : hS} {y : Nat} (h : LayM S y) : S.R y 44 = some (y + 33) := h.2.2.2.2.2.2.2.2.2.2.2.2.2.2.2.2.2.2.2.2.2.2.2.2.2.2.2.2.2.2.2.2.2.2.2.2.2.2.2.2.2.2.2.2.2.2.2.2.2.2.2.2.2.2.2.2.2.2.2.2.2.2.2.2.2.2.2.2.2.2.2.2.2.2.2.2.2.2.2.2.2.2.2.2.2.2.2.2.2.2.2.2.2.2.2.2.2.2.2.2.2.2.2.2.2.2.2.2.2.2.2.2.2.2.2.2.2.1
theorem LayM.r0_45 {S : hS} {y : Nat} (h : LayM S y) : S.R y 45 = some (y + 34) := h.2.2.2.2.2.2.2.2.2.2.2.2.2.2.2.2.2.2.2.2.2.2.2.2.2.2.2.2.2.2.2.2.2.2.2.2.2.2.2.2.2.2.2.2.2.2.2.2.2.2.2.2.2.2.2.2.2.2.2.2.2.2.2.2.2.2.2.2.2.2.2.2.2.2.2.2.2.2.2.2.2.2.2.2.2.2.2.2.2.2.2.2.2.2.2.2.2.2.2.2.2.2.2.2.2.2.2.2.2.2.2.2.2.2.2.2.2.2.1
theorem LayM.r0_46 {S : hS} {y : Nat} (h : LayM S y) : S.R y 46 = some (y + 35) := h.2.2.2.2.2.2.2.2.2.2.2.2.2.2.2.2.2.2.2.2.2.2.2.2.2.2.2.2.2.2.2.2.2.2.2.2.2.2.2.2.2.2.2.2.2.2.2.2.2.2.2.2.2.2.2.2.2.2.2.2.2.2.2.2.2.2.2.2.2.2.2.2.2.2.2.2.2.2.2.2.2.2.2.2.2.2.2.2.2.2.2.2.2.2.2.2.2.2.2.2.2.2.2.2.2.2.2.2.2.2.2.2.2.2.2.2.2.2.2.1
theorem LayM.r0_47 {S : hS} {y : Nat} (h : LayM S y) : S.R y 47 = some (y + 36) := h.2.2.2.2.2.2.2.2.2.2.2.2.2.2.2.2.2.2.2.2.2.2.2.2.2.2.2.2.2.2.2.2.2.2.2.2.2.2.2.2.2.2.2.2.2.2.2.2.2.2.2.2.2.2.2.2.2.2.2.2.2.2.2.2.2.2.2.2.2.2.2.2.2.2.2.2.2.2.2.2.2.2.2.2.2.2.2.2.2.2.2.2.2.2.2.2.2.2.2.2.2.2.2.2.2.2.2.2.2.2.2.2.2.2.2.2.2.2.2.2.1
theorem LayM.r0_48 {S : hS} {y : Nat} (h : LayM S y) : S.R y 48 = some (y + 37) := h.2.2.2.2.2.2.2.2.2.2.2.2.2.2.2.2.2.2.2.2.2.2.2.2.2.2.2.2.2.2.2.2.2.2.2.2.2.2.2.2.2.2.2.2.2.2.2.2.2.2.2.2.2.2.2.2.2.2.2.2.2.2.2.2.2.2.2.2.2.2.2.2.2.2.2.2.2.2.2.2.2.2.2.2.2.2.2.2.2.2.2.2.2.2.2.2.2.2.2.2.2.2.2.2.2.2.2.2.2.2.2.2.2.2.2.2.2.2.2.2.2.1
theorem LayM.r0_49 {S : hS} {y : Nat} (h : LayM S y) : S.R y 49 = some (y + 38) := h.2.2.2.2.2.2.2.2.2.2.2.2.2.2.2.2.2.2.2.2.2.2.2.2.2.2.2.2.2.2.2.2.2.2.2.2.2.2.2.2.2.2.2.2.2.2.2.2.2.2.2.2.2.2.2.2.2.2.2.2.2.2.2.2.2.2.2.2.2.2.2.2.2.2.2.2.2.2.2.2.2.2.2.2.2.2.2.2.2.2.2.2.2.2.2.2.2.2.2.2.2.2.2.2.2.2.2.2.2.2.2.2.2.2.2.2.2.2.2.2.2.2.1
theorem LayM.r0_55 {S : hS} {y : Nat} (h : LayM S y) : S.R y 55 = some (y + 39) := h.2.2.2.2.2.2.2.2.2.2.2.2.2.2.2.2.2.2.2.2.2.2.2.2.2.2.2.2.2.2.2.2.2.2.2.2.2.2.2.2.2.2.2.2.2.2.2.2.2.2.2.2.2.2.2.2.2.2.2.2.2.2.2.2.2.2.2.2.2.2.2.2.2.2.2.2.2.2.2.2.2.2.2.2.2.2.2.2.2.2.2.2.2.2.2.2.2.2.2.2.2.2.2.2.2.2.2.2.2.2.2.2.2.2.2.2.2.2.2.2.2.2.2.1
theorem LayM.r0_58 {S : hS} {y : Nat} (h : LayM S y) : S.R y 58 = some (y + 40) := h.2.2.2.2.2.2.2.2.2.2.2.2.2.2.2.2.2.2.2.2.2.2.2.2.2.2.2.2.2.2.2.2.2.2.2.2.2.2.2.2.2.2.2.2.2.2.2.2.2.2.2.2.2.2.2.2.2.2.2.2.2.2.2.2.2.2.2.2.2.2.2.2.2.2.2.2.2.2.2.2.2.2.2.2.2.2.2.2.2.2.2.2.2.2.2.2.2.2.2.2.2.2.2.2.2.2.2.2.2.2.2.2.2.2.2.2.2.2.2.2.2.2.2.2.1
theorem LayM.r0_59 {S : hS} {y : Nat} (h : LayM S y) : S.R y 59 = some (y + 41) := h.2.2.2.2.2.2.2.2.2.2.2.2.2.2.2.2.2.2.2.2.2.2.2.2.2.2.2.2.2.2.2.2.2.2.2.2.2.2.2.2.2.2.2.2.2.2.2.2.2.2.2.2.2.2.2.2.2.2.2.2.2.2.2.2.2.2.2.2.2.2.2.2.2.2.2.2.2.2.2.2.2.2.2.2.2.2.2.2.2.2.2.2.2.2.2.2.2.2.2.2.2.2.2.2.2.2.2.2.2.2.2.2.2.2.2.2.2.2.2.2.2.2.2.2.2.1
theorem LayM.r0_60 {S : hS} {y : Nat} (h : LayM S y) : S.R y 60 = some (y + 42) := h.2.2.2.2.2.2.2.2.2.2.2.2.2.2.2.2.2.2.2.2.2.2.2.2.2.2.2.2.2.2.2.2.2.2.2.2.2.2.2.2.2.2.2.2.2.2.2.2.2.2.2.2.2.2.2.2.2.2.2.2.2.2.2.2.2.2.2.2.2.2.2.2.2.2.2.2.2.2.2.2.2.2.2.2.2.2.2.2.2.2.2.2.2.2.2.2.2.2.2.2.2.2.2.2.2.2.2.2.2.2.2.2.2.2.2.2.2.2.2.2.2.2.2.2.2.2
abbrev mS (S : hS) (y : Nat) (V : Nat → Nat → Int32) : hS := vS S y 43 V
theorem mR0_1 {S : hS} {y : Nat} {V : Nat → Nat → Int32} (h : LayM S y) : gR (mS S y V) y 9 1 = some (y + 1) := gR_of h.K0 h.r0_1
theorem mR0_2 {S : hS} {y : Nat} {V : Nat → Nat → Int32} (h : LayM S y) : gR (mS S y V) y 9 2 = some (y + 2) := gR_of h.K0 h.r0_2
theorem mR0_3 {S : hS} {y : Nat} {V : Nat → Nat → Int32} (h : LayM S y) : gR (mS S y V) y 9 3 = some (y + 3) := gR_of h.K0 h.r0_3
theorem mR0_4 {S : hS} {y : Nat} {V : Nat → Nat → Int32} (h : LayM S y) : gR (mS S y V) y 9 4 = some (y + 4) := gR_of h.K0 h.r0_4
theorem mR0_5 {S : hS} {y : Nat} {V : Nat → Nat → Int32} (h : LayM S y) : gR (mS S y V) y 9 5 = some (y + 5) := gR_of h.K0 h.r0_5
theorem mR0_6 {S : hS} {y : Nat} {V : Nat → Nat → Int32} (h : LayM S y) : gR (mS S y V) y 9 6 = some (y + 6) := gR_of h.K0 h.r0_6
theorem mR0_7 {S : hS} {y : Nat} {V : Nat → Nat → Int32} (h : LayM S y) : gR (mS S y V) y 9 7 = some (y + 7) := gR_of h.K0 h.r0_7
theorem mR0_8 {S : hS} {y : Nat} {V : Nat → Nat → Int32} (h : LayM S y) : gR (mS S y V) y 9 8 = some (y + 8) := gR_of h.K0 h.r0_8
theorem mR0_9 {S : hS} {y : Nat} {V : Nat → Nat → Int32} (h : LayM S y) : gR (mS S y V) y 9 9 = some (y + 9) := gR_of h.K0 h.r0_9
theorem mR0_10 {S : hS} {y : Nat} {V : Nat → Nat → Int32} (h : LayM S y) : gR (mS S y V) y 9 10 = some (y + 10) := gR_of h.K0 h.r0_10
theorem mR0_11 {S : hS} {y : Nat} {V : Nat → Nat → Int32} (h : LayM S y) : gR (mS S y V) y 9 11 = some (y + 11) := gR_of h.K0 h.r0_11
theorem mR0_12 {S : hS} {y : Nat} {V : Nat → Nat → Int32} (h : LayM S y) : gR (mS S y V) y 9 12 = some (y + 12) := gR_of h.K0 h.r0_12
theorem mR0_13 {S : hS} {y : Nat} {V : Nat → Nat → Int32} (h : LayM S y) : gR (mS S y V) y 9 13 = some (y + 13) := gR_of h.K0 h.r0_13
theorem mR0_14 {S : hS} {y : Nat} {V : Nat → Nat → Int32} (h : LayM S y) : gR (mS S y V) y 9 14 = some (y + 14) := gR_of h.K0 h.r0_14
theorem mR0_15 {S : hS} {y : Nat} {V : Nat → Nat → Int32} (h : LayM S y) : gR (mS S y V) y 9 15 = some (y + 15) := gR_of h.K0 h.r0_15
theorem mR0_16 {S : hS} {y : Nat} {V : Nat → Nat → Int32} (h : LayM S y) : gR (mS S y V) y 9 16 = some (y + 16) := gR_of h.K0 h.r0_16
theorem mR0_17 {S : hS} {y : Nat} {V : Nat → Nat → Int32} (h : LayM S y) : gR (mS S y V) y 9 17 = some (y + 17) := gR_of h.K0 h.r0_17
theorem mR0_18 {S : hS} {y : Nat} {V : Nat → Nat → Int32} (h : LayM S y) : gR (mS S y V) y 9 18 = some (y + 18) := gR_of h.K0 h.r0_18
theorem mR0_19 {S : hS} {y : Nat} {V : Nat → Nat → Int32} (h : LayM S y) : gR (mS S y V) y 9 19 = some (y + 19) := gR_of h.K0 h.r0_19
theorem mR0_20 {S : hS} {y : Nat} {V : Nat → Nat → Int32} (h : LayM S y) : gR (mS S y V) y 9 20 = some (y + 20) := gR_of h.K0 h.r0_20
theorem mR0_21 {S : hS} {y : Nat} {V : Nat → Nat → Int32} (h : LayM S y) : gR (mS S y V) y 9 21 = some (y + 21) := gR_of h.K0 h.r0_21
theorem mR0_22 {S : hS} {y : Nat} {V : Nat → Nat → Int32} (h : LayM S y) : gR (mS S y V) y 9 22 = some (y + 22) := gR_of h.K0 h.r0_22
theorem mR0_34 {S : hS} {y : Nat} {V : Nat → Nat → Int32} (h : LayM S y) : gR (mS S y V) y 9 34 = some (y + 23) := gR_of h.K0 h.r0_34
theorem mR0_35 {S : hS} {y : Nat} {V : Nat → Nat → Int32} (h : LayM S y) : gR (mS S y V) y 9 35 = some (y + 24) := gR_of h.K0 h.r0_35
theorem mR0_36 {S : hS} {y : Nat} {V : Nat → Nat → Int32} (h : LayM S y) : gR (mS S y V) y 9 36 = some (y + 25) := gR_of h.K0 h.r0_36
theorem mR0_37 {S : hS} {y : Nat} {V : Nat → Nat → Int32} (h : LayM S y) : gR (mS S y V) y 9 37 = some (y + 26) := gR_of h.K0 h.r0_37
theorem mR0_38 {S : hS} {y : Nat} {V : Nat → Nat → Int32} (h : LayM S y) : gR (mS S y V) y 9 38 = some (y + 27) := gR_of h.K0 h.r0_38
theorem mR0_39 {S : hS} {y : Nat} {V : Nat → Nat → Int32} (h : LayM S y) : gR (mS S y V) y 9 39 = some (y + 28) := gR_of h.K0 h.r0_39
theorem mR0_40 {S : hS} {y : Nat} {V : Nat → Nat → Int32} (h : LayM S y) : gR (mS S y V) y 9 40 = some (y + 29) := gR_of h.K0 h.r0_40
theorem mR0_41 {S : hS} {y : Nat} {V : Nat → Nat → Int32} (h : LayM S y) : gR (mS S y V) y 9 41 = some (y + 30) := gR_of h.K0 h.r0_41
theorem mR0_42 {S : hS} {y : Nat} {V : Nat → Nat → Int32} (h : LayM S y) : gR (mS S y V) y 9 42 = some (y + 31) := gR_of h.K0 h.r0_42
theorem mR0_43 {S : hS} {y : Nat} {V : Nat → Nat → Int32} (h : LayM S y) : gR (mS S y V) y 9 43 = some (y + 32) := gR_of h.K0 h.r0_43
theorem mR0_44 {S : hS} {y : Nat} {V : Nat → Nat → Int32} (h : LayM S y) : gR (mS S y V) y 9 44 = some (y + 33) := gR_of h.K0 h.r0_44
theorem mR0_45 {S : hS} {y : Nat} {V : Nat → Nat → Int32} (h : LayM S y) : gR (mS S y V) y 9 45 = some (y + 34) := gR_of h.K0 h.r0_45
theorem mR0_46 {S : hS} {y : Nat} {V : Nat → Nat → Int32} (h : LayM S y) : gR (mS S y V) y 9 46 = some (y + 35) := gR_of h.K0 h.r0_46
theorem mR0_47 {S : hS} {y : Nat} {V : Nat → Nat → Int32} (h : LayM S y) : gR (mS S y V) y 9 47 = some (y + 36) := gR_of h.K0 h.r0_47
theorem mR0_48 {S : hS} {y : Nat} {V : Nat → Nat → Int32} (h : LayM S y) : gR (mS S y V) y 9 48 = some (y + 37) := gR_of h.K0 h.r0_48
theorem mR0_49 {S : hS} {y : Nat} {V : Nat → Nat → Int32} (h : LayM S y) : gR (mS S y V) y 9 49 = some (y + 38) := gR_of h.K0 h.r0_49
theorem mR0_55 {S : hS} {y : Nat} {V : Nat → Nat → Int32} (h : LayM S y) : gR (mS S y V) y 9 55 = some (y + 39) := gR_of h.K0 h.r0_55
theorem mR0_58 {S : hS} {y : Nat} {V : Nat → Nat → Int32} (h : LayM S y) : gR (mS S y V) y 9 58 = some (y + 40) := gR_of h.K0 h.r0_58
theorem mR0_59 {S : hS} {y : Nat} {V : Nat → Nat → Int32} (h : LayM S y) : gR (mS S y V) y 9 59 = some (y + 41) := gR_of h.K0 h.r0_59
theorem mR0_60 {S : hS} {y : Nat} {V : Nat → Nat → Int32} (h : LayM S y) : gR (mS S y V) y 9 60 = some (y + 42) := gR_of h.K0 h.r0_60
theorem mI0 {S : hS} {y : Nat} {V : Nat → Nat → Int32} (h : LayM S y) (k : Nat) : gI (mS S y V) y 9 k = some (V 0 k) := by rw [gI_of (S := mS S y V) (ci := 9) h.K0, vS_I0 _ _ _ _ (by decide)]
theorem ms0 {S : hS} {y : Nat} {V : Nat → Nat → Int32} (h : LayM S y) (k : Nat) (v : Int32) : sI (mS S y V) y 9 k v = some (mS S y (up2 V 0 k v)) := by rw [sI_of (S := mS S y V) (ci := 9) h.K0, vS_set0 _ _ _ _ (by decide)]
theorem mK0 {S : hS} {y : Nat} {V : Nat → Nat → Int32} {β : Type} (h : LayM S y) (k : Option β) : hck ((mS S y V).K y = 10) k = k := if_pos h.K0
theorem mA1 {S : hS} {y : Nat} {V : Nat → Nat → Int32} (h : LayM S y) {i : Int32} (hi : 0 ≤ i) (hn : i.toNatClampNeg < 14) : gA (mS S y V) (y + 1) 12 i = some (V 1 i.toNatClampNeg) := by rw [gA_of (S := mS S y V) h.K1 hi (by rw [vS_n, h.n1]; exact hn), vS_I _ _ _ _ (by decide)]
theorem mT1 {S : hS} {y : Nat} {V : Nat → Nat → Int32} (h : LayM S y) {i v : Int32} (hi : 0 ≤ i) (hn : i.toNatClampNeg < 14) : sA (mS S y V) (y + 1) i v = some (mS S y (up2 V 1 i.toNatClampNeg v)) := by rw [sA_of (S := mS S y V) h.K1 hi (by rw [vS_n, h.n1]; exact hn), vS_set _ _ _ _ (by decide)]
theorem mN1 {S : hS} {y : Nat} {V : Nat → Nat → Int32} (h : LayM S y) {g : Nat} (hg : g < 14) : gA (mS S y V) (y + 1) 12 (nI g) = some (V 1 g) := by rw [mA1 h (nIp (by omega)) (by rw [nIc (by omega)]; exact hg), nIc (by omega)]
theorem mM1 {S : hS} {y : Nat} {V : Nat → Nat → Int32} (h : LayM S y) {g : Nat} {v : Int32} (hg : g < 14) : sA (mS S y V) (y + 1) (nI g) v = some (mS S y (up2 V 1 g v)) := by rw [mT1 h (nIp (by omega)) (by rw [nIc (by omega)]; exact hg), nIc (by omega)]
theorem mA2 {S : hS} {y : Nat} {V : Nat → Nat → Int32} (h : LayM S y) {i : Int32} (hi : 0 ≤ i) (hn : i.toNatClampNeg < 80) : gA (mS S y V) (y + 2) 12 i = some (V 2 i.toNatClampNeg) := by rw [gA_of (S := mS S y V) h.K2 hi (by rw [vS_n, h.n2]; exact hn), vS_I _ _ _ _ (by decide)]
theorem mT2 {S : hS} {y : Nat} {V : Nat → Nat → Int32} (h : LayM S y) {i v : Int32} (hi : 0 ≤ i) (hn : i.toNatClampNeg < 80) : sA (mS S y V) (y + 2) i v = some (mS S y (up2 V 2 i.toNatClampNeg v)) := by rw [sA_of (S := mS S y V) h.K2 hi (by rw [vS_n, h.n2]; exact hn), vS_set _ _ _ _ (by decide)]
theorem mN2 {S : hS} {y : Nat} {V : Nat → Nat → Int32} (h : LayM S y) {g : Nat} (hg : g < 80) : gA (mS S y V) (y + 2) 12 (nI g) = some (V 2 g) := by rw [mA2 h (nIp (by omega)) (by rw [nIc (by omega)]; exact hg), nIc (by omega)]
theorem mM2 {S : hS} {y : Nat} {V : Nat → Nat → Int32} (h : LayM S y) {g : Nat} {v : Int32} (hg : g < 80) : sA (mS S y V) (y + 2) (nI g) v = some (mS S y (up2 V 2 g v)) := by rw [mT2 h (nIp (by omega)) (by rw [nIc (by omega)]; exact hg), nIc (by omega)]
theorem mA3 {S : hS} {y : Nat} {V : Nat → Nat → Int32} (h : LayM S y) {i : Int32} (hi : 0 ≤ i) (hn : i.toNatClampNeg < 12) : gA (mS S y V) (y + 3) 12 i = some (V 3 i.toNatClampNeg) := by rw [gA_of (S := mS S y V) h.K3 hi (by rw [vS_n, h.n3]; exact hn), vS_I _ _ _ _ (by decide)]
theorem mT3 {S : hS} {y : Nat} {V : Nat → Nat → Int32} (h : LayM S y) {i v : Int32} (hi : 0 ≤ i) (hn : i.toNatClampNeg < 12) : sA (mS S y V) (y + 3) i v = some (mS S y (up2 V 3 i.toNatClampNeg v)) := by rw [sA_of (S := mS S y V) h.K3 hi (by rw [vS_n, h.n3]; exact hn), vS_set _ _ _ _ (by decide)]
theorem mN3 {S : hS} {y : Nat} {V : Nat → Nat → Int32} (h : LayM S y) {g : Nat} (hg : g < 12) : gA (mS S y V) (y + 3) 12 (nI g) = some (V 3 g) := by rw [mA3 h (nIp (by omega)) (by rw [nIc (by omega)]; exact hg), nIc (by omega)]
theorem mM3 {S : hS} {y : Nat} {V : Nat → Nat → Int32} (h : LayM S y) {g : Nat} {v : Int32} (hg : g < 12) : sA (mS S y V) (y + 3) (nI g) v = some (mS S y (up2 V 3 g v)) := by rw [mT3 h (nIp (by omega)) (by rw [nIc (by omega)]; exact hg), nIc (by omega)]
theorem mA4 {S : hS} {y : Nat} {V : Nat → Nat → Int32} (h : LayM S y) {i : Int32} (hi : 0 ≤ i) (hn : i.toNatClampNeg < 12) : gA (mS S y V) (y + 4) 12 i = some (V 4 i.toNatClampNeg) := by rw [gA_of (S := mS S y V) h.K4 hi (by rw [vS_n, h.n4]; exact hn), vS_I _ _ _ _ (by decide)]
theorem mT4 {S : hS} {y : Nat} {V : Nat → Nat → Int32} (h : LayM S y) {i v : Int32} (hi : 0 ≤ i) (hn : i.toNatClampNeg < 12) : sA (mS S y V) (y + 4) i v = some (mS S y (up2 V 4 i.toNatClampNeg v)) := by rw [sA_of (S := mS S y V) h.K4 hi (by rw [vS_n, h.n4]; exact hn), vS_set _ _ _ _ (by decide)]
theorem mN4 {S : hS} {y : Nat} {V : Nat → Nat → Int32} (h : LayM S y) {g : Nat} (hg : g < 12) : gA (mS S y V) (y + 4) 12 (nI g) = some (V 4 g) := by rw [mA4 h (nIp (by omega)) (by rw [nIc (by omega)]; exact hg), nIc (by omega)]
theorem mM4 {S : hS} {y : Nat} {V : Nat → Nat → Int32} (h : LayM S y) {g : Nat} {v : Int32} (hg : g < 12) : sA (mS S y V) (y + 4) (nI g) v = some (mS S y (up2 V 4 g v)) := by rw [mT4 h (nIp (by omega)) (by rw [nIc (by omega)]; exact hg), nIc (by omega)]
theorem mA5 {S : hS} {y : Nat} {V : Nat → Nat → Int32} (h : LayM S y) {i : Int32} (hi : 0 ≤ i) (hn : i.toNatClampNeg < 12) : gA (mS S y V) (y + 5) 12 i = some (V 5 i.toNatClampNeg) := by rw [gA_of (S := mS S y V) h.K5 hi (by rw [vS_n, h.n5]; exact hn), vS_I _ _ _ _ (by decide)]
theorem mT5 {S : hS} {y : Nat} {V : Nat → Nat → Int32} (h : LayM S y) {i v : Int32} (hi : 0 ≤ i) (hn : i.toNatClampNeg < 12) : sA (mS S y V) (y + 5) i v = some (mS S y (up2 V 5 i.toNatClampNeg v)) := by rw [sA_of (S := mS S y V) h.K5 hi (by rw [vS_n, h.n5]; exact hn), vS_set _ _ _ _ (by decide)]
theorem mN5 {S : hS} {y : Nat} {V : Nat → Nat → Int32} (h : LayM S y) {g : Nat} (hg : g < 12) : gA (mS S y V) (y + 5) 12 (nI g) = some (V 5 g) := by rw [mA5 h (nIp (by omega)) (by rw [nIc (by omega)]; exact hg), nIc (by omega)]
theorem mM5 {S : hS} {y : Nat} {V : Nat → Nat → Int32} (h : LayM S y) {g : Nat} {v : Int32} (hg : g < 12) : sA (mS S y V) (y + 5) (nI g) v = some (mS S y (up2 V 5 g v)) := by rw [mT5 h (nIp (by omega)) (by rw [nIc (by omega)]; exact hg), nIc (by omega)]
theorem mA6 {S : hS} {y : Nat} {V : Nat → Nat → Int32} (h : LayM S y) {i : Int32} (hi : 0 ≤ i) (hn : i.toNatClampNeg < 12) : gA (mS S y V) (y + 6) 12 i = some (V 6 i.toNatClampNeg) := by rw [gA_of (S := mS S y V) h.K6 hi (by rw [vS_n, h.n6]; exact hn), vS_I _ _ _ _ (by decide)]
theorem mT6 {S : hS} {y : Nat} {V : Nat → Nat → Int32} (h : LayM S y) {i v : Int32} (hi : 0 ≤ i) (hn : i.toNatClampNeg < 12) : sA (mS S y V) (y + 6) i v = some (mS S y (up2 V 6 i.toNatClampNeg v)) := by rw [sA_of (S := mS S y V) h.K6 hi (by rw [vS_n, h.n6]; exact hn), vS_set _ _ _ _ (by decide)]
theorem mN6 {S : hS} {y : Nat} {V : Nat → Nat → Int32} (h : LayM S y) {g : Nat} (hg : g < 12) : gA (mS S y V) (y + 6) 12 (nI g) = some (V 6 g) := by rw [mA6 h (nIp (by omega)) (by rw [nIc (by omega)]; exact hg), nIc (by omega)]
theorem mM6 {S : hS} {y : Nat} {V : Nat → Nat → Int32} (h : LayM S y) {g : Nat} {v : Int32} (hg : g < 12) : sA (mS S y V) (y + 6) (nI g) v = some (mS S y (up2 V 6 g v)) := by rw [mT6 h (nIp (by omega)) (by rw [nIc (by omega)]; exact hg), nIc (by omega)]
theorem mA7 {S : hS} {y : Nat} {V : Nat → Nat → Int32} (h : LayM S y) {i : Int32} (hi : 0 ≤ i) (hn : i.toNatClampNeg < 7) : gA (mS S y V) (y + 7) 12 i = some (V 7 i.toNatClampNeg) := by rw [gA_of (S := mS S y V) h.K7 hi (by rw [vS_n, h.n7]; exact hn), vS_I _ _ _ _ (by decide)]
theorem mT7 {S : hS} {y : Nat} {V : Nat → Nat → Int32} (h : LayM S y) {i v : Int32} (hi : 0 ≤ i) (hn : i.toNatClampNeg < 7) : sA (mS S y V) (y + 7) i v = some (mS S y (up2 V 7 i.toNatClampNeg v)) := by rw [sA_of (S := mS S y V) h.K7 hi (by rw [vS_n, h.n7]; exact hn), vS_set _ _ _ _ (by decide)]
theorem mN7 {S : hS} {y : Nat} {V : Nat → Nat → Int32} (h : LayM S y) {g : Nat} (hg : g < 7) : gA (mS S y V) (y + 7) 12 (nI g) = some (V 7 g) := by rw [mA7 h (nIp (by omega)) (by rw [nIc (by omega)]; exact hg), nIc (by omega)]
theorem mM7 {S : hS} {y : Nat} {V : Nat → Nat → Int32} (h : LayM S y) {g : Nat} {v : Int32} (hg : g < 7) : sA (mS S y V) (y + 7) (nI g) v = some (mS S y (up2 V 7 g v)) := by rw [mT7 h (nIp (by omega)) (by rw [nIc (by omega)]; exact hg), nIc (by omega)]
theorem mA8 {S : hS} {y : Nat} {V : Nat → Nat → Int32} (h : LayM S y) {i : Int32} (hi : 0 ≤ i) (hn : i.toNatClampNeg < 7) : gA (mS S y V) (y + 8) 12 i = some (V 8 i.toNatClampNeg) := by rw [gA_of (S := mS S y V) h.K8 hi (by rw [vS_n, h.n8]; exact hn), vS_I _ _ _ _ (by decide)]
theorem mT8 {S : hS} {y : Nat} {V : Nat → Nat → Int32} (h : LayM S y) {i v : Int32} (hi : 0 ≤ i) (hn : i.toNatClampNeg < 7) : sA (mS S y V) (y + 8) i v = some (mS S y (up2 V 8 i.toNatClampNeg v)) := by rw [sA_of (S := mS S y V) h.K8 hi (by rw [vS_n, h.n8]; exact hn), vS_set _ _ _ _ (by decide)]
theorem mN8 {S : hS} {y : Nat} {V : Nat → Nat → Int32} (h : LayM S y) {g : Nat} (hg : g < 7) : gA (mS S y V) (y + 8) 12 (nI g) = some (V 8 g) := by rw [mA8 h (nIp (by omega)) (by rw [nIc (by omega)]; exact hg), nIc (by omega)]
theorem mM8 {S : hS} {y : Nat} {V : Nat → Nat → Int32} (h : LayM S y) {g : Nat} {v : Int32} (hg : g < 7) : sA (mS S y V) (y + 8) (nI g) v = some (mS S y (up2 V 8 g v)) := by rw [mT8 h (nIp (by omega)) (by rw [nIc (by omega)]; exact hg), nIc (by omega)]
theorem mA9 {S : hS} {y : Nat} {V : Nat → Nat → Int32} (h : LayM S y) {i : Int32} (hi : 0 ≤ i) (hn : i.toNatClampNeg < 7) : gA (mS S y V) (y + 9) 12 i = some (V 9 i.toNatClampNeg) := by rw [gA_of (S := mS S y V) h.K9 hi (by rw [vS_n, h.n9]; exact hn), vS_I _ _ _ _ (by decide)]
theorem mT9 {S : hS} {y : Nat} {V : Nat → Nat → Int32} (h : LayM S y) {i v : Int32} (hi : 0 ≤ i) (hn : i.toNatClampNeg < 7) : sA (mS S y V) (y + 9) i v = some (mS S y (up2 V 9 i.toNatClampNeg v)) := by rw [sA_of (S := mS S y V) h.K9 hi (by rw [vS_n, h.n9]; exact hn), vS_set _ _ _ _ (by decide)]
theorem mN9 {S : hS} {y : Nat} {V : Nat → Nat → Int32} (h : LayM S y) {g : Nat} (hg : g < 7) : gA (mS S y V) (y + 9) 12 (nI g) = some (V 9 g) := by rw [mA9 h (nIp (by omega)) (by rw [nIc (by omega)]; exact hg), nIc (by omega)]
theorem mM9 {S : hS} {y : Nat} {V : Nat → Nat → Int32} (h : LayM S y) {g : Nat} {v : Int32} (hg : g < 7) : sA (mS S y V) (y + 9) (nI g) v = some (mS S y (up2 V 9 g v)) := by rw [mT9 h (nIp (by omega)) (by rw [nIc (by omega)]; exact hg), nIc (by omega)]
theorem mA10 {S : hS} {y : Nat} {V : Nat → Nat → Int32} (h : LayM S y) {i : Int32} (hi : 0 ≤ i) (hn : i.toNatClampNeg < 8) : gA (mS S y V) (y + 10) 12 i = some (V 10 i.toNatClampNeg) := by rw [gA_of (S := mS S y V) h.K10 hi (by rw [vS_n, h.n10]; exact hn), vS_I _ _ _ _ (by decide)]
theorem mT10 {S : hS} {y : Nat} {V : Nat → Nat → Int32} (h : LayM S y) {i v : Int32} (hi : 0 ≤ i) (hn : i.toNatClampNeg < 8) : sA (mS S y V) (y + 10) i v = some (mS S y (up2 V 10 i.toNatClampNeg v)) := by rw [sA_of (S := mS S y V) h.K10 hi (by rw [vS_n, h.n10]; exact hn), vS_set _ _ _ _ (by decide)]
theorem mN10 {S : hS} {y : Nat} {V : Nat → Nat → Int32} (h : LayM S y) {g : Nat} (hg : g < 8) : gA (mS S y V) (y + 10) 12 (nI g) = some (V 10 g) := by rw [mA10 h (nIp (by omega)) (by rw [nIc (by omega)]; exact hg), nIc (by omega)]
theorem mM10 {S : hS} {y : Nat} {V : Nat → Nat → Int32} (h : LayM S y) {g : Nat} {v : Int32} (hg : g < 8) : sA (mS S y V) (y + 10) (nI g) v = some (mS S y (up2 V 10 g v)) := by rw [mT10 h (nIp (by omega)) (by rw [nIc (by omega)]; exact hg), nIc (by omega)]
theorem mA11 {S : hS} {y : Nat} {V : Nat → Nat → Int32} (h : LayM S y) {i : Int32} (hi : 0 ≤ i) (hn : i.toNatClampNeg < 8) : gA (mS S y V) (y + 11) 12 i = some (V 11 i.toNatClampNeg) := by rw [gA_of (S := mS S y V) h.K11 hi (by rw [vS_n, h.n11]; exact hn), vS_I _ _ _ _ (by decide)]
theorem mT11 {S : hS} {y : Nat} {V : Nat → Nat → Int32} (h : LayM S y) {i v : Int32} (hi : 0 ≤ i) (hn : i.toNatClampNeg < 8) : sA (mS S y V) (y + 11) i v = some (mS S y (up2 V 11 i.toNatClampNeg v)) := by rw [sA_of (S := mS S y V) h.K11 hi (by rw [vS_n, h.n11]; exact hn), vS_set _ _ _ _ (by decide)]
theorem mN11 {S : hS} {y : Nat} {V : Nat → Nat → Int32} (h : LayM S y) {g : Nat} (hg : g < 8) : gA (mS S y V) (y + 11) 12 (nI g) = some (V 11 g) := by rw [mA11 h (nIp (by omega)) (by rw [nIc (by omega)]; exact hg), nIc (by omega)]
theorem mM11 {S : hS} {y : Nat} {V : Nat → Nat → Int32} (h : LayM S y) {g : Nat} {v : Int32} (hg : g < 8) : sA (mS S y V) (y + 11) (nI g) v = some (mS S y (up2 V 11 g v)) := by rw [mT11 h (nIp (by omega)) (by rw [nIc (by omega)]; exact hg), nIc (by omega)]
theorem mA12 {S : hS} {y : Nat} {V : Nat → Nat → Int32} (h : LayM S y) {i : Int32} (hi : 0 ≤ i) (hn : i.toNatClampNeg < 120) : gA (mS S y V) (y + 12) 12 i = some (V 12 i.toNatClampNeg) := by rw [gA_of (S := mS S y V) h.K12 hi (by rw [vS_n, h.n12]; exact hn), vS_I _ _ _ _ (by decide)]
theorem mT12 {S : hS} {y : Nat} {V : Nat → Nat → Int32} (h : LayM S y) {i v : Int32} (hi : 0 ≤ i) (hn : i.toNatClampNeg < 120) : sA (mS S y V) (y + 12) i v = some (mS S y (up2 V 12 i.toNatClampNeg v)) := by rw [sA_of (S := mS S y V) h.K12 hi (by rw [vS_n, h.n12]; exact hn), vS_set _ _ _ _ (by decide)]
theorem mN12 {S : hS} {y : Nat} {V : Nat → Nat → Int32} (h : LayM S y) {g : Nat} (hg : g < 120) : gA (mS S y V) (y + 12) 12 (nI g) = some (V 12 g) := by rw [mA12 h (nIp (by omega)) (by rw [nIc (by omega)]; exact hg), nIc (by omega)]
theorem mM12 {S : hS} {y : Nat} {V : Nat → Nat → Int32} (h : LayM S y) {g : Nat} {v : Int32} (hg : g < 120) : sA (mS S y V) (y + 12) (nI g) v = some (mS S y (up2 V 12 g v)) := by rw [mT12 h (nIp (by omega)) (by rw [nIc (by omega)]; exact hg), nIc (by omega)]
theorem mA13 {S : hS} {y : Nat} {V : Nat → Nat → Int32} (h : LayM S y) {i : Int32} (hi : 0 ≤ i) (hn : i.toNatClampNeg < 6) : gA (mS S y V) (y + 13) 12 i = some (V 13 i.toNatClampNeg) := by rw [gA_of (S := mS S y V) h.K13 hi (by rw [vS_n, h.n13]; exact hn), vS_I _ _ _ _ (by decide)]
theorem mT13 {S : hS} {y : Nat} {V : Nat → Nat → Int32} (h : LayM S y) {i v : Int32} (hi : 0 ≤ i) (hn : i.toNatClampNeg < 6) : sA (mS S y V) (y + 13) i v = some (mS S y (up2 V 13 i.toNatClampNeg v)) := by rw [sA_of (S := mS S y V) h.K13 hi (by rw [vS_n, h.n13]; exact hn), vS_set _ _ _ _ (by decide)]
theorem mN13 {S : hS} {y : Nat} {V : Nat → Nat → Int32} (h : LayM S y) {g : Nat} (hg : g < 6) : gA (mS S y V) (y + 13) 12 (nI g) = some (V 13 g) := by rw [mA13 h (nIp (by omega)) (by rw [nIc (by omega)]; exact hg), nIc (by omega)]
theorem mM13 {S : hS} {y : Nat} {V : Nat → Nat → Int32} (h : LayM S y) {g : Nat} {v : Int32} (hg : g < 6) : sA (mS S y V) (y + 13) (nI g) v = some (mS S y (up2 V 13 g v)) := by rw [mT13 h (nIp (by omega)) (by rw [nIc (by omega)]; exact hg), nIc (by omega)]
theorem mA14 {S : hS} {y : Nat} {V : Nat → Nat → Int32} (h : LayM S y) {i : Int32} (hi : 0 ≤ i) (hn : i.toNatClampNeg < 80) : gA (mS S y V) (y + 14) 12 i = some (V 14 i.toNatClampNeg) := by rw [gA_of (S := mS S y V) h.K14 hi (by rw [vS_n, h.n14]; exact hn), vS_I _ _ _ _ (by decide)]
theorem mT14 {S : hS} {y : Nat} {V : Nat → Nat → Int32} (h : LayM S y) {i v : Int32} (hi : 0 ≤ i) (hn : i.toNatClampNeg < 80) : sA (mS S y V) (y + 14) i v = some (mS S y (up2 V 14 i.toNatClampNeg v)) := by rw [sA_of (S := mS S y V) h.K14 hi (by rw [vS_n, h.n14]; exact hn), vS_set _ _ _ _ (by decide)]
theorem mN14 {S : hS} {y : Nat} {V : Nat → Nat → Int32} (h : LayM S y) {g : Nat} (hg : g < 80) : gA (mS S y V) (y + 14) 12 (nI g) = some (V 14 g) := by rw [mA14 h (nIp (by omega)) (by rw [nIc (by omega)]; exact hg), nIc (by omega)]
theorem mM14 {S : hS} {y : Nat} {V : Nat → Nat → Int32} (h : LayM S y) {g : Nat} {v : Int32} (hg : g < 80) : sA (mS S y V) (y + 14) (nI g) v = some (mS S y (up2 V 14 g v)) := by rw [mT14 h (nIp (by omega)) (by rw [nIc (by omega)]; exact hg), nIc (by omega)]
theorem mA15 {S : hS} {y : Nat} {V : Nat → Nat → Int32} (h : LayM S y) {i : Int32} (hi : 0 ≤ i) (hn : i.toNatClampNeg < 12) : gA (mS S y V) (y + 15) 12 i = some (V 15 i.toNatClampNeg) := by rw [gA_of (S := mS S y V) h.K15 hi (by rw [vS_n, h.n15]; exact hn), vS_I _ _ _ _ (by decide)]
theorem mT15 {S : hS} {y : Nat} {V : Nat → Nat → Int32} (h : LayM S y) {i v : Int32} (hi : 0 ≤ i) (hn : i.toNatClampNeg < 12) : sA (mS S y V) (y + 15) i v = some (mS S y (up2 V 15 i.toNatClampNeg v)) := by rw [sA_of (S := mS S y V) h.K15 hi (by rw [vS_n, h.n15]; exact hn), vS_set _ _ _ _ (by decide)]
theorem mN15 {S : hS} {y : Nat} {V : Nat → Nat → Int32} (h : LayM S y) {g : Nat} (hg : g < 12) : gA (mS S y V) (y + 15) 12 (nI g) = some (V 15 g) := by rw [mA15 h (nIp (by omega)) (by rw [nIc (by omega)]; exact hg), nIc (by omega)]
theorem mM15 {S : hS} {y : Nat} {V : Nat → Nat → Int32} (h : LayM S y) {g : Nat} {v : Int32} (hg : g < 12) : sA (mS S y V) (y + 15) (nI g) v = some (mS S y (up2 V 15 g v)) := by rw [mT15 h (nIp (by omega)) (by rw [nIc (by omega)]; exact hg), nIc (by omega)]
theorem mA16 {S : hS} {y : Nat} {V : Nat → Nat → Int32} (h : LayM S y) {i : Int32} (hi : 0 ≤ i) (hn : i.toNatClampNeg < 12) : gA (mS S y V) (y + 16) 12 i = some (V 16 i.toNatClampNeg) := by rw [gA_of (S := mS S y V) h.K16 hi (by rw [vS_n, h.n16]; exact hn), vS_I _ _ _ _ (by decide)]
theorem mT16 {S : hS} {y : Nat} {V : Nat → Nat → Int32} (h : LayM S y) {i v : Int32} (hi : 0 ≤ i) (hn : i.toNatClampNeg < 12) : sA (mS S y V) (y + 16) i v = some (mS S y (up2 V 16 i.toNatClampNeg v)) := by rw [sA_of (S := mS S y V) h.K16 hi (by rw [vS_n, h.n16]; exact hn), vS_set _ _ _ _ (by decide)]
theorem mN16 {S : hS} {y : Nat} {V : Nat → Nat → Int32} (h : LayM S y) {g : Nat} (hg : g < 12) : gA (mS S y V) (y + 16) 12 (nI g) = some (V 16 g) := by rw [mA16 h (nIp (by omega)) (by rw [nIc (by omega)]; exact hg), nIc (by omega)]
theorem mM16 {S : hS} {y : Nat} {V : Nat → Nat → Int32} (h : LayM S y) {g : Nat} {v : Int32} (hg : g < 12) : sA (mS S y V) (y + 16) (nI g) v = some (mS S y (up2 V 16 g v)) := by rw [mT16 h (nIp (by omega)) (by rw [nIc (by omega)]; exact hg), nIc (by omega)]
theorem mA17 {S : hS} {y : Nat} {V : Nat → Nat → Int32} (h : LayM S y) {i : Int32} (hi : 0 ≤ i) (hn : i.toNatClampNeg < 12) : gA (mS S y V) (y + 17) 12 i = some (V 17 i.toNatClampNeg) := by rw [gA_of (S := mS S y V) h.K17 hi (by rw [vS_n, h.n17]; exact hn), vS_I _ _ _ _ (by decide)]
theorem mT17 {S : hS} {y : Nat} {V : Nat → Nat → Int32} (h : LayM S y) {i v : Int32} (hi : 0 ≤ i) (hn : i.toNatClampNeg < 12) : sA (mS S y V) (y + 17) i v = some (mS S y (up2 V 17 i.toNatClampNeg v)) := by rw [sA_of (S := mS S y V) h.K17 hi (by rw [vS_n, h.n17]; exact hn), vS_set _ _ _ _ (by decide)]
theorem mN17 {S : hS} {y : Nat} {V : Nat → Nat → Int32} (h : LayM S y) {g : Nat} (hg : g < 12) : gA (mS S y V) (y + 17) 12 (nI g) = some (V 17 g) := by rw [mA17 h (nIp (by omega)) (by rw [nIc (by omega)]; exact hg), nIc (by omega)]
theorem mM17 {S : hS} {y : Nat} {V : Nat → Nat → Int32} (h : LayM S y) {g : Nat} {v : Int32} (hg : g < 12) : sA (mS S y V) (y + 17) (nI g) v = some (mS S y (up2 V 17 g v)) := by rw [mT17 h (nIp (by omega)) (by rw [nIc (by omega)]; exact hg), nIc (by omega)]
theorem mA18 {S : hS} {y : Nat} {V : Nat → Nat → Int32} (h : LayM S y) {i : Int32} (hi : 0 ≤ i) (hn : i.toNatClampNeg < 7) : gA (mS S y V) (y + 18) 12 i = some (V 18 i.toNatClampNeg) := by rw [gA_of (S := mS S y V) h.K18 hi (by rw [vS_n, h.n18]; exact hn), vS_I _ _ _ _ (by decide)]
theorem mT18 {S : hS} {y : Nat} {V : Nat → Nat → Int32} (h : LayM S y) {i v : Int32} (hi : 0 ≤ i) (hn : i.toNatClampNeg < 7) : sA (mS S y V) (y + 18) i v = some (mS S y (up2 V 18 i.toNatClampNeg v)) := by rw [sA_of (S := mS S y V) h.K18 hi (by rw [vS_n, h.n18]; exact hn), vS_set _ _ _ _ (by decide)]
theorem mN18 {S : hS} {y : Nat} {V : Nat → Nat → Int32} (h : LayM S y) {g : Nat} (hg : g < 7) : gA (mS S y V) (y + 18) 12 (nI g) = some (V 18 g) := by rw [mA18 h (nIp (by omega)) (by rw [nIc (by omega)]; exact hg), nIc (by omega)]
theorem mM18 {S : hS} {y : Nat} {V : Nat → Nat → Int32} (h : LayM S y) {g : Nat} {v : Int32} (hg : g < 7) : sA (mS S y V) (y + 18) (nI g) v = some (mS S y (up2 V 18 g v)) := by rw [mT18 h (nIp (by omega)) (by rw [nIc (by omega)]; exact hg), nIc (by omega)]
theorem mA19 {S : hS} {y : Nat} {V : Nat → Nat → Int32} (h : LayM S y) {i : Int32} (hi : 0 ≤ i) (hn : i.toNatClampNeg < 7) : gA (mS S y V) (y + 19) 12 i = some (V 19 i.toNatClampNeg) := by rw [gA_of (S := mS S y V) h.K19 hi (by rw [vS_n, h.n19]; exact hn), vS_I _ _ _ _ (by decide)]
theorem mT19 {S : hS} {y : Nat} {V : Nat → Nat → Int32} (h : LayM S y) {i v : Int32} (hi : 0 ≤ i) (hn : i.toNatClampNeg < 7) : sA (mS S y V) (y + 19) i v = some (mS S y (up2 V 19 i.toNatClampNeg v)) := by rw [sA_of (S := mS S y V) h.K19 hi (by rw [vS_n, h.n19]; exact hn), vS_set _ _ _ _ (by decide)]
theorem mN19 {S : hS} {y : Nat} {V : Nat → Nat → Int32} (h : LayM S y) {g : Nat} (hg : g < 7) : gA (mS S y V) (y + 19) 12 (nI g) = some (V 19 g) := by rw [mA19 h (nIp (by omega)) (by rw [nIc (by omega)]; exact hg), nIc (by omega)]
theorem mM19 {S : hS} {y : Nat} {V : Nat → Nat → Int32} (h : LayM S y) {g : Nat} {v : Int32} (hg : g < 7) : sA (mS S y V) (y + 19) (nI g) v = some (mS S y (up2 V 19 g v)) := by rw [mT19 h (nIp (by omega)) (by rw [nIc (by omega)]; exact hg), nIc (by omega)]
theorem mA20 {S : hS} {y : Nat} {V : Nat → Nat → Int32} (h : LayM S y) {i : Int32} (hi : 0 ≤ i) (hn : i.toNatClampNeg < 7) : gA (mS S y V) (y + 20) 12 i = some (V 20 i.toNatClampNeg) := by rw [gA_of (S := mS S y V) h.K20 hi (by rw [vS_n, h.n20]; exact hn), vS_I _ _ _ _ (by decide)]
theorem mT20 {S : hS} {y : Nat} {V : Nat → Nat → Int32} (h : LayM S y) {i v : Int32} (hi : 0 ≤ i) (hn : i.toNatClampNeg < 7) : sA (mS S y V) (y + 20) i v = some (mS S y (up2 V 20 i.toNatClampNeg v)) := by rw [sA_of (S := mS S y V) h.K20 hi (by rw [vS_n, h.n20]; exact hn), vS_set _ _ _ _ (by decide)]
theorem mN20 {S : hS} {y : Nat} {V : Nat → Nat → Int32} (h : LayM S y) {g : Nat} (hg : g < 7) : gA (mS S y V) (y + 20) 12 (nI g) = some (V 20 g) := by rw [mA20 h (nIp (by omega)) (by rw [nIc (by omega)]; exact hg), nIc (by omega)]
theorem mM20 {S : hS} {y : Nat} {V : Nat → Nat → Int32} (h : LayM S y) {g : Nat} {v : Int32} (hg : g < 7) : sA (mS S y V) (y + 20) (nI g) v = some (mS S y (up2 V 20 g v)) := by rw [mT20 h (nIp (by omega)) (by rw [nIc (by omega)]; exact hg), nIc (by omega)]
theorem mA21 {S : hS} {y : Nat} {V : Nat → Nat → Int32} (h : LayM S y) {i : Int32} (hi : 0 ≤ i) (hn : i.toNatClampNeg < 8) : gA (mS S y V) (y + 21) 12 i = some (V 21 i.toNatClampNeg) := by rw [gA_of (S := mS S y V) h.K21 hi (by rw [vS_n, h.n21]; exact hn), vS_I _ _ _ _ (by decide)]
theorem mT21 {S : hS} {y : Nat} {V : Nat → Nat → Int32} (h : LayM S y) {i v : Int32} (hi : 0 ≤ i) (hn : i.toNatClampNeg < 8) : sA (mS S y V) (y + 21) i v = some (mS S y (up2 V 21 i.toNatClampNeg v)) := by rw [sA_of (S := mS S y V) h.K21 hi (by rw [vS_n, h.n21]; exact hn), vS_set _ _ _ _ (by decide)]
theorem mN21 {S : hS} {y : Nat} {V : Nat → Nat → Int32} (h : LayM S y) {g : Nat} (hg : g < 8) : gA (mS S y V) (y + 21) 12 (nI g) = some (V 21 g) := by rw [mA21 h (nIp (by omega)) (by rw [nIc (by omega)]; exact hg), nIc (by omega)]
theorem mM21 {S : hS} {y : Nat} {V : Nat → Nat → Int32} (h : LayM S y) {g : Nat} {v : Int32} (hg : g < 8) : sA (mS S y V) (y + 21) (nI g) v = some (mS S y (up2 V 21 g v)) := by rw [mT21 h (nIp (by omega)) (by rw [nIc (by omega)]; exact hg), nIc (by omega)]
theorem mA22 {S : hS} {y : Nat} {V : Nat → Nat → Int32} (h : LayM S y) {i : Int32} (hi : 0 ≤ i) (hn : i.toNatClampNeg < 8) : gA (mS S y V) (y + 22) 12 i = some (V 22 i.toNatClampNeg) := by rw [gA_of (S := mS S y V) h.K22 hi (by rw [vS_n, h.n22]; exact hn), vS_I _ _ _ _ (by decide)]
theorem mT22 {S : hS} {y : Nat} {V : Nat → Nat → Int32} (h : LayM S y) {i v : Int32} (hi : 0 ≤ i) (hn : i.toNatClampNeg < 8) : sA (mS S y V) (y + 22) i v = some (mS S y (up2 V 22 i.toNatClampNeg v)) := by rw [sA_of (S := mS S y V) h.K22 hi (by rw [vS_n, h.n22]; exact hn), vS_set _ _ _ _ (by decide)]
theorem mN22 {S : hS} {y : Nat} {V : Nat → Nat → Int32} (h : LayM S y) {g : Nat} (hg : g < 8) : gA (mS S y V) (y + 22) 12 (nI g) = some (V 22 g) := by rw [mA22 h (nIp (by omega)) (by rw [nIc (by omega)]; exact hg), nIc (by omega)]
theorem mM22 {S : hS} {y : Nat} {V : Nat → Nat → Int32} (h : LayM S y) {g : Nat} {v : Int32} (hg : g < 8) : sA (mS S y V) (y + 22) (nI g) v = some (mS S y (up2 V 22 g v)) := by rw [mT22 h (nIp (by omega)) (by rw [nIc (by omega)]; exact hg), nIc (by omega)]
theorem mA24 {S : hS} {y : Nat} {V : Nat → Nat → Int32} (h : LayM S y) {i : Int32} (hi : 0 ≤ i) (hn : i.toNatClampNeg < 1800) : gA (mS S y V) (y + 24) 12 i = some (V 24 i.toNatClampNeg) := by rw [gA_of (S := mS S y V) h.K24 hi (by rw [vS_n, h.n24]; exact hn), vS_I _ _ _ _ (by decide)]
theorem mT24 {S : hS} {y : Nat} {V : Nat → Nat → Int32} (h : LayM S y) {i v : Int32} (hi : 0 ≤ i) (hn : i.toNatClampNeg < 1800) : sA (mS S y V) (y + 24) i v = some (mS S y (up2 V 24 i.toNatClampNeg v)) := by rw [sA_of (S := mS S y V) h.K24 hi (by rw [vS_n, h.n24]; exact hn), vS_set _ _ _ _ (by decide)]
theorem mN24 {S : hS} {y : Nat} {V : Nat → Nat → Int32} (h : LayM S y) {g : Nat} (hg : g < 1800) : gA (mS S y V) (y + 24) 12 (nI g) = some (V 24 g) := by rw [mA24 h (nIp (by omega)) (by rw [nIc (by omega)]; exact hg), nIc (by omega)]
theorem mM24 {S : hS} {y : Nat} {V : Nat → Nat → Int32} (h : LayM S y) {g : Nat} {v : Int32} (hg : g < 1800) : sA (mS S y V) (y + 24) (nI g) v = some (mS S y (up2 V 24 g v)) := by rw [mT24 h (nIp (by omega)) (by rw [nIc (by omega)]; exact hg), nIc (by omega)]
theorem mA25 {S : hS} {y : Nat} {V : Nat → Nat → Int32} (h : LayM S y) {i : Int32} (hi : 0 ≤ i) (hn : i.toNatClampNeg < 1800) : gA (mS S y V) (y + 25) 12 i = some (V 25 i.toNatClampNeg) := by rw [gA_of (S := mS S y V) h.K25 hi (by rw [vS_n, h.n25]; exact hn), vS_I _ _ _ _ (by decide)]
theorem mT25 {S : hS} {y : Nat} {V : Nat → Nat → Int32} (h : LayM S y) {i v : Int32} (hi : 0 ≤ i) (hn : i.toNatClampNeg < 1800) : sA (mS S y V) (y + 25) i v = some (mS S y (up2 V 25 i.toNatClampNeg v)) := by rw [sA_of (S := mS S y V) h.K25 hi (by rw [vS_n, h.n25]; exact hn), vS_set _ _ _ _ (by decide)]
theorem mN25 {S : hS} {y : Nat} {V : Nat → Nat → Int32} (h : LayM S y) {g : Nat} (hg : g < 1800) : gA (mS S y V) (y + 25) 12 (nI g) = some (V 25 g) := by rw [mA25 h (nIp (by omega)) (by rw [nIc (by omega)]; exact hg), nIc (by omega)]
theorem mM25 {S : hS} {y : Nat} {V : Nat → Nat → Int32} (h : LayM S y) {g : Nat} {v : Int32} (hg : g < 1800) : sA (mS S y V) (y + 25) (nI g) v = some (mS S y (up2 V 25 g v)) := by rw [mT25 h (nIp (by omega)) (by rw [nIc (by omega)]; exact hg), nIc (by omega)]
theorem mA26 {S : hS} {y : Nat} {V : Nat → Nat → Int32} (h : LayM S y) {i : Int32} (hi : 0 ≤ i) (hn : i.toNatClampNeg < 6) : gA (mS S y V) (y + 26) 12 i = some (V 26 i.toNatClampNeg) := by rw [gA_of (S := mS S y V) h.K26 hi (by rw [vS_n, h.n26]; exact hn), vS_I _ _ _ _ (by decide)]
theorem mT26 {S : hS} {y : Nat} {V : Nat → Nat → Int32} (h : LayM S y) {i v : Int32} (hi : 0 ≤ i) (hn : i.toNatClampNeg < 6) : sA (mS S y V) (y + 26) i v = some (mS S y (up2 V 26 i.toNatClampNeg v)) := by rw [sA_of (S := mS S y V) h.K26 hi (by rw [vS_n, h.n26]; exact hn), vS_set _ _ _ _ (by decide)]
theorem mN26 {S : hS} {y : Nat} {V : Nat → Nat → Int32} (h : LayM S y) {g : Nat} (hg : g < 6) : gA (mS S y V) (y + 26) 12 (nI g) = some (V 26 g) := by rw [mA26 h (nIp (by omega)) (by rw [nIc (by omega)]; exact hg), nIc (by omega)]
theorem mM26 {S : hS} {y : Nat} {V : Nat → Nat → Int32} (h : LayM S y) {g : Nat} {v : Int32} (hg : g < 6) : sA (mS S y V) (y + 26) (nI g) v = some (mS S y (up2 V 26 g v)) := by rw [mT26 h (nIp (by omega)) (by rw [nIc (by omega)]; exact hg), nIc (by omega)]
theorem mA27 {S : hS} {y : Nat} {V : Nat → Nat → Int32} (h : LayM S y) {i : Int32} (hi : 0 ≤ i) (hn : i.toNatClampNeg < 72) : gA (mS S y V) (y + 27) 12 i = some (V 27 i.toNatClampNeg) := by rw [gA_of (S := mS S y V) h.K27 hi (by rw [vS_n, h.n27]; exact hn), vS_I _ _ _ _ (by decide)]
theorem mT27 {S : hS} {y : Nat} {V : Nat → Nat → Int32} (h : LayM S y) {i v : Int32} (hi : 0 ≤ i) (hn : i.toNatClampNeg < 72) : sA (mS S y V) (y + 27) i v = some (mS S y (up2 V 27 i.toNatClampNeg v)) := by rw [sA_of (S := mS S y V) h.K27 hi (by rw [vS_n, h.n27]; exact hn), vS_set _ _ _ _ (by decide)]
theorem mN27 {S : hS} {y : Nat} {V : Nat → Nat → Int32} (h : LayM S y) {g : Nat} (hg : g < 72) : gA (mS S y V) (y + 27) 12 (nI g) = some (V 27 g) := by rw [mA27 h (nIp (by omega)) (by rw [nIc (by omega)]; exact hg), nIc (by omega)]
theorem mM27 {S : hS} {y : Nat} {V : Nat → Nat → Int32} (h : LayM S y) {g : Nat} {v : Int32} (hg : g < 72) : sA (mS S y V) (y + 27) (nI g) v = some (mS S y (up2 V 27 g v)) := by rw [mT27 h (nIp (by omega)) (by rw [nIc (by omega)]; exact hg), nIc (by omega)]
theorem mA28 {S : hS} {y : Nat} {V : Nat → Nat → Int32} (h : LayM S y) {i : Int32} (hi : 0 ≤ i) (hn : i.toNatClampNeg < 72) : gA (mS S y V) (y + 28) 12 i = some (V 28 i.toNatClampNeg) := by rw [gA_of (S := mS S y V) h.K28 hi (by rw [vS_n, h.n28]; exact hn), vS_I _ _ _ _ (by decide)]
theorem mT28 {S : hS} {y : Nat} {V : Nat → Nat → Int32} (h : LayM S y) {i v : Int32} (hi : 0 ≤ i) (hn : i.toNatClampNeg < 72) : sA (mS S y V) (y + 28) i v = some (mS S y (up2 V 28 i.toNatClampNeg v)) := by rw [sA_of (S := mS S y V) h.K28 hi (by rw [vS_n, h.n28]; exact hn), vS_set _ _ _ _ (by decide)]
theorem mN28 {S : hS} {y : Nat} {V : Nat → Nat → Int32} (h : LayM S y) {g : Nat} (hg : g < 72) : gA (mS S y V) (y + 28) 12 (nI g) = some (V 28 g) := by rw [mA28 h (nIp (by omega)) (by rw [nIc (by omega)]; exact hg), nIc (by omega)]
theorem mM28 {S : hS} {y : Nat} {V : Nat → Nat → Int32} (h : LayM S y) {g : Nat} {v : Int32} (hg : g < 72) : sA (mS S y V) (y + 28) (nI g) v = some (mS S y (up2 V 28 g v)) := by rw [mT28 h (nIp (by omega)) (by rw [nIc (by omega)]; exact hg), nIc (by omega)]
theorem mA29 {S : hS} {y : Nat} {V : Nat → Nat → Int32} (h : LayM S y) {i : Int32} (hi : 0 ≤ i) (hn : i.toNatClampNeg < 72) : gA (mS S y V) (y + 29) 12 i = some (V 29 i.toNatClampNeg) := by rw [gA_of (S := mS S y V) h.K29 hi (by rw [vS_n, h.n29]; exact hn), vS_I _ _ _ _ (by decide)]
theorem mT29 {S : hS} {y : Nat} {V : Nat → Nat → Int32} (h : LayM S y) {i v : Int32} (hi : 0 ≤ i) (hn : i.toNatClampNeg < 72) : sA (mS S y V) (y + 29) i v = some (mS S y (up2 V 29 i.toNatClampNeg v)) := by rw [sA_of (S := mS S y V) h.K29 hi (by rw [vS_n, h.n29]; exact hn), vS_set _ _ _ _ (by decide)]
theorem mN29 {S : hS} {y : Nat} {V : Nat → Nat → Int32} (h : LayM S y) {g : Nat} (hg : g < 72) : gA (mS S y V) (y + 29) 12 (nI g) = some (V 29 g) := by rw [mA29 h (nIp (by omega)) (by rw [nIc (by omega)]; exact hg), nIc (by omega)]
theorem mM29 {S : hS} {y : Nat} {V : Nat → Nat → Int32} (h : LayM S y) {g : Nat} {v : Int32} (hg : g < 72) : sA (mS S y V) (y + 29) (nI g) v = some (mS S y (up2 V 29 g v)) := by rw [mT29 h (nIp (by omega)) (by rw [nIc (by omega)]; exact hg), nIc (by omega)]
theorem mA30 {S : hS} {y : Nat} {V : Nat → Nat → Int32} (h : LayM S y) {i : Int32} (hi : 0 ≤ i) (hn : i.toNatClampNeg < 402) : gA (mS S y V) (y + 30) 12 i = some (V 30 i.toNatClampNeg) := by rw [gA_of (S := mS S y V) h.K30 hi (by rw [vS_n, h.n30]; exact hn), vS_I _ _ _ _ (by decide)]
theorem mT30 {S : hS} {y : Nat} {V : Nat → Nat → Int32} (h : LayM S y) {i v : Int32} (hi : 0 ≤ i) (hn : i.toNatClampNeg < 402) : sA (mS S y V) (y + 30) i v = some (mS S y (up2 V 30 i.toNatClampNeg v)) := by rw [sA_of (S := mS S y V) h.K30 hi (by rw [vS_n, h.n30]; exact hn), vS_set _ _ _ _ (by decide)]
theorem mN30 {S : hS} {y : Nat} {V : Nat → Nat → Int32} (h : LayM S y) {g : Nat} (hg : g < 402) : gA (mS S y V) (y + 30) 12 (nI g) = some (V 30 g) := by rw [mA30 h (nIp (by omega)) (by rw [nIc (by omega)]; exact hg), nIc (by omega)]
theorem mM30 {S : hS} {y : Nat} {V : Nat → Nat → Int32} (h : LayM S y) {g : Nat} {v : Int32} (hg : g < 402) : sA (mS S y V) (y + 30) (nI g) v = some (mS S y (up2 V 30 g v)) := by rw [mT30 h (nIp (by omega)) (by rw [nIc (by omega)]; exact hg), nIc (by omega)]
theorem mA33 {S : hS} {y : Nat} {V : Nat → Nat → Int32} (h : LayM S y) {i : Int32} (hi : 0 ≤ i) (hn : i.toNatClampNeg < 80) : gA (mS S y V) (y + 33) 12 i = some (V 33 i.toNatClampNeg) := by rw [gA_of (S := mS S y V) h.K33 hi (by rw [vS_n, h.n33]; exact hn), vS_I _ _ _ _ (by decide)]
theorem mT33 {S : hS} {y : Nat} {V : Nat → Nat → Int32} (h : LayM S y) {i v : Int32} (hi : 0 ≤ i) (hn : i.toNatClampNeg < 80) : sA (mS S y V) (y + 33) i v = some (mS S y (up2 V 33 i.toNatClampNeg v)) := by rw [sA_of (S := mS S y V) h.K33 hi (by rw [vS_n, h.n33]; exact hn), vS_set _ _ _ _ (by decide)]
theorem mN33 {S : hS} {y : Nat} {V : Nat → Nat → Int32} (h : LayM S y) {g : Nat} (hg : g < 80) : gA (mS S y V) (y + 33) 12 (nI g) = some (V 33 g) := by rw [mA33 h (nIp (by omega)) (by rw [nIc (by omega)]; exact hg), nIc (by omega)]
theorem mM33 {S : hS} {y : Nat} {V : Nat → Nat → Int32} (h : LayM S y) {g : Nat} {v : Int32} (hg : g < 80) : sA (mS S y V) (y + 33) (nI g) v = some (mS S y (up2 V 33 g v)) := by rw [mT33 h (nIp (by omega)) (by rw [nIc (by omega)]; exact hg), nIc (by omega)]
theorem mA34 {S : hS} {y : Nat} {V : Nat → Nat → Int32} (h : LayM S y) {i : Int32} (hi : 0 ≤ i) (hn : i.toNatClampNeg < 14) : gA (mS S y V) (y + 34) 12 i = some (V 34 i.toNatClampNeg) := by rw [gA_of (S := mS S y V) h.K34 hi (by rw [vS_n, h.n34]; exact hn), vS_I _ _ _ _ (by decide)]
theorem mT34 {S : hS} {y : Nat} {V : Nat → Nat → Int32} (h : LayM S y) {i v : Int32} (hi : 0 ≤ i) (hn : i.toNatClampNeg < 14) : sA (mS S y V) (y + 34) i v = some (mS S y (up2 V 34 i.toNatClampNeg v)) := by rw [sA_of (S := mS S y V) h.K34 hi (by rw [vS_n, h.n34]; exact hn), vS_set _ _ _ _ (by decide)]
theorem mN34 {S : hS} {y : Nat} {V : Nat → Nat → Int32} (h : LayM S y) {g : Nat} (hg : g < 14) : gA (mS S y V) (y + 34) 12 (nI g) = some (V 34 g) := by rw [mA34 h (nIp (by omega)) (by rw [nIc (by omega)]; exact hg), nIc (by omega)]
theorem mM34 {S : hS} {y : Nat} {V : Nat → Nat → Int32} (h : LayM S y) {g : Nat} {v : Int32} (hg : g < 14) : sA (mS S y V) (y + 34) (nI g) v = some (mS S y (up2 V 34 g v)) := by rw [mT34 h (nIp (by omega)) (by rw [nIc (by omega)]; exact hg), nIc (by omega)]
theorem mA35 {S : hS} {y : Nat} {V : Nat → Nat → Int32} (h : LayM S y) {i : Int32} (hi : 0 ≤ i) (hn : i.toNatClampNeg < 80) : gA (mS S y V) (y + 35) 12 i = some (V 35 i.toNatClampNeg) := by rw [gA_of (S := mS S y V) h.K35 hi (by rw [vS_n, h.n35]; exact hn), vS_I _ _ _ _ (by decide)]
theorem mT35 {S : hS} {y : Nat} {V : Nat → Nat → Int32} (h : LayM S y) {i v : Int32} (hi : 0 ≤ i) (hn : i.toNatClampNeg < 80) : sA (mS S y V) (y + 35) i v = some (mS S y (up2 V 35 i.toNatClampNeg v)) := by rw [sA_of (S := mS S y V) h.K35 hi (by rw [vS_n, h.n35]; exact hn), vS_set _ _ _ _ (by decide)]
theorem mN35 {S : hS} {y : Nat} {V : Nat → Nat → Int32} (h : LayM S y) {g : Nat} (hg : g < 80) : gA (mS S y V) (y + 35) 12 (nI g) = some (V 35 g) := by rw [mA35 h (nIp (by omega)) (by rw [nIc (by omega)]; exact hg), nIc (by omega)]
theorem mM35 {S : hS} {y : Nat} {V : Nat → Nat → Int32} (h : LayM S y) {g : Nat} {v : Int32} (hg : g < 80) : sA (mS S y V) (y + 35) (nI g) v = some (mS S y (up2 V 35 g v)) := by rw [mT35 h (nIp (by omega)) (by rw [nIc (by omega)]; exact hg), nIc (by omega)]
theorem mA36 {S : hS} {y : Nat} {V : Nat → Nat → Int32} (h : LayM S y) {i : Int32} (hi : 0 ≤ i) (hn : i.toNatClampNeg < 12) : gA (mS S y V) (y + 36) 12 i = some (V 36 i.toNatClampNeg) := by rw [gA_of (S := mS S y V) h.K36 hi (by rw [vS_n, h.n36]; exact hn), vS_I _ _ _ _ (by decide)]
theorem mT36 {S : hS} {y : Nat} {V : Nat → Nat → Int32} (h : LayM S y) {i v : Int32} (hi : 0 ≤ i) (hn : i.toNatClampNeg < 12) : sA (mS S y V) (y + 36) i v = some (mS S y (up2 V 36 i.toNatClampNeg v)) := by rw [sA_of (S := mS S y V) h.K36 hi (by rw [vS_n, h.n36]; exact hn), vS_set _ _ _ _ (by decide)]
theorem mN36 {S : hS} {y : Nat} {V : Nat → Nat → Int32} (h : LayM S y) {g : Nat} (hg : g < 12) : gA (mS S y V) (y + 36) 12 (nI g) = some (V 36 g) := by rw [mA36 h (nIp (by omega)) (by rw [nIc (by omega)]; exact hg), nIc (by omega)]
theorem mM36 {S : hS} {y : Nat} {V : Nat → Nat → Int32} (h : LayM S y) {g : Nat} {v : Int32} (hg : g < 12) : sA (mS S y V) (y + 36) (nI g) v = some (mS S y (up2 V 36 g v)) := by rw [mT36 h (nIp (by omega)) (by rw [nIc (by omega)]; exact hg), nIc (by omega)]
theorem mA37 {S : hS} {y : Nat} {V : Nat → Nat → Int32} (h : LayM S y) {i : Int32} (hi : 0 ≤ i) (hn : i.toNatClampNeg < 120) : gA (mS S y V) (y + 37) 12 i = some (V 37 i.toNatClampNeg) := by rw [gA_of (S := mS S y V) h.K37 hi (by rw [vS_n, h.n37]; exact hn), vS_I _ _ _ _ (by decide)]
theorem mT37 {S : hS} {y : Nat} {V : Nat → Nat → Int32} (h : LayM S y) {i v : Int32} (hi : 0 ≤ i) (hn : i.toNatClampNeg < 120) : sA (mS S y V) (y + 37) i v = some (mS S y (up2 V 37 i.toNatClampNeg v)) := by rw [sA_of (S := mS S y V) h.K37 hi (by rw [vS_n, h.n37]; exact hn), vS_set _ _ _ _ (by decide)]
theorem mN37 {S : hS} {y : Nat} {V : Nat → Nat → Int32} (h : LayM S y) {g : Nat} (hg : g < 120) : gA (mS S y V) (y + 37) 12 (nI g) = some (V 37 g) := by rw [mA37 h (nIp (by omega)) (by rw [nIc (by omega)]; exact hg), nIc (by omega)]
theorem mM37 {S : hS} {y : Nat} {V : Nat → Nat → Int32} (h : LayM S y) {g : Nat} {v : Int32} (hg : g < 120) : sA (mS S y V) (y + 37) (nI g) v = some (mS S y (up2 V 37 g v)) := by rw [mT37 h (nIp (by omega)) (by rw [nIc (by omega)]; exact hg), nIc (by omega)]
theorem mA38 {S : hS} {y : Nat} {V : Nat → Nat → Int32} (h : LayM S y) {i : Int32} (hi : 0 ≤ i) (hn : i.toNatClampNeg < 12) : gA (mS S y V) (y + 38) 12 i = some (V 38 i.toNatClampNeg) := by rw [gA_of (S := mS S y V) h.K38 hi (by rw [vS_n, h.n38]; exact hn), vS_I _ _ _ _ (by decide)]
theorem mT38 {S : hS} {y : Nat} {V : Nat → Nat → Int32} (h : LayM S y) {i v : Int32} (hi : 0 ≤ i) (hn : i.toNatClampNeg < 12) : sA (mS S y V) (y + 38) i v = some (mS S y (up2 V 38 i.toNatClampNeg v)) := by rw [sA_of (S := mS S y V) h.K38 hi (by rw [vS_n, h.n38]; exact hn), vS_set _ _ _ _ (by decide)]
theorem mN38 {S : hS} {y : Nat} {V : Nat → Nat → Int32} (h : LayM S y) {g : Nat} (hg : g < 12) : gA (mS S y V) (y + 38) 12 (nI g) = some (V 38 g) := by rw [mA38 h (nIp (by omega)) (by rw [nIc (by omega)]; exact hg), nIc (by omega)]
theorem mM38 {S : hS} {y : Nat} {V : Nat → Nat → Int32} (h : LayM S y) {g : Nat} {v : Int32} (hg : g < 12) : sA (mS S y V) (y + 38) (nI g) v = some (mS S y (up2 V 38 g v)) := by rw [mT38 h (nIp (by omega)) (by rw [nIc (by omega)]; exact hg), nIc (by omega)]
theorem mA40 {S : hS} {y : Nat} {V : Nat → Nat → Int32} (h : LayM S y) {i : Int32} (hi : 0 ≤ i) (hn : i.toNatClampNeg < 12) : gA (mS S y V) (y + 40) 12 i = some (V 40 i.toNatClampNeg) := by rw [gA_of (S := mS S y V) h.K40 hi (by rw [vS_n, h.n40]; exact hn), vS_I _ _ _ _ (by decide)]
theorem mT40 {S : hS} {y : Nat} {V : Nat → Nat → Int32} (h : LayM S y) {i v : Int32} (hi : 0 ≤ i) (hn : i.toNatClampNeg < 12) : sA (mS S y V) (y + 40) i v = some (mS S y (up2 V 40 i.toNatClampNeg v)) := by rw [sA_of (S := mS S y V) h.K40 hi (by rw [vS_n, h.n40]; exact hn), vS_set _ _ _ _ (by decide)]
theorem mN40 {S : hS} {y : Nat} {V : Nat → Nat → Int32} (h : LayM S y) {g : Nat} (hg : g < 12) : gA (mS S y V) (y + 40) 12 (nI g) = some (V 40 g) := by rw [mA40 h (nIp (by omega)) (by rw [nIc (by omega)]; exact hg), nIc (by omega)]
theorem mM40 {S : hS} {y : Nat} {V : Nat → Nat → Int32} (h : LayM S y) {g : Nat} {v : Int32} (hg : g < 12) : sA (mS S y V) (y + 40) (nI g) v = some (mS S y (up2 V 40 g v)) := by rw [mT40 h (nIp (by omega)) (by rw [nIc (by omega)]; exact hg), nIc (by omega)]
theorem mA41 {S : hS} {y : Nat} {V : Nat → Nat → Int32} (h : LayM S y) {i : Int32} (hi : 0 ≤ i) (hn : i.toNatClampNeg < 1240) : gA (mS S y V) (y + 41) 12 i = some (V 41 i.toNatClampNeg) := by rw [gA_of (S := mS S y V) h.K41 hi (by rw [vS_n, h.n41]; exact hn), vS_I _ _ _ _ (by decide)]
theorem mT41 {S : hS} {y : Nat} {V : Nat → Nat → Int32} (h : LayM S y) {i v : Int32} (hi : 0 ≤ i) (hn : i.toNatClampNeg < 1240) : sA (mS S y V) (y + 41) i v = some (mS S y (up2 V 41 i.toNatClampNeg v)) := by rw [sA_of (S := mS S y V) h.K41 hi (by rw [vS_n, h.n41]; exact hn), vS_set _ _ _ _ (by decide)]
theorem mN41 {S : hS} {y : Nat} {V : Nat → Nat → Int32} (h : LayM S y) {g : Nat} (hg : g < 1240) : gA (mS S y V) (y + 41) 12 (nI g) = some (V 41 g) := by rw [mA41 h (nIp (by omega)) (by rw [nIc (by omega)]; exact hg), nIc (by omega)]
theorem mM41 {S : hS} {y : Nat} {V : Nat → Nat → Int32} (h : LayM S y) {g : Nat} {v : Int32} (hg : g < 1240) : sA (mS S y V) (y + 41) (nI g) v = some (mS S y (up2 V 41 g v)) := by rw [mT41 h (nIp (by omega)) (by rw [nIc (by omega)]; exact hg), nIc (by omega)]
theorem mC1_0 {S : hS} {y : Nat} {V : Nat → Nat → Int32} (h : LayM S y) : gA (mS S y V) (y + 1) 12 0 = some (V 1 0) := mN1 h (g := 0) (by decide)
theorem mD1_0 {S : hS} {y : Nat} {V : Nat → Nat → Int32} (h : LayM S y) (v : Int32) : sA (mS S y V) (y + 1) 0 v = some (mS S y (up2 V 1 0 v)) := mM1 h (g := 0) (by decide)
theorem mC1_1 {S : hS} {y : Nat} {V : Nat → Nat → Int32} (h : LayM S y) : gA (mS S y V) (y + 1) 12 1 = some (V 1 1) := mN1 h (g := 1) (by decide)
theorem mD1_1 {S : hS} {y : Nat} {V : Nat → Nat → Int32} (h : LayM S y) (v : Int32) : sA (mS S y V) (y + 1) 1 v = some (mS S y (up2 V 1 1 v)) := mM1 h (g := 1) (by decide)
theorem mC1_2 {S : hS} {y : Nat} {V : Nat → Nat → Int32} (h : LayM S y) : gA (mS S y V) (y + 1) 12 2 = some (V 1 2) := mN1 h (g := 2) (by decide)
theorem mD1_2 {S : hS} {y : Nat} {V : Nat → Nat → Int32} (h : LayM S y) (v : Int32) : sA (mS S y V) (y + 1) 2 v = some (mS S y (up2 V 1 2 v)) := mM1 h (g := 2) (by decide)
theorem mC1_3 {S : hS} {y : Nat} {V : Nat → Nat → Int32} (h : LayM S y) : gA (mS S y V) (y + 1) 12 3 = some (V 1 3) := mN1 h (g := 3) (by decide)
theorem mD1_3 {S : hS} {y : Nat} {V : Nat → Nat → Int32} (h : LayM S y) (v : Int32) : sA (mS S y V) (y + 1) 3 v = some (mS S y (up2 V 1 3 v)) := mM1 h (g := 3) (by decide)
theorem mC1_4 {S : hS} {y : Nat} {V : Nat → Nat → Int32} (h : LayM S y) : gA (mS S y V) (y + 1) 12 4 = some (V 1 4) := mN1 h (g := 4) (by decide)
theorem mD1_4 {S : hS} {y : Nat} {V : Nat → Nat → Int32} (h : LayM S y) (v : Int32) : sA (mS S y V) (y + 1) 4 v = some (mS S y (up2 V 1 4 v)) := mM1 h (g := 4) (by decide)
theorem mC1_5 {S : hS} {y : Nat} {V : Nat → Nat → Int32} (h : LayM S y) : gA (mS S y V) (y + 1) 12 5 = some (V 1 5) := mN1 h (g := 5) (by decide)
theorem mD1_5 {S : hS} {y : Nat} {V : Nat → Nat → Int32} (h : LayM S y) (v : Int32) : sA (mS S y V) (y + 1) 5 v = some (mS S y (up2 V 1 5 v)) := mM1 h (g := 5) (by decide)
theorem mC1_6 {S : hS} {y : Nat} {V : Nat → Nat → Int32} (h : LayM S y) : gA (mS S y V) (y + 1) 12 6 = some (V 1 6) := mN1 h (g := 6) (by decide)
theorem mD1_6 {S : hS} {y : Nat} {V : Nat → Nat → Int32} (h : LayM S y) (v : Int32) : sA (mS S y V) (y + 1) 6 v = some (mS S y (up2 V 1 6 v)) := mM1 h (g := 6) (by decide)
theorem mC1_7 {S : hS} {y : Nat} {V : Nat → Nat → Int32} (h : LayM S y) : gA (mS S y V) (y + 1) 12 7 = some (V 1 7) := mN1 h (g := 7) (by decide)
theorem mD1_7 {S : hS} {y : Nat} {V : Nat → Nat → Int32} (h : LayM S y) (v : Int32) : sA (mS S y V) (y + 1) 7 v = some (mS S y (up2 V 1 7 v)) := mM1 h (g := 7) (by decide)
theorem mC1_8 {S : hS} {y : Nat} {V : Nat → Nat → Int32} (h : LayM S y) : gA (mS S y V) (y + 1) 12 8 = some (V 1 8) := mN1 h (g := 8) (by decide)
theorem mD1_8 {S : hS} {y : Nat} {V : Nat → Nat → Int32} (h : LayM S y) (v : Int32) : sA (mS S y V) (y + 1) 8 v = some (mS S y (up2 V 1 8 v)) := mM1 h (g := 8) (by decide)
theorem mC1_9 {S : hS} {y : Nat} {V : Nat → Nat → Int32} (h : LayM S y) : gA (mS S y V) (y + 1) 12 9 = some (V 1 9) := mN1 h (g := 9) (by decide)
theorem mD1_9 {S : hS} {y : Nat} {V : Nat → Nat → Int32} (h : LayM S y) (v : Int32) : sA (mS S y V) (y + 1) 9 v = some (mS S y (up2 V 1 9 v)) := mM1 h (g := 9) (by decide)
theorem mC1_10 {S : hS} {y : Nat} {V : Nat → Nat → Int32} (h : LayM S y) : gA (mS S y V) (y + 1) 12 10 = some (V 1 10) := mN1 h (g := 10) (by decide)
theorem mD1_10 {S : hS} {y : Nat} {V : Nat → Nat → Int32} (h : LayM S y) (v : Int32) : sA (mS S y V) (y + 1) 10 v = some (mS S y (up2 V 1 10 v)) := mM1 h (g := 10) (by decide)
theorem mC1_11 {S : hS} {y : Nat} {V : Nat → Nat → Int32} (h : LayM S y) : gA (mS S y V) (y + 1) 12 11 = some (V 1 11) := mN1 h (g := 11) (by decide)
theorem mD1_11 {S : hS} {y : Nat} {V : Nat → Nat → Int32} (h : LayM S y) (v : Int32) : sA (mS S y V) (y + 1) 11 v = some (mS S y (up2 V 1 11 v)) := mM1 h (g := 11) (by decide)
theorem mC1_12 {S : hS} {y : Nat} {V : Nat → Nat → Int32} (h : LayM S y) : gA (mS S y V) (y + 1) 12 12 = some (V 1 12) := mN1 h (g := 12) (by decide)
theorem mD1_12 {S : hS} {y : Nat} {V : Nat → Nat → Int32} (h : LayM S y) (v : Int32) : sA (mS S y V) (y + 1) 12 v = some (mS S y (up2 V 1 12 v)) := mM1 h (g := 12) (by decide)
theorem mC1_13 {S : hS} {y : Nat} {V : Nat → Nat → Int32} (h : LayM S y) : gA (mS S y V) (y + 1) 12 13 = some (V 1 13) := mN1 h (g := 13) (by decide)
theorem mD1_13 {S : hS} {y : Nat} {V : Nat → Nat → Int32} (h : LayM S y) (v : Int32) : sA (mS S y V) (y + 1) 13 v = some (mS S y (up2 V 1 13 v)) := mM1 h (g := 13) (by decide)
theorem mC13_0 {S : hS} {y : Nat} {V : Nat → Nat → Int32} (h : LayM S y) : gA (mS S y V) (y + 13) 12 0 = some (V 13 0) := mN13 h (g := 0) (by decide)
theorem mD13_0 {S : hS} {y : Nat} {V : Nat → Nat → Int32} (h : LayM S y) (v : Int32) : sA (mS S y V) (y + 13) 0 v = some (mS S y (up2 V 13 0 v)) := mM13 h (g := 0) (by decide)
theorem mC13_1 {S : hS} {y : Nat} {V : Nat → Nat → Int32} (h : LayM S y) : gA (mS S y V) (y + 13) 12 1 = some (V 13 1) := mN13 h (g := 1) (by decide)
theorem mD13_1 {S : hS} {y : Nat} {V : Nat → Nat → Int32} (h : LayM S y) (v : Int32) : sA (mS S y V) (y + 13) 1 v = some (mS S y (up2 V 13 1 v)) := mM13 h (g := 1) (by decide)
theorem mC13_2 {S : hS} {y : Nat} {V : Nat → Nat → Int32} (h : LayM S y) : gA (mS S y V) (y + 13) 12 2 = some (V 13 2) := mN13 h (g := 2) (by decide)
theorem mD13_2 {S : hS} {y : Nat} {V : Nat → Nat → Int32} (h : LayM S y) (v : Int32) : sA (mS S y V) (y + 13) 2 v = some (mS S y (up2 V 13 2 v)) := mM13 h (g := 2) (by decide)
theorem mC13_3 {S : hS} {y : Nat} {V : Nat → Nat → Int32} (h : LayM S y) : gA (mS S y V) (y + 13) 12 3 = some (V 13 3) := mN13 h (g := 3) (by decide)
theorem mD13_3 {S : hS} {y : Nat} {V : Nat → Nat → Int32} (h : LayM S y) (v : Int32) : sA (mS S y V) (y + 13) 3 v = some (mS S y (up2 V 13 3 v)) := mM13 h (g := 3) (by decide)
theorem mC13_4 {S : hS} {y : Nat} {V : Nat → Nat → Int32} (h : LayM S y) : gA (mS S y V) (y + 13) 12 4 = some (V 13 4) := mN13 h (g := 4) (by decide)
theorem mD13_4 {S : hS} {y : Nat} {V : Nat → Nat → Int32} (h : LayM S y) (v : Int32) : sA (mS S y V) (y + 13) 4 v = some (mS S y (up2 V 13 4 v)) := mM13 h (g := 4) (by decide)
theorem mC13_5 {S : hS} {y : Nat} {V : Nat → Nat → Int32} (h : LayM S y) : gA (mS S y V) (y + 13) 12 5 = some (V 13 5) := mN13 h (g := 5) (by decide)
theorem mD13_5 {S : hS} {y : Nat} {V : Nat → Nat → Int32} (h : LayM S y) (v : Int32) : sA (mS S y V) (y + 13) 5 v = some (mS S y (up2 V 13 5 v)) := mM13 h (g := 5) (by decide)
theorem mC34_0 {S : hS} {y : Nat} {V : Nat → Nat → Int32} (h : LayM S y) : gA (mS S y V) (y + 34) 12 0 = some (V 34 0) := mN34 h (g := 0) (by decide)
theorem mD34_0 {S : hS} {y : Nat} {V : Nat → Nat → Int32} (h : LayM S y) (v : Int32) : sA (mS S y V) (y + 34) 0 v = some (mS S y (up2 V 34 0 v)) := mM34 h (g := 0) (by decide)
theorem mC34_1 {S : hS} {y : Nat} {V : Nat → Nat → Int32} (h : LayM S y) : gA (mS S y V) (y + 34) 12 1 = some (V 34 1) := mN34 h (g := 1) (by decide)
theorem mD34_1 {S : hS} {y : Nat} {V : Nat → Nat → Int32} (h : LayM S y) (v : Int32) : sA (mS S y V) (y + 34) 1 v = some (mS S y (up2 V 34 1 v)) := mM34 h (g := 1) (by decide)
theorem mC34_2 {S : hS} {y : Nat} {V : Nat → Nat → Int32} (h : LayM S y) : gA (mS S y V) (y + 34) 12 2 = some (V 34 2) := mN34 h (g := 2) (by decide)
theorem mD34_2 {S : hS} {y : Nat} {V : Nat → Nat → Int32} (h : LayM S y) (v : Int32) : sA (mS S y V) (y + 34) 2 v = some (mS S y (up2 V 34 2 v)) := mM34 h (g := 2) (by decide)
theorem mC34_3 {S : hS} {y : Nat} {V : Nat → Nat → Int32} (h : LayM S y) : gA (mS S y V) (y + 34) 12 3 = some (V 34 3) := mN34 h (g := 3) (by decide)
theorem mD34_3 {S : hS} {y : Nat} {V : Nat → Nat → Int32} (h : LayM S y) (v : Int32) : sA (mS S y V) (y + 34) 3 v = some (mS S y (up2 V 34 3 v)) := mM34 h (g := 3) (by decide)
theorem mC34_4 {S : hS} {y : Nat} {V : Nat → Nat → Int32} (h : LayM S y) : gA (mS S y V) (y + 34) 12 4 = some (V 34 4) := mN34 h (g := 4) (by decide)
theorem mD34_4 {S : hS} {y : Nat} {V : Nat → Nat → Int32} (h : LayM S y) (v : Int32) : sA (mS S y V) (y + 34) 4 v = some (mS S y (up2 V 34 4 v)) := mM34 h (g := 4) (by decide)
theorem mC34_5 {S : hS} {y : Nat} {V : Nat → Nat → Int32} (h : LayM S y) : gA (mS S y V) (y + 34) 12 5 = some (V 34 5) := mN34 h (g := 5) (by decide)
theorem mD34_5 {S : hS} {y : Nat} {V : Nat → Nat → Int32} (h : LayM S y) (v : Int32) : sA (mS S y V) (y + 34) 5 v = some (mS S y (up2 V 34 5 v)) := mM34 h (g := 5) (by decide)
theorem mC34_6 {S : hS} {y : Nat} {V : Nat → Nat → Int32} (h : LayM S y) : gA (mS S y V) (y + 34) 12 6 = some (V 34 6) := mN34 h (g := 6) (by decide)
theorem mD34_6 {S : hS} {y : Nat} {V : Nat → Nat → Int32} (h : LayM S y) (v : Int32) : sA (mS S y V) (y + 34) 6 v = some (mS S y (up2 V 34 6 v)) := mM34 h (g := 6) (by decide)
theorem mC34_7 {S : hS} {y : Nat} {V : Nat → Nat → Int32} (h : LayM S y) : gA (mS S y V) (y + 34) 12 7 = some (V 34 7) := mN34 h (g := 7) (by decide)
theorem mD34_7 {S : hS} {y : Nat} {V : Nat → Nat → Int32} (h : LayM S y) (v : Int32) : sA (mS S y V) (y + 34) 7 v = some (mS S y (up2 V 34 7 v)) := mM34 h (g := 7) (by decide)
theorem mC34_8 {S : hS} {y : Nat} {V : Nat → Nat → Int32} (h : LayM S y) : gA (mS S y V) (y + 34) 12 8 = some (V 34 8) := mN34 h (g := 8) (by decide)
theorem mD34_8 {S : hS} {y : Nat} {V : Nat → Nat → Int32} (h : LayM S y) (v : Int32) : sA (mS S y V) (y + 34) 8 v = some (mS S y (up2 V 34 8 v)) := mM34 h (g := 8) (by decide)
theorem mC34_9 {S : hS} {y : Nat} {V : Nat → Nat → Int32} (h : LayM S y) : gA (mS S y V) (y + 34) 12 9 = some (V 34 9) := mN34 h (g := 9) (by decide)
theorem mD34_9 {S : hS} {y : Nat} {V : Nat → Nat → Int32} (h : LayM S y) (v : Int32) : sA (mS S y V) (y + 34) 9 v = some (mS S y (up2 V 34 9 v)) := mM34 h (g := 9) (by decide)
theorem mC34_10 {S : hS} {y : Nat} {V : Nat → Nat → Int32} (h : LayM S y) : gA (mS S y V) (y + 34) 12 10 = some (V 34 10) := mN34 h (g := 10) (by decide)
theorem mD34_10 {S : hS} {y : Nat} {V : Nat → Nat → Int32} (h : LayM S y) (v : Int32) : sA (mS S y V) (y + 34) 10 v = some (mS S y (up2 V 34 10 v)) := mM34 h (g := 10) (by decide)
theorem mC34_11 {S : hS} {y : Nat} {V : Nat → Nat → Int32} (h : LayM S y) : gA (mS S y V) (y + 34) 12 11 = some (V 34 11) := mN34 h (g := 11) (by decide)
theorem mD34_11 {S : hS} {y : Nat} {V : Nat → Nat → Int32} (h : LayM S y) (v : Int32) : sA (mS S y V) (y + 34) 11 v = some (mS S y (up2 V 34 11 v)) := mM34 h (g := 11) (by decide)
theorem mC34_12 {S : hS} {y : Nat} {V : Nat → Nat → Int32} (h : LayM S y) : gA (mS S y V) (y + 34) 12 12 = some (V 34 12) := mN34 h (g := 12) (by decide)
theorem mD34_12 {S : hS} {y : Nat} {V : Nat → Nat → Int32} (h : LayM S y) (v : Int32) : sA (mS S y V) (y + 34) 12 v = some (mS S y (up2 V 34 12 v)) := mM34 h (g := 12) (by decide)
theorem mC34_13 {S : hS} {y : Nat} {V : Nat → Nat → Int32} (h : LayM S y) : gA (mS S y V) (y + 34) 12 13 = some (V 34 13) := mN34 h (g := 13) (by decide)
theorem mD34_13 {S : hS} {y : Nat} {V : Nat → Nat → Int32} (h : LayM S y) (v : Int32) : sA (mS S y V) (y + 34) 13 v = some (mS S y (up2 V 34 13 v)) := mM34 h (g := 13) (by decide)
theorem mG1 {S : hS} {y : Nat} {V : Nat → Nat → Int32} (h : LayM S y) : gN (mS S y V) (y + 1) = some (nI 14) := by unfold gN; rw [if_pos (by rw [vS_K, h.K1]; decide), vS_n, h.n1]; rfl
theorem mG2 {S : hS} {y : Nat} {V : Nat → Nat → Int32} (h : LayM S y) : gN (mS S y V) (y + 2) = some (nI 80) := by unfold gN; rw [if_pos (by rw [vS_K, h.K2]; decide), vS_n, h.n2]; rfl
theorem mG3 {S : hS} {y : Nat} {V : Nat → Nat → Int32} (h : LayM S y) : gN (mS S y V) (y + 3) = some (nI 12) := by unfold gN; rw [if_pos (by rw [vS_K, h.K3]; decide), vS_n, h.n3]; rfl
theorem mG4 {S : hS} {y : Nat} {V : Nat → Nat → Int32} (h : LayM S y) : gN (mS S y V) (y + 4) = some (nI 12) := by unfold gN; rw [if_pos (by rw [vS_K, h.K4]; decide), vS_n, h.n4]; rfl
theorem mG5 {S : hS} {y : Nat} {V : Nat → Nat → Int32} (h : LayM S y) : gN (mS S y V) (y + 5) = some (nI 12) := by unfold gN; rw [if_pos (by rw [vS_K, h.K5]; decide), vS_n, h.n5]; rfl
theorem mG6 {S : hS} {y : Nat} {V : Nat → Nat → Int32} (h : LayM S y) : gN (mS S y V) (y + 6) = some (nI 12) := by unfold gN; rw [if_pos (by rw [vS_K, h.K6]; decide), vS_n, h.n6]; rfl
theorem mG7 {S : hS} {y : Nat} {V : Nat → Nat → Int32} (h : LayM S y) : gN (mS S y V) (y + 7) = some (nI 7) := by unfold gN; rw [if_pos (by rw [vS_K, h.K7]; decide), vS_n, h.n7]; rfl
theorem mG8 {S : hS} {y : Nat} {V : Nat → Nat → Int32} (h : LayM S y) : gN (mS S y V) (y + 8) = some (nI 7) := by unfold gN; rw [if_pos (by rw [vS_K, h.K8]; decide), vS_n, h.n8]; rfl
theorem mG9 {S : hS} {y : Nat} {V : Nat → Nat → Int32} (h : LayM S y) : gN (mS S y V) (y + 9) = some (nI 7) := by unfold gN; rw [if_pos (by rw [vS_K, h.K9]; decide), vS_n, h.n9]; rfl
theorem mG10 {S : hS} {y : Nat} {V : Nat → Nat → Int32} (h : LayM S y) : gN (mS S y V) (y + 10) = some (nI 8) := by unfold gN; rw [if_pos (by rw [vS_K, h.K10]; decide), vS_n, h.n10]; rfl
theorem mG11 {S : hS} {y : Nat} {V : Nat → Nat → Int32} (h : LayM S y) : gN (mS S y V) (y + 11) = some (nI 8) := by unfold gN; rw [if_pos (by rw [vS_K, h.K11]; decide), vS_n, h.n11]; rfl
theorem mG12 {S : hS} {y : Nat} {V : Nat → Nat → Int32} (h : LayM S y) : gN (mS S y V) (y + 12) = some (nI 120) := by unfold gN; rw [if_pos (by rw [vS_K, h.K12]; decide), vS_n, h.n12]; rfl
theorem mG13 {S : hS} {y : Nat} {V : Nat → Nat → Int32} (h : LayM S y) : gN (mS S y V) (y + 13) = some (nI 6) := by unfold gN; rw [if_pos (by rw [vS_K, h.K13]; decide), vS_n, h.n13]; rfl
theorem mG14 {S : hS} {y : Nat} {V : Nat → Nat → Int32} (h : LayM S y) : gN (mS S y V) (y + 14) = some (nI 80) := by unfold gN; rw [if_pos (by rw [vS_K, h.K14]; decide), vS_n, h.n14]; rfl
theorem mG15 {S : hS} {y : Nat} {V : Nat → Nat → Int32} (h : LayM S y) : gN (mS S y V) (y + 15) = some (nI 12) := by unfold gN; rw [if_pos (by rw [vS_K, h.K15]; decide), vS_n, h.n15]; rfl
theorem mG16 {S : hS} {y : Nat} {V : Nat → Nat → Int32} (h : LayM S y) : gN (mS S y V) (y + 16) = some (nI 12) := by unfold gN; rw [if_pos (by rw [vS_K, h.K16]; decide), vS_n, h.n16]; rfl
theorem mG17 {S : hS} {y : Nat} {V : Nat → Nat → Int32} (h : LayM S y) : gN (mS S y V) (y + 17) = some (nI 12) := by unfold gN; rw [if_pos (by rw [vS_K, h.K17]; decide), vS_n, h.n17]; rfl
theorem mG18 {S : hS} {y : Nat} {V : Nat → Nat → Int32} (h : LayM S y) : gN (mS S y V) (y + 18) = some (nI 7) := by unfold gN; rw [if_pos (by rw [vS_K, h.K18]; decide), vS_n, h.n18]; rfl
theorem mG19 {S : hS} {y : Nat} {V : Nat → Nat → Int32} (h : LayM S y) : gN (mS S y V) (y + 19) = some (nI 7) := by unfold gN; rw [if_pos (by rw [vS_K, h.K19]; decide), vS_n, h.n19]; rfl
theorem mG20 {S : hS} {y : Nat} {V : Nat → Nat → Int32} (h : LayM S y) : gN (mS S y V) (y + 20) = some (nI 7) := by unfold gN; rw [if_pos (by rw [vS_K, h.K20]; decide), vS_n, h.n20]; rfl
theorem mG21 {S : hS} {y : Nat} {V : Nat → Nat → Int32} (h : LayM S y) : gN (mS S y V) (y + 21) = some (nI 8) := by unfold gN; rw [if_pos (by rw [vS_K, h.K21]; decide), vS_n, h.n21]; rfl
theorem mG22 {S : hS} {y : Nat} {V : Nat → Nat → Int32} (h : LayM S y) : gN (mS S y V) (y + 22) = some (nI 8) := by unfold gN; rw [if_pos (by rw [vS_K, h.K22]; decide), vS_n, h.n22]; rfl
theorem mG24 {S : hS} {y : Nat} {V : Nat → Nat → Int32} (h : LayM S y) : gN (mS S y V) (y + 24) = some (nI 1800) := by unfold gN; rw [if_pos (by rw [vS_K, h.K24]; decide), vS_n, h.n24]; rfl
theorem mG25 {S : hS} {y : Nat} {V : Nat → Nat → Int32} (h : LayM S y) : gN (mS S y V) (y + 25) = some (nI 1800) := by unfold gN; rw [if_pos (by rw [vS_K, h.K25]; decide), vS_n, h.n25]; rfl
theorem mG26 {S : hS} {y : Nat} {V : Nat → Nat → Int32} (h : LayM S y) : gN (mS S y V) (y + 26) = some (nI 6) := by unfold gN; rw [if_pos (by rw [vS_K, h.K26]; decide), vS_n, h.n26]; rfl
theorem mG27 {S : hS} {y : Nat} {V : Nat → Nat → Int32} (h : LayM S y) : gN (mS S y V) (y + 27) = some (nI 72) := by unfold gN; rw [if_pos (by rw [vS_K, h.K27]; decide), vS_n, h.n27]; rfl
theorem mG28 {S : hS} {y : Nat} {V : Nat → Nat → Int32} (h : LayM S y) : gN (mS S y V) (y + 28) = some (nI 72) := by unfold gN; rw [if_pos (by rw [vS_K, h.K28]; decide), vS_n, h.n28]; rfl
theorem mG29 {S : hS} {y : Nat} {V : Nat → Nat → Int32} (h : LayM S y) : gN (mS S y V) (y + 29) = some (nI 72) := by unfold gN; rw [if_pos (by rw [vS_K, h.K29]; decide), vS_n, h.n29]; rfl
theorem mG30 {S : hS} {y : Nat} {V : Nat → Nat → Int32} (h : LayM S y) : gN (mS S y V) (y + 30) = some (nI 402) := by unfold gN; rw [if_pos (by rw [vS_K, h.K30]; decide), vS_n, h.n30]; rfl
theorem mG33 {S : hS} {y : Nat} {V : Nat → Nat → Int32} (h : LayM S y) : gN (mS S y V) (y + 33) = some (nI 80) := by unfold gN; rw [if_pos (by rw [vS_K, h.K33]; decide), vS_n, h.n33]; rfl
theorem mG34 {S : hS} {y : Nat} {V : Nat → Nat → Int32} (h : LayM S y) : gN (mS S y V) (y + 34) = some (nI 14) := by unfold gN; rw [if_pos (by rw [vS_K, h.K34]; decide), vS_n, h.n34]; rfl
theorem mG35 {S : hS} {y : Nat} {V : Nat → Nat → Int32} (h : LayM S y) : gN (mS S y V) (y + 35) = some (nI 80) := by unfold gN; rw [if_pos (by rw [vS_K, h.K35]; decide), vS_n, h.n35]; rfl
theorem mG36 {S : hS} {y : Nat} {V : Nat → Nat → Int32} (h : LayM S y) : gN (mS S y V) (y + 36) = some (nI 12) := by unfold gN; rw [if_pos (by rw [vS_K, h.K36]; decide), vS_n, h.n36]; rfl
theorem mG37 {S : hS} {y : Nat} {V : Nat → Nat → Int32} (h : LayM S y) : gN (mS S y V) (y + 37) = some (nI 120) := by unfold gN; rw [if_pos (by rw [vS_K, h.K37]; decide), vS_n, h.n37]; rfl
theorem mG38 {S : hS} {y : Nat} {V : Nat → Nat → Int32} (h : LayM S y) : gN (mS S y V) (y + 38) = some (nI 12) := by unfold gN; rw [if_pos (by rw [vS_K, h.K38]; decide), vS_n, h.n38]; rfl
theorem mG40 {S : hS} {y : Nat} {V : Nat → Nat → Int32} (h : LayM S y) : gN (mS S y V) (y + 40) = some (nI 12) := by unfold gN; rw [if_pos (by rw [vS_K, h.K40]; decide), vS_n, h.n40]; rfl
theorem mG41 {S : hS} {y : Nat} {V : Nat → Nat → Int32} (h : LayM S y) : gN (mS S y V) (y + 41) = some (nI 1240) := by unfold gN; rw [if_pos (by rw [vS_K, h.K41]; decide), vS_n, h.n41]; rfl
