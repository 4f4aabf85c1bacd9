/-- the state with other ints -/
def hS.wI (S : hS) (I : Nat → Nat → Int32) : hS := (S.nx, S.K, S.n, I, S.J, S.R)
theorem wI_nx (S : hS) (I : Nat → Nat → Int32) : (S.wI I).nx = S.nx := rfl
theorem wI_K (S : hS) (I : Nat → Nat → Int32) : (S.wI I).K = S.K := rfl
theorem wI_n (S : hS) (I : Nat → Nat → Int32) : (S.wI I).n = S.n := rfl
theorem wI_I (S : hS) (I : Nat → Nat → Int32) : (S.wI I).I = I := rfl
theorem wI_J (S : hS) (I : Nat → Nat → Int32) : (S.wI I).J = S.J := rfl
theorem wI_R (S : hS) (I : Nat → Nat → Int32) : (S.wI I).R = S.R := rfl
theorem wI_self (S : hS) : S.wI S.I = S := rfl
theorem wI_wI (S : hS) (I I' : Nat → Nat → Int32) : (S.wI I).wI I' = S.wI I' := rfl
theorem wI_setI (S : hS) (I : Nat → Nat → Int32) (a k : Nat) (v : Int32) : (S.wI I).setI a k v = S.wI (va_up I a (va_up (I a) k v)) := rfl
/-- one int told anew -/
def up2 (I : Nat → Nat → Int32) (a k : Nat) (v : Int32) : Nat → Nat → Int32 := va_up I a (va_up (I a) k v)
theorem up2_at (I : Nat → Nat → Int32) (a k : Nat) (v : Int32) (b j : Nat) : up2 I a k v b j = if b = a ∧ j = k then v else I b j := by
  unfold up2 va_up
  by_cases h : b = a
  · subst h; by_cases h2 : j = k <;> simp [h2]
  · simp [h]
theorem hbd_some {α β : Type} (v : α) (k : α → Option β) : hbd (some v) k = k v := rfl
theorem hb2_some {α β : Type} (v : α) (S : hS) (k : α → hS → Option β) : hb2 (some (v, S)) k = k v S := rfl
theorem hck_true {β : Type} {c : Prop} [Decidable c] (h : c) (k : Option β) : hck c k = k := if_pos h
theorem gI_of {S : hS} {a ci k : Nat} (h : S.K a = ci + 1) : gI S a ci k = some (S.I a k) := if_pos h
theorem gR_of {S : hS} {a ci k v : Nat} (h : S.K a = ci + 1) (hr : S.R a k = some v) : gR S a ci k = some v := by unfold gR; rw [if_pos h, hr]
theorem gA_of {S : hS} {a kd : Nat} {i : Int32} (h : S.K a = kd) (hi : 0 ≤ i) (hn : i.toNatClampNeg < S.n a) : gA S a kd i = some (S.I a i.toNatClampNeg) := if_pos ⟨h, hi, hn⟩
theorem sI_of {S : hS} {a ci k : Nat} {v : Int32} (h : S.K a = ci + 1) : sI S a ci k v = some (S.setI a k v) := if_pos h
theorem sA_of {S : hS} {a : Nat} {i v : Int32} (h : S.K a = 12) (hi : 0 ≤ i) (hn : i.toNatClampNeg < S.n a) : sA S a i v = some (S.setI a i.toNatClampNeg v) := if_pos ⟨h, hi, hn⟩
/-- an Evening lies at e, in twenty cells -/
def LayE (S : hS) (e : Nat) : Prop :=
  (S.K e = 1 ∧ S.K (e + 1) = 7 ∧ S.K (e + 2) = 12 ∧ S.K (e + 3) = 12 ∧ S.K (e + 4) = 12 ∧ S.K (e + 5) = 12 ∧ S.K (e + 6) = 12 ∧ S.K (e + 7) = 12 ∧ S.K (e + 8) = 12 ∧ S.K (e + 9) = 12 ∧ S.K (e + 10) = 12 ∧ S.K (e + 11) = 3 ∧ S.K (e + 12) = 12 ∧ S.K (e + 13) = 12 ∧ S.K (e + 14) = 12 ∧ S.K (e + 15) = 12 ∧ S.K (e + 16) = 12 ∧ S.K (e + 17) = 12 ∧ S.K (e + 18) = 12 ∧ S.K (e + 19) = 12) ∧
  (S.n (e + 2) = 80 ∧ S.n (e + 3) = 80 ∧ S.n (e + 4) = 80 ∧ S.n (e + 5) = 400 ∧ S.n (e + 6) = 7 ∧ S.n (e + 7) = 7 ∧ S.n (e + 8) = 7 ∧ S.n (e + 9) = 8 ∧ S.n (e + 10) = 8 ∧ S.n (e + 12) = 12 ∧ S.n (e + 13) = 12 ∧ S.n (e + 14) = 12 ∧ S.n (e + 15) = 12 ∧ S.n (e + 16) = 80 ∧ S.n (e + 17) = 80 ∧ S.n (e + 18) = 80 ∧ S.n (e + 19) = 120) ∧
  (S.R e 0 = some (e + 1) ∧ S.R e 1 = some (e + 11) ∧ S.R e 2 = some (e + 17) ∧ S.R e 3 = some (e + 18) ∧ S.R e 11 = some (e + 19)) ∧
  (S.R (e + 1) 4 = some (e + 2) ∧ S.R (e + 1) 5 = some (e + 3) ∧ S.R (e + 1) 6 = some (e + 4) ∧ S.R (e + 1) 7 = some (e + 5) ∧ S.R (e + 1) 9 = some (e + 6) ∧ S.R (e + 1) 10 = some (e + 7) ∧ S.R (e + 1) 11 = some (e + 8) ∧ S.R (e + 1) 13 = some (e + 9) ∧ S.R (e + 1) 14 = some (e + 10)) ∧
  (S.R (e + 11) 1 = some (e + 12) ∧ S.R (e + 11) 2 = some (e + 13) ∧ S.R (e + 11) 3 = some (e + 14) ∧ S.R (e + 11) 4 = some (e + 15) ∧ S.R (e + 11) 5 = some (e + 16))
theorem LayE.wI {S : hS} {e : Nat} (h : LayE S e) (I : Nat → Nat → Int32) : LayE (S.wI I) e := h
