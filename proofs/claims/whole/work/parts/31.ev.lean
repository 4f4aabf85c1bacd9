/-- Evening.warmUp, one guest -/
def wuS (I : Nat → Nat → Int32) (e g : Nat) : Nat → Nat → Int32 :=
  if I (e + 12) g < 0 then I
  else up2 (up2 I (e + 17) (I (e + 12) g).toNatClampNeg (I (e + 17) (I (e + 12) g).toNatClampNeg + I (e + 13) g)) e 9 (I e 9 + I (e + 13) g)
theorem wu_step {S : hS} {I : Nat → Nat → Int32} {e : Nat} (h : LayE S e) (g : Nat) (hg : g < 12) (hnum : ¬ I (e + 11) 0 ≤ nI g) (hseat : I (e + 12) g < 0 ∨ (0 ≤ I (e + 12) g ∧ (I (e + 12) g).toNatClampNeg < 80)) (n : Nat) (k : hS → Option hS) : f_X0_warmUp_L2 (n + 1) e (nI g) (S.wI I) k = f_X0_warmUp_L2 n e (nI (g + 1)) (S.wI (wuS I e g)) k := by
  obtain ⟨⟨K0, K1, K2, K3, K4, K5, K6, K7, K8, K9, K10, K11, K12, K13, K14, K15, K16, K17, K18, K19⟩, ⟨n2, n3, n4, n5, n6, n7, n8, n9, n10, n12, n13, n14, n15, n16, n17, n18, n19⟩, ⟨r0, r1, r2, r3, r11⟩, ⟨s4, s5, s6, s7, s9, s10, s11, s13, s14⟩, u1, u2, u3, u4, u5⟩ := h
  have hc : (nI g).toNatClampNeg = g := nI_clamp (by omega)
  have hp : (0 : Int32) ≤ nI g := nI_pos' (by omega)
  rw [f_X0_warmUp_L2]
  simp only [gI, gR, gA, sA, sI, hbd_some, wI_K, wI_I, wI_R, wI_n, wI_setI, K0, K11, K12, K13, K17, r1, r2, u1, u2, n12, n13, n17, hc, hp, hg, hnum, if_true, if_false, and_self, nI_1]
  unfold wuS
  rcases hseat with q | ⟨q1, q2⟩
  · simp only [q, if_true]
  · have q0 : ¬ I (e + 12) g < 0 := Int32.not_lt.mpr q1
    simp only [q0, q1, q2, if_false, if_true, and_self, hbd_some, gI, gR, gA, sA, sI, wI_K, wI_I, wI_R, wI_n, wI_setI, K0, K11, K13, K17, r1, u2, n13, hc, hp, hg]
    simp [up2, va_up]
