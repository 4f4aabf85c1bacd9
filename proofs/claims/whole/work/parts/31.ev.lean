/-- Evening.warmUp, one guest -/
def wuV (V : Nat → Nat → Int32) (g : Nat) : Nat → Nat → Int32 :=
  if V 12 g < 0 then V
  else up2 (up2 V 17 (V 12 g).toNatClampNeg (V 17 (V 12 g).toNatClampNeg + V 13 g)) 0 9 (V 0 9 + V 13 g)
theorem wu_step {S : hS} {V : Nat → Nat → Int32} {e : Nat} (h : LayE S e) (g : Nat) (hg : g < 12) (hnum : ¬ V 11 0 ≤ nI g) (hseat : V 12 g < 0 ∨ (0 ≤ V 12 g ∧ (V 12 g).toNatClampNeg < 80)) (n : Nat) (k : hS → Option hS) : f_X0_warmUp_L2 (n + 1) e (nI g) (eS S e V) k = f_X0_warmUp_L2 n e (nI (g + 1)) (eS S e (wuV V g)) k := by
  rw [f_X0_warmUp_L2]
  unfold wuV
  simp only [eR0_0 h, eR0_1 h, eR0_2 h, eR0_3 h, eR0_11 h, eR1_4 h, eR1_5 h, eR1_6 h, eR1_7 h, eR1_9 h, eR1_10 h, eR1_11 h, eR1_13 h, eR1_14 h, eR11_1 h, eR11_2 h, eR11_3 h, eR11_4 h, eR11_5 h, eI0 h, es0 h, eK0 h, eI1 h, es1 h, eK1 h, eI11 h, es11 h, eK11 h, hbd_some, hb2_some, hj_b, if_true, if_false, nI_1, eN12 h hg, hnum]
  rcases hseat with q | ⟨q1, q2⟩
  · simp only [q, if_true]
  · have q0 : ¬ V 12 g < 0 := Int32.not_lt.mpr q1
    simp only [q0, eR0_0 h, eR0_1 h, eR0_2 h, eR0_3 h, eR0_11 h, eR1_4 h, eR1_5 h, eR1_6 h, eR1_7 h, eR1_9 h, eR1_10 h, eR1_11 h, eR1_13 h, eR1_14 h, eR11_1 h, eR11_2 h, eR11_3 h, eR11_4 h, eR11_5 h, eI0 h, es0 h, eK0 h, eI1 h, es1 h, eK1 h, eI11 h, es11 h, eK11 h, hbd_some, hb2_some, hj_b, if_true, if_false, nI_1, eN13 h hg, eA17 h q1 q2, eT17 h q1 q2]
    simp only [up2_at]
    simp
