abbrev x_X8_isHeardAs (d : Nat) (S0 : hS) (args : List Value) (r : Int32 × hS) (cs : Nat → Nat) : hX := (((some .boolean), 7, d, 0, 0, false), (S0, args, some (.int r.1), r.2), cs)
theorem v_X8_isHeardAs : hVW yX8_isHeardAs cX8_isHeardAs 7 (some .boolean) RX8 3 := ⟨q_902, q_s33, q_1, q_903, by decide +kernel, by decide⟩
def f_X8_isHeardAs_L6 : Nat → Nat → Int32 → Int32 → Int32 → hS → (Int32 → hS → Option (Int32 × hS)) → Option (Int32 × hS)
  | 0, _, _, _, _, _, _ => none
  | n + 1, x0, x1, x4, x5, S, k0 =>
    hbd (gR S x0 8 5) fun t1 =>
    hbd (gR S t1 0 1) fun t3 =>
    hbd (gI S t3 2 0) fun t5 =>
    if t5 ≤ x5 then
      (k0 x4 S)
    else
      (hbd (gR S x0 8 5) fun t8 =>
       hbd (gR S t8 0 1) fun t10 =>
       hbd (gR S t10 2 1) fun t12 =>
       hbd (gA S t12 12 x5) fun t14 =>
       if t14 < 0 then
         (f_X8_isHeardAs_L6 n x0 x1 x4 (x5 + 1) S k0)
       else
         (hbd (gR S x0 8 5) fun t17 =>
          hbd (gI S t17 0 4) fun t19 =>
          if t14 = t19 then
            (f_X8_isHeardAs_L6 n x0 x1 x4 (x5 + 1) S k0)
          else
            (hbd (gR S x0 8 5) fun t22 =>
             hbd (gR S t22 0 0) fun t24 =>
             hck (S.K t24 = 7) <|
             hb2 (f_X6_isWithinTwo t24 t14 x1 S) fun t28 S27 =>
             if t28 = 0 then
               (f_X8_isHeardAs_L6 n x0 x1 x4 (x5 + 1) S27 k0)
             else
               (f_X8_isHeardAs_L6 n x0 x1 (x4 ||| (1 <<< (x5 &&& 31))) (x5 + 1) S27 k0))))
def f_X8_isHeardAs (a0 : Nat) (a1 : Int32) (a2 : Int32) (a3 : Int32) (S : hS) : Option (Int32 × hS) :=
  f_X8_isHeardAs_L6 hfuel a0 a1 0 0 S
    (fun u31 S32 =>
      hj (γ := Unit → Option (Int32 × hS)) (fun (_ : Unit) =>
        some (0, S32)
        ) fun J33 =>
      if (u31 &&& a2) = a2 then
        (if (u31 &&& a3) = 0 then
           (some (1, S32))
         else
           (J33 ()))
      else
        (J33 ())
    )
set_option maxRecDepth 100000 in
set_option maxHeartbeats 4000000 in
theorem w_X8_isHeardAs_L6 {d : Nat} {S0 : hS} {args : List Value} {cs : Nat → Nat} {r : Int32 × hS} (hd : 3 ≤ d) : ∀ (n : Nat) (x0 : Nat) (x1 : Int32) (x4 : Int32) (x5 : Int32) (S : hS) (k0 : (Int32 → hS → Option (Int32 × hS))) (z2 : Int32) (z3 : Int32), f_X8_isHeardAs_L6 n x0 x1 x4 x5 S k0 = some r → (∀ (y4 : Int32) (T : hS), k0 y4 T = some r → HW cX8_isHeardAs RX8 (x_X8_isHeardAs d S0 args r cs) 0 0 T 84 [(2, .int z2), (3, .int z3), (4, .int y4)] []) → HW cX8_isHeardAs RX8 (x_X8_isHeardAs d S0 args r cs) 0 0 S 6 [(0, .ref x0), (1, .int x1), (2, .int z2), (3, .int z3), (4, .int x4), (5, .int x5)] [] := by
  intro n
  induction n with
  | zero =>
    intro x0 x1 x4 x5 S k0 z2 z3 hf
    cases hf
  | succ n ih =>
    intro x0 x1 x4 x5 S k0 z2 z3 hf hk0
    rw [f_X8_isHeardAs_L6] at hf
    refine h_iload dX8_isHeardAs_6 5 rfl ?_
    refine h_aload_n dX8_isHeardAs_8 rfl 0 rfl ?_
    obtain ⟨t1, h2, hf⟩ := hbd_s hf
    refine h_getR h2 rfl (Nat.le_of_ble_eq_true rfl) rfl q_305 rfl dX8_isHeardAs_9 ?_
    obtain ⟨t3, h4, hf⟩ := hbd_s hf
    refine h_getRN (host := "DeafSpot") h4 rfl (Nat.le_of_ble_eq_true rfl) rfl (List.mem_of_getElem? (i := 52) rfl) rfl dX8_isHeardAs_12 ?_
    obtain ⟨t5, h6, hf⟩ := hbd_s hf
    refine h_getIN (host := "DeafSpot") h6 rfl (Nat.le_of_ble_eq_true rfl) rfl (List.mem_of_getElem? (i := 37) rfl) rfl dX8_isHeardAs_15 ?_
    refine h_icmp_ge (tgt := 84) dX8_isHeardAs_18 (by decide) (fun c7 => ?_) (fun c7 => ?_)
    · replace hf := hif_p c7 hf
      refine h_sub (lv2 := [(2, .int z2), (3, .int z3), (4, .int x4)]) [2, 3, 4] rfl ?_
      exact hk0 x4 S hf
    · replace hf := hif_n c7 hf
      refine h_aload_n dX8_isHeardAs_21 rfl 0 rfl ?_
      obtain ⟨t8, h9, hf⟩ := hbd_s hf
      refine h_getR h9 rfl (Nat.le_of_ble_eq_true rfl) rfl q_305 rfl dX8_isHeardAs_22 ?_
      obtain ⟨t10, h11, hf⟩ := hbd_s hf
      refine h_getRN (host := "DeafSpot") h11 rfl (Nat.le_of_ble_eq_true rfl) rfl (List.mem_of_getElem? (i := 52) rfl) rfl dX8_isHeardAs_25 ?_
      obtain ⟨t12, h13, hf⟩ := hbd_s hf
      refine h_getRN (host := "DeafSpot") h13 rfl (Nat.le_of_ble_eq_true rfl) rfl (List.mem_of_getElem? (i := 39) rfl) rfl dX8_isHeardAs_28 ?_
      refine h_iload dX8_isHeardAs_31 5 rfl ?_
      obtain ⟨t14, h15, hf⟩ := hbd_s hf
      refine h_iald h15 dX8_isHeardAs_33 ?_
      refine h_istore (lv2 := [(6, .int t14), (0, .ref x0), (1, .int x1), (2, .int z2), (3, .int z3), (4, .int x4), (5, .int x5)]) dX8_isHeardAs_34 (Nat.le_of_ble_eq_true rfl) rfl ?_
      refine h_iload dX8_isHeardAs_36 0 rfl ?_
      refine h_if_lt (tgt := 78) dX8_isHeardAs_38 (by decide) (fun c16 => ?_) (fun c16 => ?_)
      · replace hf := hif_p c16 hf
        refine h_iinc (q := 6) (v := x5 + 1) (lv2 := [(5, .int (x5 + 1)), (6, .int t14), (0, .ref x0), (1, .int x1), (2, .int z2), (3, .int z3), (4, .int x4)]) dX8_isHeardAs_78 rfl rfl (Nat.le_of_ble_eq_true rfl) rfl ?_
        refine h_goto (tgt := 6) dX8_isHeardAs_81 (by decide) ?_
        refine h_sub (lv2 := [(0, .ref x0), (1, .int x1), (2, .int z2), (3, .int z3), (4, .int x4), (5, .int (x5 + 1))]) [2, 3, 4, 5, 6, 0] rfl ?_
        exact ih x0 x1 x4 (x5 + 1) S k0 z2 z3 hf hk0
      · replace hf := hif_n c16 hf
        refine h_iload dX8_isHeardAs_41 0 rfl ?_
        refine h_aload_n dX8_isHeardAs_43 rfl 1 rfl ?_
        obtain ⟨t17, h18, hf⟩ := hbd_s hf
        refine h_getR h18 rfl (Nat.le_of_ble_eq_true rfl) rfl q_305 rfl dX8_isHeardAs_44 ?_
        obtain ⟨t19, h20, hf⟩ := hbd_s hf
        refine h_getIN (host := "DeafSpot") h20 rfl (Nat.le_of_ble_eq_true rfl) rfl (List.mem_of_getElem? (i := 55) rfl) rfl dX8_isHeardAs_47 ?_
        refine h_icmp_eq (tgt := 78) dX8_isHeardAs_50 (by decide) (fun c21 => ?_) (fun c21 => ?_)
        · replace hf := hif_p c21 hf
          refine h_iinc (q := 6) (v := x5 + 1) (lv2 := [(5, .int (x5 + 1)), (6, .int t14), (0, .ref x0), (1, .int x1), (2, .int z2), (3, .int z3), (4, .int x4)]) dX8_isHeardAs_78 rfl rfl (Nat.le_of_ble_eq_true rfl) rfl ?_
          refine h_goto (tgt := 6) dX8_isHeardAs_81 (by decide) ?_
          refine h_sub (lv2 := [(0, .ref x0), (1, .int x1), (2, .int z2), (3, .int z3), (4, .int x4), (5, .int (x5 + 1))]) [2, 3, 4, 5, 6, 0] rfl ?_
          exact ih x0 x1 x4 (x5 + 1) S k0 z2 z3 hf hk0
        · replace hf := hif_n c21 hf
          refine h_aload_n dX8_isHeardAs_53 rfl 1 rfl ?_
          obtain ⟨t22, h23, hf⟩ := hbd_s hf
          refine h_getR h23 rfl (Nat.le_of_ble_eq_true rfl) rfl q_305 rfl dX8_isHeardAs_54 ?_
          obtain ⟨t24, h25, hf⟩ := hbd_s hf
          refine h_getRN (host := "DeafSpot") h25 rfl (Nat.le_of_ble_eq_true rfl) rfl (List.mem_of_getElem? (i := 50) rfl) rfl dX8_isHeardAs_57 ?_
          refine h_iload dX8_isHeardAs_60 0 rfl ?_
          refine h_iload_n dX8_isHeardAs_62 rfl 2 rfl ?_
          obtain ⟨g30, hf⟩ := hck_s hf
          obtain ⟨t28, S27, h26, hf⟩ := hb2_s hf
          refine h_Vi [.int t14, .int x1] (rest := []) (m_X6_isWithinTwo (d := 2) (cs := cs) (Nat.le_refl _) h26) v_X6_isWithinTwo q_904 rfl (Nat.le_trans (by decide) hd) g30 rfl rfl (Nat.le_of_ble_eq_true rfl) dX8_isHeardAs_63 (Nat.le_refl _) (Nat.le_refl _) ?_
          refine h_if_eq (tgt := 78) dX8_isHeardAs_66 (by decide) (fun c29 => ?_) (fun c29 => ?_)
          · replace hf := hif_p c29 hf
            refine h_iinc (q := 6) (v := x5 + 1) (lv2 := [(5, .int (x5 + 1)), (6, .int t14), (0, .ref x0), (1, .int x1), (2, .int z2), (3, .int z3), (4, .int x4)]) dX8_isHeardAs_78 rfl rfl (Nat.le_of_ble_eq_true rfl) rfl ?_
            refine h_goto (tgt := 6) dX8_isHeardAs_81 (by decide) ?_
            refine h_sub (lv2 := [(0, .ref x0), (1, .int x1), (2, .int z2), (3, .int z3), (4, .int x4), (5, .int (x5 + 1))]) [2, 3, 4, 5, 6, 0] rfl ?_
            exact ih x0 x1 x4 (x5 + 1) S27 k0 z2 z3 hf hk0
          · replace hf := hif_n c29 hf
            refine h_iload dX8_isHeardAs_69 5 rfl ?_
            refine h_iconst (v := 1) dX8_isHeardAs_71 rfl ?_
            refine h_iload dX8_isHeardAs_72 6 rfl ?_
            refine h_ishl dX8_isHeardAs_74 ?_
            refine h_ior dX8_isHeardAs_75 ?_
            refine h_istore (lv2 := [(4, .int (x4 ||| (1 <<< (x5 &&& 31)))), (6, .int t14), (0, .ref x0), (1, .int x1), (2, .int z2), (3, .int z3), (5, .int x5)]) dX8_isHeardAs_76 (Nat.le_of_ble_eq_true rfl) rfl ?_
            refine h_iinc (q := 6) (v := x5 + 1) (lv2 := [(5, .int (x5 + 1)), (4, .int (x4 ||| (1 <<< (x5 &&& 31)))), (6, .int t14), (0, .ref x0), (1, .int x1), (2, .int z2), (3, .int z3)]) dX8_isHeardAs_78 rfl rfl (Nat.le_of_ble_eq_true rfl) rfl ?_
            refine h_goto (tgt := 6) dX8_isHeardAs_81 (by decide) ?_
            refine h_sub (lv2 := [(0, .ref x0), (1, .int x1), (2, .int z2), (3, .int z3), (4, .int (x4 ||| (1 <<< (x5 &&& 31)))), (5, .int (x5 + 1))]) [3, 4, 5, 6, 1, 0] rfl ?_
            exact ih x0 x1 (x4 ||| (1 <<< (x5 &&& 31))) (x5 + 1) S27 k0 z2 z3 hf hk0
set_option maxRecDepth 100000 in
set_option maxHeartbeats 4000000 in
theorem m_X8_isHeardAs {d : Nat} {cs : Nat → Nat} {a0 : Nat} {a1 : Int32} {a2 : Int32} {a3 : Int32} {S : hS} {r : Int32 × hS} (hd : 3 ≤ d) (hf : f_X8_isHeardAs a0 a1 a2 a3 S = some r) : HM yX8_isHeardAs cX8_isHeardAs 7 (some .boolean) d 0 0 cs [.ref a0, .int a1, .int a2, .int a3] S (some (.int r.1)) r.2 := by
  unfold f_X8_isHeardAs at hf
  refine HM.ofHW false (by decide) (fun h => by cases h) (Nat.le_of_ble_eq_true rfl) ?_
  show HW cX8_isHeardAs RX8 (x_X8_isHeardAs d S [.ref a0, .int a1, .int a2, .int a3] r cs) 0 0 S 0 [(0, .ref a0), (1, .int a1), (2, .int a2), (3, .int a3)] []
  refine h_iconst (v := 0) dX8_isHeardAs_0 rfl ?_
  refine h_istore (lv2 := [(4, .int 0), (0, .ref a0), (1, .int a1), (2, .int a2), (3, .int a3)]) dX8_isHeardAs_1 (Nat.le_of_ble_eq_true rfl) rfl ?_
  refine h_iconst (v := 0) dX8_isHeardAs_3 rfl ?_
  refine h_istore (lv2 := [(5, .int 0), (4, .int 0), (0, .ref a0), (1, .int a1), (2, .int a2), (3, .int a3)]) dX8_isHeardAs_4 (Nat.le_of_ble_eq_true rfl) rfl ?_
  refine h_sub (lv2 := [(0, .ref a0), (1, .int a1), (2, .int a2), (3, .int a3), (4, .int 0), (5, .int 0)]) [2, 3, 4, 5, 1, 0] rfl ?_
  refine w_X8_isHeardAs_L6 hd hfuel a0 a1 0 0 S _ a2 a3 hf ?_
  · intro u31 S32 hf
    refine h_iload dX8_isHeardAs_84 2 rfl ?_
    refine h_iload_n dX8_isHeardAs_86 rfl 0 rfl ?_
    refine h_iand dX8_isHeardAs_87 ?_
    refine h_iload_n dX8_isHeardAs_88 rfl 0 rfl ?_
    refine hj_s (fun J33 => ∀ (w : Unit), J33 w = some r → HW cX8_isHeardAs RX8 (x_X8_isHeardAs d S [.ref a0, .int a1, .int a2, .int a3] r cs) 0 0 S32 103 [] []) hf ?_ ?_
    · intro w hf
      refine h_iconst (v := 0) dX8_isHeardAs_103 rfl ?_
      obtain rfl := Option.some.inj hf
      exact h_zret rfl (by decide) rfl rfl (Nat.le_refl _) (Nat.le_refl _) dX8_isHeardAs_104
    · intro J33 hJ33 hf
      refine h_icmp_ne (tgt := 103) dX8_isHeardAs_89 (by decide) (fun c34 => ?_) (fun c34 => ?_)
      · replace hf := hif_n c34 hf
        refine h_sub (lv2 := []) [] rfl ?_
        exact hJ33 () hf
      · replace hf := hif_p c34 hf
        refine h_iload dX8_isHeardAs_92 2 rfl ?_
        refine h_iload_n dX8_isHeardAs_94 rfl 1 rfl ?_
        refine h_iand dX8_isHeardAs_95 ?_
        refine h_if_ne (tgt := 103) dX8_isHeardAs_96 (by decide) (fun c35 => ?_) (fun c35 => ?_)
        · replace hf := hif_n c35 hf
          refine h_sub (lv2 := []) [] rfl ?_
          exact hJ33 () hf
        · replace hf := hif_p c35 hf
          refine h_iconst (v := 1) dX8_isHeardAs_99 rfl ?_
          refine h_goto (tgt := 104) dX8_isHeardAs_100 (by decide) ?_
          obtain rfl := Option.some.inj hf
          exact h_zret rfl (by decide) rfl rfl (Nat.le_refl _) (Nat.le_refl _) dX8_isHeardAs_104
abbrev x_X9_init (d : Nat) (S0 : hS) (args : List Value) (r : hS) (cs : Nat → Nat) : hX := ((none, 1, d, 42, 7045, true), (S0, args, none, r), cs)
theorem v_X9_init : hIW yX9_init cX9_init 1 0 := ⟨q_958, q_9, q_959, rfl, by decide +kernel, by decide⟩
def f_X9_init (a0 : Nat) (S : hS) : Option (hS) :=
  hnw S 12 14 fun q1 S2 =>
  hbd (sR S2 a0 9 1 q1) fun S5 =>
  hnw S5 12 80 fun q7 S8 =>
  hbd (sR S8 a0 9 2 q7) fun S11 =>
  hnw S11 12 12 fun q13 S14 =>
  hbd (sR S14 a0 9 3 q13) fun S17 =>
  hnw S17 12 12 fun q19 S20 =>
  hbd (sR S20 a0 9 4 q19) fun S23 =>
  hnw S23 12 12 fun q25 S26 =>
  hbd (sR S26 a0 9 5 q25) fun S29 =>
  hnw S29 12 12 fun q31 S32 =>
  hbd (sR S32 a0 9 6 q31) fun S35 =>
  hnw S35 12 7 fun q37 S38 =>
  hbd (sR S38 a0 9 7 q37) fun S41 =>
  hnw S41 12 7 fun q43 S44 =>
  hbd (sR S44 a0 9 8 q43) fun S47 =>
  hnw S47 12 7 fun q49 S50 =>
  hbd (sR S50 a0 9 9 q49) fun S53 =>
  hnw S53 12 8 fun q55 S56 =>
  hbd (sR S56 a0 9 10 q55) fun S59 =>
  hnw S59 12 8 fun q61 S62 =>
  hbd (sR S62 a0 9 11 q61) fun S65 =>
  hnw S65 12 120 fun q67 S68 =>
  hbd (sR S68 a0 9 12 q67) fun S71 =>
  hnw S71 12 6 fun q73 S74 =>
  hbd (sR S74 a0 9 13 q73) fun S77 =>
  hnw S77 12 80 fun q79 S80 =>
  hbd (sR S80 a0 9 14 q79) fun S83 =>
  hnw S83 12 12 fun q85 S86 =>
  hbd (sR S86 a0 9 15 q85) fun S89 =>
  hnw S89 12 12 fun q91 S92 =>
  hbd (sR S92 a0 9 16 q91) fun S95 =>
  hnw S95 12 12 fun q97 S98 =>
  hbd (sR S98 a0 9 17 q97) fun S101 =>
  hnw S101 12 7 fun q103 S104 =>
  hbd (sR S104 a0 9 18 q103) fun S107 =>
  hnw S107 12 7 fun q109 S110 =>
  hbd (sR S110 a0 9 19 q109) fun S113 =>
  hnw S113 12 7 fun q115 S116 =>
  hbd (sR S116 a0 9 20 q115) fun S119 =>
  hnw S119 12 8 fun q121 S122 =>
  hbd (sR S122 a0 9 21 q121) fun S125 =>
  hnw S125 12 8 fun q127 S128 =>
  hbd (sR S128 a0 9 22 q127) fun S131 =>
  hbd (sI S131 a0 9 32 9) fun S133 =>
  hnw S133 11 400 fun q135 S136 =>
  hbd (sR S136 a0 9 34 q135) fun S139 =>
  hnw S139 12 1800 fun q141 S142 =>
  hbd (sR S142 a0 9 35 q141) fun S145 =>
  hnw S145 12 1800 fun q147 S148 =>
  hbd (sR S148 a0 9 36 q147) fun S151 =>
  hnw S151 12 6 fun q153 S154 =>
  hbd (sR S154 a0 9 37 q153) fun S157 =>
  hnw S157 12 72 fun q159 S160 =>
  hbd (sR S160 a0 9 38 q159) fun S163 =>
  hnw S163 12 72 fun q165 S166 =>
  hbd (sR S166 a0 9 39 q165) fun S169 =>
  hnw S169 12 72 fun q171 S172 =>
  hbd (sR S172 a0 9 40 q171) fun S175 =>
  hnw S175 12 402 fun q177 S178 =>
  hbd (sR S178 a0 9 41 q177) fun S181 =>
  hnw S181 13 9 fun q183 S184 =>
  hbd (sR S184 a0 9 42 q183) fun S187 =>
  hnw S187 13 300 fun q189 S190 =>
  hbd (sR S190 a0 9 43 q189) fun S193 =>
  hnw S193 12 80 fun q195 S196 =>
  hbd (sR S196 a0 9 44 q195) fun S199 =>
  hnw S199 12 14 fun q201 S202 =>
  hbd (sR S202 a0 9 45 q201) fun S205 =>
  hnw S205 12 80 fun q207 S208 =>
  hbd (sR S208 a0 9 46 q207) fun S211 =>
  hnw S211 12 12 fun q213 S214 =>
  hbd (sR S214 a0 9 47 q213) fun S217 =>
  hnw S217 12 120 fun q219 S220 =>
  hbd (sR S220 a0 9 48 q219) fun S223 =>
  hnw S223 12 12 fun q225 S226 =>
  hbd (sR S226 a0 9 49 q225) fun S229 =>
  hnw S229 14 80 fun q231 S232 =>
  hbd (sR S232 a0 9 55 q231) fun S235 =>
  hnw S235 12 12 fun q237 S238 =>
  hbd (sR S238 a0 9 58 q237) fun S241 =>
  hnw S241 12 1240 fun q243 S244 =>
  hbd (sR S244 a0 9 59 q243) fun S247 =>
  hnw S247 14 4 fun q249 S250 =>
  hbd (sR S250 a0 9 60 q249) fun S253 =>
  hbd (gR S253 a0 9 1) fun t255 =>
  hbd (sA S253 t255 5 (-1)) fun S257 =>
  hbd (gR S257 a0 9 1) fun t259 =>
  hbd (sA S257 t259 6 (-1)) fun S261 =>
  some S261
set_option maxRecDepth 100000 in
set_option maxHeartbeats 4000000 in
theorem m_X9_init {d : Nat} {cs : Nat → Nat} {a0 : Nat} {S : hS} {r : hS} (hd : 1 ≤ d) (hf : f_X9_init a0 S = some r) : HM yX9_init cX9_init 1 none d 42 7045 cs [.ref a0] S (none) r := by
  unfold f_X9_init at hf
  refine HM.ofHW true (by decide) (fun h => by rfl) (Nat.le_of_ble_eq_true rfl) ?_
  show HW cX9_init RX9 (x_X9_init d S [.ref a0] r cs) 0 0 S 0 [(0, .ref a0)] []
  refine h_aload_n dX9_init_0 rfl 0 rfl ?_
  refine h_obj q_960 (Nat.le_trans (by decide) hd) (Nat.le_of_ble_eq_true rfl) dX9_init_1 ?_
  refine h_aload_n dX9_init_4 rfl 0 rfl ?_
  refine h_bipush (v := 14) dX9_init_5 rfl ?_
  obtain ⟨q1, S2, h3, h4, hf⟩ := hnw_s hf
  refine h_newI (N := 14) h3 h4 (by decide) rfl (by decide) dX9_init_7 (Nat.le_of_ble_eq_true rfl) (Nat.le_of_ble_eq_true rfl) ?_
  obtain ⟨S5, h6, hf⟩ := hbd_s hf
  refine h_putF rfl h6 rfl (Nat.le_of_ble_eq_true rfl) rfl q_961 rfl rfl rfl (tyX9_ok 1 (by decide)) rfl rfl dX9_init_9 ?_
  refine h_aload_n dX9_init_12 rfl 0 rfl ?_
  refine h_bipush (v := 80) dX9_init_13 rfl ?_
  obtain ⟨q7, S8, h9, h10, hf⟩ := hnw_s hf
  refine h_newI (N := 80) h9 h10 (by decide) rfl (by decide) dX9_init_15 (Nat.le_of_ble_eq_true rfl) (Nat.le_of_ble_eq_true rfl) ?_
  obtain ⟨S11, h12, hf⟩ := hbd_s hf
  refine h_putF rfl h12 rfl (Nat.le_of_ble_eq_true rfl) rfl q_962 rfl rfl rfl (tyX9_ok 2 (by decide)) rfl rfl dX9_init_17 ?_
  refine h_aload_n dX9_init_20 rfl 0 rfl ?_
  refine h_bipush (v := 12) dX9_init_21 rfl ?_
  obtain ⟨q13, S14, h15, h16, hf⟩ := hnw_s hf
  refine h_newI (N := 12) h15 h16 (by decide) rfl (by decide) dX9_init_23 (Nat.le_of_ble_eq_true rfl) (Nat.le_of_ble_eq_true rfl) ?_
  obtain ⟨S17, h18, hf⟩ := hbd_s hf
  refine h_putF rfl h18 rfl (Nat.le_of_ble_eq_true rfl) rfl q_963 rfl rfl rfl (tyX9_ok 3 (by decide)) rfl rfl dX9_init_25 ?_
  refine h_aload_n dX9_init_28 rfl 0 rfl ?_
  refine h_bipush (v := 12) dX9_init_29 rfl ?_
  obtain ⟨q19, S20, h21, h22, hf⟩ := hnw_s hf
  refine h_newI (N := 12) h21 h22 (by decide) rfl (by decide) dX9_init_31 (Nat.le_of_ble_eq_true rfl) (Nat.le_of_ble_eq_true rfl) ?_
  obtain ⟨S23, h24, hf⟩ := hbd_s hf
  refine h_putF rfl h24 rfl (Nat.le_of_ble_eq_true rfl) rfl q_964 rfl rfl rfl (tyX9_ok 4 (by decide)) rfl rfl dX9_init_33 ?_
  refine h_aload_n dX9_init_36 rfl 0 rfl ?_
  refine h_bipush (v := 12) dX9_init_37 rfl ?_
  obtain ⟨q25, S26, h27, h28, hf⟩ := hnw_s hf
  refine h_newI (N := 12) h27 h28 (by decide) rfl (by decide) dX9_init_39 (Nat.le_of_ble_eq_true rfl) (Nat.le_of_ble_eq_true rfl) ?_
  obtain ⟨S29, h30, hf⟩ := hbd_s hf
  refine h_putF rfl h30 rfl (Nat.le_of_ble_eq_true rfl) rfl q_965 rfl rfl rfl (tyX9_ok 5 (by decide)) rfl rfl dX9_init_41 ?_
  refine h_aload_n dX9_init_44 rfl 0 rfl ?_
  refine h_bipush (v := 12) dX9_init_45 rfl ?_
  obtain ⟨q31, S32, h33, h34, hf⟩ := hnw_s hf
  refine h_newI (N := 12) h33 h34 (by decide) rfl (by decide) dX9_init_47 (Nat.le_of_ble_eq_true rfl) (Nat.le_of_ble_eq_true rfl) ?_
  obtain ⟨S35, h36, hf⟩ := hbd_s hf
  refine h_putF rfl h36 rfl (Nat.le_of_ble_eq_true rfl) rfl q_966 rfl rfl rfl (tyX9_ok 6 (by decide)) rfl rfl dX9_init_49 ?_
  refine h_aload_n dX9_init_52 rfl 0 rfl ?_
  refine h_bipush (v := 7) dX9_init_53 rfl ?_
  obtain ⟨q37, S38, h39, h40, hf⟩ := hnw_s hf
  refine h_newI (N := 7) h39 h40 (by decide) rfl (by decide) dX9_init_55 (Nat.le_of_ble_eq_true rfl) (Nat.le_of_ble_eq_true rfl) ?_
  obtain ⟨S41, h42, hf⟩ := hbd_s hf
  refine h_putF rfl h42 rfl (Nat.le_of_ble_eq_true rfl) rfl q_967 rfl rfl rfl (tyX9_ok 7 (by decide)) rfl rfl dX9_init_57 ?_
  refine h_aload_n dX9_init_60 rfl 0 rfl ?_
  refine h_bipush (v := 7) dX9_init_61 rfl ?_
  obtain ⟨q43, S44, h45, h46, hf⟩ := hnw_s hf
  refine h_newI (N := 7) h45 h46 (by decide) rfl (by decide) dX9_init_63 (Nat.le_of_ble_eq_true rfl) (Nat.le_of_ble_eq_true rfl) ?_
  obtain ⟨S47, h48, hf⟩ := hbd_s hf
  refine h_putF rfl h48 rfl (Nat.le_of_ble_eq_true rfl) rfl q_968 rfl rfl rfl (tyX9_ok 8 (by decide)) rfl rfl dX9_init_65 ?_
  refine h_aload_n dX9_init_68 rfl 0 rfl ?_
  refine h_bipush (v := 7) dX9_init_69 rfl ?_
  obtain ⟨q49, S50, h51, h52, hf⟩ := hnw_s hf
  refine h_newI (N := 7) h51 h52 (by decide) rfl (by decide) dX9_init_71 (Nat.le_of_ble_eq_true rfl) (Nat.le_of_ble_eq_true rfl) ?_
  obtain ⟨S53, h54, hf⟩ := hbd_s hf
  refine h_putF rfl h54 rfl (Nat.le_of_ble_eq_true rfl) rfl q_969 rfl rfl rfl (tyX9_ok 9 (by decide)) rfl rfl dX9_init_73 ?_
  refine h_aload_n dX9_init_76 rfl 0 rfl ?_
  refine h_bipush (v := 8) dX9_init_77 rfl ?_
  obtain ⟨q55, S56, h57, h58, hf⟩ := hnw_s hf
  refine h_newI (N := 8) h57 h58 (by decide) rfl (by decide) dX9_init_79 (Nat.le_of_ble_eq_true rfl) (Nat.le_of_ble_eq_true rfl) ?_
  obtain ⟨S59, h60, hf⟩ := hbd_s hf
  refine h_putF rfl h60 rfl (Nat.le_of_ble_eq_true rfl) rfl q_970 rfl rfl rfl (tyX9_ok 10 (by decide)) rfl rfl dX9_init_81 ?_
  refine h_aload_n dX9_init_84 rfl 0 rfl ?_
  refine h_bipush (v := 8) dX9_init_85 rfl ?_
  obtain ⟨q61, S62, h63, h64, hf⟩ := hnw_s hf
  refine h_newI (N := 8) h63 h64 (by decide) rfl (by decide) dX9_init_87 (Nat.le_of_ble_eq_true rfl) (Nat.le_of_ble_eq_true rfl) ?_
  obtain ⟨S65, h66, hf⟩ := hbd_s hf
  refine h_putF rfl h66 rfl (Nat.le_of_ble_eq_true rfl) rfl q_971 rfl rfl rfl (tyX9_ok 11 (by decide)) rfl rfl dX9_init_89 ?_
  refine h_aload_n dX9_init_92 rfl 0 rfl ?_
  refine h_bipush (v := 120) dX9_init_93 rfl ?_
  obtain ⟨q67, S68, h69, h70, hf⟩ := hnw_s hf
  refine h_newI (N := 120) h69 h70 (by decide) rfl (by decide) dX9_init_95 (Nat.le_of_ble_eq_true rfl) (Nat.le_of_ble_eq_true rfl) ?_
  obtain ⟨S71, h72, hf⟩ := hbd_s hf
  refine h_putF rfl h72 rfl (Nat.le_of_ble_eq_true rfl) rfl q_972 rfl rfl rfl (tyX9_ok 12 (by decide)) rfl rfl dX9_init_97 ?_
  refine h_aload_n dX9_init_100 rfl 0 rfl ?_
  refine h_bipush (v := 6) dX9_init_101 rfl ?_
  obtain ⟨q73, S74, h75, h76, hf⟩ := hnw_s hf
  refine h_newI (N := 6) h75 h76 (by decide) rfl (by decide) dX9_init_103 (Nat.le_of_ble_eq_true rfl) (Nat.le_of_ble_eq_true rfl) ?_
  obtain ⟨S77, h78, hf⟩ := hbd_s hf
  refine h_putF rfl h78 rfl (Nat.le_of_ble_eq_true rfl) rfl q_973 rfl rfl rfl (tyX9_ok 13 (by decide)) rfl rfl dX9_init_105 ?_
  refine h_aload_n dX9_init_108 rfl 0 rfl ?_
  refine h_bipush (v := 80) dX9_init_109 rfl ?_
  obtain ⟨q79, S80, h81, h82, hf⟩ := hnw_s hf
  refine h_newI (N := 80) h81 h82 (by decide) rfl (by decide) dX9_init_111 (Nat.le_of_ble_eq_true rfl) (Nat.le_of_ble_eq_true rfl) ?_
  obtain ⟨S83, h84, hf⟩ := hbd_s hf
  refine h_putF rfl h84 rfl (Nat.le_of_ble_eq_true rfl) rfl q_974 rfl rfl rfl (tyX9_ok 14 (by decide)) rfl rfl dX9_init_113 ?_
  refine h_aload_n dX9_init_116 rfl 0 rfl ?_
  refine h_bipush (v := 12) dX9_init_117 rfl ?_
  obtain ⟨q85, S86, h87, h88, hf⟩ := hnw_s hf
  refine h_newI (N := 12) h87 h88 (by decide) rfl (by decide) dX9_init_119 (Nat.le_of_ble_eq_true rfl) (Nat.le_of_ble_eq_true rfl) ?_
  obtain ⟨S89, h90, hf⟩ := hbd_s hf
  refine h_putF rfl h90 rfl (Nat.le_of_ble_eq_true rfl) rfl q_975 rfl rfl rfl (tyX9_ok 15 (by decide)) rfl rfl dX9_init_121 ?_
  refine h_aload_n dX9_init_124 rfl 0 rfl ?_
  refine h_bipush (v := 12) dX9_init_125 rfl ?_
  obtain ⟨q91, S92, h93, h94, hf⟩ := hnw_s hf
  refine h_newI (N := 12) h93 h94 (by decide) rfl (by decide) dX9_init_127 (Nat.le_of_ble_eq_true rfl) (Nat.le_of_ble_eq_true rfl) ?_
  obtain ⟨S95, h96, hf⟩ := hbd_s hf
  refine h_putF rfl h96 rfl (Nat.le_of_ble_eq_true rfl) rfl q_976 rfl rfl rfl (tyX9_ok 16 (by decide)) rfl rfl dX9_init_129 ?_
  refine h_aload_n dX9_init_132 rfl 0 rfl ?_
  refine h_bipush (v := 12) dX9_init_133 rfl ?_
  obtain ⟨q97, S98, h99, h100, hf⟩ := hnw_s hf
  refine h_newI (N := 12) h99 h100 (by decide) rfl (by decide) dX9_init_135 (Nat.le_of_ble_eq_true rfl) (Nat.le_of_ble_eq_true rfl) ?_
  obtain ⟨S101, h102, hf⟩ := hbd_s hf
  refine h_putF rfl h102 rfl (Nat.le_of_ble_eq_true rfl) rfl q_977 rfl rfl rfl (tyX9_ok 17 (by decide)) rfl rfl dX9_init_137 ?_
  refine h_aload_n dX9_init_140 rfl 0 rfl ?_
  refine h_bipush (v := 7) dX9_init_141 rfl ?_
  obtain ⟨q103, S104, h105, h106, hf⟩ := hnw_s hf
  refine h_newI (N := 7) h105 h106 (by decide) rfl (by decide) dX9_init_143 (Nat.le_of_ble_eq_true rfl) (Nat.le_of_ble_eq_true rfl) ?_
  obtain ⟨S107, h108, hf⟩ := hbd_s hf
  refine h_putF rfl h108 rfl (Nat.le_of_ble_eq_true rfl) rfl q_978 rfl rfl rfl (tyX9_ok 18 (by decide)) rfl rfl dX9_init_145 ?_
  refine h_aload_n dX9_init_148 rfl 0 rfl ?_
  refine h_bipush (v := 7) dX9_init_149 rfl ?_
  obtain ⟨q109, S110, h111, h112, hf⟩ := hnw_s hf
  refine h_newI (N := 7) h111 h112 (by decide) rfl (by decide) dX9_init_151 (Nat.le_of_ble_eq_true rfl) (Nat.le_of_ble_eq_true rfl) ?_
  obtain ⟨S113, h114, hf⟩ := hbd_s hf
  refine h_putF rfl h114 rfl (Nat.le_of_ble_eq_true rfl) rfl q_979 rfl rfl rfl (tyX9_ok 19 (by decide)) rfl rfl dX9_init_153 ?_
  refine h_aload_n dX9_init_156 rfl 0 rfl ?_
  refine h_bipush (v := 7) dX9_init_157 rfl ?_
  obtain ⟨q115, S116, h117, h118, hf⟩ := hnw_s hf
  refine h_newI (N := 7) h117 h118 (by decide) rfl (by decide) dX9_init_159 (Nat.le_of_ble_eq_true rfl) (Nat.le_of_ble_eq_true rfl) ?_
  obtain ⟨S119, h120, hf⟩ := hbd_s hf
  refine h_putF rfl h120 rfl (Nat.le_of_ble_eq_true rfl) rfl q_980 rfl rfl rfl (tyX9_ok 20 (by decide)) rfl rfl dX9_init_161 ?_
  refine h_aload_n dX9_init_164 rfl 0 rfl ?_
  refine h_bipush (v := 8) dX9_init_165 rfl ?_
  obtain ⟨q121, S122, h123, h124, hf⟩ := hnw_s hf
  refine h_newI (N := 8) h123 h124 (by decide) rfl (by decide) dX9_init_167 (Nat.le_of_ble_eq_true rfl) (Nat.le_of_ble_eq_true rfl) ?_
  obtain ⟨S125, h126, hf⟩ := hbd_s hf
  refine h_putF rfl h126 rfl (Nat.le_of_ble_eq_true rfl) rfl q_981 rfl rfl rfl (tyX9_ok 21 (by decide)) rfl rfl dX9_init_169 ?_
  refine h_aload_n dX9_init_172 rfl 0 rfl ?_
  refine h_bipush (v := 8) dX9_init_173 rfl ?_
  obtain ⟨q127, S128, h129, h130, hf⟩ := hnw_s hf
  refine h_newI (N := 8) h129 h130 (by decide) rfl (by decide) dX9_init_175 (Nat.le_of_ble_eq_true rfl) (Nat.le_of_ble_eq_true rfl) ?_
  obtain ⟨S131, h132, hf⟩ := hbd_s hf
  refine h_putF rfl h132 rfl (Nat.le_of_ble_eq_true rfl) rfl q_982 rfl rfl rfl (tyX9_ok 22 (by decide)) rfl rfl dX9_init_177 ?_
  refine h_aload_n dX9_init_180 rfl 0 rfl ?_
  refine h_bipush (v := 9) dX9_init_181 rfl ?_
  obtain ⟨S133, h134, hf⟩ := hbd_s hf
  refine h_putI h134 rfl (Nat.le_of_ble_eq_true rfl) rfl q_992 rfl rfl (by decide +kernel) dX9_init_183 ?_
  refine h_aload_n dX9_init_186 rfl 0 rfl ?_
  refine h_sipush (v := 400) dX9_init_187 rfl ?_
  obtain ⟨q135, S136, h137, h138, hf⟩ := hnw_s hf
  refine h_newB (N := 400) h137 h138 (by decide) rfl (by decide) dX9_init_190 (Nat.le_of_ble_eq_true rfl) (Nat.le_of_ble_eq_true rfl) ?_
  obtain ⟨S139, h140, hf⟩ := hbd_s hf
  refine h_putF rfl h140 rfl (Nat.le_of_ble_eq_true rfl) rfl q_994 rfl rfl rfl (tyX9_ok 34 (by decide)) rfl rfl dX9_init_192 ?_
  refine h_aload_n dX9_init_195 rfl 0 rfl ?_
  refine h_sipush (v := 1800) dX9_init_196 rfl ?_
  obtain ⟨q141, S142, h143, h144, hf⟩ := hnw_s hf
  refine h_newI (N := 1800) h143 h144 (by decide) rfl (by decide) dX9_init_199 (Nat.le_of_ble_eq_true rfl) (Nat.le_of_ble_eq_true rfl) ?_
  obtain ⟨S145, h146, hf⟩ := hbd_s hf
  refine h_putF rfl h146 rfl (Nat.le_of_ble_eq_true rfl) rfl q_995 rfl rfl rfl (tyX9_ok 35 (by decide)) rfl rfl dX9_init_201 ?_
  refine h_aload_n dX9_init_204 rfl 0 rfl ?_
  refine h_sipush (v := 1800) dX9_init_205 rfl ?_
  obtain ⟨q147, S148, h149, h150, hf⟩ := hnw_s hf
  refine h_newI (N := 1800) h149 h150 (by decide) rfl (by decide) dX9_init_208 (Nat.le_of_ble_eq_true rfl) (Nat.le_of_ble_eq_true rfl) ?_
  obtain ⟨S151, h152, hf⟩ := hbd_s hf
  refine h_putF rfl h152 rfl (Nat.le_of_ble_eq_true rfl) rfl q_996 rfl rfl rfl (tyX9_ok 36 (by decide)) rfl rfl dX9_init_210 ?_
  refine h_aload_n dX9_init_213 rfl 0 rfl ?_
  refine h_bipush (v := 6) dX9_init_214 rfl ?_
  obtain ⟨q153, S154, h155, h156, hf⟩ := hnw_s hf
  refine h_newI (N := 6) h155 h156 (by decide) rfl (by decide) dX9_init_216 (Nat.le_of_ble_eq_true rfl) (Nat.le_of_ble_eq_true rfl) ?_
  obtain ⟨S157, h158, hf⟩ := hbd_s hf
  refine h_putF rfl h158 rfl (Nat.le_of_ble_eq_true rfl) rfl q_997 rfl rfl rfl (tyX9_ok 37 (by decide)) rfl rfl dX9_init_218 ?_
  refine h_aload_n dX9_init_221 rfl 0 rfl ?_
  refine h_bipush (v := 72) dX9_init_222 rfl ?_
  obtain ⟨q159, S160, h161, h162, hf⟩ := hnw_s hf
  refine h_newI (N := 72) h161 h162 (by decide) rfl (by decide) dX9_init_224 (Nat.le_of_ble_eq_true rfl) (Nat.le_of_ble_eq_true rfl) ?_
  obtain ⟨S163, h164, hf⟩ := hbd_s hf
  refine h_putF rfl h164 rfl (Nat.le_of_ble_eq_true rfl) rfl q_998 rfl rfl rfl (tyX9_ok 38 (by decide)) rfl rfl dX9_init_226 ?_
  refine h_aload_n dX9_init_229 rfl 0 rfl ?_
  refine h_bipush (v := 72) dX9_init_230 rfl ?_
  obtain ⟨q165, S166, h167, h168, hf⟩ := hnw_s hf
  refine h_newI (N := 72) h167 h168 (by decide) rfl (by decide) dX9_init_232 (Nat.le_of_ble_eq_true rfl) (Nat.le_of_ble_eq_true rfl) ?_
  obtain ⟨S169, h170, hf⟩ := hbd_s hf
  refine h_putF rfl h170 rfl (Nat.le_of_ble_eq_true rfl) rfl q_999 rfl rfl rfl (tyX9_ok 39 (by decide)) rfl rfl dX9_init_234 ?_
  refine h_aload_n dX9_init_237 rfl 0 rfl ?_
  refine h_bipush (v := 72) dX9_init_238 rfl ?_
  obtain ⟨q171, S172, h173, h174, hf⟩ := hnw_s hf
  refine h_newI (N := 72) h173 h174 (by decide) rfl (by decide) dX9_init_240 (Nat.le_of_ble_eq_true rfl) (Nat.le_of_ble_eq_true rfl) ?_
  obtain ⟨S175, h176, hf⟩ := hbd_s hf
  refine h_putF rfl h176 rfl (Nat.le_of_ble_eq_true rfl) rfl q_1000 rfl rfl rfl (tyX9_ok 40 (by decide)) rfl rfl dX9_init_242 ?_
  refine h_aload_n dX9_init_245 rfl 0 rfl ?_
  refine h_sipush (v := 402) dX9_init_246 rfl ?_
  obtain ⟨q177, S178, h179, h180, hf⟩ := hnw_s hf
  refine h_newI (N := 402) h179 h180 (by decide) rfl (by decide) dX9_init_249 (Nat.le_of_ble_eq_true rfl) (Nat.le_of_ble_eq_true rfl) ?_
  obtain ⟨S181, h182, hf⟩ := hbd_s hf
  refine h_putF rfl h182 rfl (Nat.le_of_ble_eq_true rfl) rfl q_1001 rfl rfl rfl (tyX9_ok 41 (by decide)) rfl rfl dX9_init_251 ?_
  refine h_aload_n dX9_init_254 rfl 0 rfl ?_
  refine h_bipush (v := 9) dX9_init_255 rfl ?_
  obtain ⟨q183, S184, h185, h186, hf⟩ := hnw_s hf
  refine h_newJ (N := 9) h185 h186 (by decide) rfl (by decide) dX9_init_257 (Nat.le_of_ble_eq_true rfl) (Nat.le_of_ble_eq_true rfl) ?_
  obtain ⟨S187, h188, hf⟩ := hbd_s hf
  refine h_putF rfl h188 rfl (Nat.le_of_ble_eq_true rfl) rfl q_1002 rfl rfl rfl (tyX9_ok 42 (by decide)) rfl rfl dX9_init_259 ?_
  refine h_aload_n dX9_init_262 rfl 0 rfl ?_
  refine h_sipush (v := 300) dX9_init_263 rfl ?_
  obtain ⟨q189, S190, h191, h192, hf⟩ := hnw_s hf
  refine h_newJ (N := 300) h191 h192 (by decide) rfl (by decide) dX9_init_266 (Nat.le_of_ble_eq_true rfl) (Nat.le_of_ble_eq_true rfl) ?_
  obtain ⟨S193, h194, hf⟩ := hbd_s hf
  refine h_putF rfl h194 rfl (Nat.le_of_ble_eq_true rfl) rfl q_1003 rfl rfl rfl (tyX9_ok 43 (by decide)) rfl rfl dX9_init_268 ?_
  refine h_aload_n dX9_init_271 rfl 0 rfl ?_
  refine h_bipush (v := 80) dX9_init_272 rfl ?_
  obtain ⟨q195, S196, h197, h198, hf⟩ := hnw_s hf
  refine h_newI (N := 80) h197 h198 (by decide) rfl (by decide) dX9_init_274 (Nat.le_of_ble_eq_true rfl) (Nat.le_of_ble_eq_true rfl) ?_
  obtain ⟨S199, h200, hf⟩ := hbd_s hf
  refine h_putF rfl h200 rfl (Nat.le_of_ble_eq_true rfl) rfl q_1004 rfl rfl rfl (tyX9_ok 44 (by decide)) rfl rfl dX9_init_276 ?_
  refine h_aload_n dX9_init_279 rfl 0 rfl ?_
  refine h_bipush (v := 14) dX9_init_280 rfl ?_
  obtain ⟨q201, S202, h203, h204, hf⟩ := hnw_s hf
  refine h_newI (N := 14) h203 h204 (by decide) rfl (by decide) dX9_init_282 (Nat.le_of_ble_eq_true rfl) (Nat.le_of_ble_eq_true rfl) ?_
  obtain ⟨S205, h206, hf⟩ := hbd_s hf
  refine h_putF rfl h206 rfl (Nat.le_of_ble_eq_true rfl) rfl q_1005 rfl rfl rfl (tyX9_ok 45 (by decide)) rfl rfl dX9_init_284 ?_
  refine h_aload_n dX9_init_287 rfl 0 rfl ?_
  refine h_bipush (v := 80) dX9_init_288 rfl ?_
  obtain ⟨q207, S208, h209, h210, hf⟩ := hnw_s hf
  refine h_newI (N := 80) h209 h210 (by decide) rfl (by decide) dX9_init_290 (Nat.le_of_ble_eq_true rfl) (Nat.le_of_ble_eq_true rfl) ?_
  obtain ⟨S211, h212, hf⟩ := hbd_s hf
  refine h_putF rfl h212 rfl (Nat.le_of_ble_eq_true rfl) rfl q_1006 rfl rfl rfl (tyX9_ok 46 (by decide)) rfl rfl dX9_init_292 ?_
  refine h_aload_n dX9_init_295 rfl 0 rfl ?_
  refine h_bipush (v := 12) dX9_init_296 rfl ?_
  obtain ⟨q213, S214, h215, h216, hf⟩ := hnw_s hf
  refine h_newI (N := 12) h215 h216 (by decide) rfl (by decide) dX9_init_298 (Nat.le_of_ble_eq_true rfl) (Nat.le_of_ble_eq_true rfl) ?_
  obtain ⟨S217, h218, hf⟩ := hbd_s hf
  refine h_putF rfl h218 rfl (Nat.le_of_ble_eq_true rfl) rfl q_1007 rfl rfl rfl (tyX9_ok 47 (by decide)) rfl rfl dX9_init_300 ?_
  refine h_aload_n dX9_init_303 rfl 0 rfl ?_
  refine h_bipush (v := 120) dX9_init_304 rfl ?_
  obtain ⟨q219, S220, h221, h222, hf⟩ := hnw_s hf
  refine h_newI (N := 120) h221 h222 (by decide) rfl (by decide) dX9_init_306 (Nat.le_of_ble_eq_true rfl) (Nat.le_of_ble_eq_true rfl) ?_
  obtain ⟨S223, h224, hf⟩ := hbd_s hf
  refine h_putF rfl h224 rfl (Nat.le_of_ble_eq_true rfl) rfl q_1008 rfl rfl rfl (tyX9_ok 48 (by decide)) rfl rfl dX9_init_308 ?_
  refine h_aload_n dX9_init_311 rfl 0 rfl ?_
  refine h_bipush (v := 12) dX9_init_312 rfl ?_
  obtain ⟨q225, S226, h227, h228, hf⟩ := hnw_s hf
  refine h_newI (N := 12) h227 h228 (by decide) rfl (by decide) dX9_init_314 (Nat.le_of_ble_eq_true rfl) (Nat.le_of_ble_eq_true rfl) ?_
  obtain ⟨S229, h230, hf⟩ := hbd_s hf
  refine h_putF rfl h230 rfl (Nat.le_of_ble_eq_true rfl) rfl q_1009 rfl rfl rfl (tyX9_ok 49 (by decide)) rfl rfl dX9_init_316 ?_
  refine h_aload_n dX9_init_319 rfl 0 rfl ?_
  refine h_bipush (v := 80) dX9_init_320 rfl ?_
  obtain ⟨q231, S232, h233, h234, hf⟩ := hnw_s hf
  refine h_newZ (N := 80) h233 h234 (by decide) rfl (by decide) dX9_init_322 (Nat.le_of_ble_eq_true rfl) (Nat.le_of_ble_eq_true rfl) ?_
  obtain ⟨S235, h236, hf⟩ := hbd_s hf
  refine h_putF rfl h236 rfl (Nat.le_of_ble_eq_true rfl) rfl q_1015 rfl rfl rfl (tyX9_ok 55 (by decide)) rfl rfl dX9_init_324 ?_
  refine h_aload_n dX9_init_327 rfl 0 rfl ?_
  refine h_bipush (v := 12) dX9_init_328 rfl ?_
  obtain ⟨q237, S238, h239, h240, hf⟩ := hnw_s hf
  refine h_newI (N := 12) h239 h240 (by decide) rfl (by decide) dX9_init_330 (Nat.le_of_ble_eq_true rfl) (Nat.le_of_ble_eq_true rfl) ?_
  obtain ⟨S241, h242, hf⟩ := hbd_s hf
  refine h_putF rfl h242 rfl (Nat.le_of_ble_eq_true rfl) rfl q_1018 rfl rfl rfl (tyX9_ok 58 (by decide)) rfl rfl dX9_init_332 ?_
  refine h_aload_n dX9_init_335 rfl 0 rfl ?_
  refine h_sipush (v := 1240) dX9_init_336 rfl ?_
  obtain ⟨q243, S244, h245, h246, hf⟩ := hnw_s hf
  refine h_newI (N := 1240) h245 h246 (by decide) rfl (by decide) dX9_init_339 (Nat.le_of_ble_eq_true rfl) (Nat.le_of_ble_eq_true rfl) ?_
  obtain ⟨S247, h248, hf⟩ := hbd_s hf
  refine h_putF rfl h248 rfl (Nat.le_of_ble_eq_true rfl) rfl q_1019 rfl rfl rfl (tyX9_ok 59 (by decide)) rfl rfl dX9_init_341 ?_
  refine h_aload_n dX9_init_344 rfl 0 rfl ?_
  refine h_iconst (v := 4) dX9_init_345 rfl ?_
  obtain ⟨q249, S250, h251, h252, hf⟩ := hnw_s hf
  refine h_newZ (N := 4) h251 h252 (by decide) rfl (by decide) dX9_init_346 (Nat.le_of_ble_eq_true rfl) (Nat.le_of_ble_eq_true rfl) ?_
  obtain ⟨S253, h254, hf⟩ := hbd_s hf
  refine h_putF rfl h254 rfl (Nat.le_of_ble_eq_true rfl) rfl q_1020 rfl rfl rfl (tyX9_ok 60 (by decide)) rfl rfl dX9_init_348 ?_
  refine h_aload_n dX9_init_351 rfl 0 rfl ?_
  obtain ⟨t255, h256, hf⟩ := hbd_s hf
  refine h_getR h256 rfl (Nat.le_of_ble_eq_true rfl) rfl q_961 rfl dX9_init_352 ?_
  refine h_iconst (v := 5) dX9_init_355 rfl ?_
  refine h_iconst (v := (-1)) dX9_init_356 rfl ?_
  obtain ⟨S257, h258, hf⟩ := hbd_s hf
  refine h_iast h258 dX9_init_357 ?_
  refine h_aload_n dX9_init_358 rfl 0 rfl ?_
  obtain ⟨t259, h260, hf⟩ := hbd_s hf
  refine h_getR h260 rfl (Nat.le_of_ble_eq_true rfl) rfl q_961 rfl dX9_init_359 ?_
  refine h_bipush (v := 6) dX9_init_362 rfl ?_
  refine h_iconst (v := (-1)) dX9_init_364 rfl ?_
  obtain ⟨S261, h262, hf⟩ := hbd_s hf
  refine h_iast h262 dX9_init_365 ?_
  obtain rfl := Option.some.inj hf
  exact h_vret rfl rfl rfl (Nat.le_of_ble_eq_true rfl) (Nat.le_of_ble_eq_true rfl) dX9_init_366
abbrev x_X9_in (d : Nat) (S0 : hS) (args : List Value) (r : Int32 × hS) (cs : Nat → Nat) : hX := (((some .boolean), 6, d, 0, 0, false), (S0, args, some (.int r.1), r.2), cs)
theorem v_X9_in : hSW yX9_in cX9_in 6 (some .boolean) 3 := ⟨q_1226, q_9, q_1227, by decide +kernel, by decide⟩
def f_X9_in (a0 : Int64) (a2 : Int64) (a4 : Int64) (S : hS) : Option (Int32 × hS) :=
  hj (γ := Unit → Option (Int32 × hS)) (fun (_ : Unit) =>
    some (0, S)
    ) fun J1 =>
  if (lg_cmp a0 a2) < 0 then
    (J1 ())
  else
    (if 0 < (lg_cmp a0 a4) then
       (J1 ())
     else
       (some (1, S)))
set_option maxRecDepth 100000 in
set_option maxHeartbeats 4000000 in
theorem m_X9_in {d : Nat} {cs : Nat → Nat} {a0 : Int64} {a2 : Int64} {a4 : Int64} {S : hS} {r : Int32 × hS} (hd : 1 ≤ d) (hf : f_X9_in a0 a2 a4 S = some r) : HM yX9_in cX9_in 6 (some .boolean) d 0 0 cs [.long a0, .long a2, .long a4] S (some (.int r.1)) r.2 := by
  unfold f_X9_in at hf
  refine HM.ofHW false (by decide) (fun h => by cases h) (Nat.le_of_ble_eq_true rfl) ?_
  show HW cX9_in RX9 (x_X9_in d S [.long a0, .long a2, .long a4] r cs) 0 0 S 0 [(0, .long a0), (2, .long a2), (4, .long a4)] []
  refine h_lload_n dX9_in_0 rfl 0 rfl ?_
  refine h_lload_n dX9_in_1 rfl 1 rfl ?_
  refine h_lcmp dX9_in_2 ?_
  refine hj_s (fun J1 => ∀ (w : Unit), J1 w = some r → HW cX9_in RX9 (x_X9_in d S [.long a0, .long a2, .long a4] r cs) 0 0 S 17 [] []) hf ?_ ?_
  · intro w hf
    refine h_iconst (v := 0) dX9_in_17 rfl ?_
    obtain rfl := Option.some.inj hf
    exact h_zret rfl (by decide) rfl rfl (Nat.le_refl _) (Nat.le_refl _) dX9_in_18
  · intro J1 hJ1 hf
    refine h_if_lt (tgt := 17) dX9_in_3 (by decide) (fun c2 => ?_) (fun c2 => ?_)
    · replace hf := hif_p c2 hf
      refine h_sub (lv2 := []) [] rfl ?_
      exact hJ1 () hf
    · replace hf := hif_n c2 hf
      refine h_lload_n dX9_in_6 rfl 0 rfl ?_
      refine h_lload dX9_in_7 2 rfl ?_
      refine h_lcmp dX9_in_9 ?_
      refine h_if_gt (tgt := 17) dX9_in_10 (by decide) (fun c3 => ?_) (fun c3 => ?_)
      · replace hf := hif_p c3 hf
        refine h_sub (lv2 := []) [] rfl ?_
        exact hJ1 () hf
      · replace hf := hif_n c3 hf
        refine h_iconst (v := 1) dX9_in_13 rfl ?_
        refine h_goto (tgt := 18) dX9_in_14 (by decide) ?_
        obtain rfl := Option.some.inj hf
        exact h_zret rfl (by decide) rfl rfl (Nat.le_refl _) (Nat.le_refl _) dX9_in_18
abbrev x_X9_apart (d : Nat) (S0 : hS) (args : List Value) (r : Int32 × hS) (cs : Nat → Nat) : hX := (((some .int), 2, d, 0, 0, false), (S0, args, some (.int r.1), r.2), cs)
theorem v_X9_apart : hSW yX9_apart cX9_apart 2 (some .int) 2 := ⟨q_1493, q_9, q_1494, by decide +kernel, by decide⟩
def f_X9_apart (a0 : Int32) (a1 : Int32) (S : hS) : Option (Int32 × hS) :=
  if a1 ≤ a0 then
    (some (a0 - a1, S))
  else
    (some (a1 - a0, S))
set_option maxRecDepth 100000 in
set_option maxHeartbeats 4000000 in
theorem m_X9_apart {d : Nat} {cs : Nat → Nat} {a0 : Int32} {a1 : Int32} {S : hS} {r : Int32 × hS} (hd : 1 ≤ d) (hf : f_X9_apart a0 a1 S = some r) : HM yX9_apart cX9_apart 2 (some .int) d 0 0 cs [.int a0, .int a1] S (some (.int r.1)) r.2 := by
  unfold f_X9_apart at hf
  refine HM.ofHW false (by decide) (fun h => by cases h) (Nat.le_of_ble_eq_true rfl) ?_
  show HW cX9_apart RX9 (x_X9_apart d S [.int a0, .int a1] r cs) 0 0 S 0 [(0, .int a0), (1, .int a1)] []
  refine h_iload_n dX9_apart_0 rfl 0 rfl ?_
  refine h_iload_n dX9_apart_1 rfl 1 rfl ?_
  refine h_icmp_ge (tgt := 11) dX9_apart_2 (by decide) (fun c1 => ?_) (fun c1 => ?_)
  · replace hf := hif_p c1 hf
    refine h_iload_n dX9_apart_11 rfl 0 rfl ?_
    refine h_iload_n dX9_apart_12 rfl 1 rfl ?_
    refine h_isub dX9_apart_13 ?_
    obtain rfl := Option.some.inj hf
    exact h_iret rfl rfl rfl (Nat.le_refl _) (Nat.le_refl _) dX9_apart_14
  · replace hf := hif_n c1 hf
    refine h_iload_n dX9_apart_5 rfl 1 rfl ?_
    refine h_iload_n dX9_apart_6 rfl 0 rfl ?_
    refine h_isub dX9_apart_7 ?_
    refine h_goto (tgt := 14) dX9_apart_8 (by decide) ?_
    obtain rfl := Option.some.inj hf
    exact h_iret rfl rfl rfl (Nat.le_refl _) (Nat.le_refl _) dX9_apart_14
abbrev x_X9_isHall (d : Nat) (S0 : hS) (args : List Value) (r : Int32 × hS) (cs : Nat → Nat) : hX := (((some .boolean), 1, d, 0, 0, false), (S0, args, some (.int r.1), r.2), cs)
theorem v_X9_isHall : hVW yX9_isHall cX9_isHall 1 (some .boolean) RX9 0 := ⟨q_1379, q_s69, q_9, q_1380, by decide +kernel, by decide⟩
def f_X9_isHall (a0 : Nat) (S : hS) : Option (Int32 × hS) :=
  hbd (gR S a0 9 1) fun t1 =>
  hbd (gA S t1 12 0) fun t3 =>
  if t3 ≤ 0 then
    (some (0, S))
  else
    (some (1, S))
set_option maxRecDepth 100000 in
set_option maxHeartbeats 4000000 in
theorem m_X9_isHall {d : Nat} {cs : Nat → Nat} {a0 : Nat} {S : hS} {r : Int32 × hS} (hd : 1 ≤ d) (hf : f_X9_isHall a0 S = some r) : HM yX9_isHall cX9_isHall 1 (some .boolean) d 0 0 cs [.ref a0] S (some (.int r.1)) r.2 := by
  unfold f_X9_isHall at hf
  refine HM.ofHW false (by decide) (fun h => by cases h) (Nat.le_of_ble_eq_true rfl) ?_
  show HW cX9_isHall RX9 (x_X9_isHall d S [.ref a0] r cs) 0 0 S 0 [(0, .ref a0)] []
  refine h_aload_n dX9_isHall_0 rfl 0 rfl ?_
  obtain ⟨t1, h2, hf⟩ := hbd_s hf
  refine h_getR h2 rfl (Nat.le_of_ble_eq_true rfl) rfl q_961 rfl dX9_isHall_1 ?_
  refine h_iconst (v := 0) dX9_isHall_4 rfl ?_
  obtain ⟨t3, h4, hf⟩ := hbd_s hf
  refine h_iald h4 dX9_isHall_5 ?_
  refine h_if_le (tgt := 13) dX9_isHall_6 (by decide) (fun c5 => ?_) (fun c5 => ?_)
  · replace hf := hif_p c5 hf
    refine h_iconst (v := 0) dX9_isHall_13 rfl ?_
    obtain rfl := Option.some.inj hf
    exact h_zret rfl (by decide) rfl rfl (Nat.le_refl _) (Nat.le_refl _) dX9_isHall_14
  · replace hf := hif_n c5 hf
    refine h_iconst (v := 1) dX9_isHall_9 rfl ?_
    refine h_goto (tgt := 14) dX9_isHall_10 (by decide) ?_
    obtain rfl := Option.some.inj hf
    exact h_zret rfl (by decide) rfl rfl (Nat.le_refl _) (Nat.le_refl _) dX9_isHall_14
abbrev x_X9_isSeat (d : Nat) (S0 : hS) (args : List Value) (r : Int32 × hS) (cs : Nat → Nat) : hX := (((some .boolean), 3, d, 0, 0, false), (S0, args, some (.int r.1), r.2), cs)
theorem v_X9_isSeat : hVW yX9_isSeat cX9_isSeat 3 (some .boolean) RX9 2 := ⟨q_1326, q_s63, q_9, q_1327, by decide +kernel, by decide⟩
def f_X9_isSeat (a0 : Nat) (a1 : Int32) (a2 : Int32) (S : hS) : Option (Int32 × hS) :=
  hbd (gR S a0 9 1) fun t1 =>
  hbd (gA S t1 12 0) fun t3 =>
  hb2 (f_X9_in (Int32.toInt64 a1) 0 (Int32.toInt64 (t3 - 1)) S) fun t7 S6 =>
  hj (γ := hS → Option (Int32 × hS)) (fun (S9 : hS) =>
    some (0, S9)
    ) fun J8 =>
  if t7 = 0 then
    (J8 S6)
  else
    (hbd (gR S6 a0 9 1) fun t11 =>
     hbd (gA S6 t11 12 1) fun t13 =>
     hb2 (f_X9_in (Int32.toInt64 a2) 0 (Int32.toInt64 (t13 - 1)) S6) fun t17 S16 =>
     if t17 = 0 then
       (J8 S16)
     else
       (some (1, S16)))
set_option maxRecDepth 100000 in
set_option maxHeartbeats 4000000 in
theorem m_X9_isSeat {d : Nat} {cs : Nat → Nat} {a0 : Nat} {a1 : Int32} {a2 : Int32} {S : hS} {r : Int32 × hS} (hd : 2 ≤ d) (hf : f_X9_isSeat a0 a1 a2 S = some r) : HM yX9_isSeat cX9_isSeat 3 (some .boolean) d 0 0 cs [.ref a0, .int a1, .int a2] S (some (.int r.1)) r.2 := by
  unfold f_X9_isSeat at hf
  refine HM.ofHW false (by decide) (fun h => by cases h) (Nat.le_of_ble_eq_true rfl) ?_
  show HW cX9_isSeat RX9 (x_X9_isSeat d S [.ref a0, .int a1, .int a2] r cs) 0 0 S 0 [(0, .ref a0), (1, .int a1), (2, .int a2)] []
  refine h_iload_n dX9_isSeat_0 rfl 1 rfl ?_
  refine h_i2l dX9_isSeat_1 ?_
  refine h_lconst (v := 0) dX9_isSeat_2 rfl ?_
  refine h_aload_n dX9_isSeat_3 rfl 0 rfl ?_
  obtain ⟨t1, h2, hf⟩ := hbd_s hf
  refine h_getR h2 rfl (Nat.le_of_ble_eq_true rfl) rfl q_961 rfl dX9_isSeat_4 ?_
  refine h_iconst (v := 0) dX9_isSeat_7 rfl ?_
  obtain ⟨t3, h4, hf⟩ := hbd_s hf
  refine h_iald h4 dX9_isSeat_8 ?_
  refine h_iconst (v := 1) dX9_isSeat_9 rfl ?_
  refine h_isub dX9_isSeat_10 ?_
  refine h_i2l dX9_isSeat_11 ?_
  obtain ⟨t7, S6, h5, hf⟩ := hb2_s hf
  refine h_Si [.long (Int32.toInt64 a1), .long 0, .long (Int32.toInt64 (t3 - 1))] (rest := []) (m_X9_in (d := 1) (cs := cs) (Nat.le_refl _) h5) v_X9_in q_1225 rfl (Nat.le_trans (by decide) hd) rfl (Nat.le_of_ble_eq_true rfl) dX9_isSeat_12 (Nat.le_refl _) (Nat.le_refl _) ?_
  refine hj_s (fun J8 => ∀ (S9 : hS), J8 S9 = some r → HW cX9_isSeat RX9 (x_X9_isSeat d S [.ref a0, .int a1, .int a2] r cs) 0 0 S9 40 [] []) hf ?_ ?_
  · intro S9 hf
    refine h_iconst (v := 0) dX9_isSeat_40 rfl ?_
    obtain rfl := Option.some.inj hf
    exact h_zret rfl (by decide) rfl rfl (Nat.le_refl _) (Nat.le_refl _) dX9_isSeat_41
  · intro J8 hJ8 hf
    refine h_if_eq (tgt := 40) dX9_isSeat_15 (by decide) (fun c10 => ?_) (fun c10 => ?_)
    · replace hf := hif_p c10 hf
      refine h_sub (lv2 := []) [] rfl ?_
      exact hJ8 S6 hf
    · replace hf := hif_n c10 hf
      refine h_iload_n dX9_isSeat_18 rfl 2 rfl ?_
      refine h_i2l dX9_isSeat_19 ?_
      refine h_lconst (v := 0) dX9_isSeat_20 rfl ?_
      refine h_aload_n dX9_isSeat_21 rfl 0 rfl ?_
      obtain ⟨t11, h12, hf⟩ := hbd_s hf
      refine h_getR h12 rfl (Nat.le_of_ble_eq_true rfl) rfl q_961 rfl dX9_isSeat_22 ?_
      refine h_iconst (v := 1) dX9_isSeat_25 rfl ?_
      obtain ⟨t13, h14, hf⟩ := hbd_s hf
      refine h_iald h14 dX9_isSeat_26 ?_
      refine h_iconst (v := 1) dX9_isSeat_27 rfl ?_
      refine h_isub dX9_isSeat_28 ?_
      refine h_i2l dX9_isSeat_29 ?_
      obtain ⟨t17, S16, h15, hf⟩ := hb2_s hf
      refine h_Si [.long (Int32.toInt64 a2), .long 0, .long (Int32.toInt64 (t13 - 1))] (rest := []) (m_X9_in (d := 1) (cs := cs) (Nat.le_refl _) h15) v_X9_in q_1225 rfl (Nat.le_trans (by decide) hd) rfl (Nat.le_of_ble_eq_true rfl) dX9_isSeat_30 (Nat.le_refl _) (Nat.le_refl _) ?_
      refine h_if_eq (tgt := 40) dX9_isSeat_33 (by decide) (fun c18 => ?_) (fun c18 => ?_)
      · replace hf := hif_p c18 hf
        refine h_sub (lv2 := []) [] rfl ?_
        exact hJ8 S16 hf
      · replace hf := hif_n c18 hf
        refine h_iconst (v := 1) dX9_isSeat_36 rfl ?_
        refine h_goto (tgt := 41) dX9_isSeat_37 (by decide) ?_
        obtain rfl := Option.some.inj hf
        exact h_zret rfl (by decide) rfl rfl (Nat.le_refl _) (Nat.le_refl _) dX9_isSeat_41
abbrev x_X9_isThere (d : Nat) (S0 : hS) (args : List Value) (r : Int32 × hS) (cs : Nat → Nat) : hX := (((some .boolean), 2, d, 0, 0, false), (S0, args, some (.int r.1), r.2), cs)
theorem v_X9_isThere : hVW yX9_isThere cX9_isThere 2 (some .boolean) RX9 1 := ⟨q_1412, q_s77, q_9, q_1413, by decide +kernel, by decide⟩
def f_X9_isThere (a0 : Nat) (a1 : Int32) (S : hS) : Option (Int32 × hS) :=
  hck (S.K a0 = 10) <|
  hb2 (f_X9_isSeat a0 (a1 - a1 / 10 * 10) (a1 / 10) S) fun t3 S2 =>
  hck (t3 = 0 ∨ t3 = 1) <|
  some (t3, S2)
set_option maxRecDepth 100000 in
set_option maxHeartbeats 4000000 in
theorem m_X9_isThere {d : Nat} {cs : Nat → Nat} {a0 : Nat} {a1 : Int32} {S : hS} {r : Int32 × hS} (hd : 3 ≤ d) (hf : f_X9_isThere a0 a1 S = some r) : HM yX9_isThere cX9_isThere 2 (some .boolean) d 0 0 cs [.ref a0, .int a1] S (some (.int r.1)) r.2 := by
  unfold f_X9_isThere at hf
  refine HM.ofHW false (by decide) (fun h => by cases h) (Nat.le_of_ble_eq_true rfl) ?_
  show HW cX9_isThere RX9 (x_X9_isThere d S [.ref a0, .int a1] r cs) 0 0 S 0 [(0, .ref a0), (1, .int a1)] []
  refine h_aload_n dX9_isThere_0 rfl 0 rfl ?_
  refine h_iload_n dX9_isThere_1 rfl 1 rfl ?_
  refine h_bipush (v := 10) dX9_isThere_2 rfl ?_
  refine h_irem dX9_isThere_4 (by decide) ?_
  refine h_iload_n dX9_isThere_5 rfl 1 rfl ?_
  refine h_bipush (v := 10) dX9_isThere_6 rfl ?_
  refine h_idiv dX9_isThere_8 (by decide) ?_
  obtain ⟨g4, hf⟩ := hck_s hf
  obtain ⟨t3, S2, h1, hf⟩ := hb2_s hf
  refine h_Vi [.int (a1 - a1 / 10 * 10), .int (a1 / 10)] (rest := []) (m_X9_isSeat (d := 2) (cs := cs) (Nat.le_refl _) h1) v_X9_isSeat q_1324 rfl (Nat.le_trans (by decide) hd) g4 rfl rfl (Nat.le_of_ble_eq_true rfl) dX9_isThere_9 (Nat.le_refl _) (Nat.le_refl _) ?_
  obtain ⟨hz, hf⟩ := hck_s hf
  obtain rfl := Option.some.inj hf
  exact h_zret rfl hz rfl rfl (Nat.le_refl _) (Nat.le_refl _) dX9_isThere_12
abbrev x_X9_by (d : Nat) (S0 : hS) (args : List Value) (r : Int32 × hS) (cs : Nat → Nat) : hX := (((some .int), 5, d, 0, 0, false), (S0, args, some (.int r.1), r.2), cs)
theorem v_X9_by : hVW yX9_by cX9_by 5 (some .int) RX9 2 := ⟨q_1400, q_s74, q_9, q_1401, by decide +kernel, by decide⟩
def f_X9_by (a0 : Nat) (a1 : Int32) (a2 : Int32) (S : hS) : Option (Int32 × hS) :=
  hj (γ := Int32 → Option (Int32 × hS)) (fun (v2 : Int32) =>
    hj (γ := Int32 → Option (Int32 × hS)) (fun (v4 : Int32) =>
      hck (S.K a0 = 10) <|
      hb2 (f_X9_isSeat a0 ((a1 - a1 / 10 * 10) + v2) ((a1 / 10) + v4) S) fun t7 S6 =>
      if t7 = 0 then
        (some ((-1), S6))
      else
        (some ((10 * ((a1 / 10) + v4)) + ((a1 - a1 / 10 * 10) + v2), S6))
      ) fun J3 =>
    if a2 = 3 then
      (J3 1)
    else
      (if a2 = 1 then
         (J3 (-1))
       else
         (J3 0))
    ) fun J1 =>
  if a2 = 2 then
    (J1 1)
  else
    (if a2 = 4 then
       (J1 (-1))
     else
       (J1 0))
set_option maxRecDepth 100000 in
set_option maxHeartbeats 4000000 in
theorem m_X9_by {d : Nat} {cs : Nat → Nat} {a0 : Nat} {a1 : Int32} {a2 : Int32} {S : hS} {r : Int32 × hS} (hd : 3 ≤ d) (hf : f_X9_by a0 a1 a2 S = some r) : HM yX9_by cX9_by 5 (some .int) d 0 0 cs [.ref a0, .int a1, .int a2] S (some (.int r.1)) r.2 := by
  unfold f_X9_by at hf
  refine HM.ofHW false (by decide) (fun h => by cases h) (Nat.le_of_ble_eq_true rfl) ?_
  show HW cX9_by RX9 (x_X9_by d S [.ref a0, .int a1, .int a2] r cs) 0 0 S 0 [(0, .ref a0), (1, .int a1), (2, .int a2)] []
  refine h_iload_n dX9_by_0 rfl 1 rfl ?_
  refine h_bipush (v := 10) dX9_by_1 rfl ?_
  refine h_irem dX9_by_3 (by decide) ?_
  refine h_iload_n dX9_by_4 rfl 2 rfl ?_
  refine h_iconst (v := 2) dX9_by_5 rfl ?_
  refine hj_s (fun J1 => ∀ (v2 : Int32), J1 v2 = some r → HW cX9_by RX9 (x_X9_by d S [.ref a0, .int a1, .int a2] r cs) 0 0 S 23 [(0, .ref a0), (1, .int a1), (2, .int a2)] [.int v2, .int (a1 - a1 / 10 * 10)]) hf ?_ ?_
  · intro v2 hf
    refine h_iadd dX9_by_23 ?_
    refine h_istore_n (lv2 := [(3, .int ((a1 - a1 / 10 * 10) + v2)), (0, .ref a0), (1, .int a1), (2, .int a2)]) dX9_by_24 rfl (Nat.le_of_ble_eq_true rfl) rfl ?_
    refine h_iload_n dX9_by_25 rfl 2 rfl ?_
    refine h_bipush (v := 10) dX9_by_26 rfl ?_
    refine h_idiv dX9_by_28 (by decide) ?_
    refine h_iload_n dX9_by_29 rfl 3 rfl ?_
    refine h_iconst (v := 3) dX9_by_30 rfl ?_
    refine hj_s (fun J3 => ∀ (v4 : Int32), J3 v4 = some r → HW cX9_by RX9 (x_X9_by d S [.ref a0, .int a1, .int a2] r cs) 0 0 S 48 [(0, .ref a0), (3, .int ((a1 - a1 / 10 * 10) + v2))] [.int v4, .int (a1 / 10)]) hf ?_ ?_
    · intro v4 hf
      refine h_iadd dX9_by_48 ?_
      refine h_istore (lv2 := [(4, .int ((a1 / 10) + v4)), (0, .ref a0), (3, .int ((a1 - a1 / 10 * 10) + v2))]) dX9_by_49 (Nat.le_of_ble_eq_true rfl) rfl ?_
      refine h_aload_n dX9_by_51 rfl 1 rfl ?_
      refine h_iload_n dX9_by_52 rfl 2 rfl ?_
      refine h_iload dX9_by_53 0 rfl ?_
      obtain ⟨g9, hf⟩ := hck_s hf
      obtain ⟨t7, S6, h5, hf⟩ := hb2_s hf
      refine h_Vi [.int ((a1 - a1 / 10 * 10) + v2), .int ((a1 / 10) + v4)] (rest := []) (m_X9_isSeat (d := 2) (cs := cs) (Nat.le_refl _) h5) v_X9_isSeat q_1324 rfl (Nat.le_trans (by decide) hd) g9 rfl rfl (Nat.le_of_ble_eq_true rfl) dX9_by_55 (Nat.le_refl _) (Nat.le_refl _) ?_
      refine h_if_eq (tgt := 71) dX9_by_58 (by decide) (fun c8 => ?_) (fun c8 => ?_)
      · replace hf := hif_p c8 hf
        refine h_iconst (v := (-1)) dX9_by_71 rfl ?_
        obtain rfl := Option.some.inj hf
        exact h_iret rfl rfl rfl (Nat.le_refl _) (Nat.le_refl _) dX9_by_72
      · replace hf := hif_n c8 hf
        refine h_bipush (v := 10) dX9_by_61 rfl ?_
        refine h_iload dX9_by_63 0 rfl ?_
        refine h_imul dX9_by_65 ?_
        refine h_iload_n dX9_by_66 rfl 2 rfl ?_
        refine h_iadd dX9_by_67 ?_
        refine h_goto (tgt := 72) dX9_by_68 (by decide) ?_
        obtain rfl := Option.some.inj hf
        exact h_iret rfl rfl rfl (Nat.le_refl _) (Nat.le_refl _) dX9_by_72
    · intro J3 hJ3 hf
      refine h_icmp_ne (tgt := 38) dX9_by_31 (by decide) (fun c10 => ?_) (fun c10 => ?_)
      · replace hf := hif_n c10 hf
        refine h_iload_n dX9_by_38 rfl 3 rfl ?_
        refine h_iconst (v := 1) dX9_by_39 rfl ?_
        refine h_icmp_ne (tgt := 47) dX9_by_40 (by decide) (fun c11 => ?_) (fun c11 => ?_)
        · replace hf := hif_n c11 hf
          refine h_iconst (v := 0) dX9_by_47 rfl ?_
          refine h_sub (lv2 := [(0, .ref a0), (3, .int ((a1 - a1 / 10 * 10) + v2))]) [1, 0] rfl ?_
          exact hJ3 0 hf
        · replace hf := hif_p c11 hf
          refine h_iconst (v := (-1)) dX9_by_43 rfl ?_
          refine h_goto (tgt := 48) dX9_by_44 (by decide) ?_
          refine h_sub (lv2 := [(0, .ref a0), (3, .int ((a1 - a1 / 10 * 10) + v2))]) [1, 0] rfl ?_
          exact hJ3 (-1) hf
      · replace hf := hif_p c10 hf
        refine h_iconst (v := 1) dX9_by_34 rfl ?_
        refine h_goto (tgt := 48) dX9_by_35 (by decide) ?_
        refine h_sub (lv2 := [(0, .ref a0), (3, .int ((a1 - a1 / 10 * 10) + v2))]) [1, 0] rfl ?_
        exact hJ3 1 hf
  · intro J1 hJ1 hf
    refine h_icmp_ne (tgt := 13) dX9_by_6 (by decide) (fun c12 => ?_) (fun c12 => ?_)
    · replace hf := hif_n c12 hf
      refine h_iload_n dX9_by_13 rfl 2 rfl ?_
      refine h_iconst (v := 4) dX9_by_14 rfl ?_
      refine h_icmp_ne (tgt := 22) dX9_by_15 (by decide) (fun c13 => ?_) (fun c13 => ?_)
      · replace hf := hif_n c13 hf
        refine h_iconst (v := 0) dX9_by_22 rfl ?_
        exact hJ1 0 hf
      · replace hf := hif_p c13 hf
        refine h_iconst (v := (-1)) dX9_by_18 rfl ?_
        refine h_goto (tgt := 23) dX9_by_19 (by decide) ?_
        exact hJ1 (-1) hf
    · replace hf := hif_p c12 hf
      refine h_iconst (v := 1) dX9_by_9 rfl ?_
      refine h_goto (tgt := 23) dX9_by_10 (by decide) ?_
      exact hJ1 1 hf
abbrev x_X9_isGuest (d : Nat) (S0 : hS) (args : List Value) (r : Int32 × hS) (cs : Nat → Nat) : hX := (((some .boolean), 2, d, 0, 0, false), (S0, args, some (.int r.1), r.2), cs)
theorem v_X9_isGuest : hVW yX9_isGuest cX9_isGuest 2 (some .boolean) RX9 1 := ⟨q_1342, q_s66, q_9, q_1343, by decide +kernel, by decide⟩
def f_X9_isGuest (a0 : Nat) (a1 : Int32) (S : hS) : Option (Int32 × hS) :=
  hbd (gR S a0 9 1) fun t1 =>
  hbd (gA S t1 12 2) fun t3 =>
  hb2 (f_X9_in (Int32.toInt64 a1) 0 (Int32.toInt64 (t3 - 1)) S) fun t7 S6 =>
  hck (t7 = 0 ∨ t7 = 1) <|
  some (t7, S6)
set_option maxRecDepth 100000 in
set_option maxHeartbeats 4000000 in
theorem m_X9_isGuest {d : Nat} {cs : Nat → Nat} {a0 : Nat} {a1 : Int32} {S : hS} {r : Int32 × hS} (hd : 2 ≤ d) (hf : f_X9_isGuest a0 a1 S = some r) : HM yX9_isGuest cX9_isGuest 2 (some .boolean) d 0 0 cs [.ref a0, .int a1] S (some (.int r.1)) r.2 := by
  unfold f_X9_isGuest at hf
  refine HM.ofHW false (by decide) (fun h => by cases h) (Nat.le_of_ble_eq_true rfl) ?_
  show HW cX9_isGuest RX9 (x_X9_isGuest d S [.ref a0, .int a1] r cs) 0 0 S 0 [(0, .ref a0), (1, .int a1)] []
  refine h_iload_n dX9_isGuest_0 rfl 1 rfl ?_
  refine h_i2l dX9_isGuest_1 ?_
  refine h_lconst (v := 0) dX9_isGuest_2 rfl ?_
  refine h_aload_n dX9_isGuest_3 rfl 0 rfl ?_
  obtain ⟨t1, h2, hf⟩ := hbd_s hf
  refine h_getR h2 rfl (Nat.le_of_ble_eq_true rfl) rfl q_961 rfl dX9_isGuest_4 ?_
  refine h_iconst (v := 2) dX9_isGuest_7 rfl ?_
  obtain ⟨t3, h4, hf⟩ := hbd_s hf
  refine h_iald h4 dX9_isGuest_8 ?_
  refine h_iconst (v := 1) dX9_isGuest_9 rfl ?_
  refine h_isub dX9_isGuest_10 ?_
  refine h_i2l dX9_isGuest_11 ?_
  obtain ⟨t7, S6, h5, hf⟩ := hb2_s hf
  refine h_Si [.long (Int32.toInt64 a1), .long 0, .long (Int32.toInt64 (t3 - 1))] (rest := []) (m_X9_in (d := 1) (cs := cs) (Nat.le_refl _) h5) v_X9_in q_1225 rfl (Nat.le_trans (by decide) hd) rfl (Nat.le_of_ble_eq_true rfl) dX9_isGuest_12 (Nat.le_refl _) (Nat.le_refl _) ?_
  obtain ⟨hz, hf⟩ := hck_s hf
  obtain rfl := Option.some.inj hf
  exact h_zret rfl hz rfl rfl (Nat.le_refl _) (Nat.le_refl _) dX9_isGuest_15
abbrev x_X9_isHere (d : Nat) (S0 : hS) (args : List Value) (r : Int32 × hS) (cs : Nat → Nat) : hX := (((some .boolean), 2, d, 0, 0, false), (S0, args, some (.int r.1), r.2), cs)
theorem v_X9_isHere : hVW yX9_isHere cX9_isHere 2 (some .boolean) RX9 1 := ⟨q_1358, q_s67, q_9, q_1359, by decide +kernel, by decide⟩
def f_X9_isHere (a0 : Nat) (a1 : Int32) (S : hS) : Option (Int32 × hS) :=
  hck (S.K a0 = 10) <|
  hb2 (f_X9_isGuest a0 a1 S) fun t3 S2 =>
  hj (γ := Unit → Option (Int32 × hS)) (fun (_ : Unit) =>
    some (0, S2)
    ) fun J4 =>
  if t3 = 0 then
    (J4 ())
  else
    (hbd (gR S2 a0 9 3) fun t6 =>
     hbd (gA S2 t6 12 a1) fun t8 =>
     if t8 = (-1) then
       (J4 ())
     else
       (some (1, S2)))
set_option maxRecDepth 100000 in
set_option maxHeartbeats 4000000 in
theorem m_X9_isHere {d : Nat} {cs : Nat → Nat} {a0 : Nat} {a1 : Int32} {S : hS} {r : Int32 × hS} (hd : 3 ≤ d) (hf : f_X9_isHere a0 a1 S = some r) : HM yX9_isHere cX9_isHere 2 (some .boolean) d 0 0 cs [.ref a0, .int a1] S (some (.int r.1)) r.2 := by
  unfold f_X9_isHere at hf
  refine HM.ofHW false (by decide) (fun h => by cases h) (Nat.le_of_ble_eq_true rfl) ?_
  show HW cX9_isHere RX9 (x_X9_isHere d S [.ref a0, .int a1] r cs) 0 0 S 0 [(0, .ref a0), (1, .int a1)] []
  refine h_aload_n dX9_isHere_0 rfl 0 rfl ?_
  refine h_iload_n dX9_isHere_1 rfl 1 rfl ?_
  obtain ⟨g11, hf⟩ := hck_s hf
  obtain ⟨t3, S2, h1, hf⟩ := hb2_s hf
  refine h_Vi [.int a1] (rest := []) (m_X9_isGuest (d := 2) (cs := cs) (Nat.le_refl _) h1) v_X9_isGuest q_1340 rfl (Nat.le_trans (by decide) hd) g11 rfl rfl (Nat.le_of_ble_eq_true rfl) dX9_isHere_2 (Nat.le_refl _) (Nat.le_refl _) ?_
  refine hj_s (fun J4 => ∀ (w : Unit), J4 w = some r → HW cX9_isHere RX9 (x_X9_isHere d S [.ref a0, .int a1] r cs) 0 0 S2 22 [] []) hf ?_ ?_
  · intro w hf
    refine h_iconst (v := 0) dX9_isHere_22 rfl ?_
    obtain rfl := Option.some.inj hf
    exact h_zret rfl (by decide) rfl rfl (Nat.le_refl _) (Nat.le_refl _) dX9_isHere_23
  · intro J4 hJ4 hf
    refine h_if_eq (tgt := 22) dX9_isHere_5 (by decide) (fun c5 => ?_) (fun c5 => ?_)
    · replace hf := hif_p c5 hf
      refine h_sub (lv2 := []) [] rfl ?_
      exact hJ4 () hf
    · replace hf := hif_n c5 hf
      refine h_aload_n dX9_isHere_8 rfl 0 rfl ?_
      obtain ⟨t6, h7, hf⟩ := hbd_s hf
      refine h_getR h7 rfl (Nat.le_of_ble_eq_true rfl) rfl q_963 rfl dX9_isHere_9 ?_
      refine h_iload_n dX9_isHere_12 rfl 1 rfl ?_
      obtain ⟨t8, h9, hf⟩ := hbd_s hf
      refine h_iald h9 dX9_isHere_13 ?_
      refine h_iconst (v := (-1)) dX9_isHere_14 rfl ?_
      refine h_icmp_eq (tgt := 22) dX9_isHere_15 (by decide) (fun c10 => ?_) (fun c10 => ?_)
      · replace hf := hif_p c10 hf
        refine h_sub (lv2 := []) [] rfl ?_
        exact hJ4 () hf
      · replace hf := hif_n c10 hf
        refine h_iconst (v := 1) dX9_isHere_18 rfl ?_
        refine h_goto (tgt := 23) dX9_isHere_19 (by decide) ?_
        obtain rfl := Option.some.inj hf
        exact h_zret rfl (by decide) rfl rfl (Nat.le_refl _) (Nat.le_refl _) dX9_isHere_23
abbrev x_X9_whoAt (d : Nat) (S0 : hS) (args : List Value) (r : Int32 × hS) (cs : Nat → Nat) : hX := (((some .int), 3, d, 0, 0, false), (S0, args, some (.int r.1), r.2), cs)
theorem v_X9_whoAt : hVW yX9_whoAt cX9_whoAt 3 (some .int) RX9 1 := ⟨q_1330, q_s64, q_9, q_1331, by decide +kernel, by decide⟩
def f_X9_whoAt_L2 : Nat → Nat → Int32 → Int32 → hS → (Option (Int32 × hS)) → (Int32 → Option (Int32 × hS)) → Option (Int32 × hS)
  | 0, _, _, _, _, _, _ => none
  | n + 1, x0, x1, x2, S, k0, k1 =>
    hbd (gR S x0 9 1) fun t1 =>
    hbd (gA S t1 12 2) fun t3 =>
    if t3 ≤ x2 then
      (k0)
    else
      (hbd (gR S x0 9 3) fun t6 =>
       hbd (gA S t6 12 x2) fun t8 =>
       if t8 = x1 then
         (k1 x2)
       else
         (f_X9_whoAt_L2 n x0 x1 (x2 + 1) S k0 k1))
def f_X9_whoAt (a0 : Nat) (a1 : Int32) (S : hS) : Option (Int32 × hS) :=
  f_X9_whoAt_L2 hfuel a0 a1 0 S
    (
      some ((-1), S)
    )
    (fun u11 =>
      some (u11, S)
    )
set_option maxRecDepth 100000 in
set_option maxHeartbeats 4000000 in
theorem w_X9_whoAt_L2 {d : Nat} {S0 : hS} {args : List Value} {cs : Nat → Nat} {r : Int32 × hS} (hd : 1 ≤ d) : ∀ (n : Nat) (x0 : Nat) (x1 : Int32) (x2 : Int32) (S : hS) (k0 : (Option (Int32 × hS))) (k1 : (Int32 → Option (Int32 × hS))) , f_X9_whoAt_L2 n x0 x1 x2 S k0 k1 = some r → (k0 = some r → HW cX9_whoAt RX9 (x_X9_whoAt d S0 args r cs) 0 0 S 30 [] []) → (∀ (y2 : Int32), k1 y2 = some r → HW cX9_whoAt RX9 (x_X9_whoAt d S0 args r cs) 0 0 S 22 [(2, .int y2)] []) → HW cX9_whoAt RX9 (x_X9_whoAt d S0 args r cs) 0 0 S 2 [(0, .ref x0), (1, .int x1), (2, .int x2)] [] := by
  intro n
  induction n with
  | zero =>
    intro x0 x1 x2 S k0 k1 hf
    cases hf
  | succ n ih =>
    intro x0 x1 x2 S k0 k1 hf hk0 hk1
    rw [f_X9_whoAt_L2] at hf
    refine h_iload_n dX9_whoAt_2 rfl 2 rfl ?_
    refine h_aload_n dX9_whoAt_3 rfl 0 rfl ?_
    obtain ⟨t1, h2, hf⟩ := hbd_s hf
    refine h_getR h2 rfl (Nat.le_of_ble_eq_true rfl) rfl q_961 rfl dX9_whoAt_4 ?_
    refine h_iconst (v := 2) dX9_whoAt_7 rfl ?_
    obtain ⟨t3, h4, hf⟩ := hbd_s hf
    refine h_iald h4 dX9_whoAt_8 ?_
    refine h_icmp_ge (tgt := 30) dX9_whoAt_9 (by decide) (fun c5 => ?_) (fun c5 => ?_)
    · replace hf := hif_p c5 hf
      refine h_sub (lv2 := []) [] rfl ?_
      exact hk0  hf
    · replace hf := hif_n c5 hf
      refine h_aload_n dX9_whoAt_12 rfl 0 rfl ?_
      obtain ⟨t6, h7, hf⟩ := hbd_s hf
      refine h_getR h7 rfl (Nat.le_of_ble_eq_true rfl) rfl q_963 rfl dX9_whoAt_13 ?_
      refine h_iload_n dX9_whoAt_16 rfl 2 rfl ?_
      obtain ⟨t8, h9, hf⟩ := hbd_s hf
      refine h_iald h9 dX9_whoAt_17 ?_
      refine h_iload_n dX9_whoAt_18 rfl 1 rfl ?_
      refine h_icmp_ne (tgt := 24) dX9_whoAt_19 (by decide) (fun c10 => ?_) (fun c10 => ?_)
      · replace hf := hif_n c10 hf
        refine h_iinc (q := 2) (v := x2 + 1) (lv2 := [(2, .int (x2 + 1)), (0, .ref x0), (1, .int x1)]) dX9_whoAt_24 rfl rfl (Nat.le_of_ble_eq_true rfl) rfl ?_
        refine h_goto (tgt := 2) dX9_whoAt_27 (by decide) ?_
        refine h_sub (lv2 := [(0, .ref x0), (1, .int x1), (2, .int (x2 + 1))]) [1, 2, 0] rfl ?_
        exact ih x0 x1 (x2 + 1) S k0 k1  hf hk0 hk1
      · replace hf := hif_p c10 hf
        refine h_sub (lv2 := [(2, .int x2)]) [2] rfl ?_
        exact hk1 x2  hf
set_option maxRecDepth 100000 in
set_option maxHeartbeats 4000000 in
theorem m_X9_whoAt {d : Nat} {cs : Nat → Nat} {a0 : Nat} {a1 : Int32} {S : hS} {r : Int32 × hS} (hd : 1 ≤ d) (hf : f_X9_whoAt a0 a1 S = some r) : HM yX9_whoAt cX9_whoAt 3 (some .int) d 0 0 cs [.ref a0, .int a1] S (some (.int r.1)) r.2 := by
  unfold f_X9_whoAt at hf
  refine HM.ofHW false (by decide) (fun h => by cases h) (Nat.le_of_ble_eq_true rfl) ?_
  show HW cX9_whoAt RX9 (x_X9_whoAt d S [.ref a0, .int a1] r cs) 0 0 S 0 [(0, .ref a0), (1, .int a1)] []
  refine h_iconst (v := 0) dX9_whoAt_0 rfl ?_
  refine h_istore_n (lv2 := [(2, .int 0), (0, .ref a0), (1, .int a1)]) dX9_whoAt_1 rfl (Nat.le_of_ble_eq_true rfl) rfl ?_
  refine h_sub (lv2 := [(0, .ref a0), (1, .int a1), (2, .int 0)]) [1, 2, 0] rfl ?_
  refine w_X9_whoAt_L2 hd hfuel a0 a1 0 S _ _  hf ?_ ?_
  · intro  hf
    refine h_iconst (v := (-1)) dX9_whoAt_30 rfl ?_
    obtain rfl := Option.some.inj hf
    exact h_iret rfl rfl rfl (Nat.le_refl _) (Nat.le_refl _) dX9_whoAt_31
  · intro u11 hf
    refine h_iload_n dX9_whoAt_22 rfl 0 rfl ?_
    obtain rfl := Option.some.inj hf
    exact h_iret rfl rfl rfl (Nat.le_refl _) (Nat.le_refl _) dX9_whoAt_23
abbrev x_X9_edge (d : Nat) (S0 : hS) (args : List Value) (r : Int32 × hS) (cs : Nat → Nat) : hX := (((some .int), 8, d, 0, 0, false), (S0, args, some (.int r.1), r.2), cs)
theorem v_X9_edge : hVW yX9_edge cX9_edge 8 (some .int) RX9 1 := ⟨q_1334, q_s65, q_9, q_1335, by decide +kernel, by decide⟩
def f_X9_edge (a0 : Nat) (a1 : Int32) (S : hS) : Option (Int32 × hS) :=
  hj (γ := Int32 → Option (Int32 × hS)) (fun (v2 : Int32) =>
    hbd (gR S a0 9 1) fun t3 =>
    hbd (gA S t3 12 0) fun t5 =>
    hbd (gR S a0 9 1) fun t7 =>
    hbd (gA S t7 12 1) fun t9 =>
    hj (γ := Int32 → Option (Int32 × hS)) (fun (v12 : Int32) =>
      if v12 ≤ v2 then
        (some (v12, S))
      else
        (some (v2, S))
      ) fun J11 =>
    if ((t9 - 1) - (a1 / 10)) ≤ ((t5 - 1) - (a1 - a1 / 10 * 10)) then
      (J11 ((t9 - 1) - (a1 / 10)))
    else
      (J11 ((t5 - 1) - (a1 - a1 / 10 * 10)))
    ) fun J1 =>
  if (a1 / 10) ≤ (a1 - a1 / 10 * 10) then
    (J1 (a1 / 10))
  else
    (J1 (a1 - a1 / 10 * 10))
set_option maxRecDepth 100000 in
set_option maxHeartbeats 4000000 in
theorem m_X9_edge {d : Nat} {cs : Nat → Nat} {a0 : Nat} {a1 : Int32} {S : hS} {r : Int32 × hS} (hd : 1 ≤ d) (hf : f_X9_edge a0 a1 S = some r) : HM yX9_edge cX9_edge 8 (some .int) d 0 0 cs [.ref a0, .int a1] S (some (.int r.1)) r.2 := by
  unfold f_X9_edge at hf
  refine HM.ofHW false (by decide) (fun h => by cases h) (Nat.le_of_ble_eq_true rfl) ?_
  show HW cX9_edge RX9 (x_X9_edge d S [.ref a0, .int a1] r cs) 0 0 S 0 [(0, .ref a0), (1, .int a1)] []
  refine h_iload_n dX9_edge_0 rfl 1 rfl ?_
  refine h_bipush (v := 10) dX9_edge_1 rfl ?_
  refine h_irem dX9_edge_3 (by decide) ?_
  refine h_istore_n (lv2 := [(2, .int (a1 - a1 / 10 * 10)), (0, .ref a0), (1, .int a1)]) dX9_edge_4 rfl (Nat.le_of_ble_eq_true rfl) rfl ?_
  refine h_iload_n dX9_edge_5 rfl 2 rfl ?_
  refine h_bipush (v := 10) dX9_edge_6 rfl ?_
  refine h_idiv dX9_edge_8 (by decide) ?_
  refine h_istore_n (lv2 := [(3, .int (a1 / 10)), (2, .int (a1 - a1 / 10 * 10)), (0, .ref a0), (1, .int a1)]) dX9_edge_9 rfl (Nat.le_of_ble_eq_true rfl) rfl ?_
  refine h_iload_n dX9_edge_10 rfl 1 rfl ?_
  refine h_iload_n dX9_edge_11 rfl 0 rfl ?_
  refine hj_s (fun J1 => ∀ (v2 : Int32), J1 v2 = some r → HW cX9_edge RX9 (x_X9_edge d S [.ref a0, .int a1] r cs) 0 0 S 20 [(0, .ref a0), (2, .int (a1 - a1 / 10 * 10)), (3, .int (a1 / 10))] [.int v2]) hf ?_ ?_
  · intro v2 hf
    refine h_istore (lv2 := [(4, .int v2), (0, .ref a0), (2, .int (a1 - a1 / 10 * 10)), (3, .int (a1 / 10))]) dX9_edge_20 (Nat.le_of_ble_eq_true rfl) rfl ?_
    refine h_aload_n dX9_edge_22 rfl 1 rfl ?_
    obtain ⟨t3, h4, hf⟩ := hbd_s hf
    refine h_getR h4 rfl (Nat.le_of_ble_eq_true rfl) rfl q_961 rfl dX9_edge_23 ?_
    refine h_iconst (v := 0) dX9_edge_26 rfl ?_
    obtain ⟨t5, h6, hf⟩ := hbd_s hf
    refine h_iald h6 dX9_edge_27 ?_
    refine h_iconst (v := 1) dX9_edge_28 rfl ?_
    refine h_isub dX9_edge_29 ?_
    refine h_iload_n dX9_edge_30 rfl 2 rfl ?_
    refine h_isub dX9_edge_31 ?_
    refine h_istore (lv2 := [(5, .int ((t5 - 1) - (a1 - a1 / 10 * 10))), (4, .int v2), (0, .ref a0), (2, .int (a1 - a1 / 10 * 10)), (3, .int (a1 / 10))]) dX9_edge_32 (Nat.le_of_ble_eq_true rfl) rfl ?_
    refine h_aload_n dX9_edge_34 rfl 2 rfl ?_
    obtain ⟨t7, h8, hf⟩ := hbd_s hf
    refine h_getR h8 rfl (Nat.le_of_ble_eq_true rfl) rfl q_961 rfl dX9_edge_35 ?_
    refine h_iconst (v := 1) dX9_edge_38 rfl ?_
    obtain ⟨t9, h10, hf⟩ := hbd_s hf
    refine h_iald h10 dX9_edge_39 ?_
    refine h_iconst (v := 1) dX9_edge_40 rfl ?_
    refine h_isub dX9_edge_41 ?_
    refine h_iload_n dX9_edge_42 rfl 4 rfl ?_
    refine h_isub dX9_edge_43 ?_
    refine h_istore (lv2 := [(6, .int ((t9 - 1) - (a1 / 10))), (5, .int ((t5 - 1) - (a1 - a1 / 10 * 10))), (4, .int v2), (0, .ref a0), (2, .int (a1 - a1 / 10 * 10)), (3, .int (a1 / 10))]) dX9_edge_44 (Nat.le_of_ble_eq_true rfl) rfl ?_
    refine h_iload dX9_edge_46 1 rfl ?_
    refine h_iload dX9_edge_48 0 rfl ?_
    refine hj_s (fun J11 => ∀ (v12 : Int32), J11 v12 = some r → HW cX9_edge RX9 (x_X9_edge d S [.ref a0, .int a1] r cs) 0 0 S 60 [(4, .int v2)] [.int v12]) hf ?_ ?_
    · intro v12 hf
      refine h_istore (lv2 := [(7, .int v12), (4, .int v2)]) dX9_edge_60 (Nat.le_of_ble_eq_true rfl) rfl ?_
      refine h_iload dX9_edge_62 1 rfl ?_
      refine h_iload dX9_edge_64 0 rfl ?_
      refine h_icmp_ge (tgt := 74) dX9_edge_66 (by decide) (fun c13 => ?_) (fun c13 => ?_)
      · replace hf := hif_p c13 hf
        refine h_iload dX9_edge_74 0 rfl ?_
        obtain rfl := Option.some.inj hf
        exact h_iret rfl rfl rfl (Nat.le_refl _) (Nat.le_refl _) dX9_edge_76
      · replace hf := hif_n c13 hf
        refine h_iload dX9_edge_69 1 rfl ?_
        refine h_goto (tgt := 76) dX9_edge_71 (by decide) ?_
        obtain rfl := Option.some.inj hf
        exact h_iret rfl rfl rfl (Nat.le_refl _) (Nat.le_refl _) dX9_edge_76
    · intro J11 hJ11 hf
      refine h_icmp_ge (tgt := 58) dX9_edge_50 (by decide) (fun c14 => ?_) (fun c14 => ?_)
      · replace hf := hif_p c14 hf
        refine h_iload dX9_edge_58 0 rfl ?_
        refine h_sub (lv2 := [(4, .int v2)]) [2] rfl ?_
        exact hJ11 ((t9 - 1) - (a1 / 10)) hf
      · replace hf := hif_n c14 hf
        refine h_iload dX9_edge_53 1 rfl ?_
        refine h_goto (tgt := 60) dX9_edge_55 (by decide) ?_
        refine h_sub (lv2 := [(4, .int v2)]) [2] rfl ?_
        exact hJ11 ((t5 - 1) - (a1 - a1 / 10 * 10)) hf
  · intro J1 hJ1 hf
    refine h_icmp_ge (tgt := 19) dX9_edge_12 (by decide) (fun c15 => ?_) (fun c15 => ?_)
    · replace hf := hif_p c15 hf
      refine h_iload_n dX9_edge_19 rfl 0 rfl ?_
      refine h_sub (lv2 := [(0, .ref a0), (2, .int (a1 - a1 / 10 * 10)), (3, .int (a1 / 10))]) [2, 1, 0] rfl ?_
      exact hJ1 (a1 / 10) hf
    · replace hf := hif_n c15 hf
      refine h_iload_n dX9_edge_15 rfl 1 rfl ?_
      refine h_goto (tgt := 20) dX9_edge_16 (by decide) ?_
      refine h_sub (lv2 := [(0, .ref a0), (2, .int (a1 - a1 / 10 * 10)), (3, .int (a1 / 10))]) [2, 1, 0] rfl ?_
      exact hJ1 (a1 - a1 / 10 * 10) hf
abbrev x_X9_allHeat (d : Nat) (S0 : hS) (args : List Value) (r : Int32 × hS) (cs : Nat → Nat) : hX := (((some .int), 3, d, 0, 0, false), (S0, args, some (.int r.1), r.2), cs)
theorem v_X9_allHeat : hVW yX9_allHeat cX9_allHeat 3 (some .int) RX9 0 := ⟨q_1245, q_s49, q_9, q_1246, by decide +kernel, by decide⟩
def f_X9_allHeat_L4 : Nat → Nat → Int32 → Int32 → hS → (Int32 → Option (Int32 × hS)) → Option (Int32 × hS)
  | 0, _, _, _, _, _ => none
  | n + 1, x0, x1, x2, S, k0 =>
    if 80 ≤ x2 then
      (k0 x1)
    else
      (hbd (gR S x0 9 2) fun t2 =>
       hbd (gA S t2 12 x2) fun t4 =>
       f_X9_allHeat_L4 n x0 (x1 + t4) (x2 + 1) S k0)
def f_X9_allHeat (a0 : Nat) (S : hS) : Option (Int32 × hS) :=
  f_X9_allHeat_L4 hfuel a0 0 0 S
    (fun u6 =>
      some (u6, S)
    )
set_option maxRecDepth 100000 in
set_option maxHeartbeats 4000000 in
theorem w_X9_allHeat_L4 {d : Nat} {S0 : hS} {args : List Value} {cs : Nat → Nat} {r : Int32 × hS} (hd : 1 ≤ d) : ∀ (n : Nat) (x0 : Nat) (x1 : Int32) (x2 : Int32) (S : hS) (k0 : (Int32 → Option (Int32 × hS))) , f_X9_allHeat_L4 n x0 x1 x2 S k0 = some r → (∀ (y1 : Int32), k0 y1 = some r → HW cX9_allHeat RX9 (x_X9_allHeat d S0 args r cs) 0 0 S 25 [(1, .int y1)] []) → HW cX9_allHeat RX9 (x_X9_allHeat d S0 args r cs) 0 0 S 4 [(0, .ref x0), (1, .int x1), (2, .int x2)] [] := by
  intro n
  induction n with
  | zero =>
    intro x0 x1 x2 S k0 hf
    cases hf
  | succ n ih =>
    intro x0 x1 x2 S k0 hf hk0
    rw [f_X9_allHeat_L4] at hf
    refine h_iload_n dX9_allHeat_4 rfl 2 rfl ?_
    refine h_bipush (v := 80) dX9_allHeat_5 rfl ?_
    refine h_icmp_ge (tgt := 25) dX9_allHeat_7 (by decide) (fun c1 => ?_) (fun c1 => ?_)
    · replace hf := hif_p c1 hf
      refine h_sub (lv2 := [(1, .int x1)]) [1] rfl ?_
      exact hk0 x1  hf
    · replace hf := hif_n c1 hf
      refine h_iload_n dX9_allHeat_10 rfl 1 rfl ?_
      refine h_aload_n dX9_allHeat_11 rfl 0 rfl ?_
      obtain ⟨t2, h3, hf⟩ := hbd_s hf
      refine h_getR h3 rfl (Nat.le_of_ble_eq_true rfl) rfl q_962 rfl dX9_allHeat_12 ?_
      refine h_iload_n dX9_allHeat_15 rfl 2 rfl ?_
      obtain ⟨t4, h5, hf⟩ := hbd_s hf
      refine h_iald h5 dX9_allHeat_16 ?_
      refine h_iadd dX9_allHeat_17 ?_
      refine h_istore_n (lv2 := [(1, .int (x1 + t4)), (0, .ref x0), (2, .int x2)]) dX9_allHeat_18 rfl (Nat.le_of_ble_eq_true rfl) rfl ?_
      refine h_iinc (q := 2) (v := x2 + 1) (lv2 := [(2, .int (x2 + 1)), (1, .int (x1 + t4)), (0, .ref x0)]) dX9_allHeat_19 rfl rfl (Nat.le_of_ble_eq_true rfl) rfl ?_
      refine h_goto (tgt := 4) dX9_allHeat_22 (by decide) ?_
      refine h_sub (lv2 := [(0, .ref x0), (1, .int (x1 + t4)), (2, .int (x2 + 1))]) [2, 1, 0] rfl ?_
      exact ih x0 (x1 + t4) (x2 + 1) S k0  hf hk0
set_option maxRecDepth 100000 in
set_option maxHeartbeats 4000000 in
theorem m_X9_allHeat {d : Nat} {cs : Nat → Nat} {a0 : Nat} {S : hS} {r : Int32 × hS} (hd : 1 ≤ d) (hf : f_X9_allHeat a0 S = some r) : HM yX9_allHeat cX9_allHeat 3 (some .int) d 0 0 cs [.ref a0] S (some (.int r.1)) r.2 := by
  unfold f_X9_allHeat at hf
  refine HM.ofHW false (by decide) (fun h => by cases h) (Nat.le_of_ble_eq_true rfl) ?_
  show HW cX9_allHeat RX9 (x_X9_allHeat d S [.ref a0] r cs) 0 0 S 0 [(0, .ref a0)] []
  refine h_iconst (v := 0) dX9_allHeat_0 rfl ?_
  refine h_istore_n (lv2 := [(1, .int 0), (0, .ref a0)]) dX9_allHeat_1 rfl (Nat.le_of_ble_eq_true rfl) rfl ?_
  refine h_iconst (v := 0) dX9_allHeat_2 rfl ?_
  refine h_istore_n (lv2 := [(2, .int 0), (1, .int 0), (0, .ref a0)]) dX9_allHeat_3 rfl (Nat.le_of_ble_eq_true rfl) rfl ?_
  refine h_sub (lv2 := [(0, .ref a0), (1, .int 0), (2, .int 0)]) [2, 1, 0] rfl ?_
  refine w_X9_allHeat_L4 hd hfuel a0 0 0 S _  hf ?_
  · intro u6 hf
    refine h_iload_n dX9_allHeat_25 rfl 0 rfl ?_
    obtain rfl := Option.some.inj hf
    exact h_iret rfl rfl rfl (Nat.le_refl _) (Nat.le_refl _) dX9_allHeat_26
abbrev x_X9_put (d : Nat) (S0 : hS) (args : List Value) (r : hS) (cs : Nat → Nat) : hX := ((none, 3, d, 0, 0, false), (S0, args, none, r), cs)
theorem v_X9_put : hVW yX9_put cX9_put 3 none RX9 1 := ⟨q_1157, q_s34, q_9, q_1158, by decide +kernel, by decide⟩
def f_X9_put_L3 : Nat → Nat → Int32 → Int32 → hS → (hS → Option (hS)) → Option (hS)
  | 0, _, _, _, _, _ => none
  | n + 1, x0, x1, x2, S, k0 =>
    if x2 < 0 then
      (k0 S)
    else
      (hbd (gR S x0 9 34) fun t2 =>
       hbd (gI S x0 9 23) fun t4 =>
       hbd (sAB S t2 t4 ((Int32.toInt8 (x1 >>> (x2 &&& 31))).toInt32)) fun S6 =>
       hbd (gI S6 x0 9 23) fun t8 =>
       hbd (sI S6 x0 9 23 (t8 + 1)) fun S10 =>
       f_X9_put_L3 n x0 x1 (x2 + (-8)) S10 k0)
def f_X9_put (a0 : Nat) (a1 : Int32) (S : hS) : Option (hS) :=
  f_X9_put_L3 hfuel a0 a1 24 S
    (fun S12 =>
      some S12
    )
set_option maxRecDepth 100000 in
set_option maxHeartbeats 4000000 in
theorem w_X9_put_L3 {d : Nat} {S0 : hS} {args : List Value} {cs : Nat → Nat} {r : hS} (hd : 1 ≤ d) : ∀ (n : Nat) (x0 : Nat) (x1 : Int32) (x2 : Int32) (S : hS) (k0 : (hS → Option (hS))) , f_X9_put_L3 n x0 x1 x2 S k0 = some r → (∀ (T : hS), k0 T = some r → HW cX9_put RX9 (x_X9_put d S0 args r cs) 0 0 T 36 [] []) → HW cX9_put RX9 (x_X9_put d S0 args r cs) 0 0 S 3 [(0, .ref x0), (1, .int x1), (2, .int x2)] [] := by
  intro n
  induction n with
  | zero =>
    intro x0 x1 x2 S k0 hf
    cases hf
  | succ n ih =>
    intro x0 x1 x2 S k0 hf hk0
    rw [f_X9_put_L3] at hf
    refine h_iload_n dX9_put_3 rfl 2 rfl ?_
    refine h_if_lt (tgt := 36) dX9_put_4 (by decide) (fun c1 => ?_) (fun c1 => ?_)
    · replace hf := hif_p c1 hf
      refine h_sub (lv2 := []) [] rfl ?_
      exact hk0 S hf
    · replace hf := hif_n c1 hf
      refine h_aload_n dX9_put_7 rfl 0 rfl ?_
      obtain ⟨t2, h3, hf⟩ := hbd_s hf
      refine h_getR h3 rfl (Nat.le_of_ble_eq_true rfl) rfl q_994 rfl dX9_put_8 ?_
      refine h_aload_n dX9_put_11 rfl 0 rfl ?_
      obtain ⟨t4, h5, hf⟩ := hbd_s hf
      refine h_getI h5 rfl (Nat.le_of_ble_eq_true rfl) rfl q_983 rfl dX9_put_12 ?_
      refine h_iload_n dX9_put_15 rfl 1 rfl ?_
      refine h_iload_n dX9_put_16 rfl 2 rfl ?_
      refine h_ishr dX9_put_17 ?_
      refine h_i2b dX9_put_18 ?_
      obtain ⟨S6, h7, hf⟩ := hbd_s hf
      refine h_bast h7 dX9_put_19 ?_
      refine h_aload_n dX9_put_20 rfl 0 rfl ?_
      refine h_dup dX9_put_21 rfl ?_
      obtain ⟨t8, h9, hf⟩ := hbd_s hf
      refine h_getI h9 rfl (Nat.le_of_ble_eq_true rfl) rfl q_983 rfl dX9_put_22 ?_
      refine h_iconst (v := 1) dX9_put_25 rfl ?_
      refine h_iadd dX9_put_26 ?_
      obtain ⟨S10, h11, hf⟩ := hbd_s hf
      refine h_putI h11 rfl (Nat.le_of_ble_eq_true rfl) rfl q_983 rfl rfl (by decide +kernel) dX9_put_27 ?_
      refine h_iinc (q := 2) (v := x2 + (-8)) (lv2 := [(2, .int (x2 + (-8))), (0, .ref x0), (1, .int x1)]) dX9_put_30 rfl rfl (Nat.le_of_ble_eq_true rfl) rfl ?_
      refine h_goto (tgt := 3) dX9_put_33 (by decide) ?_
      refine h_sub (lv2 := [(0, .ref x0), (1, .int x1), (2, .int (x2 + (-8)))]) [1, 2, 0] rfl ?_
      exact ih x0 x1 (x2 + (-8)) S10 k0  hf hk0
set_option maxRecDepth 100000 in
set_option maxHeartbeats 4000000 in
theorem m_X9_put {d : Nat} {cs : Nat → Nat} {a0 : Nat} {a1 : Int32} {S : hS} {r : hS} (hd : 1 ≤ d) (hf : f_X9_put a0 a1 S = some r) : HM yX9_put cX9_put 3 none d 0 0 cs [.ref a0, .int a1] S (none) r := by
  unfold f_X9_put at hf
  refine HM.ofHW false (by decide) (fun h => by cases h) (Nat.le_of_ble_eq_true rfl) ?_
  show HW cX9_put RX9 (x_X9_put d S [.ref a0, .int a1] r cs) 0 0 S 0 [(0, .ref a0), (1, .int a1)] []
  refine h_bipush (v := 24) dX9_put_0 rfl ?_
  refine h_istore_n (lv2 := [(2, .int 24), (0, .ref a0), (1, .int a1)]) dX9_put_2 rfl (Nat.le_of_ble_eq_true rfl) rfl ?_
  refine h_sub (lv2 := [(0, .ref a0), (1, .int a1), (2, .int 24)]) [1, 2, 0] rfl ?_
  refine w_X9_put_L3 hd hfuel a0 a1 24 S _  hf ?_
  · intro S12 hf
    obtain rfl := Option.some.inj hf
    exact h_vret rfl rfl rfl (Nat.le_refl _) (Nat.le_refl _) dX9_put_36
abbrev x_X9_end (d : Nat) (S0 : hS) (args : List Value) (r : Int32 × hS) (cs : Nat → Nat) : hX := (((some .int), 2, d, 0, 0, false), (S0, args, some (.int r.1), r.2), cs)
theorem v_X9_end : hVW yX9_end cX9_end 2 (some .int) RX9 1 := ⟨q_1160, q_1161, q_9, q_1162, by decide +kernel, by decide⟩
def f_X9_end (a0 : Nat) (a1 : Int32) (S : hS) : Option (Int32 × hS) :=
  if a1 < 0 then
    (some ((-1), S))
  else
    (hbd (gI S a0 9 23) fun t2 =>
     if a1 ≤ t2 then
       (hbd (sI S a0 9 23 a1) fun S5 =>
        some (a1, S5))
     else
       (some ((-1), S)))
set_option maxRecDepth 100000 in
set_option maxHeartbeats 4000000 in
theorem m_X9_end {d : Nat} {cs : Nat → Nat} {a0 : Nat} {a1 : Int32} {S : hS} {r : Int32 × hS} (hd : 1 ≤ d) (hf : f_X9_end a0 a1 S = some r) : HM yX9_end cX9_end 2 (some .int) d 0 0 cs [.ref a0, .int a1] S (some (.int r.1)) r.2 := by
  unfold f_X9_end at hf
  refine HM.ofHW false (by decide) (fun h => by cases h) (Nat.le_of_ble_eq_true rfl) ?_
  show HW cX9_end RX9 (x_X9_end d S [.ref a0, .int a1] r cs) 0 0 S 0 [(0, .ref a0), (1, .int a1)] []
  refine h_iload_n dX9_end_0 rfl 1 rfl ?_
  refine h_if_lt (tgt := 12) dX9_end_1 (by decide) (fun c1 => ?_) (fun c1 => ?_)
  · replace hf := hif_p c1 hf
    refine h_iconst (v := (-1)) dX9_end_12 rfl ?_
    obtain rfl := Option.some.inj hf
    exact h_iret rfl rfl rfl (Nat.le_refl _) (Nat.le_refl _) dX9_end_13
  · replace hf := hif_n c1 hf
    refine h_iload_n dX9_end_4 rfl 1 rfl ?_
    refine h_aload_n dX9_end_5 rfl 0 rfl ?_
    obtain ⟨t2, h3, hf⟩ := hbd_s hf
    refine h_getI h3 rfl (Nat.le_of_ble_eq_true rfl) rfl q_983 rfl dX9_end_6 ?_
    refine h_icmp_le (tgt := 14) dX9_end_9 (by decide) (fun c4 => ?_) (fun c4 => ?_)
    · replace hf := hif_p c4 hf
      refine h_aload_n dX9_end_14 rfl 0 rfl ?_
      refine h_iload_n dX9_end_15 rfl 1 rfl ?_
      obtain ⟨S5, h6, hf⟩ := hbd_s hf
      refine h_putI h6 rfl (Nat.le_of_ble_eq_true rfl) rfl q_983 rfl rfl (by decide +kernel) dX9_end_16 ?_
      refine h_iload_n dX9_end_19 rfl 1 rfl ?_
      obtain rfl := Option.some.inj hf
      exact h_iret rfl rfl rfl (Nat.le_refl _) (Nat.le_refl _) dX9_end_20
    · replace hf := hif_n c4 hf
      refine h_iconst (v := (-1)) dX9_end_12 rfl ?_
      obtain rfl := Option.some.inj hf
      exact h_iret rfl rfl rfl (Nat.le_refl _) (Nat.le_refl _) dX9_end_13
abbrev x_X9_wordOf (d : Nat) (S0 : hS) (args : List Value) (r : Nat × hS) (cs : Nat → Nat) : hX := (((Option.some (.object "java/lang/String")), 1, d, 0, 0, false), (S0, args, some (.ref (cs r.1)), r.2), cs)
theorem v_X9_wordOf : hSW yX9_wordOf cX9_wordOf 1 (Option.some (.object "java/lang/String")) 1 := ⟨q_1277, q_9, q_1278, by decide +kernel, by decide⟩
def f_X9_wordOf (a0 : Int32) (S : hS) : Option (Nat × hS) :=
  if a0 = 0 then
    (some (16, S))
  else
    (if a0 = 1 then
       (some (17, S))
     else
       (if a0 = 2 then
          (some (18, S))
        else
          (if a0 = 3 then
             (some (19, S))
           else
             (if a0 = 4 then
                (some (20, S))
              else
                (if a0 = 5 then
                   (some (21, S))
                 else
                   (if a0 = 6 then
                      (some (22, S))
                    else
                      (if a0 = 7 then
                         (some (23, S))
                       else
                         (some (24, S)))))))))
set_option maxRecDepth 100000 in
set_option maxHeartbeats 4000000 in
theorem m_X9_wordOf {d : Nat} {cs : Nat → Nat} {a0 : Int32} {S : hS} {r : Nat × hS} (hd : 1 ≤ d) (hf : f_X9_wordOf a0 S = some r) : HM yX9_wordOf cX9_wordOf 1 (Option.some (.object "java/lang/String")) d 0 0 cs [.int a0] S (some (.ref (cs r.1))) r.2 := by
  unfold f_X9_wordOf at hf
  refine HM.ofHW false (by decide) (fun h => by cases h) (Nat.le_of_ble_eq_true rfl) ?_
  show HW cX9_wordOf RX9 (x_X9_wordOf d S [.int a0] r cs) 0 0 S 0 [(0, .int a0)] []
  refine h_iload_n dX9_wordOf_0 rfl 0 rfl ?_
  by_cases c1 : a0 = 0
  · replace hf := hif_p c1 hf
    refine h_tabIn (tgt := 48) 0 (by rw [c1]; rfl) dX9_wordOf_1 (by decide) (by decide) rfl (by decide) ?_
    refine h_ldcS dX9_wordOf_48 (List.mem_of_getElem? (i := 17) rfl) ?_
    obtain rfl := Option.some.inj hf
    exact h_aret (v := some (cs 16)) rfl (Or.inl ⟨_, rfl⟩) rfl rfl (Nat.le_refl _) (Nat.le_refl _) dX9_wordOf_50
  · replace hf := hif_n c1 hf
    by_cases c2 : a0 = 1
    · replace hf := hif_p c2 hf
      refine h_tabIn (tgt := 51) 1 (by rw [c2]; rfl) dX9_wordOf_1 (by decide) (by decide) rfl (by decide) ?_
      refine h_ldcS dX9_wordOf_51 (List.mem_of_getElem? (i := 18) rfl) ?_
      obtain rfl := Option.some.inj hf
      exact h_aret (v := some (cs 17)) rfl (Or.inl ⟨_, rfl⟩) rfl rfl (Nat.le_refl _) (Nat.le_refl _) dX9_wordOf_53
    · replace hf := hif_n c2 hf
      by_cases c3 : a0 = 2
      · replace hf := hif_p c3 hf
        refine h_tabIn (tgt := 54) 2 (by rw [c3]; rfl) dX9_wordOf_1 (by decide) (by decide) rfl (by decide) ?_
        refine h_ldcS dX9_wordOf_54 (List.mem_of_getElem? (i := 19) rfl) ?_
        obtain rfl := Option.some.inj hf
        exact h_aret (v := some (cs 18)) rfl (Or.inl ⟨_, rfl⟩) rfl rfl (Nat.le_refl _) (Nat.le_refl _) dX9_wordOf_56
      · replace hf := hif_n c3 hf
        by_cases c4 : a0 = 3
        · replace hf := hif_p c4 hf
          refine h_tabIn (tgt := 57) 3 (by rw [c4]; rfl) dX9_wordOf_1 (by decide) (by decide) rfl (by decide) ?_
          refine h_ldcS dX9_wordOf_57 (List.mem_of_getElem? (i := 20) rfl) ?_
          obtain rfl := Option.some.inj hf
          exact h_aret (v := some (cs 19)) rfl (Or.inl ⟨_, rfl⟩) rfl rfl (Nat.le_refl _) (Nat.le_refl _) dX9_wordOf_59
        · replace hf := hif_n c4 hf
          by_cases c5 : a0 = 4
          · replace hf := hif_p c5 hf
            refine h_tabIn (tgt := 60) 4 (by rw [c5]; rfl) dX9_wordOf_1 (by decide) (by decide) rfl (by decide) ?_
            refine h_ldcS dX9_wordOf_60 (List.mem_of_getElem? (i := 21) rfl) ?_
            obtain rfl := Option.some.inj hf
            exact h_aret (v := some (cs 20)) rfl (Or.inl ⟨_, rfl⟩) rfl rfl (Nat.le_refl _) (Nat.le_refl _) dX9_wordOf_62
          · replace hf := hif_n c5 hf
            by_cases c6 : a0 = 5
            · replace hf := hif_p c6 hf
              refine h_tabIn (tgt := 63) 5 (by rw [c6]; rfl) dX9_wordOf_1 (by decide) (by decide) rfl (by decide) ?_
              refine h_ldcS dX9_wordOf_63 (List.mem_of_getElem? (i := 22) rfl) ?_
              obtain rfl := Option.some.inj hf
              exact h_aret (v := some (cs 21)) rfl (Or.inl ⟨_, rfl⟩) rfl rfl (Nat.le_refl _) (Nat.le_refl _) dX9_wordOf_65
            · replace hf := hif_n c6 hf
              by_cases c7 : a0 = 6
              · replace hf := hif_p c7 hf
                refine h_tabIn (tgt := 66) 6 (by rw [c7]; rfl) dX9_wordOf_1 (by decide) (by decide) rfl (by decide) ?_
                refine h_ldcS dX9_wordOf_66 (List.mem_of_getElem? (i := 23) rfl) ?_
                obtain rfl := Option.some.inj hf
                exact h_aret (v := some (cs 22)) rfl (Or.inl ⟨_, rfl⟩) rfl rfl (Nat.le_refl _) (Nat.le_refl _) dX9_wordOf_68
              · replace hf := hif_n c7 hf
                by_cases c8 : a0 = 7
                · replace hf := hif_p c8 hf
                  refine h_tabIn (tgt := 69) 7 (by rw [c8]; rfl) dX9_wordOf_1 (by decide) (by decide) rfl (by decide) ?_
                  refine h_ldcS dX9_wordOf_69 (List.mem_of_getElem? (i := 24) rfl) ?_
                  obtain rfl := Option.some.inj hf
                  exact h_aret (v := some (cs 23)) rfl (Or.inl ⟨_, rfl⟩) rfl rfl (Nat.le_refl _) (Nat.le_refl _) dX9_wordOf_71
                · replace hf := hif_n c8 hf
                  refine h_tabOut (tgt := 72) dX9_wordOf_1 (by have g0 := hne_t (a := 0) c1 rfl; have g1 := hne_t (a := 1) c2 rfl; have g2 := hne_t (a := 2) c3 rfl; have g3 := hne_t (a := 3) c4 rfl; have g4 := hne_t (a := 4) c5 rfl; have g5 := hne_t (a := 5) c6 rfl; have g6 := hne_t (a := 6) c7 rfl; have g7 := hne_t (a := 7) c8 rfl; omega) (by decide) ?_
                  refine h_ldcS dX9_wordOf_72 (List.mem_of_getElem? (i := 25) rfl) ?_
                  obtain rfl := Option.some.inj hf
                  exact h_aret (v := some (cs 24)) rfl (Or.inl ⟨_, rfl⟩) rfl rfl (Nat.le_refl _) (Nat.le_refl _) dX9_wordOf_74
abbrev x_X9_hallWord (d : Nat) (S0 : hS) (args : List Value) (r : Nat × hS) (cs : Nat → Nat) : hX := (((Option.some (.object "java/lang/String")), 1, d, 0, 0, false), (S0, args, some (.ref (cs r.1)), r.2), cs)
theorem v_X9_hallWord : hSW yX9_hallWord cX9_hallWord 1 (Option.some (.object "java/lang/String")) 1 := ⟨q_1184, q_9, q_1185, by decide +kernel, by decide⟩
def f_X9_hallWord (a0 : Int32) (S : hS) : Option (Nat × hS) :=
  if a0 = 0 then
    (some (10, S))
  else
    (if a0 = 1 then
       (some (11, S))
     else
       (if a0 = 2 then
          (some (12, S))
        else
          (if a0 = 3 then
             (some (13, S))
           else
             (if a0 = 4 then
                (some (14, S))
              else
                (some (15, S))))))
set_option maxRecDepth 100000 in
set_option maxHeartbeats 4000000 in
theorem m_X9_hallWord {d : Nat} {cs : Nat → Nat} {a0 : Int32} {S : hS} {r : Nat × hS} (hd : 1 ≤ d) (hf : f_X9_hallWord a0 S = some r) : HM yX9_hallWord cX9_hallWord 1 (Option.some (.object "java/lang/String")) d 0 0 cs [.int a0] S (some (.ref (cs r.1))) r.2 := by
  unfold f_X9_hallWord at hf
  refine HM.ofHW false (by decide) (fun h => by cases h) (Nat.le_of_ble_eq_true rfl) ?_
  show HW cX9_hallWord RX9 (x_X9_hallWord d S [.int a0] r cs) 0 0 S 0 [(0, .int a0)] []
  refine h_iload_n dX9_hallWord_0 rfl 0 rfl ?_
  by_cases c1 : a0 = 0
  · replace hf := hif_p c1 hf
    refine h_tabIn (tgt := 36) 0 (by rw [c1]; rfl) dX9_hallWord_1 (by decide) (by decide) rfl (by decide) ?_
    refine h_ldcS dX9_hallWord_36 (List.mem_of_getElem? (i := 10) rfl) ?_
    obtain rfl := Option.some.inj hf
    exact h_aret (v := some (cs 10)) rfl (Or.inl ⟨_, rfl⟩) rfl rfl (Nat.le_refl _) (Nat.le_refl _) dX9_hallWord_38
  · replace hf := hif_n c1 hf
    by_cases c2 : a0 = 1
    · replace hf := hif_p c2 hf
      refine h_tabIn (tgt := 39) 1 (by rw [c2]; rfl) dX9_hallWord_1 (by decide) (by decide) rfl (by decide) ?_
      refine h_ldcS dX9_hallWord_39 (List.mem_of_getElem? (i := 11) rfl) ?_
      obtain rfl := Option.some.inj hf
      exact h_aret (v := some (cs 11)) rfl (Or.inl ⟨_, rfl⟩) rfl rfl (Nat.le_refl _) (Nat.le_refl _) dX9_hallWord_41
    · replace hf := hif_n c2 hf
      by_cases c3 : a0 = 2
      · replace hf := hif_p c3 hf
        refine h_tabIn (tgt := 42) 2 (by rw [c3]; rfl) dX9_hallWord_1 (by decide) (by decide) rfl (by decide) ?_
        refine h_ldcS dX9_hallWord_42 (List.mem_of_getElem? (i := 12) rfl) ?_
        obtain rfl := Option.some.inj hf
        exact h_aret (v := some (cs 12)) rfl (Or.inl ⟨_, rfl⟩) rfl rfl (Nat.le_refl _) (Nat.le_refl _) dX9_hallWord_44
      · replace hf := hif_n c3 hf
        by_cases c4 : a0 = 3
        · replace hf := hif_p c4 hf
          refine h_tabIn (tgt := 45) 3 (by rw [c4]; rfl) dX9_hallWord_1 (by decide) (by decide) rfl (by decide) ?_
          refine h_ldcS dX9_hallWord_45 (List.mem_of_getElem? (i := 13) rfl) ?_
          obtain rfl := Option.some.inj hf
          exact h_aret (v := some (cs 13)) rfl (Or.inl ⟨_, rfl⟩) rfl rfl (Nat.le_refl _) (Nat.le_refl _) dX9_hallWord_47
        · replace hf := hif_n c4 hf
          by_cases c5 : a0 = 4
          · replace hf := hif_p c5 hf
            refine h_tabIn (tgt := 48) 4 (by rw [c5]; rfl) dX9_hallWord_1 (by decide) (by decide) rfl (by decide) ?_
            refine h_ldcS dX9_hallWord_48 (List.mem_of_getElem? (i := 14) rfl) ?_
            obtain rfl := Option.some.inj hf
            exact h_aret (v := some (cs 14)) rfl (Or.inl ⟨_, rfl⟩) rfl rfl (Nat.le_refl _) (Nat.le_refl _) dX9_hallWord_50
          · replace hf := hif_n c5 hf
            refine h_tabOut (tgt := 51) dX9_hallWord_1 (by have g0 := hne_t (a := 0) c1 rfl; have g1 := hne_t (a := 1) c2 rfl; have g2 := hne_t (a := 2) c3 rfl; have g3 := hne_t (a := 3) c4 rfl; have g4 := hne_t (a := 4) c5 rfl; omega) (by decide) ?_
            refine h_ldcS dX9_hallWord_51 (List.mem_of_getElem? (i := 15) rfl) ?_
            obtain rfl := Option.some.inj hf
            exact h_aret (v := some (cs 15)) rfl (Or.inl ⟨_, rfl⟩) rfl rfl (Nat.le_refl _) (Nat.le_refl _) dX9_hallWord_53
