abbrev x_X8_changed (d : Nat) (S0 : hS) (args : List Value) (r : Int32 × hS) (cs : Nat → Nat) : hX := (((some .int), 8, d, 0, 0, false), (S0, args, some (.int r.1), r.2), cs)
theorem v_X8_changed : hVW yX8_changed cX8_changed 8 (some .int) RX8 3 := ⟨q_842, q_843, q_1, q_844, by decide +kernel, by decide⟩
def f_X8_changed_L66 : Nat → Nat → Int32 → Int32 → Nat → Nat → Int32 → Int32 → hS → (hS → Option (Int32 × hS)) → (Int32 → hS → Option (Int32 × hS)) → Option (Int32 × hS)
  | 0, _, _, _, _, _, _, _, _, _, _ => none
  | n + 1, x0, x2, x3, x4, x5, x6, x7, S, k0, k1 =>
    hbd (gI S x5 2 0) fun t1 =>
    if t1 ≤ x7 then
      (k0 S)
    else
      (hck (S.K x5 = 3) <|
       hb2 (f_X2_here x5 x6 S) fun t6 S5 =>
       if t6 = 0 then
         (f_X8_changed_L66 n x0 x2 x3 x4 x5 x6 (x7 + 1) S5 k0 k1)
       else
         (hck (S5.K x5 = 3) <|
          hb2 (f_X2_here x5 x7 S5) fun t10 S9 =>
          if t10 = 0 then
            (f_X8_changed_L66 n x0 x2 x3 x4 x5 x6 (x7 + 1) S9 k0 k1)
          else
            (hbd (gR S9 x0 8 5) fun t12 =>
             hbd (gR S9 x0 8 3) fun t14 =>
             hck (S9.K t12 = 1) <|
             hbd (f_X0_rewind t12 t14 S9) fun S17 =>
             hbd (gR S17 x0 8 5) fun t18 =>
             hbd (gR S17 t18 0 1) fun t20 =>
             hck (S17.K t20 = 3) <|
             hbd (f_X2_swap t20 x6 x7 S17) fun S23 =>
             hbd (gR S23 x0 8 5) fun t24 =>
             hbd (gR S23 x0 8 5) fun t26 =>
             hbd (gR S23 t26 0 1) fun t28 =>
             hbd (gR S23 t28 2 1) fun t30 =>
             hbd (gA S23 t30 12 x3) fun t32 =>
             hck (S23.K t24 = 1) <|
             hb2 (f_X0_endsOn t24 x4 x2 t32 S23) fun t36 S35 =>
             if t36 = 0 then
               (f_X8_changed_L66 n x0 x2 x3 x4 x5 x6 (x7 + 1) S35 k0 k1)
             else
               (k1 x7 S35))))
def f_X8_changed_L50 : Nat → Nat → Int32 → Int32 → Nat → Nat → Int32 → hS → (hS → Option (Int32 × hS)) → (Int32 → Int32 → hS → Option (Int32 × hS)) → Option (Int32 × hS)
  | 0, _, _, _, _, _, _, _, _, _ => none
  | n + 1, x0, x2, x3, x4, x5, x6, S, k0, k1 =>
    hbd (gI S x5 2 0) fun t1 =>
    if t1 ≤ x6 then
      (k0 S)
    else
      (f_X8_changed_L66 hfuel x0 x2 x3 x4 x5 x6 (x6 + 1) S
         (fun S4 =>
           f_X8_changed_L50 n x0 x2 x3 x4 x5 (x6 + 1) S4 k0 k1
         )
         (fun u5 S6 =>
           k1 x6 u5 S6
         ))
def f_X8_changed (a0 : Nat) (a1 : Int32) (a2 : Int32) (a3 : Int32) (S : hS) : Option (Int32 × hS) :=
  hck (S.K a0 = 9) <|
  hb2 (f_X8_ruleFor a0 a1 a2 0 30 S) fun t9 S8 =>
  hbd (gR S8 a0 8 3) fun t10 =>
  hbd (gR S8 t10 0 1) fun t12 =>
  hnl t9 (
    some ((-1), S8)
    ) fun b14 =>
  hck (S8.K t12 = 3) <|
  hb2 (f_X2_here t12 a3 S8) fun t18 S17 =>
  if t18 = 0 then
    (some ((-1), S17))
  else
    (hbd (gR S17 a0 8 5) fun t20 =>
     hbd (gR S17 a0 8 3) fun t22 =>
     hck (S17.K t20 = 1) <|
     hbd (f_X0_copy t20 t22 S17) fun S25 =>
     f_X8_changed_L50 hfuel a0 a2 a3 b14 t12 0 S25
       (fun S26 =>
         some ((-2), S26)
       )
       (fun u27 u28 S29 =>
         some ((16 * u27) + u28, S29)
       ))
set_option maxRecDepth 100000 in
set_option maxHeartbeats 4000000 in
theorem w_X8_changed_L66 {d : Nat} {S0 : hS} {args : List Value} {cs : Nat → Nat} {r : Int32 × hS} (hd : 7 ≤ d) : ∀ (n : Nat) (x0 : Nat) (x2 : Int32) (x3 : Int32) (x4 : Nat) (x5 : Nat) (x6 : Int32) (x7 : Int32) (S : hS) (k0 : (hS → Option (Int32 × hS))) (k1 : (Int32 → hS → Option (Int32 × hS))) , f_X8_changed_L66 n x0 x2 x3 x4 x5 x6 x7 S k0 k1 = some r → (∀ (T : hS), k0 T = some r → HW cX8_changed RX8 (x_X8_changed d S0 args r cs) 0 0 T 161 [(0, .ref x0), (2, .int x2), (3, .int x3), (4, .ref x4), (5, .ref x5), (6, .int x6)] []) → (∀ (y7 : Int32) (T : hS), k1 y7 T = some r → HW cX8_changed RX8 (x_X8_changed d S0 args r cs) 0 0 T 146 [(6, .int x6), (7, .int y7)] []) → HW cX8_changed RX8 (x_X8_changed d S0 args r cs) 0 0 S 66 [(0, .ref x0), (2, .int x2), (3, .int x3), (4, .ref x4), (5, .ref x5), (6, .int x6), (7, .int x7)] [] := by
  intro n
  induction n with
  | zero =>
    intro x0 x2 x3 x4 x5 x6 x7 S k0 k1 hf
    cases hf
  | succ n ih =>
    intro x0 x2 x3 x4 x5 x6 x7 S k0 k1 hf hk0 hk1
    rw [f_X8_changed_L66] at hf
    refine h_iload dX8_changed_66 6 rfl ?_
    refine h_aload dX8_changed_68 4 rfl ?_
    obtain ⟨t1, h2, hf⟩ := hbd_s hf
    refine h_getIN (host := "DeafSpot") h2 rfl (Nat.le_of_ble_eq_true rfl) rfl (List.mem_of_getElem? (i := 37) rfl) rfl dX8_changed_70 ?_
    refine h_icmp_ge (tgt := 161) dX8_changed_73 (by decide) (fun c3 => ?_) (fun c3 => ?_)
    · replace hf := hif_p c3 hf
      refine h_sub (lv2 := [(0, .ref x0), (2, .int x2), (3, .int x3), (4, .ref x4), (5, .ref x5), (6, .int x6)]) [0, 1, 2, 3, 4, 5] rfl ?_
      exact hk0 S hf
    · replace hf := hif_n c3 hf
      refine h_aload dX8_changed_76 4 rfl ?_
      refine h_iload dX8_changed_78 5 rfl ?_
      obtain ⟨g42, hf⟩ := hck_s hf
      obtain ⟨t6, S5, h4, hf⟩ := hb2_s hf
      refine h_Vi [.int x6] (rest := []) (m_X2_here (d := 1) (cs := cs) (Nat.le_refl _) h4) v_X2_here q_717 rfl (Nat.le_trans (by decide) hd) g42 rfl rfl (Nat.le_of_ble_eq_true rfl) dX8_changed_80 (Nat.le_refl _) (Nat.le_refl _) ?_
      refine h_if_eq (tgt := 155) dX8_changed_83 (by decide) (fun c7 => ?_) (fun c7 => ?_)
      · replace hf := hif_p c7 hf
        refine h_iinc (q := 6) (v := x7 + 1) (lv2 := [(7, .int (x7 + 1)), (0, .ref x0), (2, .int x2), (3, .int x3), (4, .ref x4), (5, .ref x5), (6, .int x6)]) dX8_changed_155 rfl rfl (Nat.le_of_ble_eq_true rfl) rfl ?_
        refine h_goto (tgt := 66) dX8_changed_158 (by decide) ?_
        refine h_sub (lv2 := [(0, .ref x0), (2, .int x2), (3, .int x3), (4, .ref x4), (5, .ref x5), (6, .int x6), (7, .int (x7 + 1))]) [1, 2, 3, 4, 5, 6, 0] rfl ?_
        exact ih x0 x2 x3 x4 x5 x6 (x7 + 1) S5 k0 k1  hf hk0 hk1
      · replace hf := hif_n c7 hf
        refine h_aload dX8_changed_86 4 rfl ?_
        refine h_iload dX8_changed_88 6 rfl ?_
        obtain ⟨g41, hf⟩ := hck_s hf
        obtain ⟨t10, S9, h8, hf⟩ := hb2_s hf
        refine h_Vi [.int x7] (rest := []) (m_X2_here (d := 1) (cs := cs) (Nat.le_refl _) h8) v_X2_here q_717 rfl (Nat.le_trans (by decide) hd) g41 rfl rfl (Nat.le_of_ble_eq_true rfl) dX8_changed_90 (Nat.le_refl _) (Nat.le_refl _) ?_
        refine h_if_eq (tgt := 155) dX8_changed_93 (by decide) (fun c11 => ?_) (fun c11 => ?_)
        · replace hf := hif_p c11 hf
          refine h_iinc (q := 6) (v := x7 + 1) (lv2 := [(7, .int (x7 + 1)), (0, .ref x0), (2, .int x2), (3, .int x3), (4, .ref x4), (5, .ref x5), (6, .int x6)]) dX8_changed_155 rfl rfl (Nat.le_of_ble_eq_true rfl) rfl ?_
          refine h_goto (tgt := 66) dX8_changed_158 (by decide) ?_
          refine h_sub (lv2 := [(0, .ref x0), (2, .int x2), (3, .int x3), (4, .ref x4), (5, .ref x5), (6, .int x6), (7, .int (x7 + 1))]) [1, 2, 3, 4, 5, 6, 0] rfl ?_
          exact ih x0 x2 x3 x4 x5 x6 (x7 + 1) S9 k0 k1  hf hk0 hk1
        · replace hf := hif_n c11 hf
          refine h_aload_n dX8_changed_96 rfl 0 rfl ?_
          obtain ⟨t12, h13, hf⟩ := hbd_s hf
          refine h_getR h13 rfl (Nat.le_of_ble_eq_true rfl) rfl q_305 rfl dX8_changed_97 ?_
          refine h_aload_n dX8_changed_100 rfl 0 rfl ?_
          obtain ⟨t14, h15, hf⟩ := hbd_s hf
          refine h_getR h15 rfl (Nat.le_of_ble_eq_true rfl) rfl q_303 rfl dX8_changed_101 ?_
          obtain ⟨g40, hf⟩ := hck_s hf
          obtain ⟨S17, h16, hf⟩ := hbd_s hf
          refine h_Vv [.ref t14] (rest := []) (m_X0_rewind (d := 2) (cs := cs) (Nat.le_refl _) h16) v_X0_rewind q_819 rfl (Nat.le_trans (by decide) hd) g40 rfl rfl (Nat.le_of_ble_eq_true rfl) dX8_changed_104 (Nat.le_refl _) (Nat.le_refl _) ?_
          refine h_aload_n dX8_changed_107 rfl 0 rfl ?_
          obtain ⟨t18, h19, hf⟩ := hbd_s hf
          refine h_getR h19 rfl (Nat.le_of_ble_eq_true rfl) rfl q_305 rfl dX8_changed_108 ?_
          obtain ⟨t20, h21, hf⟩ := hbd_s hf
          refine h_getRN (host := "DeafSpot") h21 rfl (Nat.le_of_ble_eq_true rfl) rfl (List.mem_of_getElem? (i := 52) rfl) rfl dX8_changed_111 ?_
          refine h_iload dX8_changed_114 5 rfl ?_
          refine h_iload dX8_changed_116 6 rfl ?_
          obtain ⟨g39, hf⟩ := hck_s hf
          obtain ⟨S23, h22, hf⟩ := hbd_s hf
          refine h_Vv [.int x6, .int x7] (rest := []) (m_X2_swap (d := 4) (cs := cs) (Nat.le_refl _) h22) v_X2_swap q_723 rfl (Nat.le_trans (by decide) hd) g39 rfl rfl (Nat.le_of_ble_eq_true rfl) dX8_changed_118 (Nat.le_refl _) (Nat.le_refl _) ?_
          refine h_aload_n dX8_changed_121 rfl 0 rfl ?_
          obtain ⟨t24, h25, hf⟩ := hbd_s hf
          refine h_getR h25 rfl (Nat.le_of_ble_eq_true rfl) rfl q_305 rfl dX8_changed_122 ?_
          refine h_aload dX8_changed_125 3 rfl ?_
          refine h_iload_n dX8_changed_127 rfl 1 rfl ?_
          refine h_aload_n dX8_changed_128 rfl 0 rfl ?_
          obtain ⟨t26, h27, hf⟩ := hbd_s hf
          refine h_getR h27 rfl (Nat.le_of_ble_eq_true rfl) rfl q_305 rfl dX8_changed_129 ?_
          obtain ⟨t28, h29, hf⟩ := hbd_s hf
          refine h_getRN (host := "DeafSpot") h29 rfl (Nat.le_of_ble_eq_true rfl) rfl (List.mem_of_getElem? (i := 52) rfl) rfl dX8_changed_132 ?_
          obtain ⟨t30, h31, hf⟩ := hbd_s hf
          refine h_getRN (host := "DeafSpot") h31 rfl (Nat.le_of_ble_eq_true rfl) rfl (List.mem_of_getElem? (i := 39) rfl) rfl dX8_changed_135 ?_
          refine h_iload_n dX8_changed_138 rfl 2 rfl ?_
          obtain ⟨t32, h33, hf⟩ := hbd_s hf
          refine h_iald h33 dX8_changed_139 ?_
          obtain ⟨g38, hf⟩ := hck_s hf
          obtain ⟨t36, S35, h34, hf⟩ := hb2_s hf
          refine h_Vi [.ref x4, .int x2, .int t32] (rest := []) (m_X0_endsOn (d := 6) (cs := cs) (Nat.le_refl _) h34) v_X0_endsOn q_820 rfl (Nat.le_trans (by decide) hd) g38 rfl rfl (Nat.le_of_ble_eq_true rfl) dX8_changed_140 (Nat.le_refl _) (Nat.le_refl _) ?_
          refine h_if_eq (tgt := 155) dX8_changed_143 (by decide) (fun c37 => ?_) (fun c37 => ?_)
          · replace hf := hif_p c37 hf
            refine h_iinc (q := 6) (v := x7 + 1) (lv2 := [(7, .int (x7 + 1)), (0, .ref x0), (2, .int x2), (3, .int x3), (4, .ref x4), (5, .ref x5), (6, .int x6)]) dX8_changed_155 rfl rfl (Nat.le_of_ble_eq_true rfl) rfl ?_
            refine h_goto (tgt := 66) dX8_changed_158 (by decide) ?_
            refine h_sub (lv2 := [(0, .ref x0), (2, .int x2), (3, .int x3), (4, .ref x4), (5, .ref x5), (6, .int x6), (7, .int (x7 + 1))]) [1, 2, 3, 4, 5, 6, 0] rfl ?_
            exact ih x0 x2 x3 x4 x5 x6 (x7 + 1) S35 k0 k1  hf hk0 hk1
          · replace hf := hif_n c37 hf
            refine h_sub (lv2 := [(6, .int x6), (7, .int x7)]) [5, 6] rfl ?_
            exact hk1 x7 S35 hf
set_option maxRecDepth 100000 in
set_option maxHeartbeats 4000000 in
theorem w_X8_changed_L50 {d : Nat} {S0 : hS} {args : List Value} {cs : Nat → Nat} {r : Int32 × hS} (hd : 7 ≤ d) : ∀ (n : Nat) (x0 : Nat) (x2 : Int32) (x3 : Int32) (x4 : Nat) (x5 : Nat) (x6 : Int32) (S : hS) (k0 : (hS → Option (Int32 × hS))) (k1 : (Int32 → Int32 → hS → Option (Int32 × hS))) , f_X8_changed_L50 n x0 x2 x3 x4 x5 x6 S k0 k1 = some r → (∀ (T : hS), k0 T = some r → HW cX8_changed RX8 (x_X8_changed d S0 args r cs) 0 0 T 167 [] []) → (∀ (y6 : Int32) (y7 : Int32) (T : hS), k1 y6 y7 T = some r → HW cX8_changed RX8 (x_X8_changed d S0 args r cs) 0 0 T 146 [(6, .int y6), (7, .int y7)] []) → HW cX8_changed RX8 (x_X8_changed d S0 args r cs) 0 0 S 50 [(0, .ref x0), (2, .int x2), (3, .int x3), (4, .ref x4), (5, .ref x5), (6, .int x6)] [] := by
  intro n
  induction n with
  | zero =>
    intro x0 x2 x3 x4 x5 x6 S k0 k1 hf
    cases hf
  | succ n ih =>
    intro x0 x2 x3 x4 x5 x6 S k0 k1 hf hk0 hk1
    rw [f_X8_changed_L50] at hf
    refine h_iload dX8_changed_50 5 rfl ?_
    refine h_aload dX8_changed_52 4 rfl ?_
    obtain ⟨t1, h2, hf⟩ := hbd_s hf
    refine h_getIN (host := "DeafSpot") h2 rfl (Nat.le_of_ble_eq_true rfl) rfl (List.mem_of_getElem? (i := 37) rfl) rfl dX8_changed_54 ?_
    refine h_icmp_ge (tgt := 167) dX8_changed_57 (by decide) (fun c3 => ?_) (fun c3 => ?_)
    · replace hf := hif_p c3 hf
      refine h_sub (lv2 := []) [] rfl ?_
      exact hk0 S hf
    · replace hf := hif_n c3 hf
      refine h_iload dX8_changed_60 5 rfl ?_
      refine h_iconst (v := 1) dX8_changed_62 rfl ?_
      refine h_iadd dX8_changed_63 ?_
      refine h_istore (lv2 := [(7, .int (x6 + 1)), (0, .ref x0), (2, .int x2), (3, .int x3), (4, .ref x4), (5, .ref x5), (6, .int x6)]) dX8_changed_64 (Nat.le_of_ble_eq_true rfl) rfl ?_
      refine h_sub (lv2 := [(0, .ref x0), (2, .int x2), (3, .int x3), (4, .ref x4), (5, .ref x5), (6, .int x6), (7, .int (x6 + 1))]) [1, 2, 3, 4, 5, 6, 0] rfl ?_
      refine w_X8_changed_L66 hd hfuel x0 x2 x3 x4 x5 x6 (x6 + 1) S _ _  hf ?_ ?_
      · intro S4 hf
        refine h_iinc (q := 5) (v := x6 + 1) (lv2 := [(6, .int (x6 + 1)), (0, .ref x0), (2, .int x2), (3, .int x3), (4, .ref x4), (5, .ref x5)]) dX8_changed_161 rfl rfl (Nat.le_of_ble_eq_true rfl) rfl ?_
        refine h_goto (tgt := 50) dX8_changed_164 (by decide) ?_
        refine h_sub (lv2 := [(0, .ref x0), (2, .int x2), (3, .int x3), (4, .ref x4), (5, .ref x5), (6, .int (x6 + 1))]) [1, 2, 3, 4, 5, 0] rfl ?_
        exact ih x0 x2 x3 x4 x5 (x6 + 1) S4 k0 k1  hf hk0 hk1
      · intro u5 S6 hf
        exact hk1 x6 u5 S6 hf
set_option maxRecDepth 100000 in
set_option maxHeartbeats 4000000 in
theorem m_X8_changed {d : Nat} {cs : Nat → Nat} {a0 : Nat} {a1 : Int32} {a2 : Int32} {a3 : Int32} {S : hS} {r : Int32 × hS} (hd : 7 ≤ d) (hf : f_X8_changed a0 a1 a2 a3 S = some r) : HM yX8_changed cX8_changed 8 (some .int) d 0 0 cs [.ref a0, .int a1, .int a2, .int a3] S (some (.int r.1)) r.2 := by
  unfold f_X8_changed at hf
  refine HM.ofHW false (by decide) (fun h => by cases h) (Nat.le_of_ble_eq_true rfl) ?_
  show HW cX8_changed RX8 (x_X8_changed d S [.ref a0, .int a1, .int a2, .int a3] r cs) 0 0 S 0 [(0, .ref a0), (1, .int a1), (2, .int a2), (3, .int a3)] []
  refine h_aload_n dX8_changed_0 rfl 0 rfl ?_
  refine h_iload_n dX8_changed_1 rfl 1 rfl ?_
  refine h_iload_n dX8_changed_2 rfl 2 rfl ?_
  refine h_iconst (v := 0) dX8_changed_3 rfl ?_
  refine h_bipush (v := 30) dX8_changed_4 rfl ?_
  obtain ⟨g32, hf⟩ := hck_s hf
  obtain ⟨t9, S8, h7, hf⟩ := hb2_s hf
  refine h_Vr [.int a1, .int a2, .int 0, .int 30] (rest := []) (m_X8_ruleFor (d := 1) (cs := cs) (Nat.le_refl _) h7) v_X8_ruleFor q_735 rfl (Nat.le_trans (by decide) hd) g32 rfl rfl (Nat.le_of_ble_eq_true rfl) dX8_changed_6 (Nat.le_refl _) (Nat.le_refl _) ?_
  refine h_astoreV (lv2 := [(4, va_rf t9), (0, .ref a0), (1, .int a1), (2, .int a2), (3, .int a3)]) dX8_changed_9 (Nat.le_of_ble_eq_true rfl) rfl ?_
  refine h_aload_n dX8_changed_11 rfl 1 rfl ?_
  obtain ⟨t10, h11, hf⟩ := hbd_s hf
  refine h_getR h11 rfl (Nat.le_of_ble_eq_true rfl) rfl q_303 rfl dX8_changed_12 ?_
  obtain ⟨t12, h13, hf⟩ := hbd_s hf
  refine h_getRN (host := "DeafSpot") h13 rfl (Nat.le_of_ble_eq_true rfl) rfl (List.mem_of_getElem? (i := 52) rfl) rfl dX8_changed_15 ?_
  refine h_astore (lv2 := [(5, .ref t12), (4, va_rf t9), (0, .ref a0), (1, .int a1), (2, .int a2), (3, .int a3)]) dX8_changed_18 (Nat.le_of_ble_eq_true rfl) (by cases t9 <;> rfl) ?_
  refine h_aloadV dX8_changed_20 1 rfl ?_
  refine h_ifnull (tgt := 34) dX8_changed_22 (by decide) (fun c15 => ?_) (fun b14 c15 => ?_)
  · subst c15
    replace hf := hnl_N hf
    refine h_iconst (v := (-1)) dX8_changed_34 rfl ?_
    obtain rfl := Option.some.inj hf
    exact h_iret rfl rfl rfl (Nat.le_refl _) (Nat.le_refl _) dX8_changed_35
  · subst c15
    replace hf := hnl_S hf
    show HW cX8_changed RX8 (x_X8_changed d S [.ref a0, .int a1, .int a2, .int a3] r cs) 0 0 S8 25 [(5, .ref t12), (4, .ref b14), (0, .ref a0), (1, .int a1), (2, .int a2), (3, .int a3)] []
    refine h_aload dX8_changed_25 0 rfl ?_
    refine h_iload_n dX8_changed_27 rfl 5 rfl ?_
    obtain ⟨g31, hf⟩ := hck_s hf
    obtain ⟨t18, S17, h16, hf⟩ := hb2_s hf
    refine h_Vi [.int a3] (rest := []) (m_X2_here (d := 1) (cs := cs) (Nat.le_refl _) h16) v_X2_here q_717 rfl (Nat.le_trans (by decide) hd) g31 rfl rfl (Nat.le_of_ble_eq_true rfl) dX8_changed_28 (Nat.le_refl _) (Nat.le_refl _) ?_
    refine h_if_ne (tgt := 36) dX8_changed_31 (by decide) (fun c19 => ?_) (fun c19 => ?_)
    · replace hf := hif_n c19 hf
      refine h_aload_n dX8_changed_36 rfl 2 rfl ?_
      obtain ⟨t20, h21, hf⟩ := hbd_s hf
      refine h_getR h21 rfl (Nat.le_of_ble_eq_true rfl) rfl q_305 rfl dX8_changed_37 ?_
      refine h_aload_n dX8_changed_40 rfl 2 rfl ?_
      obtain ⟨t22, h23, hf⟩ := hbd_s hf
      refine h_getR h23 rfl (Nat.le_of_ble_eq_true rfl) rfl q_303 rfl dX8_changed_41 ?_
      obtain ⟨g30, hf⟩ := hck_s hf
      obtain ⟨S25, h24, hf⟩ := hbd_s hf
      refine h_Vv [.ref t22] (rest := []) (m_X0_copy (d := 3) (cs := cs) (Nat.le_refl _) h24) v_X0_copy q_567 rfl (Nat.le_trans (by decide) hd) g30 rfl rfl (Nat.le_of_ble_eq_true rfl) dX8_changed_44 (Nat.le_refl _) (Nat.le_refl _) ?_
      refine h_iconst (v := 0) dX8_changed_47 rfl ?_
      refine h_istore (lv2 := [(6, .int 0), (5, .ref t12), (4, .ref b14), (0, .ref a0), (1, .int a1), (2, .int a2), (3, .int a3)]) dX8_changed_48 (Nat.le_of_ble_eq_true rfl) rfl ?_
      refine h_sub (lv2 := [(0, .ref a0), (2, .int a2), (3, .int a3), (4, .ref b14), (5, .ref t12), (6, .int 0)]) [3, 5, 6, 2, 1, 0] rfl ?_
      refine w_X8_changed_L50 hd hfuel a0 a2 a3 b14 t12 0 S25 _ _  hf ?_ ?_
      · intro S26 hf
        refine h_bipush (v := (-2)) dX8_changed_167 rfl ?_
        obtain rfl := Option.some.inj hf
        exact h_iret rfl rfl rfl (Nat.le_refl _) (Nat.le_refl _) dX8_changed_169
      · intro u27 u28 S29 hf
        refine h_bipush (v := 16) dX8_changed_146 rfl ?_
        refine h_iload dX8_changed_148 0 rfl ?_
        refine h_imul dX8_changed_150 ?_
        refine h_iload dX8_changed_151 1 rfl ?_
        refine h_iadd dX8_changed_153 ?_
        obtain rfl := Option.some.inj hf
        exact h_iret rfl rfl rfl (Nat.le_refl _) (Nat.le_refl _) dX8_changed_154
    · replace hf := hif_p c19 hf
      refine h_iconst (v := (-1)) dX8_changed_34 rfl ?_
      obtain rfl := Option.some.inj hf
      exact h_iret rfl rfl rfl (Nat.le_refl _) (Nat.le_refl _) dX8_changed_35
abbrev x_X8_evenings (d : Nat) (S0 : hS) (args : List Value) (r : Int32 × hS) (cs : Nat → Nat) : hX := (((some .int), 11, d, 0, 0, false), (S0, args, some (.int r.1), r.2), cs)
theorem v_X8_evenings : hVW yX8_evenings cX8_evenings 11 (some .int) RX8 5 := ⟨q_913, q_914, q_1, q_915, by decide +kernel, by decide⟩
def f_X8_evenings_L78 : Nat → Nat → Int32 → Int32 → Int32 → Nat → Int32 → Int32 → Int32 → Int32 → hS → (Int32 → Int32 → Int32 → hS → Option (Int32 × hS)) → Option (Int32 × hS)
  | 0, _, _, _, _, _, _, _, _, _, _, _ => none
  | n + 1, x0, x2, x3, x4, x6, x7, x8, x9, x10, S, k0 =>
    if x2 ≤ x10 then
      (k0 x7 x8 x9 S)
    else
      (hbd (gR S x0 8 5) fun t2 =>
       hbd (gR S x0 8 3) fun t4 =>
       hck (S.K t2 = 1) <|
       hbd (f_X0_rewind t2 t4 S) fun S7 =>
       hbd (gR S7 x0 8 5) fun t8 =>
       hck (S7.K t8 = 1) <|
       hbd (f_X0_drawWarmth t8 S7) fun S11 =>
       hbd (gR S11 x0 8 5) fun t12 =>
       hck (S11.K t12 = 1) <|
       hbd (f_X0_pass t12 x6 x3 S11) fun S15 =>
       hbd (gR S15 x0 8 5) fun t16 =>
       hbd (gR S15 t16 0 1) fun t18 =>
       hbd (gR S15 t18 2 5) fun t20 =>
       hbd (gR S15 x0 8 5) fun t22 =>
       hbd (gI S15 t22 0 4) fun t24 =>
       hbd (gA S15 t20 12 t24) fun t26 =>
       hj (γ := Int32 → Option (Int32 × hS)) (fun (u29 : Int32) =>
         hck (S15.K x0 = 9) <|
         hb2 (f_X8_deafMinutes x0 x4 S15) fun t32 S31 =>
         hbd (gR S31 x0 8 5) fun t33 =>
         hbd (gI S31 t33 0 7) fun t35 =>
         hbd (gR S31 x0 8 3) fun t37 =>
         hbd (gI S31 t37 0 7) fun t39 =>
         f_X8_evenings_L78 n x0 x2 x3 x4 x6 u29 (x8 + t32) (x9 + (t35 - t39)) (x10 + 1) S31 k0
         ) fun J28 =>
       if t26 = x4 then
         (J28 (x7 + 1))
       else
         (J28 x7))
def f_X8_evenings (a0 : Nat) (a1 : Int32) (a2 : Int32) (a3 : Int32) (a4 : Int32) (a5 : Int32) (S : hS) : Option (Int32 × hS) :=
  hck (S.K a0 = 9) <|
  hb2 (f_X8_ruleFor a0 a1 a3 1 30 S) fun t48 S47 =>
  hnl t48 (
    some ((-1), S47)
    ) fun b49 =>
  if a2 < 1 then
    (some ((-1), S47))
  else
    (if 10 < a2 then
       (some ((-1), S47))
     else
       (hbd (gR S47 a0 8 3) fun t53 =>
        hbd (gR S47 t53 0 1) fun t55 =>
        hck (S47.K t55 = 3) <|
        hb2 (f_X2_known t55 a4 S47) fun t59 S58 =>
        if t59 = 0 then
          (some ((-1), S58))
        else
          (if a5 < 0 then
             (some ((-1), S58))
           else
             (if a5 ≤ 2 then
                (hbd (gR S58 a0 8 5) fun t63 =>
                 hbd (gR S58 a0 8 3) fun t65 =>
                 hck (S58.K t63 = 1) <|
                 hbd (f_X0_copy t63 t65 S58) fun S68 =>
                 f_X8_evenings_L78 hfuel a0 a2 a3 a4 b49 0 0 0 0 S68
                   (fun u69 u70 u71 S72 =>
                     if a5 = 0 then
                       (some (u69, S72))
                     else
                       (if a5 = 1 then
                          (some (u70, S72))
                        else
                          (some (u71, S72)))
                   ))
              else
                (some ((-1), S58))))))
set_option maxRecDepth 100000 in
set_option maxHeartbeats 4000000 in
theorem w_X8_evenings_L78 {d : Nat} {S0 : hS} {args : List Value} {cs : Nat → Nat} {r : Int32 × hS} (hd : 7 ≤ d) : ∀ (n : Nat) (x0 : Nat) (x2 : Int32) (x3 : Int32) (x4 : Int32) (x6 : Nat) (x7 : Int32) (x8 : Int32) (x9 : Int32) (x10 : Int32) (S : hS) (k0 : (Int32 → Int32 → Int32 → hS → Option (Int32 × hS))) (z5 : Int32), f_X8_evenings_L78 n x0 x2 x3 x4 x6 x7 x8 x9 x10 S k0 = some r → (∀ (y7 : Int32) (y8 : Int32) (y9 : Int32) (T : hS), k0 y7 y8 y9 T = some r → HW cX8_evenings RX8 (x_X8_evenings d S0 args r cs) 0 0 T 175 [(5, .int z5), (7, .int y7), (8, .int y8), (9, .int y9)] []) → HW cX8_evenings RX8 (x_X8_evenings d S0 args r cs) 0 0 S 78 [(0, .ref x0), (2, .int x2), (3, .int x3), (4, .int x4), (5, .int z5), (6, .ref x6), (7, .int x7), (8, .int x8), (9, .int x9), (10, .int x10)] [] := by
  intro n
  induction n with
  | zero =>
    intro x0 x2 x3 x4 x6 x7 x8 x9 x10 S k0 z5 hf
    cases hf
  | succ n ih =>
    intro x0 x2 x3 x4 x6 x7 x8 x9 x10 S k0 z5 hf hk0
    rw [f_X8_evenings_L78] at hf
    refine h_iload dX8_evenings_78 9 rfl ?_
    refine h_iload_n dX8_evenings_80 rfl 1 rfl ?_
    refine h_icmp_ge (tgt := 175) dX8_evenings_81 (by decide) (fun c1 => ?_) (fun c1 => ?_)
    · replace hf := hif_p c1 hf
      refine h_sub (lv2 := [(5, .int z5), (7, .int x7), (8, .int x8), (9, .int x9)]) [4, 6, 7, 8] rfl ?_
      exact hk0 x7 x8 x9 S hf
    · replace hf := hif_n c1 hf
      refine h_aload_n dX8_evenings_84 rfl 0 rfl ?_
      obtain ⟨t2, h3, hf⟩ := hbd_s hf
      refine h_getR h3 rfl (Nat.le_of_ble_eq_true rfl) rfl q_305 rfl dX8_evenings_85 ?_
      refine h_aload_n dX8_evenings_88 rfl 0 rfl ?_
      obtain ⟨t4, h5, hf⟩ := hbd_s hf
      refine h_getR h5 rfl (Nat.le_of_ble_eq_true rfl) rfl q_303 rfl dX8_evenings_89 ?_
      obtain ⟨g45, hf⟩ := hck_s hf
      obtain ⟨S7, h6, hf⟩ := hbd_s hf
      refine h_Vv [.ref t4] (rest := []) (m_X0_rewind (d := 2) (cs := cs) (Nat.le_refl _) h6) v_X0_rewind q_819 rfl (Nat.le_trans (by decide) hd) g45 rfl rfl (Nat.le_of_ble_eq_true rfl) dX8_evenings_92 (Nat.le_refl _) (Nat.le_refl _) ?_
      refine h_aload_n dX8_evenings_95 rfl 0 rfl ?_
      obtain ⟨t8, h9, hf⟩ := hbd_s hf
      refine h_getR h9 rfl (Nat.le_of_ble_eq_true rfl) rfl q_305 rfl dX8_evenings_96 ?_
      obtain ⟨g44, hf⟩ := hck_s hf
      obtain ⟨S11, h10, hf⟩ := hbd_s hf
      refine h_Vv [] (rest := []) (m_X0_drawWarmth (d := 2) (cs := cs) (Nat.le_refl _) h10) v_X0_drawWarmth q_916 rfl (Nat.le_trans (by decide) hd) g44 rfl rfl (Nat.le_of_ble_eq_true rfl) dX8_evenings_99 (Nat.le_refl _) (Nat.le_refl _) ?_
      refine h_aload_n dX8_evenings_102 rfl 0 rfl ?_
      obtain ⟨t12, h13, hf⟩ := hbd_s hf
      refine h_getR h13 rfl (Nat.le_of_ble_eq_true rfl) rfl q_305 rfl dX8_evenings_103 ?_
      refine h_aload dX8_evenings_106 5 rfl ?_
      refine h_iload_n dX8_evenings_108 rfl 2 rfl ?_
      obtain ⟨g43, hf⟩ := hck_s hf
      obtain ⟨S15, h14, hf⟩ := hbd_s hf
      refine h_Vv [.ref x6, .int x3] (rest := []) (m_X0_pass (d := 6) (cs := cs) (Nat.le_refl _) h14) v_X0_pass q_739 rfl (Nat.le_trans (by decide) hd) g43 rfl rfl (Nat.le_of_ble_eq_true rfl) dX8_evenings_109 (Nat.le_refl _) (Nat.le_refl _) ?_
      refine h_aload_n dX8_evenings_112 rfl 0 rfl ?_
      obtain ⟨t16, h17, hf⟩ := hbd_s hf
      refine h_getR h17 rfl (Nat.le_of_ble_eq_true rfl) rfl q_305 rfl dX8_evenings_113 ?_
      obtain ⟨t18, h19, hf⟩ := hbd_s hf
      refine h_getRN (host := "DeafSpot") h19 rfl (Nat.le_of_ble_eq_true rfl) rfl (List.mem_of_getElem? (i := 52) rfl) rfl dX8_evenings_116 ?_
      obtain ⟨t20, h21, hf⟩ := hbd_s hf
      refine h_getRN (host := "DeafSpot") h21 rfl (Nat.le_of_ble_eq_true rfl) rfl (List.mem_of_getElem? (i := 47) rfl) rfl dX8_evenings_119 ?_
      refine h_aload_n dX8_evenings_122 rfl 0 rfl ?_
      obtain ⟨t22, h23, hf⟩ := hbd_s hf
      refine h_getR h23 rfl (Nat.le_of_ble_eq_true rfl) rfl q_305 rfl dX8_evenings_123 ?_
      obtain ⟨t24, h25, hf⟩ := hbd_s hf
      refine h_getIN (host := "DeafSpot") h25 rfl (Nat.le_of_ble_eq_true rfl) rfl (List.mem_of_getElem? (i := 55) rfl) rfl dX8_evenings_126 ?_
      obtain ⟨t26, h27, hf⟩ := hbd_s hf
      refine h_iald h27 dX8_evenings_129 ?_
      refine h_iload dX8_evenings_130 3 rfl ?_
      refine hj_s (fun J28 => ∀ (u29 : Int32), J28 u29 = some r → HW cX8_evenings RX8 (x_X8_evenings d S0 args r cs) 0 0 S15 138 [(0, .ref x0), (2, .int x2), (3, .int x3), (4, .int x4), (5, .int z5), (6, .ref x6), (7, .int u29), (8, .int x8), (9, .int x9), (10, .int x10)] []) hf ?_ ?_
      · intro u29 hf
        refine h_iload dX8_evenings_138 7 rfl ?_
        refine h_aload_n dX8_evenings_140 rfl 0 rfl ?_
        refine h_iload dX8_evenings_141 3 rfl ?_
        obtain ⟨g41, hf⟩ := hck_s hf
        obtain ⟨t32, S31, h30, hf⟩ := hb2_s hf
        refine h_Vi [.int x4] (rest := [.int x8]) (m_X8_deafMinutes (d := 1) (cs := cs) (Nat.le_refl _) h30) v_X8_deafMinutes q_795 rfl (Nat.le_trans (by decide) hd) g41 rfl rfl (Nat.le_of_ble_eq_true rfl) dX8_evenings_143 (Nat.le_refl _) (Nat.le_refl _) ?_
        refine h_iadd dX8_evenings_146 ?_
        refine h_istore (lv2 := [(8, .int (x8 + t32)), (0, .ref x0), (2, .int x2), (3, .int x3), (4, .int x4), (5, .int z5), (6, .ref x6), (7, .int u29), (9, .int x9), (10, .int x10)]) dX8_evenings_147 (Nat.le_of_ble_eq_true rfl) rfl ?_
        refine h_iload dX8_evenings_149 8 rfl ?_
        refine h_aload_n dX8_evenings_151 rfl 1 rfl ?_
        obtain ⟨t33, h34, hf⟩ := hbd_s hf
        refine h_getR h34 rfl (Nat.le_of_ble_eq_true rfl) rfl q_305 rfl dX8_evenings_152 ?_
        obtain ⟨t35, h36, hf⟩ := hbd_s hf
        refine h_getIN (host := "DeafSpot") h36 rfl (Nat.le_of_ble_eq_true rfl) rfl (List.mem_of_getElem? (i := 58) rfl) rfl dX8_evenings_155 ?_
        refine h_aload_n dX8_evenings_158 rfl 1 rfl ?_
        obtain ⟨t37, h38, hf⟩ := hbd_s hf
        refine h_getR h38 rfl (Nat.le_of_ble_eq_true rfl) rfl q_303 rfl dX8_evenings_159 ?_
        obtain ⟨t39, h40, hf⟩ := hbd_s hf
        refine h_getIN (host := "DeafSpot") h40 rfl (Nat.le_of_ble_eq_true rfl) rfl (List.mem_of_getElem? (i := 58) rfl) rfl dX8_evenings_162 ?_
        refine h_isub dX8_evenings_165 ?_
        refine h_iadd dX8_evenings_166 ?_
        refine h_istore (lv2 := [(9, .int (x9 + (t35 - t39))), (8, .int (x8 + t32)), (0, .ref x0), (2, .int x2), (3, .int x3), (4, .int x4), (5, .int z5), (6, .ref x6), (7, .int u29), (10, .int x10)]) dX8_evenings_167 (Nat.le_of_ble_eq_true rfl) rfl ?_
        refine h_iinc (q := 9) (v := x10 + 1) (lv2 := [(10, .int (x10 + 1)), (9, .int (x9 + (t35 - t39))), (8, .int (x8 + t32)), (0, .ref x0), (2, .int x2), (3, .int x3), (4, .int x4), (5, .int z5), (6, .ref x6), (7, .int u29)]) dX8_evenings_169 rfl rfl (Nat.le_of_ble_eq_true rfl) rfl ?_
        refine h_goto (tgt := 78) dX8_evenings_172 (by decide) ?_
        refine h_sub (lv2 := [(0, .ref x0), (2, .int x2), (3, .int x3), (4, .int x4), (5, .int z5), (6, .ref x6), (7, .int u29), (8, .int (x8 + t32)), (9, .int (x9 + (t35 - t39))), (10, .int (x10 + 1))]) [3, 4, 5, 6, 7, 8, 9, 2, 1, 0] rfl ?_
        exact ih x0 x2 x3 x4 x6 u29 (x8 + t32) (x9 + (t35 - t39)) (x10 + 1) S31 k0 z5 hf hk0
      · intro J28 hJ28 hf
        refine h_icmp_ne (tgt := 138) dX8_evenings_132 (by decide) (fun c42 => ?_) (fun c42 => ?_)
        · replace hf := hif_n c42 hf
          exact hJ28 x7 hf
        · replace hf := hif_p c42 hf
          refine h_iinc (q := 6) (v := x7 + 1) (lv2 := [(7, .int (x7 + 1)), (0, .ref x0), (2, .int x2), (3, .int x3), (4, .int x4), (5, .int z5), (6, .ref x6), (8, .int x8), (9, .int x9), (10, .int x10)]) dX8_evenings_135 rfl rfl (Nat.le_of_ble_eq_true rfl) rfl ?_
          refine h_sub (lv2 := [(0, .ref x0), (2, .int x2), (3, .int x3), (4, .int x4), (5, .int z5), (6, .ref x6), (7, .int (x7 + 1)), (8, .int x8), (9, .int x9), (10, .int x10)]) [1, 2, 3, 4, 5, 6, 0, 7, 8, 9] rfl ?_
          exact hJ28 (x7 + 1) hf
set_option maxRecDepth 100000 in
set_option maxHeartbeats 4000000 in
theorem m_X8_evenings {d : Nat} {cs : Nat → Nat} {a0 : Nat} {a1 : Int32} {a2 : Int32} {a3 : Int32} {a4 : Int32} {a5 : Int32} {S : hS} {r : Int32 × hS} (hd : 7 ≤ d) (hf : f_X8_evenings a0 a1 a2 a3 a4 a5 S = some r) : HM yX8_evenings cX8_evenings 11 (some .int) d 0 0 cs [.ref a0, .int a1, .int a2, .int a3, .int a4, .int a5] S (some (.int r.1)) r.2 := by
  unfold f_X8_evenings at hf
  refine HM.ofHW false (by decide) (fun h => by cases h) (Nat.le_of_ble_eq_true rfl) ?_
  show HW cX8_evenings RX8 (x_X8_evenings d S [.ref a0, .int a1, .int a2, .int a3, .int a4, .int a5] r cs) 0 0 S 0 [(0, .ref a0), (1, .int a1), (2, .int a2), (3, .int a3), (4, .int a4), (5, .int a5)] []
  refine h_aload_n dX8_evenings_0 rfl 0 rfl ?_
  refine h_iload_n dX8_evenings_1 rfl 1 rfl ?_
  refine h_iload_n dX8_evenings_2 rfl 3 rfl ?_
  refine h_iconst (v := 1) dX8_evenings_3 rfl ?_
  refine h_bipush (v := 30) dX8_evenings_4 rfl ?_
  obtain ⟨g77, hf⟩ := hck_s hf
  obtain ⟨t48, S47, h46, hf⟩ := hb2_s hf
  refine h_Vr [.int a1, .int a3, .int 1, .int 30] (rest := []) (m_X8_ruleFor (d := 1) (cs := cs) (Nat.le_refl _) h46) v_X8_ruleFor q_735 rfl (Nat.le_trans (by decide) hd) g77 rfl rfl (Nat.le_of_ble_eq_true rfl) dX8_evenings_6 (Nat.le_refl _) (Nat.le_refl _) ?_
  refine h_astoreV (lv2 := [(6, va_rf t48), (0, .ref a0), (1, .int a1), (2, .int a2), (3, .int a3), (4, .int a4), (5, .int a5)]) dX8_evenings_9 (Nat.le_of_ble_eq_true rfl) rfl ?_
  refine h_aloadV dX8_evenings_11 0 rfl ?_
  refine h_ifnull (tgt := 53) dX8_evenings_13 (by decide) (fun c50 => ?_) (fun b49 c50 => ?_)
  · subst c50
    replace hf := hnl_N hf
    refine h_iconst (v := (-1)) dX8_evenings_53 rfl ?_
    obtain rfl := Option.some.inj hf
    exact h_iret rfl rfl rfl (Nat.le_refl _) (Nat.le_refl _) dX8_evenings_54
  · subst c50
    replace hf := hnl_S hf
    show HW cX8_evenings RX8 (x_X8_evenings d S [.ref a0, .int a1, .int a2, .int a3, .int a4, .int a5] r cs) 0 0 S47 16 [(6, .ref b49), (0, .ref a0), (1, .int a1), (2, .int a2), (3, .int a3), (4, .int a4), (5, .int a5)] []
    refine h_iload_n dX8_evenings_16 rfl 3 rfl ?_
    refine h_iconst (v := 1) dX8_evenings_17 rfl ?_
    refine h_icmp_lt (tgt := 53) dX8_evenings_18 (by decide) (fun c51 => ?_) (fun c51 => ?_)
    · replace hf := hif_p c51 hf
      refine h_iconst (v := (-1)) dX8_evenings_53 rfl ?_
      obtain rfl := Option.some.inj hf
      exact h_iret rfl rfl rfl (Nat.le_refl _) (Nat.le_refl _) dX8_evenings_54
    · replace hf := hif_n c51 hf
      refine h_iload_n dX8_evenings_21 rfl 3 rfl ?_
      refine h_bipush (v := 10) dX8_evenings_22 rfl ?_
      refine h_icmp_gt (tgt := 53) dX8_evenings_24 (by decide) (fun c52 => ?_) (fun c52 => ?_)
      · replace hf := hif_p c52 hf
        refine h_iconst (v := (-1)) dX8_evenings_53 rfl ?_
        obtain rfl := Option.some.inj hf
        exact h_iret rfl rfl rfl (Nat.le_refl _) (Nat.le_refl _) dX8_evenings_54
      · replace hf := hif_n c52 hf
        refine h_aload_n dX8_evenings_27 rfl 1 rfl ?_
        obtain ⟨t53, h54, hf⟩ := hbd_s hf
        refine h_getR h54 rfl (Nat.le_of_ble_eq_true rfl) rfl q_303 rfl dX8_evenings_28 ?_
        obtain ⟨t55, h56, hf⟩ := hbd_s hf
        refine h_getRN (host := "DeafSpot") h56 rfl (Nat.le_of_ble_eq_true rfl) rfl (List.mem_of_getElem? (i := 52) rfl) rfl dX8_evenings_31 ?_
        refine h_iload dX8_evenings_34 5 rfl ?_
        obtain ⟨g76, hf⟩ := hck_s hf
        obtain ⟨t59, S58, h57, hf⟩ := hb2_s hf
        refine h_Vi [.int a4] (rest := []) (m_X2_known (d := 1) (cs := cs) (Nat.le_refl _) h57) v_X2_known q_695 rfl (Nat.le_trans (by decide) hd) g76 rfl rfl (Nat.le_of_ble_eq_true rfl) dX8_evenings_36 (Nat.le_refl _) (Nat.le_refl _) ?_
        refine h_if_eq (tgt := 53) dX8_evenings_39 (by decide) (fun c60 => ?_) (fun c60 => ?_)
        · replace hf := hif_p c60 hf
          refine h_iconst (v := (-1)) dX8_evenings_53 rfl ?_
          obtain rfl := Option.some.inj hf
          exact h_iret rfl rfl rfl (Nat.le_refl _) (Nat.le_refl _) dX8_evenings_54
        · replace hf := hif_n c60 hf
          refine h_iload dX8_evenings_42 6 rfl ?_
          refine h_if_lt (tgt := 53) dX8_evenings_44 (by decide) (fun c61 => ?_) (fun c61 => ?_)
          · replace hf := hif_p c61 hf
            refine h_iconst (v := (-1)) dX8_evenings_53 rfl ?_
            obtain rfl := Option.some.inj hf
            exact h_iret rfl rfl rfl (Nat.le_refl _) (Nat.le_refl _) dX8_evenings_54
          · replace hf := hif_n c61 hf
            refine h_iload dX8_evenings_47 6 rfl ?_
            refine h_iconst (v := 2) dX8_evenings_49 rfl ?_
            refine h_icmp_le (tgt := 55) dX8_evenings_50 (by decide) (fun c62 => ?_) (fun c62 => ?_)
            · replace hf := hif_p c62 hf
              refine h_iconst (v := 0) dX8_evenings_55 rfl ?_
              refine h_istore (lv2 := [(7, .int 0), (6, .ref b49), (0, .ref a0), (1, .int a1), (2, .int a2), (3, .int a3), (4, .int a4), (5, .int a5)]) dX8_evenings_56 (Nat.le_of_ble_eq_true rfl) rfl ?_
              refine h_iconst (v := 0) dX8_evenings_58 rfl ?_
              refine h_istore (lv2 := [(8, .int 0), (7, .int 0), (6, .ref b49), (0, .ref a0), (1, .int a1), (2, .int a2), (3, .int a3), (4, .int a4), (5, .int a5)]) dX8_evenings_59 (Nat.le_of_ble_eq_true rfl) rfl ?_
              refine h_iconst (v := 0) dX8_evenings_61 rfl ?_
              refine h_istore (lv2 := [(9, .int 0), (8, .int 0), (7, .int 0), (6, .ref b49), (0, .ref a0), (1, .int a1), (2, .int a2), (3, .int a3), (4, .int a4), (5, .int a5)]) dX8_evenings_62 (Nat.le_of_ble_eq_true rfl) rfl ?_
              refine h_aload_n dX8_evenings_64 rfl 4 rfl ?_
              obtain ⟨t63, h64, hf⟩ := hbd_s hf
              refine h_getR h64 rfl (Nat.le_of_ble_eq_true rfl) rfl q_305 rfl dX8_evenings_65 ?_
              refine h_aload_n dX8_evenings_68 rfl 4 rfl ?_
              obtain ⟨t65, h66, hf⟩ := hbd_s hf
              refine h_getR h66 rfl (Nat.le_of_ble_eq_true rfl) rfl q_303 rfl dX8_evenings_69 ?_
              obtain ⟨g75, hf⟩ := hck_s hf
              obtain ⟨S68, h67, hf⟩ := hbd_s hf
              refine h_Vv [.ref t65] (rest := []) (m_X0_copy (d := 3) (cs := cs) (Nat.le_refl _) h67) v_X0_copy q_567 rfl (Nat.le_trans (by decide) hd) g75 rfl rfl (Nat.le_of_ble_eq_true rfl) dX8_evenings_72 (Nat.le_refl _) (Nat.le_refl _) ?_
              refine h_iconst (v := 0) dX8_evenings_75 rfl ?_
              refine h_istore (lv2 := [(10, .int 0), (9, .int 0), (8, .int 0), (7, .int 0), (6, .ref b49), (0, .ref a0), (1, .int a1), (2, .int a2), (3, .int a3), (4, .int a4), (5, .int a5)]) dX8_evenings_76 (Nat.le_of_ble_eq_true rfl) rfl ?_
              refine h_sub (lv2 := [(0, .ref a0), (2, .int a2), (3, .int a3), (4, .int a4), (5, .int a5), (6, .ref b49), (7, .int 0), (8, .int 0), (9, .int 0), (10, .int 0)]) [5, 7, 8, 9, 10, 4, 3, 2, 1, 0] rfl ?_
              refine w_X8_evenings_L78 hd hfuel a0 a2 a3 a4 b49 0 0 0 0 S68 _ a5 hf ?_
              · intro u69 u70 u71 S72 hf
                refine h_iload dX8_evenings_175 0 rfl ?_
                refine h_if_ne (tgt := 185) dX8_evenings_177 (by decide) (fun c73 => ?_) (fun c73 => ?_)
                · replace hf := hif_n c73 hf
                  refine h_iload dX8_evenings_185 0 rfl ?_
                  refine h_iconst (v := 1) dX8_evenings_187 rfl ?_
                  refine h_icmp_ne (tgt := 196) dX8_evenings_188 (by decide) (fun c74 => ?_) (fun c74 => ?_)
                  · replace hf := hif_n c74 hf
                    refine h_iload dX8_evenings_196 3 rfl ?_
                    obtain rfl := Option.some.inj hf
                    exact h_iret rfl rfl rfl (Nat.le_refl _) (Nat.le_refl _) dX8_evenings_198
                  · replace hf := hif_p c74 hf
                    refine h_iload dX8_evenings_191 2 rfl ?_
                    refine h_goto (tgt := 198) dX8_evenings_193 (by decide) ?_
                    obtain rfl := Option.some.inj hf
                    exact h_iret rfl rfl rfl (Nat.le_refl _) (Nat.le_refl _) dX8_evenings_198
                · replace hf := hif_p c73 hf
                  refine h_iload dX8_evenings_180 1 rfl ?_
                  refine h_goto (tgt := 198) dX8_evenings_182 (by decide) ?_
                  obtain rfl := Option.some.inj hf
                  exact h_iret rfl rfl rfl (Nat.le_refl _) (Nat.le_refl _) dX8_evenings_198
            · replace hf := hif_n c62 hf
              refine h_iconst (v := (-1)) dX8_evenings_53 rfl ?_
              obtain rfl := Option.some.inj hf
              exact h_iret rfl rfl rfl (Nat.le_refl _) (Nat.le_refl _) dX8_evenings_54
abbrev x_X8_spotAhead (d : Nat) (S0 : hS) (args : List Value) (r : Int32 × hS) (cs : Nat → Nat) : hX := (((some .int), 3, d, 0, 0, false), (S0, args, some (.int r.1), r.2), cs)
theorem v_X8_spotAhead : hVW yX8_spotAhead cX8_spotAhead 3 (some .int) RX8 2 := ⟨q_789, q_s27, q_1, q_790, by decide +kernel, by decide⟩
def f_X8_spotAhead (a0 : Nat) (a1 : Nat) (a2 : Int32) (S : hS) : Option (Int32 × hS) :=
  hbd (gR S a0 8 5) fun t1 =>
  hbd (gR S a0 8 3) fun t3 =>
  hck (S.K t1 = 1) <|
  hbd (f_X0_copy t1 t3 S) fun S6 =>
  hbd (gR S6 a0 8 5) fun t7 =>
  hck (S6.K t7 = 1) <|
  hbd (f_X0_pass t7 a1 a2 S6) fun S10 =>
  hbd (gR S10 a0 8 5) fun t11 =>
  hbd (gI S10 t11 0 4) fun t13 =>
  some (t13, S10)
set_option maxRecDepth 100000 in
set_option maxHeartbeats 4000000 in
theorem m_X8_spotAhead {d : Nat} {cs : Nat → Nat} {a0 : Nat} {a1 : Nat} {a2 : Int32} {S : hS} {r : Int32 × hS} (hd : 7 ≤ d) (hf : f_X8_spotAhead a0 a1 a2 S = some r) : HM yX8_spotAhead cX8_spotAhead 3 (some .int) d 0 0 cs [.ref a0, .ref a1, .int a2] S (some (.int r.1)) r.2 := by
  unfold f_X8_spotAhead at hf
  refine HM.ofHW false (by decide) (fun h => by cases h) (Nat.le_of_ble_eq_true rfl) ?_
  show HW cX8_spotAhead RX8 (x_X8_spotAhead d S [.ref a0, .ref a1, .int a2] r cs) 0 0 S 0 [(0, .ref a0), (1, .ref a1), (2, .int a2)] []
  refine h_aload_n dX8_spotAhead_0 rfl 0 rfl ?_
  obtain ⟨t1, h2, hf⟩ := hbd_s hf
  refine h_getR h2 rfl (Nat.le_of_ble_eq_true rfl) rfl q_305 rfl dX8_spotAhead_1 ?_
  refine h_aload_n dX8_spotAhead_4 rfl 0 rfl ?_
  obtain ⟨t3, h4, hf⟩ := hbd_s hf
  refine h_getR h4 rfl (Nat.le_of_ble_eq_true rfl) rfl q_303 rfl dX8_spotAhead_5 ?_
  obtain ⟨g16, hf⟩ := hck_s hf
  obtain ⟨S6, h5, hf⟩ := hbd_s hf
  refine h_Vv [.ref t3] (rest := []) (m_X0_copy (d := 3) (cs := cs) (Nat.le_refl _) h5) v_X0_copy q_567 rfl (Nat.le_trans (by decide) hd) g16 rfl rfl (Nat.le_of_ble_eq_true rfl) dX8_spotAhead_8 (Nat.le_refl _) (Nat.le_refl _) ?_
  refine h_aload_n dX8_spotAhead_11 rfl 0 rfl ?_
  obtain ⟨t7, h8, hf⟩ := hbd_s hf
  refine h_getR h8 rfl (Nat.le_of_ble_eq_true rfl) rfl q_305 rfl dX8_spotAhead_12 ?_
  refine h_aload_n dX8_spotAhead_15 rfl 1 rfl ?_
  refine h_iload_n dX8_spotAhead_16 rfl 2 rfl ?_
  obtain ⟨g15, hf⟩ := hck_s hf
  obtain ⟨S10, h9, hf⟩ := hbd_s hf
  refine h_Vv [.ref a1, .int a2] (rest := []) (m_X0_pass (d := 6) (cs := cs) (Nat.le_refl _) h9) v_X0_pass q_739 rfl (Nat.le_trans (by decide) hd) g15 rfl rfl (Nat.le_of_ble_eq_true rfl) dX8_spotAhead_17 (Nat.le_refl _) (Nat.le_refl _) ?_
  refine h_aload_n dX8_spotAhead_20 rfl 0 rfl ?_
  obtain ⟨t11, h12, hf⟩ := hbd_s hf
  refine h_getR h12 rfl (Nat.le_of_ble_eq_true rfl) rfl q_305 rfl dX8_spotAhead_21 ?_
  obtain ⟨t13, h14, hf⟩ := hbd_s hf
  refine h_getIN (host := "DeafSpot") h14 rfl (Nat.le_of_ble_eq_true rfl) rfl (List.mem_of_getElem? (i := 55) rfl) rfl dX8_spotAhead_24 ?_
  obtain rfl := Option.some.inj hf
  exact h_iret rfl rfl rfl (Nat.le_refl _) (Nat.le_refl _) dX8_spotAhead_27
abbrev x_X8_stepsWithout (d : Nat) (S0 : hS) (args : List Value) (r : Int32 × hS) (cs : Nat → Nat) : hX := (((some .int), 5, d, 0, 0, false), (S0, args, some (.int r.1), r.2), cs)
theorem v_X8_stepsWithout : hVW yX8_stepsWithout cX8_stepsWithout 5 (some .int) RX8 4 := ⟨q_851, q_s30, q_1, q_852, by decide +kernel, by decide⟩
def f_X8_stepsWithout (a0 : Nat) (a1 : Nat) (a2 : Int32) (a3 : Int32) (a4 : Int32) (S : hS) : Option (Int32 × hS) :=
  hbd (gR S a0 8 5) fun t1 =>
  hbd (gR S a0 8 3) fun t3 =>
  hck (S.K t1 = 1) <|
  hbd (f_X0_rewind t1 t3 S) fun S6 =>
  hbd (gR S6 a0 8 5) fun t7 =>
  hbd (gR S6 t7 0 1) fun t9 =>
  hck (S6.K t9 = 3) <|
  hbd (f_X2_leave t9 a3 S6) fun S12 =>
  hbd (gR S12 a0 8 5) fun t13 =>
  hck (S12.K t13 = 1) <|
  hbd (f_X0_pass t13 a1 a2 S12) fun S16 =>
  hbd (gR S16 a0 8 3) fun t17 =>
  hbd (gR S16 t17 0 0) fun t19 =>
  hbd (gR S16 a0 8 5) fun t21 =>
  hbd (gI S16 t21 0 4) fun t23 =>
  hck (S16.K t19 = 7) <|
  hb2 (f_X6_steps t19 t23 a4 S16) fun t27 S26 =>
  some (t27, S26)
set_option maxRecDepth 100000 in
set_option maxHeartbeats 4000000 in
theorem m_X8_stepsWithout {d : Nat} {cs : Nat → Nat} {a0 : Nat} {a1 : Nat} {a2 : Int32} {a3 : Int32} {a4 : Int32} {S : hS} {r : Int32 × hS} (hd : 7 ≤ d) (hf : f_X8_stepsWithout a0 a1 a2 a3 a4 S = some r) : HM yX8_stepsWithout cX8_stepsWithout 5 (some .int) d 0 0 cs [.ref a0, .ref a1, .int a2, .int a3, .int a4] S (some (.int r.1)) r.2 := by
  unfold f_X8_stepsWithout at hf
  refine HM.ofHW false (by decide) (fun h => by cases h) (Nat.le_of_ble_eq_true rfl) ?_
  show HW cX8_stepsWithout RX8 (x_X8_stepsWithout d S [.ref a0, .ref a1, .int a2, .int a3, .int a4] r cs) 0 0 S 0 [(0, .ref a0), (1, .ref a1), (2, .int a2), (3, .int a3), (4, .int a4)] []
  refine h_aload_n dX8_stepsWithout_0 rfl 0 rfl ?_
  obtain ⟨t1, h2, hf⟩ := hbd_s hf
  refine h_getR h2 rfl (Nat.le_of_ble_eq_true rfl) rfl q_305 rfl dX8_stepsWithout_1 ?_
  refine h_aload_n dX8_stepsWithout_4 rfl 0 rfl ?_
  obtain ⟨t3, h4, hf⟩ := hbd_s hf
  refine h_getR h4 rfl (Nat.le_of_ble_eq_true rfl) rfl q_303 rfl dX8_stepsWithout_5 ?_
  obtain ⟨g31, hf⟩ := hck_s hf
  obtain ⟨S6, h5, hf⟩ := hbd_s hf
  refine h_Vv [.ref t3] (rest := []) (m_X0_rewind (d := 2) (cs := cs) (Nat.le_refl _) h5) v_X0_rewind q_819 rfl (Nat.le_trans (by decide) hd) g31 rfl rfl (Nat.le_of_ble_eq_true rfl) dX8_stepsWithout_8 (Nat.le_refl _) (Nat.le_refl _) ?_
  refine h_aload_n dX8_stepsWithout_11 rfl 0 rfl ?_
  obtain ⟨t7, h8, hf⟩ := hbd_s hf
  refine h_getR h8 rfl (Nat.le_of_ble_eq_true rfl) rfl q_305 rfl dX8_stepsWithout_12 ?_
  obtain ⟨t9, h10, hf⟩ := hbd_s hf
  refine h_getRN (host := "DeafSpot") h10 rfl (Nat.le_of_ble_eq_true rfl) rfl (List.mem_of_getElem? (i := 52) rfl) rfl dX8_stepsWithout_15 ?_
  refine h_iload_n dX8_stepsWithout_18 rfl 3 rfl ?_
  obtain ⟨g30, hf⟩ := hck_s hf
  obtain ⟨S12, h11, hf⟩ := hbd_s hf
  refine h_Vv [.int a3] (rest := []) (m_X2_leave (d := 2) (cs := cs) (Nat.le_refl _) h11) v_X2_leave q_718 rfl (Nat.le_trans (by decide) hd) g30 rfl rfl (Nat.le_of_ble_eq_true rfl) dX8_stepsWithout_19 (Nat.le_refl _) (Nat.le_refl _) ?_
  refine h_aload_n dX8_stepsWithout_22 rfl 0 rfl ?_
  obtain ⟨t13, h14, hf⟩ := hbd_s hf
  refine h_getR h14 rfl (Nat.le_of_ble_eq_true rfl) rfl q_305 rfl dX8_stepsWithout_23 ?_
  refine h_aload_n dX8_stepsWithout_26 rfl 1 rfl ?_
  refine h_iload_n dX8_stepsWithout_27 rfl 2 rfl ?_
  obtain ⟨g29, hf⟩ := hck_s hf
  obtain ⟨S16, h15, hf⟩ := hbd_s hf
  refine h_Vv [.ref a1, .int a2] (rest := []) (m_X0_pass (d := 6) (cs := cs) (Nat.le_refl _) h15) v_X0_pass q_739 rfl (Nat.le_trans (by decide) hd) g29 rfl rfl (Nat.le_of_ble_eq_true rfl) dX8_stepsWithout_28 (Nat.le_refl _) (Nat.le_refl _) ?_
  refine h_aload_n dX8_stepsWithout_31 rfl 0 rfl ?_
  obtain ⟨t17, h18, hf⟩ := hbd_s hf
  refine h_getR h18 rfl (Nat.le_of_ble_eq_true rfl) rfl q_303 rfl dX8_stepsWithout_32 ?_
  obtain ⟨t19, h20, hf⟩ := hbd_s hf
  refine h_getRN (host := "DeafSpot") h20 rfl (Nat.le_of_ble_eq_true rfl) rfl (List.mem_of_getElem? (i := 50) rfl) rfl dX8_stepsWithout_35 ?_
  refine h_aload_n dX8_stepsWithout_38 rfl 0 rfl ?_
  obtain ⟨t21, h22, hf⟩ := hbd_s hf
  refine h_getR h22 rfl (Nat.le_of_ble_eq_true rfl) rfl q_305 rfl dX8_stepsWithout_39 ?_
  obtain ⟨t23, h24, hf⟩ := hbd_s hf
  refine h_getIN (host := "DeafSpot") h24 rfl (Nat.le_of_ble_eq_true rfl) rfl (List.mem_of_getElem? (i := 55) rfl) rfl dX8_stepsWithout_42 ?_
  refine h_iload dX8_stepsWithout_45 4 rfl ?_
  obtain ⟨g28, hf⟩ := hck_s hf
  obtain ⟨t27, S26, h25, hf⟩ := hb2_s hf
  refine h_Vi [.int t23, .int a4] (rest := []) (m_X6_steps (d := 2) (cs := cs) (Nat.le_refl _) h25) v_X6_steps q_853 rfl (Nat.le_trans (by decide) hd) g28 rfl rfl (Nat.le_of_ble_eq_true rfl) dX8_stepsWithout_47 (Nat.le_refl _) (Nat.le_refl _) ?_
  obtain rfl := Option.some.inj hf
  exact h_iret rfl rfl rfl (Nat.le_refl _) (Nat.le_refl _) dX8_stepsWithout_50
abbrev x_X8_seekSeat (d : Nat) (S0 : hS) (args : List Value) (r : hS) (cs : Nat → Nat) : hX := ((none, 7, d, 0, 0, false), (S0, args, none, r), cs)
theorem v_X8_seekSeat : hVW yX8_seekSeat cX8_seekSeat 7 none RX8 3 := ⟨q_817, q_s29, q_1, q_818, by decide +kernel, by decide⟩
def f_X8_seekSeat_L36 : Nat → Nat → Nat → Int32 → Int32 → Nat → Int32 → Int32 → hS → (hS → Option (hS)) → (Int32 → hS → Option (hS)) → Option (hS)
  | 0, _, _, _, _, _, _, _, _, _, _ => none
  | n + 1, x0, x1, x2, x3, x4, x5, x6, S, k0, k1 =>
    hbd (gR S x0 8 3) fun t1 =>
    hbd (gR S t1 0 0) fun t3 =>
    hbd (gI S t3 6 2) fun t5 =>
    if t5 ≤ x6 then
      (k0 S)
    else
      (hck (S.K x4 = 3) <|
       hb2 (f_X2_here x4 x5 S) fun t10 S9 =>
       if t10 = 0 then
         (f_X8_seekSeat_L36 n x0 x1 x2 x3 x4 x5 (x6 + 1) S9 k0 k1)
       else
         (hbd (gR S9 x4 2 5) fun t12 =>
          hbd (gA S9 t12 12 x6) fun t14 =>
          if t14 = (-1) then
            (hbd (gR S9 x0 8 5) fun t17 =>
             hbd (gR S9 x0 8 3) fun t19 =>
             hck (S9.K t17 = 1) <|
             hbd (f_X0_rewind t17 t19 S9) fun S22 =>
             hbd (gR S22 x0 8 5) fun t23 =>
             hbd (gR S22 t23 0 1) fun t25 =>
             hck (S22.K t25 = 3) <|
             hbd (f_X2_put t25 x5 x6 S22) fun S28 =>
             hbd (gR S28 x0 8 5) fun t29 =>
             hbd (gR S28 x0 8 5) fun t31 =>
             hbd (gR S28 t31 0 1) fun t33 =>
             hbd (gR S28 t33 2 1) fun t35 =>
             hbd (gA S28 t35 12 x3) fun t37 =>
             hck (S28.K t29 = 1) <|
             hb2 (f_X0_endsOn t29 x1 x2 t37 S28) fun t41 S40 =>
             if t41 = 0 then
               (f_X8_seekSeat_L36 n x0 x1 x2 x3 x4 x5 (x6 + 1) S40 k0 k1)
             else
               (k1 x6 S40))
          else
            (f_X8_seekSeat_L36 n x0 x1 x2 x3 x4 x5 (x6 + 1) S9 k0 k1)))
def f_X8_seekSeat_L23 : Nat → Nat → Nat → Int32 → Int32 → Nat → Int32 → hS → (hS → Option (hS)) → (Int32 → Int32 → hS → Option (hS)) → Option (hS)
  | 0, _, _, _, _, _, _, _, _, _ => none
  | n + 1, x0, x1, x2, x3, x4, x5, S, k0, k1 =>
    hbd (gI S x4 2 0) fun t1 =>
    if t1 ≤ x5 then
      (k0 S)
    else
      (f_X8_seekSeat_L36 hfuel x0 x1 x2 x3 x4 x5 0 S
         (fun S4 =>
           f_X8_seekSeat_L23 n x0 x1 x2 x3 x4 (x5 + 1) S4 k0 k1
         )
         (fun u5 S6 =>
           k1 x5 u5 S6
         ))
def f_X8_seekSeat (a0 : Nat) (a1 : Nat) (a2 : Int32) (a3 : Int32) (S : hS) : Option (hS) :=
  hbd (gR S a0 8 3) fun t7 =>
  hbd (gR S t7 0 1) fun t9 =>
  hbd (gR S a0 8 5) fun t11 =>
  hbd (gR S a0 8 3) fun t13 =>
  hck (S.K t11 = 1) <|
  hbd (f_X0_copy t11 t13 S) fun S16 =>
  f_X8_seekSeat_L23 hfuel a0 a1 a2 a3 t9 0 S16
    (fun S17 =>
      some S17
    )
    (fun u18 u19 S20 =>
      hbd (gR S20 a0 8 9) fun t21 =>
      hbd (gR S20 a0 8 3) fun t23 =>
      hbd (gR S20 t23 0 0) fun t25 =>
      hck (S20.K t25 = 7) <|
      hb2 (f_X6_columnOf t25 u19 S20) fun t29 S28 =>
      hbd (gR S28 a0 8 3) fun t30 =>
      hbd (gR S28 t30 0 0) fun t32 =>
      hck (S28.K t32 = 7) <|
      hb2 (f_X6_rowOf t32 u19 S28) fun t36 S35 =>
      hck (S35.K t21 = 2) <|
      hbd (f_X1_keep t21 u18 t29 t36 0 S35) fun S38 =>
      some S38
    )
set_option maxRecDepth 100000 in
set_option maxHeartbeats 4000000 in
theorem w_X8_seekSeat_L36 {d : Nat} {S0 : hS} {args : List Value} {cs : Nat → Nat} {r : hS} (hd : 7 ≤ d) : ∀ (n : Nat) (x0 : Nat) (x1 : Nat) (x2 : Int32) (x3 : Int32) (x4 : Nat) (x5 : Int32) (x6 : Int32) (S : hS) (k0 : (hS → Option (hS))) (k1 : (Int32 → hS → Option (hS))) , f_X8_seekSeat_L36 n x0 x1 x2 x3 x4 x5 x6 S k0 k1 = some r → (∀ (T : hS), k0 T = some r → HW cX8_seekSeat RX8 (x_X8_seekSeat d S0 args r cs) 0 0 T 163 [(0, .ref x0), (1, .ref x1), (2, .int x2), (3, .int x3), (4, .ref x4), (5, .int x5)] []) → (∀ (y6 : Int32) (T : hS), k1 y6 T = some r → HW cX8_seekSeat RX8 (x_X8_seekSeat d S0 args r cs) 0 0 T 122 [(0, .ref x0), (5, .int x5), (6, .int y6)] []) → HW cX8_seekSeat RX8 (x_X8_seekSeat d S0 args r cs) 0 0 S 36 [(0, .ref x0), (1, .ref x1), (2, .int x2), (3, .int x3), (4, .ref x4), (5, .int x5), (6, .int x6)] [] := by
  intro n
  induction n with
  | zero =>
    intro x0 x1 x2 x3 x4 x5 x6 S k0 k1 hf
    cases hf
  | succ n ih =>
    intro x0 x1 x2 x3 x4 x5 x6 S k0 k1 hf hk0 hk1
    rw [f_X8_seekSeat_L36] at hf
    refine h_iload dX8_seekSeat_36 6 rfl ?_
    refine h_aload_n dX8_seekSeat_38 rfl 0 rfl ?_
    obtain ⟨t1, h2, hf⟩ := hbd_s hf
    refine h_getR h2 rfl (Nat.le_of_ble_eq_true rfl) rfl q_303 rfl dX8_seekSeat_39 ?_
    obtain ⟨t3, h4, hf⟩ := hbd_s hf
    refine h_getRN (host := "DeafSpot") h4 rfl (Nat.le_of_ble_eq_true rfl) rfl (List.mem_of_getElem? (i := 50) rfl) rfl dX8_seekSeat_42 ?_
    obtain ⟨t5, h6, hf⟩ := hbd_s hf
    refine h_getIN (host := "DeafSpot") h6 rfl (Nat.le_of_ble_eq_true rfl) rfl (List.mem_of_getElem? (i := 12) rfl) rfl dX8_seekSeat_45 ?_
    refine h_icmp_ge (tgt := 163) dX8_seekSeat_48 (by decide) (fun c7 => ?_) (fun c7 => ?_)
    · replace hf := hif_p c7 hf
      refine h_sub (lv2 := [(0, .ref x0), (1, .ref x1), (2, .int x2), (3, .int x3), (4, .ref x4), (5, .int x5)]) [0, 1, 2, 3, 4, 5] rfl ?_
      exact hk0 S hf
    · replace hf := hif_n c7 hf
      refine h_aload dX8_seekSeat_51 4 rfl ?_
      refine h_iload dX8_seekSeat_53 5 rfl ?_
      obtain ⟨g46, hf⟩ := hck_s hf
      obtain ⟨t10, S9, h8, hf⟩ := hb2_s hf
      refine h_Vi [.int x5] (rest := []) (m_X2_here (d := 1) (cs := cs) (Nat.le_refl _) h8) v_X2_here q_717 rfl (Nat.le_trans (by decide) hd) g46 rfl rfl (Nat.le_of_ble_eq_true rfl) dX8_seekSeat_55 (Nat.le_refl _) (Nat.le_refl _) ?_
      refine h_if_eq (tgt := 157) dX8_seekSeat_58 (by decide) (fun c11 => ?_) (fun c11 => ?_)
      · replace hf := hif_p c11 hf
        refine h_iinc (q := 6) (v := x6 + 1) (lv2 := [(6, .int (x6 + 1)), (0, .ref x0), (1, .ref x1), (2, .int x2), (3, .int x3), (4, .ref x4), (5, .int x5)]) dX8_seekSeat_157 rfl rfl (Nat.le_of_ble_eq_true rfl) rfl ?_
        refine h_goto (tgt := 36) dX8_seekSeat_160 (by decide) ?_
        refine h_sub (lv2 := [(0, .ref x0), (1, .ref x1), (2, .int x2), (3, .int x3), (4, .ref x4), (5, .int x5), (6, .int (x6 + 1))]) [1, 2, 3, 4, 5, 6, 0] rfl ?_
        exact ih x0 x1 x2 x3 x4 x5 (x6 + 1) S9 k0 k1  hf hk0 hk1
      · replace hf := hif_n c11 hf
        refine h_aload dX8_seekSeat_61 4 rfl ?_
        obtain ⟨t12, h13, hf⟩ := hbd_s hf
        refine h_getRN (host := "DeafSpot") h13 rfl (Nat.le_of_ble_eq_true rfl) rfl (List.mem_of_getElem? (i := 47) rfl) rfl dX8_seekSeat_63 ?_
        refine h_iload dX8_seekSeat_66 6 rfl ?_
        obtain ⟨t14, h15, hf⟩ := hbd_s hf
        refine h_iald h15 dX8_seekSeat_68 ?_
        refine h_iconst (v := (-1)) dX8_seekSeat_69 rfl ?_
        refine h_icmp_ne (tgt := 157) dX8_seekSeat_70 (by decide) (fun c16 => ?_) (fun c16 => ?_)
        · replace hf := hif_n c16 hf
          refine h_iinc (q := 6) (v := x6 + 1) (lv2 := [(6, .int (x6 + 1)), (0, .ref x0), (1, .ref x1), (2, .int x2), (3, .int x3), (4, .ref x4), (5, .int x5)]) dX8_seekSeat_157 rfl rfl (Nat.le_of_ble_eq_true rfl) rfl ?_
          refine h_goto (tgt := 36) dX8_seekSeat_160 (by decide) ?_
          refine h_sub (lv2 := [(0, .ref x0), (1, .ref x1), (2, .int x2), (3, .int x3), (4, .ref x4), (5, .int x5), (6, .int (x6 + 1))]) [1, 2, 3, 4, 5, 6, 0] rfl ?_
          exact ih x0 x1 x2 x3 x4 x5 (x6 + 1) S9 k0 k1  hf hk0 hk1
        · replace hf := hif_p c16 hf
          refine h_aload_n dX8_seekSeat_73 rfl 0 rfl ?_
          obtain ⟨t17, h18, hf⟩ := hbd_s hf
          refine h_getR h18 rfl (Nat.le_of_ble_eq_true rfl) rfl q_305 rfl dX8_seekSeat_74 ?_
          refine h_aload_n dX8_seekSeat_77 rfl 0 rfl ?_
          obtain ⟨t19, h20, hf⟩ := hbd_s hf
          refine h_getR h20 rfl (Nat.le_of_ble_eq_true rfl) rfl q_303 rfl dX8_seekSeat_78 ?_
          obtain ⟨g45, hf⟩ := hck_s hf
          obtain ⟨S22, h21, hf⟩ := hbd_s hf
          refine h_Vv [.ref t19] (rest := []) (m_X0_rewind (d := 2) (cs := cs) (Nat.le_refl _) h21) v_X0_rewind q_819 rfl (Nat.le_trans (by decide) hd) g45 rfl rfl (Nat.le_of_ble_eq_true rfl) dX8_seekSeat_81 (Nat.le_refl _) (Nat.le_refl _) ?_
          refine h_aload_n dX8_seekSeat_84 rfl 0 rfl ?_
          obtain ⟨t23, h24, hf⟩ := hbd_s hf
          refine h_getR h24 rfl (Nat.le_of_ble_eq_true rfl) rfl q_305 rfl dX8_seekSeat_85 ?_
          obtain ⟨t25, h26, hf⟩ := hbd_s hf
          refine h_getRN (host := "DeafSpot") h26 rfl (Nat.le_of_ble_eq_true rfl) rfl (List.mem_of_getElem? (i := 52) rfl) rfl dX8_seekSeat_88 ?_
          refine h_iload dX8_seekSeat_91 5 rfl ?_
          refine h_iload dX8_seekSeat_93 6 rfl ?_
          obtain ⟨g44, hf⟩ := hck_s hf
          obtain ⟨S28, h27, hf⟩ := hbd_s hf
          refine h_Vv [.int x5, .int x6] (rest := []) (m_X2_put (d := 3) (cs := cs) (Nat.le_refl _) h27) v_X2_put q_712 rfl (Nat.le_trans (by decide) hd) g44 rfl rfl (Nat.le_of_ble_eq_true rfl) dX8_seekSeat_95 (Nat.le_refl _) (Nat.le_refl _) ?_
          refine h_aload_n dX8_seekSeat_98 rfl 0 rfl ?_
          obtain ⟨t29, h30, hf⟩ := hbd_s hf
          refine h_getR h30 rfl (Nat.le_of_ble_eq_true rfl) rfl q_305 rfl dX8_seekSeat_99 ?_
          refine h_aload_n dX8_seekSeat_102 rfl 1 rfl ?_
          refine h_iload_n dX8_seekSeat_103 rfl 2 rfl ?_
          refine h_aload_n dX8_seekSeat_104 rfl 0 rfl ?_
          obtain ⟨t31, h32, hf⟩ := hbd_s hf
          refine h_getR h32 rfl (Nat.le_of_ble_eq_true rfl) rfl q_305 rfl dX8_seekSeat_105 ?_
          obtain ⟨t33, h34, hf⟩ := hbd_s hf
          refine h_getRN (host := "DeafSpot") h34 rfl (Nat.le_of_ble_eq_true rfl) rfl (List.mem_of_getElem? (i := 52) rfl) rfl dX8_seekSeat_108 ?_
          obtain ⟨t35, h36, hf⟩ := hbd_s hf
          refine h_getRN (host := "DeafSpot") h36 rfl (Nat.le_of_ble_eq_true rfl) rfl (List.mem_of_getElem? (i := 39) rfl) rfl dX8_seekSeat_111 ?_
          refine h_iload_n dX8_seekSeat_114 rfl 3 rfl ?_
          obtain ⟨t37, h38, hf⟩ := hbd_s hf
          refine h_iald h38 dX8_seekSeat_115 ?_
          obtain ⟨g43, hf⟩ := hck_s hf
          obtain ⟨t41, S40, h39, hf⟩ := hb2_s hf
          refine h_Vi [.ref x1, .int x2, .int t37] (rest := []) (m_X0_endsOn (d := 6) (cs := cs) (Nat.le_refl _) h39) v_X0_endsOn q_820 rfl (Nat.le_trans (by decide) hd) g43 rfl rfl (Nat.le_of_ble_eq_true rfl) dX8_seekSeat_116 (Nat.le_refl _) (Nat.le_refl _) ?_
          refine h_if_eq (tgt := 157) dX8_seekSeat_119 (by decide) (fun c42 => ?_) (fun c42 => ?_)
          · replace hf := hif_p c42 hf
            refine h_iinc (q := 6) (v := x6 + 1) (lv2 := [(6, .int (x6 + 1)), (0, .ref x0), (1, .ref x1), (2, .int x2), (3, .int x3), (4, .ref x4), (5, .int x5)]) dX8_seekSeat_157 rfl rfl (Nat.le_of_ble_eq_true rfl) rfl ?_
            refine h_goto (tgt := 36) dX8_seekSeat_160 (by decide) ?_
            refine h_sub (lv2 := [(0, .ref x0), (1, .ref x1), (2, .int x2), (3, .int x3), (4, .ref x4), (5, .int x5), (6, .int (x6 + 1))]) [1, 2, 3, 4, 5, 6, 0] rfl ?_
            exact ih x0 x1 x2 x3 x4 x5 (x6 + 1) S40 k0 k1  hf hk0 hk1
          · replace hf := hif_n c42 hf
            refine h_sub (lv2 := [(0, .ref x0), (5, .int x5), (6, .int x6)]) [0, 5, 6] rfl ?_
            exact hk1 x6 S40 hf
set_option maxRecDepth 100000 in
set_option maxHeartbeats 4000000 in
theorem w_X8_seekSeat_L23 {d : Nat} {S0 : hS} {args : List Value} {cs : Nat → Nat} {r : hS} (hd : 7 ≤ d) : ∀ (n : Nat) (x0 : Nat) (x1 : Nat) (x2 : Int32) (x3 : Int32) (x4 : Nat) (x5 : Int32) (S : hS) (k0 : (hS → Option (hS))) (k1 : (Int32 → Int32 → hS → Option (hS))) , f_X8_seekSeat_L23 n x0 x1 x2 x3 x4 x5 S k0 k1 = some r → (∀ (T : hS), k0 T = some r → HW cX8_seekSeat RX8 (x_X8_seekSeat d S0 args r cs) 0 0 T 169 [] []) → (∀ (y5 : Int32) (y6 : Int32) (T : hS), k1 y5 y6 T = some r → HW cX8_seekSeat RX8 (x_X8_seekSeat d S0 args r cs) 0 0 T 122 [(0, .ref x0), (5, .int y5), (6, .int y6)] []) → HW cX8_seekSeat RX8 (x_X8_seekSeat d S0 args r cs) 0 0 S 23 [(0, .ref x0), (1, .ref x1), (2, .int x2), (3, .int x3), (4, .ref x4), (5, .int x5)] [] := by
  intro n
  induction n with
  | zero =>
    intro x0 x1 x2 x3 x4 x5 S k0 k1 hf
    cases hf
  | succ n ih =>
    intro x0 x1 x2 x3 x4 x5 S k0 k1 hf hk0 hk1
    rw [f_X8_seekSeat_L23] at hf
    refine h_iload dX8_seekSeat_23 5 rfl ?_
    refine h_aload dX8_seekSeat_25 4 rfl ?_
    obtain ⟨t1, h2, hf⟩ := hbd_s hf
    refine h_getIN (host := "DeafSpot") h2 rfl (Nat.le_of_ble_eq_true rfl) rfl (List.mem_of_getElem? (i := 37) rfl) rfl dX8_seekSeat_27 ?_
    refine h_icmp_ge (tgt := 169) dX8_seekSeat_30 (by decide) (fun c3 => ?_) (fun c3 => ?_)
    · replace hf := hif_p c3 hf
      refine h_sub (lv2 := []) [] rfl ?_
      exact hk0 S hf
    · replace hf := hif_n c3 hf
      refine h_iconst (v := 0) dX8_seekSeat_33 rfl ?_
      refine h_istore (lv2 := [(6, .int 0), (0, .ref x0), (1, .ref x1), (2, .int x2), (3, .int x3), (4, .ref x4), (5, .int x5)]) dX8_seekSeat_34 (Nat.le_of_ble_eq_true rfl) rfl ?_
      refine h_sub (lv2 := [(0, .ref x0), (1, .ref x1), (2, .int x2), (3, .int x3), (4, .ref x4), (5, .int x5), (6, .int 0)]) [1, 2, 3, 4, 5, 6, 0] rfl ?_
      refine w_X8_seekSeat_L36 hd hfuel x0 x1 x2 x3 x4 x5 0 S _ _  hf ?_ ?_
      · intro S4 hf
        refine h_iinc (q := 5) (v := x5 + 1) (lv2 := [(5, .int (x5 + 1)), (0, .ref x0), (1, .ref x1), (2, .int x2), (3, .int x3), (4, .ref x4)]) dX8_seekSeat_163 rfl rfl (Nat.le_of_ble_eq_true rfl) rfl ?_
        refine h_goto (tgt := 23) dX8_seekSeat_166 (by decide) ?_
        refine h_sub (lv2 := [(0, .ref x0), (1, .ref x1), (2, .int x2), (3, .int x3), (4, .ref x4), (5, .int (x5 + 1))]) [1, 2, 3, 4, 5, 0] rfl ?_
        exact ih x0 x1 x2 x3 x4 (x5 + 1) S4 k0 k1  hf hk0 hk1
      · intro u5 S6 hf
        exact hk1 x5 u5 S6 hf
set_option maxRecDepth 100000 in
set_option maxHeartbeats 4000000 in
theorem m_X8_seekSeat {d : Nat} {cs : Nat → Nat} {a0 : Nat} {a1 : Nat} {a2 : Int32} {a3 : Int32} {S : hS} {r : hS} (hd : 7 ≤ d) (hf : f_X8_seekSeat a0 a1 a2 a3 S = some r) : HM yX8_seekSeat cX8_seekSeat 7 none d 0 0 cs [.ref a0, .ref a1, .int a2, .int a3] S (none) r := by
  unfold f_X8_seekSeat at hf
  refine HM.ofHW false (by decide) (fun h => by cases h) (Nat.le_of_ble_eq_true rfl) ?_
  show HW cX8_seekSeat RX8 (x_X8_seekSeat d S [.ref a0, .ref a1, .int a2, .int a3] r cs) 0 0 S 0 [(0, .ref a0), (1, .ref a1), (2, .int a2), (3, .int a3)] []
  refine h_aload_n dX8_seekSeat_0 rfl 0 rfl ?_
  obtain ⟨t7, h8, hf⟩ := hbd_s hf
  refine h_getR h8 rfl (Nat.le_of_ble_eq_true rfl) rfl q_303 rfl dX8_seekSeat_1 ?_
  obtain ⟨t9, h10, hf⟩ := hbd_s hf
  refine h_getRN (host := "DeafSpot") h10 rfl (Nat.le_of_ble_eq_true rfl) rfl (List.mem_of_getElem? (i := 52) rfl) rfl dX8_seekSeat_4 ?_
  refine h_astore (lv2 := [(4, .ref t9), (0, .ref a0), (1, .ref a1), (2, .int a2), (3, .int a3)]) dX8_seekSeat_7 (Nat.le_of_ble_eq_true rfl) rfl ?_
  refine h_aload_n dX8_seekSeat_9 rfl 1 rfl ?_
  obtain ⟨t11, h12, hf⟩ := hbd_s hf
  refine h_getR h12 rfl (Nat.le_of_ble_eq_true rfl) rfl q_305 rfl dX8_seekSeat_10 ?_
  refine h_aload_n dX8_seekSeat_13 rfl 1 rfl ?_
  obtain ⟨t13, h14, hf⟩ := hbd_s hf
  refine h_getR h14 rfl (Nat.le_of_ble_eq_true rfl) rfl q_303 rfl dX8_seekSeat_14 ?_
  obtain ⟨g42, hf⟩ := hck_s hf
  obtain ⟨S16, h15, hf⟩ := hbd_s hf
  refine h_Vv [.ref t13] (rest := []) (m_X0_copy (d := 3) (cs := cs) (Nat.le_refl _) h15) v_X0_copy q_567 rfl (Nat.le_trans (by decide) hd) g42 rfl rfl (Nat.le_of_ble_eq_true rfl) dX8_seekSeat_17 (Nat.le_refl _) (Nat.le_refl _) ?_
  refine h_iconst (v := 0) dX8_seekSeat_20 rfl ?_
  refine h_istore (lv2 := [(5, .int 0), (4, .ref t9), (0, .ref a0), (1, .ref a1), (2, .int a2), (3, .int a3)]) dX8_seekSeat_21 (Nat.le_of_ble_eq_true rfl) rfl ?_
  refine h_sub (lv2 := [(0, .ref a0), (1, .ref a1), (2, .int a2), (3, .int a3), (4, .ref t9), (5, .int 0)]) [2, 3, 4, 5, 1, 0] rfl ?_
  refine w_X8_seekSeat_L23 hd hfuel a0 a1 a2 a3 t9 0 S16 _ _  hf ?_ ?_
  · intro S17 hf
    obtain rfl := Option.some.inj hf
    exact h_vret rfl rfl rfl (Nat.le_refl _) (Nat.le_refl _) dX8_seekSeat_169
  · intro u18 u19 S20 hf
    refine h_aload_n dX8_seekSeat_122 rfl 0 rfl ?_
    obtain ⟨t21, h22, hf⟩ := hbd_s hf
    refine h_getR h22 rfl (Nat.le_of_ble_eq_true rfl) rfl q_309 rfl dX8_seekSeat_123 ?_
    refine h_iload dX8_seekSeat_126 1 rfl ?_
    refine h_aload_n dX8_seekSeat_128 rfl 0 rfl ?_
    obtain ⟨t23, h24, hf⟩ := hbd_s hf
    refine h_getR h24 rfl (Nat.le_of_ble_eq_true rfl) rfl q_303 rfl dX8_seekSeat_129 ?_
    obtain ⟨t25, h26, hf⟩ := hbd_s hf
    refine h_getRN (host := "DeafSpot") h26 rfl (Nat.le_of_ble_eq_true rfl) rfl (List.mem_of_getElem? (i := 50) rfl) rfl dX8_seekSeat_132 ?_
    refine h_iload dX8_seekSeat_135 2 rfl ?_
    obtain ⟨g41, hf⟩ := hck_s hf
    obtain ⟨t29, S28, h27, hf⟩ := hb2_s hf
    refine h_Vi [.int u19] (rest := [.int u18, .ref t21]) (m_X6_columnOf (d := 1) (cs := cs) (Nat.le_refl _) h27) v_X6_columnOf q_696 rfl (Nat.le_trans (by decide) hd) g41 rfl rfl (Nat.le_of_ble_eq_true rfl) dX8_seekSeat_137 (Nat.le_refl _) (Nat.le_refl _) ?_
    refine h_aload_n dX8_seekSeat_140 rfl 0 rfl ?_
    obtain ⟨t30, h31, hf⟩ := hbd_s hf
    refine h_getR h31 rfl (Nat.le_of_ble_eq_true rfl) rfl q_303 rfl dX8_seekSeat_141 ?_
    obtain ⟨t32, h33, hf⟩ := hbd_s hf
    refine h_getRN (host := "DeafSpot") h33 rfl (Nat.le_of_ble_eq_true rfl) rfl (List.mem_of_getElem? (i := 50) rfl) rfl dX8_seekSeat_144 ?_
    refine h_iload dX8_seekSeat_147 2 rfl ?_
    obtain ⟨g40, hf⟩ := hck_s hf
    obtain ⟨t36, S35, h34, hf⟩ := hb2_s hf
    refine h_Vi [.int u19] (rest := [.int t29, .int u18, .ref t21]) (m_X6_rowOf (d := 1) (cs := cs) (Nat.le_refl _) h34) v_X6_rowOf q_700 rfl (Nat.le_trans (by decide) hd) g40 rfl rfl (Nat.le_of_ble_eq_true rfl) dX8_seekSeat_149 (Nat.le_refl _) (Nat.le_refl _) ?_
    refine h_iconst (v := 0) dX8_seekSeat_152 rfl ?_
    obtain ⟨g39, hf⟩ := hck_s hf
    obtain ⟨S38, h37, hf⟩ := hbd_s hf
    refine h_Vv [.int u18, .int t29, .int t36, .int 0] (rest := []) (m_X1_keep (d := 1) (cs := cs) (Nat.le_refl _) h37) v_X1_keep q_833 rfl (Nat.le_trans (by decide) hd) g39 rfl rfl (Nat.le_of_ble_eq_true rfl) dX8_seekSeat_153 (Nat.le_refl _) (Nat.le_refl _) ?_
    obtain rfl := Option.some.inj hf
    exact h_vret rfl rfl rfl (Nat.le_refl _) (Nat.le_refl _) dX8_seekSeat_156
abbrev x_X8_seekFan (d : Nat) (S0 : hS) (args : List Value) (r : hS) (cs : Nat → Nat) : hX := ((none, 8, d, 0, 0, false), (S0, args, none, r), cs)
theorem v_X8_seekFan : hVW yX8_seekFan cX8_seekFan 8 none RX8 3 := ⟨q_868, q_s31, q_1, q_869, by decide +kernel, by decide⟩
def f_X8_seekFan_L46 : Nat → Nat → Nat → Int32 → Int32 → Nat → Int32 → Int32 → Int32 → hS → (hS → Option (hS)) → (Int32 → hS → Option (hS)) → Option (hS)
  | 0, _, _, _, _, _, _, _, _, _, _, _ => none
  | n + 1, x0, x1, x2, x3, x4, x5, x6, x7, S, k0, k1 =>
    if 5 ≤ x7 then
      (k0 S)
    else
      (hbd (gR S x0 8 5) fun t2 =>
       hbd (gR S x0 8 3) fun t4 =>
       hck (S.K t2 = 1) <|
       hbd (f_X0_rewind t2 t4 S) fun S7 =>
       hbd (gR S7 x0 8 5) fun t8 =>
       hbd (gR S7 t8 0 0) fun t10 =>
       hbd (gI S7 x4 6 8) fun t12 =>
       hbd (sI S7 t10 6 8 t12) fun S14 =>
       hbd (gR S14 x0 8 5) fun t16 =>
       hbd (gR S14 t16 0 0) fun t18 =>
       hck (S14.K t18 = 7) <|
       hbd (f_X6_addFan t18 x6 x7 x5 S14) fun S21 =>
       hbd (gR S21 x0 8 5) fun t22 =>
       hck (S21.K t22 = 1) <|
       hb2 (f_X0_endsOn t22 x1 x2 x3 S21) fun t26 S25 =>
       if t26 = 0 then
         (f_X8_seekFan_L46 n x0 x1 x2 x3 x4 x5 x6 (x7 + 1) S25 k0 k1)
       else
         (k1 x7 S25))
def f_X8_seekFan_L33 : Nat → Nat → Nat → Int32 → Int32 → Nat → Int32 → Int32 → hS → (hS → Option (hS)) → (Int32 → Int32 → hS → Option (hS)) → Option (hS)
  | 0, _, _, _, _, _, _, _, _, _, _ => none
  | n + 1, x0, x1, x2, x3, x4, x5, x6, S, k0, k1 =>
    hbd (gI S x4 6 2) fun t1 =>
    if t1 ≤ x6 then
      (k0 S)
    else
      (f_X8_seekFan_L46 hfuel x0 x1 x2 x3 x4 x5 x6 1 S
         (fun S4 =>
           f_X8_seekFan_L33 n x0 x1 x2 x3 x4 x5 (x6 + 1) S4 k0 k1
         )
         (fun u5 S6 =>
           k1 x6 u5 S6
         ))
def f_X8_seekFan_L23 : Nat → Nat → Nat → Int32 → Int32 → Nat → Int32 → hS → (hS → Option (hS)) → (Int32 → Int32 → Int32 → hS → Option (hS)) → Option (hS)
  | 0, _, _, _, _, _, _, _, _, _ => none
  | n + 1, x0, x1, x2, x3, x4, x5, S, k0, k1 =>
    if 9 < x5 then
      (k0 S)
    else
      (f_X8_seekFan_L33 hfuel x0 x1 x2 x3 x4 x5 0 S
         (fun S2 =>
           f_X8_seekFan_L23 n x0 x1 x2 x3 x4 (x5 + 1) S2 k0 k1
         )
         (fun u3 u4 S5 =>
           k1 x5 u3 u4 S5
         ))
def f_X8_seekFan (a0 : Nat) (a1 : Nat) (a2 : Int32) (a3 : Int32) (S : hS) : Option (hS) :=
  hbd (gR S a0 8 3) fun t6 =>
  hbd (gR S t6 0 0) fun t8 =>
  hbd (gR S a0 8 5) fun t10 =>
  hbd (gR S a0 8 3) fun t12 =>
  hck (S.K t10 = 1) <|
  hbd (f_X0_copy t10 t12 S) fun S15 =>
  f_X8_seekFan_L23 hfuel a0 a1 a2 a3 t8 1 S15
    (fun S16 =>
      some S16
    )
    (fun u17 u18 u19 S20 =>
      hbd (gR S20 a0 8 9) fun t21 =>
      hck (S20.K t8 = 7) <|
      hb2 (f_X6_columnOf t8 u18 S20) fun t25 S24 =>
      hck (S24.K t8 = 7) <|
      hb2 (f_X6_rowOf t8 u18 S24) fun t28 S27 =>
      hck (S27.K t21 = 2) <|
      hbd (f_X1_keep t21 u17 t25 t28 u19 S27) fun S30 =>
      some S30
    )
set_option maxRecDepth 100000 in
set_option maxHeartbeats 4000000 in
theorem w_X8_seekFan_L46 {d : Nat} {S0 : hS} {args : List Value} {cs : Nat → Nat} {r : hS} (hd : 7 ≤ d) : ∀ (n : Nat) (x0 : Nat) (x1 : Nat) (x2 : Int32) (x3 : Int32) (x4 : Nat) (x5 : Int32) (x6 : Int32) (x7 : Int32) (S : hS) (k0 : (hS → Option (hS))) (k1 : (Int32 → hS → Option (hS))) , f_X8_seekFan_L46 n x0 x1 x2 x3 x4 x5 x6 x7 S k0 k1 = some r → (∀ (T : hS), k0 T = some r → HW cX8_seekFan RX8 (x_X8_seekFan d S0 args r cs) 0 0 T 139 [(0, .ref x0), (1, .ref x1), (2, .int x2), (3, .int x3), (4, .ref x4), (5, .int x5), (6, .int x6)] []) → (∀ (y7 : Int32) (T : hS), k1 y7 T = some r → HW cX8_seekFan RX8 (x_X8_seekFan d S0 args r cs) 0 0 T 107 [(0, .ref x0), (4, .ref x4), (5, .int x5), (6, .int x6), (7, .int y7)] []) → HW cX8_seekFan RX8 (x_X8_seekFan d S0 args r cs) 0 0 S 46 [(0, .ref x0), (1, .ref x1), (2, .int x2), (3, .int x3), (4, .ref x4), (5, .int x5), (6, .int x6), (7, .int x7)] [] := by
  intro n
  induction n with
  | zero =>
    intro x0 x1 x2 x3 x4 x5 x6 x7 S k0 k1 hf
    cases hf
  | succ n ih =>
    intro x0 x1 x2 x3 x4 x5 x6 x7 S k0 k1 hf hk0 hk1
    rw [f_X8_seekFan_L46] at hf
    refine h_iload dX8_seekFan_46 7 rfl ?_
    refine h_iconst (v := 5) dX8_seekFan_48 rfl ?_
    refine h_icmp_ge (tgt := 139) dX8_seekFan_49 (by decide) (fun c1 => ?_) (fun c1 => ?_)
    · replace hf := hif_p c1 hf
      refine h_sub (lv2 := [(0, .ref x0), (1, .ref x1), (2, .int x2), (3, .int x3), (4, .ref x4), (5, .int x5), (6, .int x6)]) [0, 1, 2, 3, 4, 5, 6] rfl ?_
      exact hk0 S hf
    · replace hf := hif_n c1 hf
      refine h_aload_n dX8_seekFan_52 rfl 0 rfl ?_
      obtain ⟨t2, h3, hf⟩ := hbd_s hf
      refine h_getR h3 rfl (Nat.le_of_ble_eq_true rfl) rfl q_305 rfl dX8_seekFan_53 ?_
      refine h_aload_n dX8_seekFan_56 rfl 0 rfl ?_
      obtain ⟨t4, h5, hf⟩ := hbd_s hf
      refine h_getR h5 rfl (Nat.le_of_ble_eq_true rfl) rfl q_303 rfl dX8_seekFan_57 ?_
      obtain ⟨g30, hf⟩ := hck_s hf
      obtain ⟨S7, h6, hf⟩ := hbd_s hf
      refine h_Vv [.ref t4] (rest := []) (m_X0_rewind (d := 2) (cs := cs) (Nat.le_refl _) h6) v_X0_rewind q_819 rfl (Nat.le_trans (by decide) hd) g30 rfl rfl (Nat.le_of_ble_eq_true rfl) dX8_seekFan_60 (Nat.le_refl _) (Nat.le_refl _) ?_
      refine h_aload_n dX8_seekFan_63 rfl 0 rfl ?_
      obtain ⟨t8, h9, hf⟩ := hbd_s hf
      refine h_getR h9 rfl (Nat.le_of_ble_eq_true rfl) rfl q_305 rfl dX8_seekFan_64 ?_
      obtain ⟨t10, h11, hf⟩ := hbd_s hf
      refine h_getRN (host := "DeafSpot") h11 rfl (Nat.le_of_ble_eq_true rfl) rfl (List.mem_of_getElem? (i := 50) rfl) rfl dX8_seekFan_67 ?_
      refine h_aload dX8_seekFan_70 4 rfl ?_
      obtain ⟨t12, h13, hf⟩ := hbd_s hf
      refine h_getIN (host := "DeafSpot") h13 rfl (Nat.le_of_ble_eq_true rfl) rfl (List.mem_of_getElem? (i := 23) rfl) rfl dX8_seekFan_72 ?_
      obtain ⟨S14, h15, hf⟩ := hbd_s hf
      refine h_putIN (host := "DeafSpot") h15 rfl (Nat.le_of_ble_eq_true rfl) rfl (List.mem_of_getElem? (i := 23) rfl) rfl rfl (by decide +kernel) dX8_seekFan_75 ?_
      refine h_aload_n dX8_seekFan_78 rfl 0 rfl ?_
      obtain ⟨t16, h17, hf⟩ := hbd_s hf
      refine h_getR h17 rfl (Nat.le_of_ble_eq_true rfl) rfl q_305 rfl dX8_seekFan_79 ?_
      obtain ⟨t18, h19, hf⟩ := hbd_s hf
      refine h_getRN (host := "DeafSpot") h19 rfl (Nat.le_of_ble_eq_true rfl) rfl (List.mem_of_getElem? (i := 50) rfl) rfl dX8_seekFan_82 ?_
      refine h_iload dX8_seekFan_85 6 rfl ?_
      refine h_iload dX8_seekFan_87 7 rfl ?_
      refine h_iload dX8_seekFan_89 5 rfl ?_
      obtain ⟨g29, hf⟩ := hck_s hf
      obtain ⟨S21, h20, hf⟩ := hbd_s hf
      refine h_Vv [.int x6, .int x7, .int x5] (rest := []) (m_X6_addFan (d := 1) (cs := cs) (Nat.le_refl _) h20) v_X6_addFan q_870 rfl (Nat.le_trans (by decide) hd) g29 rfl rfl (Nat.le_of_ble_eq_true rfl) dX8_seekFan_91 (Nat.le_refl _) (Nat.le_refl _) ?_
      refine h_aload_n dX8_seekFan_94 rfl 0 rfl ?_
      obtain ⟨t22, h23, hf⟩ := hbd_s hf
      refine h_getR h23 rfl (Nat.le_of_ble_eq_true rfl) rfl q_305 rfl dX8_seekFan_95 ?_
      refine h_aload_n dX8_seekFan_98 rfl 1 rfl ?_
      refine h_iload_n dX8_seekFan_99 rfl 2 rfl ?_
      refine h_iload_n dX8_seekFan_100 rfl 3 rfl ?_
      obtain ⟨g28, hf⟩ := hck_s hf
      obtain ⟨t26, S25, h24, hf⟩ := hb2_s hf
      refine h_Vi [.ref x1, .int x2, .int x3] (rest := []) (m_X0_endsOn (d := 6) (cs := cs) (Nat.le_refl _) h24) v_X0_endsOn q_820 rfl (Nat.le_trans (by decide) hd) g28 rfl rfl (Nat.le_of_ble_eq_true rfl) dX8_seekFan_101 (Nat.le_refl _) (Nat.le_refl _) ?_
      refine h_if_eq (tgt := 133) dX8_seekFan_104 (by decide) (fun c27 => ?_) (fun c27 => ?_)
      · replace hf := hif_p c27 hf
        refine h_iinc (q := 7) (v := x7 + 1) (lv2 := [(7, .int (x7 + 1)), (0, .ref x0), (1, .ref x1), (2, .int x2), (3, .int x3), (4, .ref x4), (5, .int x5), (6, .int x6)]) dX8_seekFan_133 rfl rfl (Nat.le_of_ble_eq_true rfl) rfl ?_
        refine h_goto (tgt := 46) dX8_seekFan_136 (by decide) ?_
        refine h_sub (lv2 := [(0, .ref x0), (1, .ref x1), (2, .int x2), (3, .int x3), (4, .ref x4), (5, .int x5), (6, .int x6), (7, .int (x7 + 1))]) [1, 2, 3, 4, 5, 6, 7, 0] rfl ?_
        exact ih x0 x1 x2 x3 x4 x5 x6 (x7 + 1) S25 k0 k1  hf hk0 hk1
      · replace hf := hif_n c27 hf
        refine h_sub (lv2 := [(0, .ref x0), (4, .ref x4), (5, .int x5), (6, .int x6), (7, .int x7)]) [0, 4, 5, 6, 7] rfl ?_
        exact hk1 x7 S25 hf
set_option maxRecDepth 100000 in
set_option maxHeartbeats 4000000 in
theorem w_X8_seekFan_L33 {d : Nat} {S0 : hS} {args : List Value} {cs : Nat → Nat} {r : hS} (hd : 7 ≤ d) : ∀ (n : Nat) (x0 : Nat) (x1 : Nat) (x2 : Int32) (x3 : Int32) (x4 : Nat) (x5 : Int32) (x6 : Int32) (S : hS) (k0 : (hS → Option (hS))) (k1 : (Int32 → Int32 → hS → Option (hS))) , f_X8_seekFan_L33 n x0 x1 x2 x3 x4 x5 x6 S k0 k1 = some r → (∀ (T : hS), k0 T = some r → HW cX8_seekFan RX8 (x_X8_seekFan d S0 args r cs) 0 0 T 145 [(0, .ref x0), (1, .ref x1), (2, .int x2), (3, .int x3), (4, .ref x4), (5, .int x5)] []) → (∀ (y6 : Int32) (y7 : Int32) (T : hS), k1 y6 y7 T = some r → HW cX8_seekFan RX8 (x_X8_seekFan d S0 args r cs) 0 0 T 107 [(0, .ref x0), (4, .ref x4), (5, .int x5), (6, .int y6), (7, .int y7)] []) → HW cX8_seekFan RX8 (x_X8_seekFan d S0 args r cs) 0 0 S 33 [(0, .ref x0), (1, .ref x1), (2, .int x2), (3, .int x3), (4, .ref x4), (5, .int x5), (6, .int x6)] [] := by
  intro n
  induction n with
  | zero =>
    intro x0 x1 x2 x3 x4 x5 x6 S k0 k1 hf
    cases hf
  | succ n ih =>
    intro x0 x1 x2 x3 x4 x5 x6 S k0 k1 hf hk0 hk1
    rw [f_X8_seekFan_L33] at hf
    refine h_iload dX8_seekFan_33 6 rfl ?_
    refine h_aload dX8_seekFan_35 4 rfl ?_
    obtain ⟨t1, h2, hf⟩ := hbd_s hf
    refine h_getIN (host := "DeafSpot") h2 rfl (Nat.le_of_ble_eq_true rfl) rfl (List.mem_of_getElem? (i := 12) rfl) rfl dX8_seekFan_37 ?_
    refine h_icmp_ge (tgt := 145) dX8_seekFan_40 (by decide) (fun c3 => ?_) (fun c3 => ?_)
    · replace hf := hif_p c3 hf
      refine h_sub (lv2 := [(0, .ref x0), (1, .ref x1), (2, .int x2), (3, .int x3), (4, .ref x4), (5, .int x5)]) [0, 1, 2, 3, 4, 5] rfl ?_
      exact hk0 S hf
    · replace hf := hif_n c3 hf
      refine h_iconst (v := 1) dX8_seekFan_43 rfl ?_
      refine h_istore (lv2 := [(7, .int 1), (0, .ref x0), (1, .ref x1), (2, .int x2), (3, .int x3), (4, .ref x4), (5, .int x5), (6, .int x6)]) dX8_seekFan_44 (Nat.le_of_ble_eq_true rfl) rfl ?_
      refine h_sub (lv2 := [(0, .ref x0), (1, .ref x1), (2, .int x2), (3, .int x3), (4, .ref x4), (5, .int x5), (6, .int x6), (7, .int 1)]) [1, 2, 3, 4, 5, 6, 7, 0] rfl ?_
      refine w_X8_seekFan_L46 hd hfuel x0 x1 x2 x3 x4 x5 x6 1 S _ _  hf ?_ ?_
      · intro S4 hf
        refine h_iinc (q := 6) (v := x6 + 1) (lv2 := [(6, .int (x6 + 1)), (0, .ref x0), (1, .ref x1), (2, .int x2), (3, .int x3), (4, .ref x4), (5, .int x5)]) dX8_seekFan_139 rfl rfl (Nat.le_of_ble_eq_true rfl) rfl ?_
        refine h_goto (tgt := 33) dX8_seekFan_142 (by decide) ?_
        refine h_sub (lv2 := [(0, .ref x0), (1, .ref x1), (2, .int x2), (3, .int x3), (4, .ref x4), (5, .int x5), (6, .int (x6 + 1))]) [1, 2, 3, 4, 5, 6, 0] rfl ?_
        exact ih x0 x1 x2 x3 x4 x5 (x6 + 1) S4 k0 k1  hf hk0 hk1
      · intro u5 S6 hf
        exact hk1 x6 u5 S6 hf
set_option maxRecDepth 100000 in
set_option maxHeartbeats 4000000 in
theorem w_X8_seekFan_L23 {d : Nat} {S0 : hS} {args : List Value} {cs : Nat → Nat} {r : hS} (hd : 7 ≤ d) : ∀ (n : Nat) (x0 : Nat) (x1 : Nat) (x2 : Int32) (x3 : Int32) (x4 : Nat) (x5 : Int32) (S : hS) (k0 : (hS → Option (hS))) (k1 : (Int32 → Int32 → Int32 → hS → Option (hS))) , f_X8_seekFan_L23 n x0 x1 x2 x3 x4 x5 S k0 k1 = some r → (∀ (T : hS), k0 T = some r → HW cX8_seekFan RX8 (x_X8_seekFan d S0 args r cs) 0 0 T 151 [] []) → (∀ (y5 : Int32) (y6 : Int32) (y7 : Int32) (T : hS), k1 y5 y6 y7 T = some r → HW cX8_seekFan RX8 (x_X8_seekFan d S0 args r cs) 0 0 T 107 [(0, .ref x0), (4, .ref x4), (5, .int y5), (6, .int y6), (7, .int y7)] []) → HW cX8_seekFan RX8 (x_X8_seekFan d S0 args r cs) 0 0 S 23 [(0, .ref x0), (1, .ref x1), (2, .int x2), (3, .int x3), (4, .ref x4), (5, .int x5)] [] := by
  intro n
  induction n with
  | zero =>
    intro x0 x1 x2 x3 x4 x5 S k0 k1 hf
    cases hf
  | succ n ih =>
    intro x0 x1 x2 x3 x4 x5 S k0 k1 hf hk0 hk1
    rw [f_X8_seekFan_L23] at hf
    refine h_iload dX8_seekFan_23 5 rfl ?_
    refine h_bipush (v := 9) dX8_seekFan_25 rfl ?_
    refine h_icmp_gt (tgt := 151) dX8_seekFan_27 (by decide) (fun c1 => ?_) (fun c1 => ?_)
    · replace hf := hif_p c1 hf
      refine h_sub (lv2 := []) [] rfl ?_
      exact hk0 S hf
    · replace hf := hif_n c1 hf
      refine h_iconst (v := 0) dX8_seekFan_30 rfl ?_
      refine h_istore (lv2 := [(6, .int 0), (0, .ref x0), (1, .ref x1), (2, .int x2), (3, .int x3), (4, .ref x4), (5, .int x5)]) dX8_seekFan_31 (Nat.le_of_ble_eq_true rfl) rfl ?_
      refine h_sub (lv2 := [(0, .ref x0), (1, .ref x1), (2, .int x2), (3, .int x3), (4, .ref x4), (5, .int x5), (6, .int 0)]) [1, 2, 3, 4, 5, 6, 0] rfl ?_
      refine w_X8_seekFan_L33 hd hfuel x0 x1 x2 x3 x4 x5 0 S _ _  hf ?_ ?_
      · intro S2 hf
        refine h_iinc (q := 5) (v := x5 + 1) (lv2 := [(5, .int (x5 + 1)), (0, .ref x0), (1, .ref x1), (2, .int x2), (3, .int x3), (4, .ref x4)]) dX8_seekFan_145 rfl rfl (Nat.le_of_ble_eq_true rfl) rfl ?_
        refine h_goto (tgt := 23) dX8_seekFan_148 (by decide) ?_
        refine h_sub (lv2 := [(0, .ref x0), (1, .ref x1), (2, .int x2), (3, .int x3), (4, .ref x4), (5, .int (x5 + 1))]) [1, 2, 3, 4, 5, 0] rfl ?_
        exact ih x0 x1 x2 x3 x4 (x5 + 1) S2 k0 k1  hf hk0 hk1
      · intro u3 u4 S5 hf
        exact hk1 x5 u3 u4 S5 hf
set_option maxRecDepth 100000 in
set_option maxHeartbeats 4000000 in
theorem m_X8_seekFan {d : Nat} {cs : Nat → Nat} {a0 : Nat} {a1 : Nat} {a2 : Int32} {a3 : Int32} {S : hS} {r : hS} (hd : 7 ≤ d) (hf : f_X8_seekFan a0 a1 a2 a3 S = some r) : HM yX8_seekFan cX8_seekFan 8 none d 0 0 cs [.ref a0, .ref a1, .int a2, .int a3] S (none) r := by
  unfold f_X8_seekFan at hf
  refine HM.ofHW false (by decide) (fun h => by cases h) (Nat.le_of_ble_eq_true rfl) ?_
  show HW cX8_seekFan RX8 (x_X8_seekFan d S [.ref a0, .ref a1, .int a2, .int a3] r cs) 0 0 S 0 [(0, .ref a0), (1, .ref a1), (2, .int a2), (3, .int a3)] []
  refine h_aload_n dX8_seekFan_0 rfl 0 rfl ?_
  obtain ⟨t6, h7, hf⟩ := hbd_s hf
  refine h_getR h7 rfl (Nat.le_of_ble_eq_true rfl) rfl q_303 rfl dX8_seekFan_1 ?_
  obtain ⟨t8, h9, hf⟩ := hbd_s hf
  refine h_getRN (host := "DeafSpot") h9 rfl (Nat.le_of_ble_eq_true rfl) rfl (List.mem_of_getElem? (i := 50) rfl) rfl dX8_seekFan_4 ?_
  refine h_astore (lv2 := [(4, .ref t8), (0, .ref a0), (1, .ref a1), (2, .int a2), (3, .int a3)]) dX8_seekFan_7 (Nat.le_of_ble_eq_true rfl) rfl ?_
  refine h_aload_n dX8_seekFan_9 rfl 1 rfl ?_
  obtain ⟨t10, h11, hf⟩ := hbd_s hf
  refine h_getR h11 rfl (Nat.le_of_ble_eq_true rfl) rfl q_305 rfl dX8_seekFan_10 ?_
  refine h_aload_n dX8_seekFan_13 rfl 1 rfl ?_
  obtain ⟨t12, h13, hf⟩ := hbd_s hf
  refine h_getR h13 rfl (Nat.le_of_ble_eq_true rfl) rfl q_303 rfl dX8_seekFan_14 ?_
  obtain ⟨g34, hf⟩ := hck_s hf
  obtain ⟨S15, h14, hf⟩ := hbd_s hf
  refine h_Vv [.ref t12] (rest := []) (m_X0_copy (d := 3) (cs := cs) (Nat.le_refl _) h14) v_X0_copy q_567 rfl (Nat.le_trans (by decide) hd) g34 rfl rfl (Nat.le_of_ble_eq_true rfl) dX8_seekFan_17 (Nat.le_refl _) (Nat.le_refl _) ?_
  refine h_iconst (v := 1) dX8_seekFan_20 rfl ?_
  refine h_istore (lv2 := [(5, .int 1), (4, .ref t8), (0, .ref a0), (1, .ref a1), (2, .int a2), (3, .int a3)]) dX8_seekFan_21 (Nat.le_of_ble_eq_true rfl) rfl ?_
  refine h_sub (lv2 := [(0, .ref a0), (1, .ref a1), (2, .int a2), (3, .int a3), (4, .ref t8), (5, .int 1)]) [2, 3, 4, 5, 1, 0] rfl ?_
  refine w_X8_seekFan_L23 hd hfuel a0 a1 a2 a3 t8 1 S15 _ _  hf ?_ ?_
  · intro S16 hf
    obtain rfl := Option.some.inj hf
    exact h_vret rfl rfl rfl (Nat.le_refl _) (Nat.le_refl _) dX8_seekFan_151
  · intro u17 u18 u19 S20 hf
    refine h_aload_n dX8_seekFan_107 rfl 0 rfl ?_
    obtain ⟨t21, h22, hf⟩ := hbd_s hf
    refine h_getR h22 rfl (Nat.le_of_ble_eq_true rfl) rfl q_309 rfl dX8_seekFan_108 ?_
    refine h_iload dX8_seekFan_111 2 rfl ?_
    refine h_aload dX8_seekFan_113 1 rfl ?_
    refine h_iload dX8_seekFan_115 3 rfl ?_
    obtain ⟨g33, hf⟩ := hck_s hf
    obtain ⟨t25, S24, h23, hf⟩ := hb2_s hf
    refine h_Vi [.int u18] (rest := [.int u17, .ref t21]) (m_X6_columnOf (d := 1) (cs := cs) (Nat.le_refl _) h23) v_X6_columnOf q_696 rfl (Nat.le_trans (by decide) hd) g33 rfl rfl (Nat.le_of_ble_eq_true rfl) dX8_seekFan_117 (Nat.le_refl _) (Nat.le_refl _) ?_
    refine h_aload dX8_seekFan_120 1 rfl ?_
    refine h_iload dX8_seekFan_122 3 rfl ?_
    obtain ⟨g32, hf⟩ := hck_s hf
    obtain ⟨t28, S27, h26, hf⟩ := hb2_s hf
    refine h_Vi [.int u18] (rest := [.int t25, .int u17, .ref t21]) (m_X6_rowOf (d := 1) (cs := cs) (Nat.le_refl _) h26) v_X6_rowOf q_700 rfl (Nat.le_trans (by decide) hd) g32 rfl rfl (Nat.le_of_ble_eq_true rfl) dX8_seekFan_124 (Nat.le_refl _) (Nat.le_refl _) ?_
    refine h_iload dX8_seekFan_127 4 rfl ?_
    obtain ⟨g31, hf⟩ := hck_s hf
    obtain ⟨S30, h29, hf⟩ := hbd_s hf
    refine h_Vv [.int u17, .int t25, .int t28, .int u19] (rest := []) (m_X1_keep (d := 1) (cs := cs) (Nat.le_refl _) h29) v_X1_keep q_833 rfl (Nat.le_trans (by decide) hd) g31 rfl rfl (Nat.le_of_ble_eq_true rfl) dX8_seekFan_129 (Nat.le_refl _) (Nat.le_refl _) ?_
    obtain rfl := Option.some.inj hf
    exact h_vret rfl rfl rfl (Nat.le_refl _) (Nat.le_refl _) dX8_seekFan_132
