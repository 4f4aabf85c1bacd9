abbrev x_X5_countAt (d : Nat) (S0 : hS) (args : List Value) (r : hS) (cs : Nat → Nat) : hX := ((none, 2, d, 0, 0, false), (S0, args, none, r), cs)
theorem v_X5_countAt : hVW yX5_countAt cX5_countAt 2 none RX5 1 := ⟨q_617, q_s15, q_7, q_618, by decide +kernel, by decide⟩
def f_X5_countAt (a0 : Nat) (a1 : Int32) (S : hS) : Option (hS) :=
  hbd (gI S a0 5 3) fun t1 =>
  hj (γ := hS → Option (hS)) (fun (S4 : hS) =>
    hbd (gI S4 a0 5 3) fun t5 =>
    hbd (sI S4 a0 5 3 (t5 + 1)) fun S7 =>
    some S7
    ) fun J3 =>
  if t1 < 60 then
    (J3 S)
  else
    (hbd (gR S a0 5 0) fun t10 =>
     hck (S.K t10 = 8) <|
     hbd (f_X7_fail t10 3 a1 S) fun S13 =>
     J3 S13)
set_option maxRecDepth 100000 in
set_option maxHeartbeats 4000000 in
theorem m_X5_countAt {d : Nat} {cs : Nat → Nat} {a0 : Nat} {a1 : Int32} {S : hS} {r : hS} (hd : 2 ≤ d) (hf : f_X5_countAt a0 a1 S = some r) : HM yX5_countAt cX5_countAt 2 none d 0 0 cs [.ref a0, .int a1] S (none) r := by
  unfold f_X5_countAt at hf
  refine HM.ofHW false (by decide) (fun h => by cases h) (Nat.le_of_ble_eq_true rfl) ?_
  show HW cX5_countAt RX5 (x_X5_countAt d S [.ref a0, .int a1] r cs) 0 0 S 0 [(0, .ref a0), (1, .int a1)] []
  refine h_aload_n dX5_countAt_0 rfl 0 rfl ?_
  obtain ⟨t1, h2, hf⟩ := hbd_s hf
  refine h_getI h2 rfl (Nat.le_of_ble_eq_true rfl) rfl q_256 rfl dX5_countAt_1 ?_
  refine h_bipush (v := 60) dX5_countAt_4 rfl ?_
  refine hj_s (fun J3 => ∀ (S4 : hS), J3 S4 = some r → HW cX5_countAt RX5 (x_X5_countAt d S [.ref a0, .int a1] r cs) 0 0 S4 18 [(0, .ref a0)] []) hf ?_ ?_
  · intro S4 hf
    refine h_aload_n dX5_countAt_18 rfl 0 rfl ?_
    refine h_dup dX5_countAt_19 rfl ?_
    obtain ⟨t5, h6, hf⟩ := hbd_s hf
    refine h_getI h6 rfl (Nat.le_of_ble_eq_true rfl) rfl q_256 rfl dX5_countAt_20 ?_
    refine h_iconst (v := 1) dX5_countAt_23 rfl ?_
    refine h_iadd dX5_countAt_24 ?_
    obtain ⟨S7, h8, hf⟩ := hbd_s hf
    refine h_putI h8 rfl (Nat.le_of_ble_eq_true rfl) rfl q_256 rfl rfl (by decide +kernel) dX5_countAt_25 ?_
    obtain rfl := Option.some.inj hf
    exact h_vret rfl rfl rfl (Nat.le_refl _) (Nat.le_refl _) dX5_countAt_28
  · intro J3 hJ3 hf
    refine h_icmp_lt (tgt := 18) dX5_countAt_6 (by decide) (fun c9 => ?_) (fun c9 => ?_)
    · rw [if_pos c9] at hf
      refine h_sub (lv2 := [(0, .ref a0)]) [0] rfl ?_
      exact hJ3 S hf
    · rw [if_neg c9] at hf
      refine h_aload_n dX5_countAt_9 rfl 0 rfl ?_
      obtain ⟨t10, h11, hf⟩ := hbd_s hf
      refine h_getR h11 rfl (Nat.le_of_ble_eq_true rfl) rfl q_253 rfl dX5_countAt_10 ?_
      refine h_iconst (v := 3) dX5_countAt_13 rfl ?_
      refine h_iload_n dX5_countAt_14 rfl 1 rfl ?_
      obtain ⟨g14, hf⟩ := hck_s hf
      obtain ⟨S13, h12, hf⟩ := hbd_s hf
      refine h_Vv [.int 3, .int a1] (rest := []) (m_X7_fail (d := 1) (cs := cs) (Nat.le_refl _) h12) v_X7_fail q_600 rfl (Nat.le_trans (by decide) hd) g14 rfl rfl (Nat.le_of_ble_eq_true rfl) dX5_countAt_15 (Nat.le_refl _) (Nat.le_refl _) ?_
      refine h_sub (lv2 := [(0, .ref a0)]) [0] rfl ?_
      exact hJ3 S13 hf
abbrev x_X6_layOut (d : Nat) (S0 : hS) (args : List Value) (r : hS) (cs : Nat → Nat) : hX := ((none, 5, d, 0, 0, false), (S0, args, none, r), cs)
theorem v_X6_layOut : hVW yX6_layOut cX6_layOut 5 none RX6 2 := ⟨q_481, q_482, q_4, q_483, by decide +kernel, by decide⟩
def f_X6_layOut_L23 : Nat → Nat → Int32 → Int32 → hS → (hS → Option (hS)) → Option (hS)
  | 0, _, _, _, _, _ => none
  | n + 1, x0, x3, x4, S, k0 =>
    hbd (gI S x0 6 0) fun t1 =>
    if t1 ≤ x4 then
      (k0 S)
    else
      (hbd (gI S x0 6 2) fun t4 =>
       if 80 ≤ t4 then
         (k0 S)
       else
         (hbd (gR S x0 6 4) fun t7 =>
          hbd (gI S x0 6 2) fun t9 =>
          hbd (sA S t7 t9 x4) fun S11 =>
          hbd (gR S11 x0 6 5) fun t13 =>
          hbd (gI S11 x0 6 2) fun t15 =>
          hbd (sA S11 t13 t15 x3) fun S17 =>
          hbd (gR S17 x0 6 6) fun t19 =>
          hbd (gI S17 x0 6 2) fun t21 =>
          hbd (gI S17 x0 6 0) fun t23 =>
          hbd (gI S17 x0 6 1) fun t25 =>
          hbd (sA S17 t19 t21 (if (if ((t25 - 1) - x3) < x3 then ((t25 - 1) - x3) else x3) < (if ((t23 - 1) - x4) < x4 then ((t23 - 1) - x4) else x4) then (if ((t25 - 1) - x3) < x3 then ((t25 - 1) - x3) else x3) else (if ((t23 - 1) - x4) < x4 then ((t23 - 1) - x4) else x4))) fun S27 =>
          hbd (gR S27 x0 6 7) fun t29 =>
          hbd (gI S27 x0 6 2) fun t31 =>
          hbd (gI S27 x0 6 2) fun t33 =>
          hbd (sA S27 t29 (t31 * 5) t33) fun S35 =>
          hbd (gR S35 x0 6 7) fun t37 =>
          hbd (gI S35 x0 6 2) fun t39 =>
          hck (S35.K x0 = 7) <|
          hb2 (f_X6_seatAt x0 x4 (x3 - 1) S35) fun t43 S42 =>
          hbd (sA S42 t37 ((t39 * 5) + 1) t43) fun S44 =>
          hbd (gR S44 x0 6 7) fun t46 =>
          hbd (gI S44 x0 6 2) fun t48 =>
          hck (S44.K x0 = 7) <|
          hb2 (f_X6_seatAt x0 (x4 + 1) x3 S44) fun t52 S51 =>
          hbd (sA S51 t46 ((t48 * 5) + 2) t52) fun S53 =>
          hbd (gR S53 x0 6 7) fun t55 =>
          hbd (gI S53 x0 6 2) fun t57 =>
          hck (S53.K x0 = 7) <|
          hb2 (f_X6_seatAt x0 x4 (x3 + 1) S53) fun t61 S60 =>
          hbd (sA S60 t55 ((t57 * 5) + 3) t61) fun S62 =>
          hbd (gR S62 x0 6 7) fun t64 =>
          hbd (gI S62 x0 6 2) fun t66 =>
          hck (S62.K x0 = 7) <|
          hb2 (f_X6_seatAt x0 (x4 - 1) x3 S62) fun t70 S69 =>
          hbd (sA S69 t64 ((t66 * 5) + 4) t70) fun S71 =>
          hbd (gI S71 x0 6 2) fun t73 =>
          hbd (sI S71 x0 6 2 (t73 + 1)) fun S75 =>
          f_X6_layOut_L23 n x0 x3 (x4 + 1) S75 k0))
def f_X6_layOut_L12 : Nat → Nat → Int32 → hS → (hS → Option (hS)) → Option (hS)
  | 0, _, _, _, _ => none
  | n + 1, x0, x3, S, k0 =>
    hbd (gI S x0 6 1) fun t1 =>
    if t1 ≤ x3 then
      (k0 S)
    else
      (f_X6_layOut_L23 hfuel x0 x3 0 S
         (fun S4 =>
           f_X6_layOut_L12 n x0 (x3 + 1) S4 k0
         ))
def f_X6_layOut (a0 : Nat) (a1 : Int32) (a2 : Int32) (S : hS) : Option (hS) :=
  hbd (sI S a0 6 0 a1) fun S5 =>
  hbd (sI S5 a0 6 1 a2) fun S7 =>
  f_X6_layOut_L12 hfuel a0 0 S7
    (fun S9 =>
      some S9
    )
set_option maxRecDepth 100000 in
set_option maxHeartbeats 4000000 in
theorem w_X6_layOut_L23 {d : Nat} {S0 : hS} {args : List Value} {cs : Nat → Nat} {r : hS} (hd : 2 ≤ d) : ∀ (n : Nat) (x0 : Nat) (x3 : Int32) (x4 : Int32) (S : hS) (k0 : (hS → Option (hS))) , f_X6_layOut_L23 n x0 x3 x4 S k0 = some r → (∀ (T : hS), k0 T = some r → HW cX6_layOut RX6 (x_X6_layOut d S0 args r cs) 0 0 T 219 [(0, .ref x0), (3, .int x3)] []) → HW cX6_layOut RX6 (x_X6_layOut d S0 args r cs) 0 0 S 23 [(0, .ref x0), (3, .int x3), (4, .int x4)] [] := by
  intro n
  induction n with
  | zero =>
    intro x0 x3 x4 S k0 hf
    cases hf
  | succ n ih =>
    intro x0 x3 x4 S k0 hf hk0
    rw [f_X6_layOut_L23] at hf
    refine h_iload dX6_layOut_23 2 rfl ?_
    refine h_aload_n dX6_layOut_25 rfl 0 rfl ?_
    obtain ⟨t1, h2, hf⟩ := hbd_s hf
    refine h_getI h2 rfl (Nat.le_of_ble_eq_true rfl) rfl q_64 rfl dX6_layOut_26 ?_
    refine h_icmp_ge (tgt := 219) dX6_layOut_29 (by decide) (fun c3 => ?_) (fun c3 => ?_)
    · rw [if_pos c3] at hf
      refine h_sub (lv2 := [(0, .ref x0), (3, .int x3)]) [0, 1] rfl ?_
      exact hk0 S hf
    · rw [if_neg c3] at hf
      refine h_aload_n dX6_layOut_32 rfl 0 rfl ?_
      obtain ⟨t4, h5, hf⟩ := hbd_s hf
      refine h_getI h5 rfl (Nat.le_of_ble_eq_true rfl) rfl q_72 rfl dX6_layOut_33 ?_
      refine h_bipush (v := 80) dX6_layOut_36 rfl ?_
      refine h_icmp_ge (tgt := 219) dX6_layOut_38 (by decide) (fun c6 => ?_) (fun c6 => ?_)
      · rw [if_pos c6] at hf
        refine h_sub (lv2 := [(0, .ref x0), (3, .int x3)]) [0, 1] rfl ?_
        exact hk0 S hf
      · rw [if_neg c6] at hf
        refine h_aload_n dX6_layOut_41 rfl 0 rfl ?_
        obtain ⟨t7, h8, hf⟩ := hbd_s hf
        refine h_getR h8 rfl (Nat.le_of_ble_eq_true rfl) rfl q_79 rfl dX6_layOut_42 ?_
        refine h_aload_n dX6_layOut_45 rfl 0 rfl ?_
        obtain ⟨t9, h10, hf⟩ := hbd_s hf
        refine h_getI h10 rfl (Nat.le_of_ble_eq_true rfl) rfl q_72 rfl dX6_layOut_46 ?_
        refine h_iload dX6_layOut_49 2 rfl ?_
        obtain ⟨S11, h12, hf⟩ := hbd_s hf
        refine h_iast h12 dX6_layOut_51 ?_
        refine h_aload_n dX6_layOut_52 rfl 0 rfl ?_
        obtain ⟨t13, h14, hf⟩ := hbd_s hf
        refine h_getR h14 rfl (Nat.le_of_ble_eq_true rfl) rfl q_82 rfl dX6_layOut_53 ?_
        refine h_aload_n dX6_layOut_56 rfl 0 rfl ?_
        obtain ⟨t15, h16, hf⟩ := hbd_s hf
        refine h_getI h16 rfl (Nat.le_of_ble_eq_true rfl) rfl q_72 rfl dX6_layOut_57 ?_
        refine h_iload_n dX6_layOut_60 rfl 1 rfl ?_
        obtain ⟨S17, h18, hf⟩ := hbd_s hf
        refine h_iast h18 dX6_layOut_61 ?_
        refine h_aload_n dX6_layOut_62 rfl 0 rfl ?_
        obtain ⟨t19, h20, hf⟩ := hbd_s hf
        refine h_getR h20 rfl (Nat.le_of_ble_eq_true rfl) rfl q_85 rfl dX6_layOut_63 ?_
        refine h_aload_n dX6_layOut_66 rfl 0 rfl ?_
        obtain ⟨t21, h22, hf⟩ := hbd_s hf
        refine h_getI h22 rfl (Nat.le_of_ble_eq_true rfl) rfl q_72 rfl dX6_layOut_67 ?_
        refine h_iload dX6_layOut_70 2 rfl ?_
        refine h_aload_n dX6_layOut_72 rfl 0 rfl ?_
        obtain ⟨t23, h24, hf⟩ := hbd_s hf
        refine h_getI h24 rfl (Nat.le_of_ble_eq_true rfl) rfl q_64 rfl dX6_layOut_73 ?_
        refine h_iconst (v := 1) dX6_layOut_76 rfl ?_
        refine h_isub dX6_layOut_77 ?_
        refine h_iload dX6_layOut_78 2 rfl ?_
        refine h_isub dX6_layOut_80 ?_
        refine h_mmin q_484 q_485 q_15 qm_min (Nat.le_trans (by decide) hd) (Nat.le_of_ble_eq_true rfl) (Nat.le_refl _) (Nat.le_refl _) dX6_layOut_81 ?_
        refine h_iload_n dX6_layOut_84 rfl 1 rfl ?_
        refine h_aload_n dX6_layOut_85 rfl 0 rfl ?_
        obtain ⟨t25, h26, hf⟩ := hbd_s hf
        refine h_getI h26 rfl (Nat.le_of_ble_eq_true rfl) rfl q_68 rfl dX6_layOut_86 ?_
        refine h_iconst (v := 1) dX6_layOut_89 rfl ?_
        refine h_isub dX6_layOut_90 ?_
        refine h_iload_n dX6_layOut_91 rfl 1 rfl ?_
        refine h_isub dX6_layOut_92 ?_
        refine h_mmin q_484 q_485 q_15 qm_min (Nat.le_trans (by decide) hd) (Nat.le_of_ble_eq_true rfl) (Nat.le_refl _) (Nat.le_refl _) dX6_layOut_93 ?_
        refine h_mmin q_484 q_485 q_15 qm_min (Nat.le_trans (by decide) hd) (Nat.le_of_ble_eq_true rfl) (Nat.le_refl _) (Nat.le_refl _) dX6_layOut_96 ?_
        obtain ⟨S27, h28, hf⟩ := hbd_s hf
        refine h_iast h28 dX6_layOut_99 ?_
        refine h_aload_n dX6_layOut_100 rfl 0 rfl ?_
        obtain ⟨t29, h30, hf⟩ := hbd_s hf
        refine h_getR h30 rfl (Nat.le_of_ble_eq_true rfl) rfl q_88 rfl dX6_layOut_101 ?_
        refine h_aload_n dX6_layOut_104 rfl 0 rfl ?_
        obtain ⟨t31, h32, hf⟩ := hbd_s hf
        refine h_getI h32 rfl (Nat.le_of_ble_eq_true rfl) rfl q_72 rfl dX6_layOut_105 ?_
        refine h_iconst (v := 5) dX6_layOut_108 rfl ?_
        refine h_imul dX6_layOut_109 ?_
        refine h_aload_n dX6_layOut_110 rfl 0 rfl ?_
        obtain ⟨t33, h34, hf⟩ := hbd_s hf
        refine h_getI h34 rfl (Nat.le_of_ble_eq_true rfl) rfl q_72 rfl dX6_layOut_111 ?_
        obtain ⟨S35, h36, hf⟩ := hbd_s hf
        refine h_iast h36 dX6_layOut_114 ?_
        refine h_aload_n dX6_layOut_115 rfl 0 rfl ?_
        obtain ⟨t37, h38, hf⟩ := hbd_s hf
        refine h_getR h38 rfl (Nat.le_of_ble_eq_true rfl) rfl q_88 rfl dX6_layOut_116 ?_
        refine h_aload_n dX6_layOut_119 rfl 0 rfl ?_
        obtain ⟨t39, h40, hf⟩ := hbd_s hf
        refine h_getI h40 rfl (Nat.le_of_ble_eq_true rfl) rfl q_72 rfl dX6_layOut_120 ?_
        refine h_iconst (v := 5) dX6_layOut_123 rfl ?_
        refine h_imul dX6_layOut_124 ?_
        refine h_iconst (v := 1) dX6_layOut_125 rfl ?_
        refine h_iadd dX6_layOut_126 ?_
        refine h_aload_n dX6_layOut_127 rfl 0 rfl ?_
        refine h_iload dX6_layOut_128 2 rfl ?_
        refine h_iload_n dX6_layOut_130 rfl 1 rfl ?_
        refine h_iconst (v := 1) dX6_layOut_131 rfl ?_
        refine h_isub dX6_layOut_132 ?_
        obtain ⟨g80, hf⟩ := hck_s hf
        obtain ⟨t43, S42, h41, hf⟩ := hb2_s hf
        refine h_Vi [.int x4, .int (x3 - 1)] (rest := [.int ((t39 * 5) + 1), .ref t37]) (m_X6_seatAt (d := 1) (cs := cs) (Nat.le_refl _) h41) v_X6_seatAt q_487 rfl (Nat.le_trans (by decide) hd) g80 rfl rfl (Nat.le_of_ble_eq_true rfl) dX6_layOut_133 (Nat.le_refl _) (Nat.le_refl _) ?_
        obtain ⟨S44, h45, hf⟩ := hbd_s hf
        refine h_iast h45 dX6_layOut_136 ?_
        refine h_aload_n dX6_layOut_137 rfl 0 rfl ?_
        obtain ⟨t46, h47, hf⟩ := hbd_s hf
        refine h_getR h47 rfl (Nat.le_of_ble_eq_true rfl) rfl q_88 rfl dX6_layOut_138 ?_
        refine h_aload_n dX6_layOut_141 rfl 0 rfl ?_
        obtain ⟨t48, h49, hf⟩ := hbd_s hf
        refine h_getI h49 rfl (Nat.le_of_ble_eq_true rfl) rfl q_72 rfl dX6_layOut_142 ?_
        refine h_iconst (v := 5) dX6_layOut_145 rfl ?_
        refine h_imul dX6_layOut_146 ?_
        refine h_iconst (v := 2) dX6_layOut_147 rfl ?_
        refine h_iadd dX6_layOut_148 ?_
        refine h_aload_n dX6_layOut_149 rfl 0 rfl ?_
        refine h_iload dX6_layOut_150 2 rfl ?_
        refine h_iconst (v := 1) dX6_layOut_152 rfl ?_
        refine h_iadd dX6_layOut_153 ?_
        refine h_iload_n dX6_layOut_154 rfl 1 rfl ?_
        obtain ⟨g79, hf⟩ := hck_s hf
        obtain ⟨t52, S51, h50, hf⟩ := hb2_s hf
        refine h_Vi [.int (x4 + 1), .int x3] (rest := [.int ((t48 * 5) + 2), .ref t46]) (m_X6_seatAt (d := 1) (cs := cs) (Nat.le_refl _) h50) v_X6_seatAt q_487 rfl (Nat.le_trans (by decide) hd) g79 rfl rfl (Nat.le_of_ble_eq_true rfl) dX6_layOut_155 (Nat.le_refl _) (Nat.le_refl _) ?_
        obtain ⟨S53, h54, hf⟩ := hbd_s hf
        refine h_iast h54 dX6_layOut_158 ?_
        refine h_aload_n dX6_layOut_159 rfl 0 rfl ?_
        obtain ⟨t55, h56, hf⟩ := hbd_s hf
        refine h_getR h56 rfl (Nat.le_of_ble_eq_true rfl) rfl q_88 rfl dX6_layOut_160 ?_
        refine h_aload_n dX6_layOut_163 rfl 0 rfl ?_
        obtain ⟨t57, h58, hf⟩ := hbd_s hf
        refine h_getI h58 rfl (Nat.le_of_ble_eq_true rfl) rfl q_72 rfl dX6_layOut_164 ?_
        refine h_iconst (v := 5) dX6_layOut_167 rfl ?_
        refine h_imul dX6_layOut_168 ?_
        refine h_iconst (v := 3) dX6_layOut_169 rfl ?_
        refine h_iadd dX6_layOut_170 ?_
        refine h_aload_n dX6_layOut_171 rfl 0 rfl ?_
        refine h_iload dX6_layOut_172 2 rfl ?_
        refine h_iload_n dX6_layOut_174 rfl 1 rfl ?_
        refine h_iconst (v := 1) dX6_layOut_175 rfl ?_
        refine h_iadd dX6_layOut_176 ?_
        obtain ⟨g78, hf⟩ := hck_s hf
        obtain ⟨t61, S60, h59, hf⟩ := hb2_s hf
        refine h_Vi [.int x4, .int (x3 + 1)] (rest := [.int ((t57 * 5) + 3), .ref t55]) (m_X6_seatAt (d := 1) (cs := cs) (Nat.le_refl _) h59) v_X6_seatAt q_487 rfl (Nat.le_trans (by decide) hd) g78 rfl rfl (Nat.le_of_ble_eq_true rfl) dX6_layOut_177 (Nat.le_refl _) (Nat.le_refl _) ?_
        obtain ⟨S62, h63, hf⟩ := hbd_s hf
        refine h_iast h63 dX6_layOut_180 ?_
        refine h_aload_n dX6_layOut_181 rfl 0 rfl ?_
        obtain ⟨t64, h65, hf⟩ := hbd_s hf
        refine h_getR h65 rfl (Nat.le_of_ble_eq_true rfl) rfl q_88 rfl dX6_layOut_182 ?_
        refine h_aload_n dX6_layOut_185 rfl 0 rfl ?_
        obtain ⟨t66, h67, hf⟩ := hbd_s hf
        refine h_getI h67 rfl (Nat.le_of_ble_eq_true rfl) rfl q_72 rfl dX6_layOut_186 ?_
        refine h_iconst (v := 5) dX6_layOut_189 rfl ?_
        refine h_imul dX6_layOut_190 ?_
        refine h_iconst (v := 4) dX6_layOut_191 rfl ?_
        refine h_iadd dX6_layOut_192 ?_
        refine h_aload_n dX6_layOut_193 rfl 0 rfl ?_
        refine h_iload dX6_layOut_194 2 rfl ?_
        refine h_iconst (v := 1) dX6_layOut_196 rfl ?_
        refine h_isub dX6_layOut_197 ?_
        refine h_iload_n dX6_layOut_198 rfl 1 rfl ?_
        obtain ⟨g77, hf⟩ := hck_s hf
        obtain ⟨t70, S69, h68, hf⟩ := hb2_s hf
        refine h_Vi [.int (x4 - 1), .int x3] (rest := [.int ((t66 * 5) + 4), .ref t64]) (m_X6_seatAt (d := 1) (cs := cs) (Nat.le_refl _) h68) v_X6_seatAt q_487 rfl (Nat.le_trans (by decide) hd) g77 rfl rfl (Nat.le_of_ble_eq_true rfl) dX6_layOut_199 (Nat.le_refl _) (Nat.le_refl _) ?_
        obtain ⟨S71, h72, hf⟩ := hbd_s hf
        refine h_iast h72 dX6_layOut_202 ?_
        refine h_aload_n dX6_layOut_203 rfl 0 rfl ?_
        refine h_dup dX6_layOut_204 rfl ?_
        obtain ⟨t73, h74, hf⟩ := hbd_s hf
        refine h_getI h74 rfl (Nat.le_of_ble_eq_true rfl) rfl q_72 rfl dX6_layOut_205 ?_
        refine h_iconst (v := 1) dX6_layOut_208 rfl ?_
        refine h_iadd dX6_layOut_209 ?_
        obtain ⟨S75, h76, hf⟩ := hbd_s hf
        refine h_putI h76 rfl (Nat.le_of_ble_eq_true rfl) rfl q_72 rfl rfl (by decide +kernel) dX6_layOut_210 ?_
        refine h_iinc (q := 2) (v := x4 + 1) (lv2 := [(4, .int (x4 + 1)), (0, .ref x0), (3, .int x3)]) dX6_layOut_213 rfl rfl (Nat.le_of_ble_eq_true rfl) rfl ?_
        refine h_goto (tgt := 23) dX6_layOut_216 (by decide) ?_
        refine h_sub (lv2 := [(0, .ref x0), (3, .int x3), (4, .int (x4 + 1))]) [1, 2, 0] rfl ?_
        exact ih x0 x3 (x4 + 1) S75 k0  hf hk0
set_option maxRecDepth 100000 in
set_option maxHeartbeats 4000000 in
theorem w_X6_layOut_L12 {d : Nat} {S0 : hS} {args : List Value} {cs : Nat → Nat} {r : hS} (hd : 2 ≤ d) : ∀ (n : Nat) (x0 : Nat) (x3 : Int32) (S : hS) (k0 : (hS → Option (hS))) , f_X6_layOut_L12 n x0 x3 S k0 = some r → (∀ (T : hS), k0 T = some r → HW cX6_layOut RX6 (x_X6_layOut d S0 args r cs) 0 0 T 225 [] []) → HW cX6_layOut RX6 (x_X6_layOut d S0 args r cs) 0 0 S 12 [(0, .ref x0), (3, .int x3)] [] := by
  intro n
  induction n with
  | zero =>
    intro x0 x3 S k0 hf
    cases hf
  | succ n ih =>
    intro x0 x3 S k0 hf hk0
    rw [f_X6_layOut_L12] at hf
    refine h_iload_n dX6_layOut_12 rfl 1 rfl ?_
    refine h_aload_n dX6_layOut_13 rfl 0 rfl ?_
    obtain ⟨t1, h2, hf⟩ := hbd_s hf
    refine h_getI h2 rfl (Nat.le_of_ble_eq_true rfl) rfl q_68 rfl dX6_layOut_14 ?_
    refine h_icmp_ge (tgt := 225) dX6_layOut_17 (by decide) (fun c3 => ?_) (fun c3 => ?_)
    · rw [if_pos c3] at hf
      refine h_sub (lv2 := []) [] rfl ?_
      exact hk0 S hf
    · rw [if_neg c3] at hf
      refine h_iconst (v := 0) dX6_layOut_20 rfl ?_
      refine h_istore (lv2 := [(4, .int 0), (0, .ref x0), (3, .int x3)]) dX6_layOut_21 (Nat.le_of_ble_eq_true rfl) rfl ?_
      refine h_sub (lv2 := [(0, .ref x0), (3, .int x3), (4, .int 0)]) [1, 2, 0] rfl ?_
      refine w_X6_layOut_L23 hd hfuel x0 x3 0 S _  hf ?_
      · intro S4 hf
        refine h_iinc (q := 1) (v := x3 + 1) (lv2 := [(3, .int (x3 + 1)), (0, .ref x0)]) dX6_layOut_219 rfl rfl (Nat.le_of_ble_eq_true rfl) rfl ?_
        refine h_goto (tgt := 12) dX6_layOut_222 (by decide) ?_
        refine h_sub (lv2 := [(0, .ref x0), (3, .int (x3 + 1))]) [1, 0] rfl ?_
        exact ih x0 (x3 + 1) S4 k0  hf hk0
set_option maxRecDepth 100000 in
set_option maxHeartbeats 4000000 in
theorem m_X6_layOut {d : Nat} {cs : Nat → Nat} {a0 : Nat} {a1 : Int32} {a2 : Int32} {S : hS} {r : hS} (hd : 2 ≤ d) (hf : f_X6_layOut a0 a1 a2 S = some r) : HM yX6_layOut cX6_layOut 5 none d 0 0 cs [.ref a0, .int a1, .int a2] S (none) r := by
  unfold f_X6_layOut at hf
  refine HM.ofHW false (by decide) (fun h => by cases h) (Nat.le_of_ble_eq_true rfl) ?_
  show HW cX6_layOut RX6 (x_X6_layOut d S [.ref a0, .int a1, .int a2] r cs) 0 0 S 0 [(0, .ref a0), (1, .int a1), (2, .int a2)] []
  refine h_aload_n dX6_layOut_0 rfl 0 rfl ?_
  refine h_iload_n dX6_layOut_1 rfl 1 rfl ?_
  obtain ⟨S5, h6, hf⟩ := hbd_s hf
  refine h_putI h6 rfl (Nat.le_of_ble_eq_true rfl) rfl q_64 rfl rfl (by decide +kernel) dX6_layOut_2 ?_
  refine h_aload_n dX6_layOut_5 rfl 0 rfl ?_
  refine h_iload_n dX6_layOut_6 rfl 2 rfl ?_
  obtain ⟨S7, h8, hf⟩ := hbd_s hf
  refine h_putI h8 rfl (Nat.le_of_ble_eq_true rfl) rfl q_68 rfl rfl (by decide +kernel) dX6_layOut_7 ?_
  refine h_iconst (v := 0) dX6_layOut_10 rfl ?_
  refine h_istore_n (lv2 := [(3, .int 0), (0, .ref a0), (1, .int a1), (2, .int a2)]) dX6_layOut_11 rfl (Nat.le_of_ble_eq_true rfl) rfl ?_
  refine h_sub (lv2 := [(0, .ref a0), (3, .int 0)]) [1, 0] rfl ?_
  refine w_X6_layOut_L12 hd hfuel a0 0 S7 _  hf ?_
  · intro S9 hf
    obtain rfl := Option.some.inj hf
    exact h_vret rfl rfl rfl (Nat.le_refl _) (Nat.le_refl _) dX6_layOut_225
abbrev x_X7_add (d : Nat) (S0 : hS) (args : List Value) (r : Int32 × hS) (cs : Nat → Nat) : hX := (((some .int), 6, d, 0, 0, false), (S0, args, some (.int r.1), r.2), cs)
theorem v_X7_add : hVW yX7_add cX7_add 6 (some .int) RX7 5 := ⟨q_339, q_340, q_2, q_341, by decide +kernel, by decide⟩
def f_X7_add (a0 : Nat) (a1 : Int32) (a2 : Int32) (a3 : Int32) (a4 : Int32) (a5 : Int32) (S : hS) : Option (Int32 × hS) :=
  hbd (gI S a0 7 1) fun t1 =>
  if (t1 + 20) ≤ 400 then
    (hck (S.K a0 = 8) <|
     hbd (f_X7_addBytes a0 a1 S) fun S5 =>
     hck (S5.K a0 = 8) <|
     hbd (f_X7_addBytes a0 a2 S5) fun S7 =>
     hck (S7.K a0 = 8) <|
     hbd (f_X7_addBytes a0 a3 S7) fun S9 =>
     hck (S9.K a0 = 8) <|
     hbd (f_X7_addBytes a0 a4 S9) fun S11 =>
     hck (S11.K a0 = 8) <|
     hbd (f_X7_addBytes a0 a5 S11) fun S13 =>
     hbd (gI S13 a0 7 1) fun t14 =>
     some (t14, S13))
  else
    (some ((-1), S))
set_option maxRecDepth 100000 in
set_option maxHeartbeats 4000000 in
theorem m_X7_add {d : Nat} {cs : Nat → Nat} {a0 : Nat} {a1 : Int32} {a2 : Int32} {a3 : Int32} {a4 : Int32} {a5 : Int32} {S : hS} {r : Int32 × hS} (hd : 2 ≤ d) (hf : f_X7_add a0 a1 a2 a3 a4 a5 S = some r) : HM yX7_add cX7_add 6 (some .int) d 0 0 cs [.ref a0, .int a1, .int a2, .int a3, .int a4, .int a5] S (some (.int r.1)) r.2 := by
  unfold f_X7_add at hf
  refine HM.ofHW false (by decide) (fun h => by cases h) (Nat.le_of_ble_eq_true rfl) ?_
  show HW cX7_add RX7 (x_X7_add d S [.ref a0, .int a1, .int a2, .int a3, .int a4, .int a5] r cs) 0 0 S 0 [(0, .ref a0), (1, .int a1), (2, .int a2), (3, .int a3), (4, .int a4), (5, .int a5)] []
  refine h_aload_n dX7_add_0 rfl 0 rfl ?_
  obtain ⟨t1, h2, hf⟩ := hbd_s hf
  refine h_getI h2 rfl (Nat.le_of_ble_eq_true rfl) rfl q_33 rfl dX7_add_1 ?_
  refine h_bipush (v := 20) dX7_add_4 rfl ?_
  refine h_iadd dX7_add_6 ?_
  refine h_sipush (v := 400) dX7_add_7 rfl ?_
  refine h_icmp_le (tgt := 15) dX7_add_10 (by decide) (fun c3 => ?_) (fun c3 => ?_)
  · rw [if_pos c3] at hf
    refine h_aload_n dX7_add_15 rfl 0 rfl ?_
    refine h_iload_n dX7_add_16 rfl 1 rfl ?_
    obtain ⟨g20, hf⟩ := hck_s hf
    obtain ⟨S5, h4, hf⟩ := hbd_s hf
    refine h_Vv [.int a1] (rest := []) (m_X7_addBytes (d := 1) (cs := cs) (Nat.le_refl _) h4) v_X7_addBytes q_342 rfl (Nat.le_trans (by decide) hd) g20 rfl rfl (Nat.le_of_ble_eq_true rfl) dX7_add_17 (Nat.le_refl _) (Nat.le_refl _) ?_
    refine h_aload_n dX7_add_20 rfl 0 rfl ?_
    refine h_iload_n dX7_add_21 rfl 2 rfl ?_
    obtain ⟨g19, hf⟩ := hck_s hf
    obtain ⟨S7, h6, hf⟩ := hbd_s hf
    refine h_Vv [.int a2] (rest := []) (m_X7_addBytes (d := 1) (cs := cs) (Nat.le_refl _) h6) v_X7_addBytes q_342 rfl (Nat.le_trans (by decide) hd) g19 rfl rfl (Nat.le_of_ble_eq_true rfl) dX7_add_22 (Nat.le_refl _) (Nat.le_refl _) ?_
    refine h_aload_n dX7_add_25 rfl 0 rfl ?_
    refine h_iload_n dX7_add_26 rfl 3 rfl ?_
    obtain ⟨g18, hf⟩ := hck_s hf
    obtain ⟨S9, h8, hf⟩ := hbd_s hf
    refine h_Vv [.int a3] (rest := []) (m_X7_addBytes (d := 1) (cs := cs) (Nat.le_refl _) h8) v_X7_addBytes q_342 rfl (Nat.le_trans (by decide) hd) g18 rfl rfl (Nat.le_of_ble_eq_true rfl) dX7_add_27 (Nat.le_refl _) (Nat.le_refl _) ?_
    refine h_aload_n dX7_add_30 rfl 0 rfl ?_
    refine h_iload dX7_add_31 4 rfl ?_
    obtain ⟨g17, hf⟩ := hck_s hf
    obtain ⟨S11, h10, hf⟩ := hbd_s hf
    refine h_Vv [.int a4] (rest := []) (m_X7_addBytes (d := 1) (cs := cs) (Nat.le_refl _) h10) v_X7_addBytes q_342 rfl (Nat.le_trans (by decide) hd) g17 rfl rfl (Nat.le_of_ble_eq_true rfl) dX7_add_33 (Nat.le_refl _) (Nat.le_refl _) ?_
    refine h_aload_n dX7_add_36 rfl 0 rfl ?_
    refine h_iload dX7_add_37 5 rfl ?_
    obtain ⟨g16, hf⟩ := hck_s hf
    obtain ⟨S13, h12, hf⟩ := hbd_s hf
    refine h_Vv [.int a5] (rest := []) (m_X7_addBytes (d := 1) (cs := cs) (Nat.le_refl _) h12) v_X7_addBytes q_342 rfl (Nat.le_trans (by decide) hd) g16 rfl rfl (Nat.le_of_ble_eq_true rfl) dX7_add_39 (Nat.le_refl _) (Nat.le_refl _) ?_
    refine h_aload_n dX7_add_42 rfl 0 rfl ?_
    obtain ⟨t14, h15, hf⟩ := hbd_s hf
    refine h_getI h15 rfl (Nat.le_of_ble_eq_true rfl) rfl q_33 rfl dX7_add_43 ?_
    obtain rfl := Option.some.inj hf
    exact h_iret rfl rfl rfl (Nat.le_refl _) (Nat.le_refl _) dX7_add_46
  · rw [if_neg c3] at hf
    refine h_iconst (v := (-1)) dX7_add_13 rfl ?_
    obtain rfl := Option.some.inj hf
    exact h_iret rfl rfl rfl (Nat.le_refl _) (Nat.le_refl _) dX7_add_14
abbrev x_X7_wordOf (d : Nat) (S0 : hS) (args : List Value) (r : Int32 × hS) (cs : Nat → Nat) : hX := (((some .int), 6, d, 0, 0, false), (S0, args, some (.int r.1), r.2), cs)
theorem v_X7_wordOf : hVW yX7_wordOf cX7_wordOf 6 (some .int) RX7 1 := ⟨q_388, q_389, q_2, q_390, by decide +kernel, by decide⟩
def f_X7_wordOf_L18 : Nat → Nat → Nat → Int32 → Int32 → Int32 → Int32 → hS → (hS → Option (Int32 × hS)) → (Int32 → hS → Option (Int32 × hS)) → Option (Int32 × hS)
  | 0, _, _, _, _, _, _, _, _, _ => none
  | n + 1, x0, x1, x2, x3, x4, x5, S, k0, k1 =>
    hbd (gTL x1) fun t1 =>
    if t1 < x5 then
      (k0 S)
    else
      (hbd (gTL x1) fun t4 =>
       hj (γ := hS → Option (Int32 × hS)) (fun (S7 : hS) =>
         hj (γ := hS → Option (Int32 × hS)) (fun (S9 : hS) =>
           f_X7_wordOf_L18 n x0 x1 x2 (x5 + 1) (x4 + 1) (x5 + 1) S9 k0 k1
           ) fun J8 =>
         if (x5 - x3) = x2 then
           (hck (S7.K x0 = 8) <|
            hb2 (f_X7_isNext x0 x1 x3 x2 S7) fun t13 S12 =>
            if t13 = 0 then
              (J8 S12)
            else
              (k1 x4 S12))
         else
           (J8 S7)
         ) fun J6 =>
       if x5 = t4 then
         (J6 S)
       else
         (hbd (gTC x1 x5) fun t17 =>
          if t17 = 32 then
            (J6 S)
          else
            (f_X7_wordOf_L18 n x0 x1 x2 x3 x4 (x5 + 1) S k0 k1)))
def f_X7_wordOf (a0 : Nat) (a1 : Nat) (S : hS) : Option (Int32 × hS) :=
  hck (S.K a0 = 8) <|
  hb2 (f_X7_next a0 S) fun t22 S21 =>
  hck (S21.K a0 = 8) <|
  hb2 (f_X7_letters a0 S21) fun t25 S24 =>
  f_X7_wordOf_L18 hfuel a0 a1 t25 0 0 0 S24
    (fun S26 =>
      some ((-1), S26)
    )
    (fun u27 S28 =>
      some (u27, S28)
    )
set_option maxRecDepth 100000 in
set_option maxHeartbeats 4000000 in
theorem w_X7_wordOf_L18 {d : Nat} {S0 : hS} {args : List Value} {cs : Nat → Nat} {r : Int32 × hS} (hd : 6 ≤ d) : ∀ (n : Nat) (x0 : Nat) (x1 : Nat) (x2 : Int32) (x3 : Int32) (x4 : Int32) (x5 : Int32) (S : hS) (k0 : (hS → Option (Int32 × hS))) (k1 : (Int32 → hS → Option (Int32 × hS))) , f_X7_wordOf_L18 n x0 x1 x2 x3 x4 x5 S k0 k1 = some r → (∀ (T : hS), k0 T = some r → HW cX7_wordOf RX7 (x_X7_wordOf d S0 args r cs) 0 0 T 82 [] []) → (∀ (y4 : Int32) (T : hS), k1 y4 T = some r → HW cX7_wordOf RX7 (x_X7_wordOf d S0 args r cs) 0 0 T 65 [(4, .int y4)] []) → HW cX7_wordOf RX7 (x_X7_wordOf d S0 args r cs) 0 0 S 18 [(0, .ref x0), (1, .ref (cs x1)), (2, .int x2), (3, .int x3), (4, .int x4), (5, .int x5)] [] := by
  intro n
  induction n with
  | zero =>
    intro x0 x1 x2 x3 x4 x5 S k0 k1 hf
    cases hf
  | succ n ih =>
    intro x0 x1 x2 x3 x4 x5 S k0 k1 hf hk0 hk1
    rw [f_X7_wordOf_L18] at hf
    refine h_iload dX7_wordOf_18 5 rfl ?_
    refine h_aload_n dX7_wordOf_20 rfl 1 rfl ?_
    obtain ⟨t1, h2, hf⟩ := hbd_s hf
    refine h_Ti [] (rest := [.int x5]) (m_J0_length_8abf5 (d := 2) (cs := cs) (Nat.le_refl _) h2) v_J0_length_8abf5 (gTL_s h2).1 q_399 rfl (Nat.le_trans (by decide) hd) rfl (Nat.le_of_ble_eq_true rfl) dX7_wordOf_21 (Nat.le_refl _) (Nat.le_refl _) ?_
    refine h_icmp_gt (tgt := 82) dX7_wordOf_24 (by decide) (fun c3 => ?_) (fun c3 => ?_)
    · rw [if_pos c3] at hf
      refine h_sub (lv2 := []) [] rfl ?_
      exact hk0 S hf
    · rw [if_neg c3] at hf
      refine h_iload dX7_wordOf_27 5 rfl ?_
      refine h_aload_n dX7_wordOf_29 rfl 1 rfl ?_
      obtain ⟨t4, h5, hf⟩ := hbd_s hf
      refine h_Ti [] (rest := [.int x5]) (m_J0_length_8abf5 (d := 2) (cs := cs) (Nat.le_refl _) h5) v_J0_length_8abf5 (gTL_s h5).1 q_399 rfl (Nat.le_trans (by decide) hd) rfl (Nat.le_of_ble_eq_true rfl) dX7_wordOf_30 (Nat.le_refl _) (Nat.le_refl _) ?_
      refine hj_s (fun J6 => ∀ (S7 : hS), J6 S7 = some r → HW cX7_wordOf RX7 (x_X7_wordOf d S0 args r cs) 0 0 S7 47 [(0, .ref x0), (1, .ref (cs x1)), (2, .int x2), (3, .int x3), (4, .int x4), (5, .int x5)] []) hf ?_ ?_
      · intro S7 hf
        refine h_iload dX7_wordOf_47 5 rfl ?_
        refine h_iload_n dX7_wordOf_49 rfl 3 rfl ?_
        refine h_isub dX7_wordOf_50 ?_
        refine h_iload_n dX7_wordOf_51 rfl 2 rfl ?_
        refine hj_s (fun J8 => ∀ (S9 : hS), J8 S9 = some r → HW cX7_wordOf RX7 (x_X7_wordOf d S0 args r cs) 0 0 S9 68 [(0, .ref x0), (1, .ref (cs x1)), (2, .int x2), (4, .int x4), (5, .int x5)] []) hf ?_ ?_
        · intro S9 hf
          refine h_iload dX7_wordOf_68 4 rfl ?_
          refine h_iconst (v := 1) dX7_wordOf_70 rfl ?_
          refine h_iadd dX7_wordOf_71 ?_
          refine h_istore_n (lv2 := [(3, .int (x5 + 1)), (0, .ref x0), (1, .ref (cs x1)), (2, .int x2), (4, .int x4), (5, .int x5)]) dX7_wordOf_72 rfl (Nat.le_of_ble_eq_true rfl) rfl ?_
          refine h_iinc (q := 4) (v := x4 + 1) (lv2 := [(4, .int (x4 + 1)), (3, .int (x5 + 1)), (0, .ref x0), (1, .ref (cs x1)), (2, .int x2), (5, .int x5)]) dX7_wordOf_73 rfl rfl (Nat.le_of_ble_eq_true rfl) rfl ?_
          refine h_iinc (q := 5) (v := x5 + 1) (lv2 := [(5, .int (x5 + 1)), (4, .int (x4 + 1)), (3, .int (x5 + 1)), (0, .ref x0), (1, .ref (cs x1)), (2, .int x2)]) dX7_wordOf_76 rfl rfl (Nat.le_of_ble_eq_true rfl) rfl ?_
          refine h_goto (tgt := 18) dX7_wordOf_79 (by decide) ?_
          refine h_sub (lv2 := [(0, .ref x0), (1, .ref (cs x1)), (2, .int x2), (3, .int (x5 + 1)), (4, .int (x4 + 1)), (5, .int (x5 + 1))]) [3, 4, 5, 2, 1, 0] rfl ?_
          exact ih x0 x1 x2 (x5 + 1) (x4 + 1) (x5 + 1) S9 k0 k1  hf hk0 hk1
        · intro J8 hJ8 hf
          refine h_icmp_ne (tgt := 68) dX7_wordOf_52 (by decide) (fun c10 => ?_) (fun c10 => ?_)
          · rw [if_neg c10] at hf
            refine h_sub (lv2 := [(0, .ref x0), (1, .ref (cs x1)), (2, .int x2), (4, .int x4), (5, .int x5)]) [0, 1, 2, 4, 5] rfl ?_
            exact hJ8 S7 hf
          · rw [if_pos c10] at hf
            refine h_aload_n dX7_wordOf_55 rfl 0 rfl ?_
            refine h_aload_n dX7_wordOf_56 rfl 1 rfl ?_
            refine h_iload_n dX7_wordOf_57 rfl 3 rfl ?_
            refine h_iload_n dX7_wordOf_58 rfl 2 rfl ?_
            obtain ⟨g15, hf⟩ := hck_s hf
            obtain ⟨t13, S12, h11, hf⟩ := hb2_s hf
            refine h_Vi [.ref (cs x1), .int x3, .int x2] (rest := []) (m_X7_isNext (d := 5) (cs := cs) (Nat.le_refl _) h11) v_X7_isNext q_447 rfl (Nat.le_trans (by decide) hd) g15 rfl rfl (Nat.le_of_ble_eq_true rfl) dX7_wordOf_59 (Nat.le_refl _) (Nat.le_refl _) ?_
            refine h_if_eq (tgt := 68) dX7_wordOf_62 (by decide) (fun c14 => ?_) (fun c14 => ?_)
            · rw [if_pos c14] at hf
              refine h_sub (lv2 := [(0, .ref x0), (1, .ref (cs x1)), (2, .int x2), (4, .int x4), (5, .int x5)]) [0, 1, 2, 4, 5] rfl ?_
              exact hJ8 S12 hf
            · rw [if_neg c14] at hf
              refine h_sub (lv2 := [(4, .int x4)]) [4] rfl ?_
              exact hk1 x4 S12 hf
      · intro J6 hJ6 hf
        refine h_icmp_eq (tgt := 47) dX7_wordOf_33 (by decide) (fun c16 => ?_) (fun c16 => ?_)
        · rw [if_pos c16] at hf
          exact hJ6 S hf
        · rw [if_neg c16] at hf
          refine h_aload_n dX7_wordOf_36 rfl 1 rfl ?_
          refine h_iload dX7_wordOf_37 5 rfl ?_
          obtain ⟨t17, h18, hf⟩ := hbd_s hf
          refine h_Ti [.int x5] (rest := []) (m_J0_charAt_5068e (d := 4) (cs := cs) (Nat.le_refl _) h18) v_J0_charAt_5068e (gTC_s h18).1 q_409 rfl (Nat.le_trans (by decide) hd) rfl (Nat.le_of_ble_eq_true rfl) dX7_wordOf_39 (Nat.le_refl _) (Nat.le_refl _) ?_
          refine h_bipush (v := 32) dX7_wordOf_42 rfl ?_
          refine h_icmp_ne (tgt := 76) dX7_wordOf_44 (by decide) (fun c19 => ?_) (fun c19 => ?_)
          · rw [if_neg c19] at hf
            refine h_iinc (q := 5) (v := x5 + 1) (lv2 := [(5, .int (x5 + 1)), (0, .ref x0), (1, .ref (cs x1)), (2, .int x2), (3, .int x3), (4, .int x4)]) dX7_wordOf_76 rfl rfl (Nat.le_of_ble_eq_true rfl) rfl ?_
            refine h_goto (tgt := 18) dX7_wordOf_79 (by decide) ?_
            refine h_sub (lv2 := [(0, .ref x0), (1, .ref (cs x1)), (2, .int x2), (3, .int x3), (4, .int x4), (5, .int (x5 + 1))]) [1, 2, 3, 4, 5, 0] rfl ?_
            exact ih x0 x1 x2 x3 x4 (x5 + 1) S k0 k1  hf hk0 hk1
          · rw [if_pos c19] at hf
            exact hJ6 S hf
set_option maxRecDepth 100000 in
set_option maxHeartbeats 4000000 in
theorem m_X7_wordOf {d : Nat} {cs : Nat → Nat} {a0 : Nat} {a1 : Nat} {S : hS} {r : Int32 × hS} (hd : 6 ≤ d) (hf : f_X7_wordOf a0 a1 S = some r) : HM yX7_wordOf cX7_wordOf 6 (some .int) d 0 0 cs [.ref a0, .ref (cs a1)] S (some (.int r.1)) r.2 := by
  unfold f_X7_wordOf at hf
  refine HM.ofHW false (by decide) (fun h => by cases h) (Nat.le_of_ble_eq_true rfl) ?_
  show HW cX7_wordOf RX7 (x_X7_wordOf d S [.ref a0, .ref (cs a1)] r cs) 0 0 S 0 [(0, .ref a0), (1, .ref (cs a1))] []
  refine h_aload_n dX7_wordOf_0 rfl 0 rfl ?_
  obtain ⟨g30, hf⟩ := hck_s hf
  obtain ⟨t22, S21, h20, hf⟩ := hb2_s hf
  refine h_Vi [] (rest := []) (m_X7_next (d := 1) (cs := cs) (Nat.le_refl _) h20) v_X7_next q_391 rfl (Nat.le_trans (by decide) hd) g30 rfl rfl (Nat.le_of_ble_eq_true rfl) dX7_wordOf_1 (Nat.le_refl _) (Nat.le_refl _) ?_
  refine h_pop dX7_wordOf_4 rfl ?_
  refine h_aload_n dX7_wordOf_5 rfl 0 rfl ?_
  obtain ⟨g29, hf⟩ := hck_s hf
  obtain ⟨t25, S24, h23, hf⟩ := hb2_s hf
  refine h_Vi [] (rest := []) (m_X7_letters (d := 1) (cs := cs) (Nat.le_refl _) h23) v_X7_letters q_395 rfl (Nat.le_trans (by decide) hd) g29 rfl rfl (Nat.le_of_ble_eq_true rfl) dX7_wordOf_6 (Nat.le_refl _) (Nat.le_refl _) ?_
  refine h_istore_n (lv2 := [(2, .int t25), (0, .ref a0), (1, .ref (cs a1))]) dX7_wordOf_9 rfl (Nat.le_of_ble_eq_true rfl) rfl ?_
  refine h_iconst (v := 0) dX7_wordOf_10 rfl ?_
  refine h_istore_n (lv2 := [(3, .int 0), (2, .int t25), (0, .ref a0), (1, .ref (cs a1))]) dX7_wordOf_11 rfl (Nat.le_of_ble_eq_true rfl) rfl ?_
  refine h_iconst (v := 0) dX7_wordOf_12 rfl ?_
  refine h_istore (lv2 := [(4, .int 0), (3, .int 0), (2, .int t25), (0, .ref a0), (1, .ref (cs a1))]) dX7_wordOf_13 (Nat.le_of_ble_eq_true rfl) rfl ?_
  refine h_iconst (v := 0) dX7_wordOf_15 rfl ?_
  refine h_istore (lv2 := [(5, .int 0), (4, .int 0), (3, .int 0), (2, .int t25), (0, .ref a0), (1, .ref (cs a1))]) dX7_wordOf_16 (Nat.le_of_ble_eq_true rfl) rfl ?_
  refine h_sub (lv2 := [(0, .ref a0), (1, .ref (cs a1)), (2, .int t25), (3, .int 0), (4, .int 0), (5, .int 0)]) [4, 5, 3, 2, 1, 0] rfl ?_
  refine w_X7_wordOf_L18 hd hfuel a0 a1 t25 0 0 0 S24 _ _  hf ?_ ?_
  · intro S26 hf
    refine h_iconst (v := (-1)) dX7_wordOf_82 rfl ?_
    obtain rfl := Option.some.inj hf
    exact h_iret rfl rfl rfl (Nat.le_refl _) (Nat.le_refl _) dX7_wordOf_83
  · intro u27 S28 hf
    refine h_iload dX7_wordOf_65 0 rfl ?_
    obtain rfl := Option.some.inj hf
    exact h_iret rfl rfl rfl (Nat.le_refl _) (Nat.le_refl _) dX7_wordOf_67
abbrev x_X7_skipWord (d : Nat) (S0 : hS) (args : List Value) (r : hS) (cs : Nat → Nat) : hX := ((none, 1, d, 0, 0, false), (S0, args, none, r), cs)
theorem v_X7_skipWord : hVW yX7_skipWord cX7_skipWord 1 none RX7 0 := ⟨q_460, q_461, q_2, q_462, by decide +kernel, by decide⟩
def f_X7_skipWord (a0 : Nat) (S : hS) : Option (hS) :=
  hbd (gI S a0 7 2) fun t1 =>
  hck (S.K a0 = 8) <|
  hb2 (f_X7_letters a0 S) fun t5 S4 =>
  hbd (sI S4 a0 7 2 (t1 + t5)) fun S6 =>
  some S6
set_option maxRecDepth 100000 in
set_option maxHeartbeats 4000000 in
theorem m_X7_skipWord {d : Nat} {cs : Nat → Nat} {a0 : Nat} {S : hS} {r : hS} (hd : 2 ≤ d) (hf : f_X7_skipWord a0 S = some r) : HM yX7_skipWord cX7_skipWord 1 none d 0 0 cs [.ref a0] S (none) r := by
  unfold f_X7_skipWord at hf
  refine HM.ofHW false (by decide) (fun h => by cases h) (Nat.le_of_ble_eq_true rfl) ?_
  show HW cX7_skipWord RX7 (x_X7_skipWord d S [.ref a0] r cs) 0 0 S 0 [(0, .ref a0)] []
  refine h_aload_n dX7_skipWord_0 rfl 0 rfl ?_
  refine h_dup dX7_skipWord_1 rfl ?_
  obtain ⟨t1, h2, hf⟩ := hbd_s hf
  refine h_getI h2 rfl (Nat.le_of_ble_eq_true rfl) rfl q_35 rfl dX7_skipWord_2 ?_
  refine h_aload_n dX7_skipWord_5 rfl 0 rfl ?_
  obtain ⟨g8, hf⟩ := hck_s hf
  obtain ⟨t5, S4, h3, hf⟩ := hb2_s hf
  refine h_Vi [] (rest := [.int t1, .ref a0]) (m_X7_letters (d := 1) (cs := cs) (Nat.le_refl _) h3) v_X7_letters q_395 rfl (Nat.le_trans (by decide) hd) g8 rfl rfl (Nat.le_of_ble_eq_true rfl) dX7_skipWord_6 (Nat.le_refl _) (Nat.le_refl _) ?_
  refine h_iadd dX7_skipWord_9 ?_
  obtain ⟨S6, h7, hf⟩ := hbd_s hf
  refine h_putI h7 rfl (Nat.le_of_ble_eq_true rfl) rfl q_35 rfl rfl (by decide +kernel) dX7_skipWord_10 ?_
  obtain rfl := Option.some.inj hf
  exact h_vret rfl rfl rfl (Nat.le_refl _) (Nat.le_refl _) dX7_skipWord_13
abbrev x_X8_feed (d : Nat) (S0 : hS) (args : List Value) (r : Int32 × hS) (cs : Nat → Nat) : hX := (((some .int), 6, d, 0, 0, false), (S0, args, some (.int r.1), r.2), cs)
theorem v_X8_feed : hVW yX8_feed cX8_feed 6 (some .int) RX8 5 := ⟨q_335, q_336, q_1, q_337, by decide +kernel, by decide⟩
def f_X8_feed (a0 : Nat) (a1 : Int32) (a2 : Int32) (a3 : Int32) (a4 : Int32) (a5 : Int32) (S : hS) : Option (Int32 × hS) :=
  hbd (gR S a0 8 0) fun t1 =>
  hck (S.K t1 = 8) <|
  hb2 (f_X7_add t1 a1 a2 a3 a4 a5 S) fun t5 S4 =>
  some (t5, S4)
set_option maxRecDepth 100000 in
set_option maxHeartbeats 4000000 in
theorem m_X8_feed {d : Nat} {cs : Nat → Nat} {a0 : Nat} {a1 : Int32} {a2 : Int32} {a3 : Int32} {a4 : Int32} {a5 : Int32} {S : hS} {r : Int32 × hS} (hd : 3 ≤ d) (hf : f_X8_feed a0 a1 a2 a3 a4 a5 S = some r) : HM yX8_feed cX8_feed 6 (some .int) d 0 0 cs [.ref a0, .int a1, .int a2, .int a3, .int a4, .int a5] S (some (.int r.1)) r.2 := by
  unfold f_X8_feed at hf
  refine HM.ofHW false (by decide) (fun h => by cases h) (Nat.le_of_ble_eq_true rfl) ?_
  show HW cX8_feed RX8 (x_X8_feed d S [.ref a0, .int a1, .int a2, .int a3, .int a4, .int a5] r cs) 0 0 S 0 [(0, .ref a0), (1, .int a1), (2, .int a2), (3, .int a3), (4, .int a4), (5, .int a5)] []
  refine h_aload_n dX8_feed_0 rfl 0 rfl ?_
  obtain ⟨t1, h2, hf⟩ := hbd_s hf
  refine h_getR h2 rfl (Nat.le_of_ble_eq_true rfl) rfl q_300 rfl dX8_feed_1 ?_
  refine h_iload_n dX8_feed_4 rfl 1 rfl ?_
  refine h_iload_n dX8_feed_5 rfl 2 rfl ?_
  refine h_iload_n dX8_feed_6 rfl 3 rfl ?_
  refine h_iload dX8_feed_7 4 rfl ?_
  refine h_iload dX8_feed_9 5 rfl ?_
  obtain ⟨g6, hf⟩ := hck_s hf
  obtain ⟨t5, S4, h3, hf⟩ := hb2_s hf
  refine h_Vi [.int a1, .int a2, .int a3, .int a4, .int a5] (rest := []) (m_X7_add (d := 2) (cs := cs) (Nat.le_refl _) h3) v_X7_add q_338 rfl (Nat.le_trans (by decide) hd) g6 rfl rfl (Nat.le_of_ble_eq_true rfl) dX8_feed_11 (Nat.le_refl _) (Nat.le_refl _) ?_
  obtain rfl := Option.some.inj hf
  exact h_iret rfl rfl rfl (Nat.le_refl _) (Nat.le_refl _) dX8_feed_14
abbrev x_X8_sits (d : Nat) (S0 : hS) (args : List Value) (r : Int32 × hS) (cs : Nat → Nat) : hX := (((some .boolean), 5, d, 0, 0, false), (S0, args, some (.int r.1), r.2), cs)
theorem v_X8_sits : hVW yX8_sits cX8_sits 5 (some .boolean) RX8 3 := ⟨q_709, q_710, q_1, q_711, by decide +kernel, by decide⟩
def f_X8_sits (a0 : Nat) (a1 : Int32) (a2 : Int32) (a3 : Int32) (S : hS) : Option (Int32 × hS) :=
  hbd (gR S a0 8 3) fun t1 =>
  hbd (gR S t1 0 0) fun t3 =>
  hck (S.K t3 = 7) <|
  hb2 (f_X6_seatAt t3 a2 a3 S) fun t7 S6 =>
  hbd (gR S6 a0 8 3) fun t8 =>
  hbd (gR S6 t8 0 1) fun t10 =>
  hck (S6.K t10 = 3) <|
  hb2 (f_X2_known t10 a1 S6) fun t14 S13 =>
  if t14 = 0 then
    (some (0, S13))
  else
    (if t7 = (-1) then
       (some (0, S13))
     else
       (hbd (gR S13 a0 8 3) fun t17 =>
        hbd (gR S13 t17 0 1) fun t19 =>
        hbd (gR S13 t19 2 5) fun t21 =>
        hbd (gA S13 t21 12 t7) fun t23 =>
        if t23 = (-1) then
          (hbd (gR S13 a0 8 9) fun t26 =>
           hck (S13.K t26 = 2) <|
           hbd (f_X1_forget t26 S13) fun S29 =>
           hbd (gR S29 a0 8 3) fun t30 =>
           hbd (gR S29 t30 0 1) fun t32 =>
           hck (S29.K t32 = 3) <|
           hbd (f_X2_put t32 a1 t7 S29) fun S35 =>
           some (1, S35))
        else
          (some (0, S13))))
set_option maxRecDepth 100000 in
set_option maxHeartbeats 4000000 in
theorem m_X8_sits {d : Nat} {cs : Nat → Nat} {a0 : Nat} {a1 : Int32} {a2 : Int32} {a3 : Int32} {S : hS} {r : Int32 × hS} (hd : 4 ≤ d) (hf : f_X8_sits a0 a1 a2 a3 S = some r) : HM yX8_sits cX8_sits 5 (some .boolean) d 0 0 cs [.ref a0, .int a1, .int a2, .int a3] S (some (.int r.1)) r.2 := by
  unfold f_X8_sits at hf
  refine HM.ofHW false (by decide) (fun h => by cases h) (Nat.le_of_ble_eq_true rfl) ?_
  show HW cX8_sits RX8 (x_X8_sits d S [.ref a0, .int a1, .int a2, .int a3] r cs) 0 0 S 0 [(0, .ref a0), (1, .int a1), (2, .int a2), (3, .int a3)] []
  refine h_aload_n dX8_sits_0 rfl 0 rfl ?_
  obtain ⟨t1, h2, hf⟩ := hbd_s hf
  refine h_getR h2 rfl (Nat.le_of_ble_eq_true rfl) rfl q_303 rfl dX8_sits_1 ?_
  obtain ⟨t3, h4, hf⟩ := hbd_s hf
  refine h_getRN (host := "DeafSpot") h4 rfl (Nat.le_of_ble_eq_true rfl) rfl (List.mem_of_getElem? (i := 50) rfl) rfl dX8_sits_4 ?_
  refine h_iload_n dX8_sits_7 rfl 2 rfl ?_
  refine h_iload_n dX8_sits_8 rfl 3 rfl ?_
  obtain ⟨g39, hf⟩ := hck_s hf
  obtain ⟨t7, S6, h5, hf⟩ := hb2_s hf
  refine h_Vi [.int a2, .int a3] (rest := []) (m_X6_seatAt (d := 1) (cs := cs) (Nat.le_refl _) h5) v_X6_seatAt q_690 rfl (Nat.le_trans (by decide) hd) g39 rfl rfl (Nat.le_of_ble_eq_true rfl) dX8_sits_9 (Nat.le_refl _) (Nat.le_refl _) ?_
  refine h_istore (lv2 := [(4, .int t7), (0, .ref a0), (1, .int a1), (2, .int a2), (3, .int a3)]) dX8_sits_12 (Nat.le_of_ble_eq_true rfl) rfl ?_
  refine h_aload_n dX8_sits_14 rfl 1 rfl ?_
  obtain ⟨t8, h9, hf⟩ := hbd_s hf
  refine h_getR h9 rfl (Nat.le_of_ble_eq_true rfl) rfl q_303 rfl dX8_sits_15 ?_
  obtain ⟨t10, h11, hf⟩ := hbd_s hf
  refine h_getRN (host := "DeafSpot") h11 rfl (Nat.le_of_ble_eq_true rfl) rfl (List.mem_of_getElem? (i := 52) rfl) rfl dX8_sits_18 ?_
  refine h_iload_n dX8_sits_21 rfl 2 rfl ?_
  obtain ⟨g38, hf⟩ := hck_s hf
  obtain ⟨t14, S13, h12, hf⟩ := hb2_s hf
  refine h_Vi [.int a1] (rest := []) (m_X2_known (d := 1) (cs := cs) (Nat.le_refl _) h12) v_X2_known q_695 rfl (Nat.le_trans (by decide) hd) g38 rfl rfl (Nat.le_of_ble_eq_true rfl) dX8_sits_22 (Nat.le_refl _) (Nat.le_refl _) ?_
  refine h_if_eq (tgt := 51) dX8_sits_25 (by decide) (fun c15 => ?_) (fun c15 => ?_)
  · rw [if_pos c15] at hf
    refine h_iconst (v := 0) dX8_sits_51 rfl ?_
    obtain rfl := Option.some.inj hf
    exact h_zret rfl (by decide) rfl rfl (Nat.le_refl _) (Nat.le_refl _) dX8_sits_52
  · rw [if_neg c15] at hf
    refine h_iload dX8_sits_28 0 rfl ?_
    refine h_iconst (v := (-1)) dX8_sits_30 rfl ?_
    refine h_icmp_eq (tgt := 51) dX8_sits_31 (by decide) (fun c16 => ?_) (fun c16 => ?_)
    · rw [if_pos c16] at hf
      refine h_iconst (v := 0) dX8_sits_51 rfl ?_
      obtain rfl := Option.some.inj hf
      exact h_zret rfl (by decide) rfl rfl (Nat.le_refl _) (Nat.le_refl _) dX8_sits_52
    · rw [if_neg c16] at hf
      refine h_aload_n dX8_sits_34 rfl 1 rfl ?_
      obtain ⟨t17, h18, hf⟩ := hbd_s hf
      refine h_getR h18 rfl (Nat.le_of_ble_eq_true rfl) rfl q_303 rfl dX8_sits_35 ?_
      obtain ⟨t19, h20, hf⟩ := hbd_s hf
      refine h_getRN (host := "DeafSpot") h20 rfl (Nat.le_of_ble_eq_true rfl) rfl (List.mem_of_getElem? (i := 52) rfl) rfl dX8_sits_38 ?_
      obtain ⟨t21, h22, hf⟩ := hbd_s hf
      refine h_getRN (host := "DeafSpot") h22 rfl (Nat.le_of_ble_eq_true rfl) rfl (List.mem_of_getElem? (i := 47) rfl) rfl dX8_sits_41 ?_
      refine h_iload dX8_sits_44 0 rfl ?_
      obtain ⟨t23, h24, hf⟩ := hbd_s hf
      refine h_iald h24 dX8_sits_46 ?_
      refine h_iconst (v := (-1)) dX8_sits_47 rfl ?_
      refine h_icmp_eq (tgt := 53) dX8_sits_48 (by decide) (fun c25 => ?_) (fun c25 => ?_)
      · rw [if_pos c25] at hf
        refine h_aload_n dX8_sits_53 rfl 1 rfl ?_
        obtain ⟨t26, h27, hf⟩ := hbd_s hf
        refine h_getR h27 rfl (Nat.le_of_ble_eq_true rfl) rfl q_309 rfl dX8_sits_54 ?_
        obtain ⟨g37, hf⟩ := hck_s hf
        obtain ⟨S29, h28, hf⟩ := hbd_s hf
        refine h_Vv [] (rest := []) (m_X1_forget (d := 1) (cs := cs) (Nat.le_refl _) h28) v_X1_forget q_563 rfl (Nat.le_trans (by decide) hd) g37 rfl rfl (Nat.le_of_ble_eq_true rfl) dX8_sits_57 (Nat.le_refl _) (Nat.le_refl _) ?_
        refine h_aload_n dX8_sits_60 rfl 1 rfl ?_
        obtain ⟨t30, h31, hf⟩ := hbd_s hf
        refine h_getR h31 rfl (Nat.le_of_ble_eq_true rfl) rfl q_303 rfl dX8_sits_61 ?_
        obtain ⟨t32, h33, hf⟩ := hbd_s hf
        refine h_getRN (host := "DeafSpot") h33 rfl (Nat.le_of_ble_eq_true rfl) rfl (List.mem_of_getElem? (i := 52) rfl) rfl dX8_sits_64 ?_
        refine h_iload_n dX8_sits_67 rfl 2 rfl ?_
        refine h_iload dX8_sits_68 0 rfl ?_
        obtain ⟨g36, hf⟩ := hck_s hf
        obtain ⟨S35, h34, hf⟩ := hbd_s hf
        refine h_Vv [.int a1, .int t7] (rest := []) (m_X2_put (d := 3) (cs := cs) (Nat.le_refl _) h34) v_X2_put q_712 rfl (Nat.le_trans (by decide) hd) g36 rfl rfl (Nat.le_of_ble_eq_true rfl) dX8_sits_70 (Nat.le_refl _) (Nat.le_refl _) ?_
        refine h_iconst (v := 1) dX8_sits_73 rfl ?_
        obtain rfl := Option.some.inj hf
        exact h_zret rfl (by decide) rfl rfl (Nat.le_refl _) (Nat.le_refl _) dX8_sits_74
      · rw [if_neg c25] at hf
        refine h_iconst (v := 0) dX8_sits_51 rfl ?_
        obtain rfl := Option.some.inj hf
        exact h_zret rfl (by decide) rfl rfl (Nat.le_refl _) (Nat.le_refl _) dX8_sits_52
abbrev x_X8_change (d : Nat) (S0 : hS) (args : List Value) (r : Int32 × hS) (cs : Nat → Nat) : hX := (((some .boolean), 4, d, 0, 0, false), (S0, args, some (.int r.1), r.2), cs)
theorem v_X8_change : hVW yX8_change cX8_change 4 (some .boolean) RX8 2 := ⟨q_720, q_721, q_1, q_722, by decide +kernel, by decide⟩
def f_X8_change (a0 : Nat) (a1 : Int32) (a2 : Int32) (S : hS) : Option (Int32 × hS) :=
  hbd (gR S a0 8 3) fun t1 =>
  hbd (gR S t1 0 1) fun t3 =>
  if a1 = a2 then
    (some (0, S))
  else
    (hck (S.K t3 = 3) <|
     hb2 (f_X2_here t3 a1 S) fun t8 S7 =>
     if t8 = 0 then
       (some (0, S7))
     else
       (hck (S7.K t3 = 3) <|
        hb2 (f_X2_here t3 a2 S7) fun t12 S11 =>
        if t12 = 0 then
          (some (0, S11))
        else
          (hbd (gR S11 a0 8 9) fun t14 =>
           hck (S11.K t14 = 2) <|
           hbd (f_X1_forget t14 S11) fun S17 =>
           hck (S17.K t3 = 3) <|
           hbd (f_X2_swap t3 a1 a2 S17) fun S19 =>
           some (1, S19))))
set_option maxRecDepth 100000 in
set_option maxHeartbeats 4000000 in
theorem m_X8_change {d : Nat} {cs : Nat → Nat} {a0 : Nat} {a1 : Int32} {a2 : Int32} {S : hS} {r : Int32 × hS} (hd : 5 ≤ d) (hf : f_X8_change a0 a1 a2 S = some r) : HM yX8_change cX8_change 4 (some .boolean) d 0 0 cs [.ref a0, .int a1, .int a2] S (some (.int r.1)) r.2 := by
  unfold f_X8_change at hf
  refine HM.ofHW false (by decide) (fun h => by cases h) (Nat.le_of_ble_eq_true rfl) ?_
  show HW cX8_change RX8 (x_X8_change d S [.ref a0, .int a1, .int a2] r cs) 0 0 S 0 [(0, .ref a0), (1, .int a1), (2, .int a2)] []
  refine h_aload_n dX8_change_0 rfl 0 rfl ?_
  obtain ⟨t1, h2, hf⟩ := hbd_s hf
  refine h_getR h2 rfl (Nat.le_of_ble_eq_true rfl) rfl q_303 rfl dX8_change_1 ?_
  obtain ⟨t3, h4, hf⟩ := hbd_s hf
  refine h_getRN (host := "DeafSpot") h4 rfl (Nat.le_of_ble_eq_true rfl) rfl (List.mem_of_getElem? (i := 52) rfl) rfl dX8_change_4 ?_
  refine h_astore_n (lv2 := [(3, .ref t3), (0, .ref a0), (1, .int a1), (2, .int a2)]) dX8_change_7 rfl (Nat.le_of_ble_eq_true rfl) rfl ?_
  refine h_iload_n dX8_change_8 rfl 2 rfl ?_
  refine h_iload_n dX8_change_9 rfl 3 rfl ?_
  refine h_icmp_eq (tgt := 29) dX8_change_10 (by decide) (fun c5 => ?_) (fun c5 => ?_)
  · rw [if_pos c5] at hf
    refine h_iconst (v := 0) dX8_change_29 rfl ?_
    obtain rfl := Option.some.inj hf
    exact h_zret rfl (by decide) rfl rfl (Nat.le_refl _) (Nat.le_refl _) dX8_change_30
  · rw [if_neg c5] at hf
    refine h_aload_n dX8_change_13 rfl 0 rfl ?_
    refine h_iload_n dX8_change_14 rfl 2 rfl ?_
    obtain ⟨g23, hf⟩ := hck_s hf
    obtain ⟨t8, S7, h6, hf⟩ := hb2_s hf
    refine h_Vi [.int a1] (rest := []) (m_X2_here (d := 1) (cs := cs) (Nat.le_refl _) h6) v_X2_here q_717 rfl (Nat.le_trans (by decide) hd) g23 rfl rfl (Nat.le_of_ble_eq_true rfl) dX8_change_15 (Nat.le_refl _) (Nat.le_refl _) ?_
    refine h_if_eq (tgt := 29) dX8_change_18 (by decide) (fun c9 => ?_) (fun c9 => ?_)
    · rw [if_pos c9] at hf
      refine h_iconst (v := 0) dX8_change_29 rfl ?_
      obtain rfl := Option.some.inj hf
      exact h_zret rfl (by decide) rfl rfl (Nat.le_refl _) (Nat.le_refl _) dX8_change_30
    · rw [if_neg c9] at hf
      refine h_aload_n dX8_change_21 rfl 0 rfl ?_
      refine h_iload_n dX8_change_22 rfl 3 rfl ?_
      obtain ⟨g22, hf⟩ := hck_s hf
      obtain ⟨t12, S11, h10, hf⟩ := hb2_s hf
      refine h_Vi [.int a2] (rest := []) (m_X2_here (d := 1) (cs := cs) (Nat.le_refl _) h10) v_X2_here q_717 rfl (Nat.le_trans (by decide) hd) g22 rfl rfl (Nat.le_of_ble_eq_true rfl) dX8_change_23 (Nat.le_refl _) (Nat.le_refl _) ?_
      refine h_if_ne (tgt := 31) dX8_change_26 (by decide) (fun c13 => ?_) (fun c13 => ?_)
      · rw [if_neg c13] at hf
        refine h_aload_n dX8_change_31 rfl 1 rfl ?_
        obtain ⟨t14, h15, hf⟩ := hbd_s hf
        refine h_getR h15 rfl (Nat.le_of_ble_eq_true rfl) rfl q_309 rfl dX8_change_32 ?_
        obtain ⟨g21, hf⟩ := hck_s hf
        obtain ⟨S17, h16, hf⟩ := hbd_s hf
        refine h_Vv [] (rest := []) (m_X1_forget (d := 1) (cs := cs) (Nat.le_refl _) h16) v_X1_forget q_563 rfl (Nat.le_trans (by decide) hd) g21 rfl rfl (Nat.le_of_ble_eq_true rfl) dX8_change_35 (Nat.le_refl _) (Nat.le_refl _) ?_
        refine h_aload_n dX8_change_38 rfl 0 rfl ?_
        refine h_iload_n dX8_change_39 rfl 2 rfl ?_
        refine h_iload_n dX8_change_40 rfl 3 rfl ?_
        obtain ⟨g20, hf⟩ := hck_s hf
        obtain ⟨S19, h18, hf⟩ := hbd_s hf
        refine h_Vv [.int a1, .int a2] (rest := []) (m_X2_swap (d := 4) (cs := cs) (Nat.le_refl _) h18) v_X2_swap q_723 rfl (Nat.le_trans (by decide) hd) g20 rfl rfl (Nat.le_of_ble_eq_true rfl) dX8_change_41 (Nat.le_refl _) (Nat.le_refl _) ?_
        refine h_iconst (v := 1) dX8_change_44 rfl ?_
        obtain rfl := Option.some.inj hf
        exact h_zret rfl (by decide) rfl rfl (Nat.le_refl _) (Nat.le_refl _) dX8_change_45
      · rw [if_pos c13] at hf
        refine h_iconst (v := 0) dX8_change_29 rfl ?_
        obtain rfl := Option.some.inj hf
        exact h_zret rfl (by decide) rfl rfl (Nat.le_refl _) (Nat.le_refl _) dX8_change_30
abbrev x_X9_feed (d : Nat) (S0 : hS) (args : List Value) (r : Int32 × hS) (cs : Nat → Nat) : hX := (((some .int), 6, d, 0, 0, false), (S0, args, some (.int r.1), r.2), cs)
theorem v_X9_feed : hVW yX9_feed cX9_feed 6 (some .int) RX9 5 := ⟨q_1152, q_1153, q_9, q_1154, by decide +kernel, by decide⟩
def f_X9_feed (a0 : Nat) (a1 : Int32) (a2 : Int32) (a3 : Int32) (a4 : Int32) (a5 : Int32) (S : hS) : Option (Int32 × hS) :=
  hbd (gI S a0 9 23) fun t1 =>
  if (t1 + 20) ≤ 400 then
    (hck (S.K a0 = 10) <|
     hbd (f_X9_put a0 a1 S) fun S5 =>
     hck (S5.K a0 = 10) <|
     hbd (f_X9_put a0 a2 S5) fun S7 =>
     hck (S7.K a0 = 10) <|
     hbd (f_X9_put a0 a3 S7) fun S9 =>
     hck (S9.K a0 = 10) <|
     hbd (f_X9_put a0 a4 S9) fun S11 =>
     hck (S11.K a0 = 10) <|
     hbd (f_X9_put a0 a5 S11) fun S13 =>
     hbd (gI S13 a0 9 23) fun t14 =>
     some (t14, S13))
  else
    (some ((-1), S))
set_option maxRecDepth 100000 in
set_option maxHeartbeats 4000000 in
theorem m_X9_feed {d : Nat} {cs : Nat → Nat} {a0 : Nat} {a1 : Int32} {a2 : Int32} {a3 : Int32} {a4 : Int32} {a5 : Int32} {S : hS} {r : Int32 × hS} (hd : 2 ≤ d) (hf : f_X9_feed a0 a1 a2 a3 a4 a5 S = some r) : HM yX9_feed cX9_feed 6 (some .int) d 0 0 cs [.ref a0, .int a1, .int a2, .int a3, .int a4, .int a5] S (some (.int r.1)) r.2 := by
  unfold f_X9_feed at hf
  refine HM.ofHW false (by decide) (fun h => by cases h) (Nat.le_of_ble_eq_true rfl) ?_
  show HW cX9_feed RX9 (x_X9_feed d S [.ref a0, .int a1, .int a2, .int a3, .int a4, .int a5] r cs) 0 0 S 0 [(0, .ref a0), (1, .int a1), (2, .int a2), (3, .int a3), (4, .int a4), (5, .int a5)] []
  refine h_aload_n dX9_feed_0 rfl 0 rfl ?_
  obtain ⟨t1, h2, hf⟩ := hbd_s hf
  refine h_getI h2 rfl (Nat.le_of_ble_eq_true rfl) rfl q_983 rfl dX9_feed_1 ?_
  refine h_bipush (v := 20) dX9_feed_4 rfl ?_
  refine h_iadd dX9_feed_6 ?_
  refine h_sipush (v := 400) dX9_feed_7 rfl ?_
  refine h_icmp_le (tgt := 15) dX9_feed_10 (by decide) (fun c3 => ?_) (fun c3 => ?_)
  · rw [if_pos c3] at hf
    refine h_aload_n dX9_feed_15 rfl 0 rfl ?_
    refine h_iload_n dX9_feed_16 rfl 1 rfl ?_
    obtain ⟨g20, hf⟩ := hck_s hf
    obtain ⟨S5, h4, hf⟩ := hbd_s hf
    refine h_Vv [.int a1] (rest := []) (m_X9_put (d := 1) (cs := cs) (Nat.le_refl _) h4) v_X9_put q_1155 rfl (Nat.le_trans (by decide) hd) g20 rfl rfl (Nat.le_of_ble_eq_true rfl) dX9_feed_17 (Nat.le_refl _) (Nat.le_refl _) ?_
    refine h_aload_n dX9_feed_20 rfl 0 rfl ?_
    refine h_iload_n dX9_feed_21 rfl 2 rfl ?_
    obtain ⟨g19, hf⟩ := hck_s hf
    obtain ⟨S7, h6, hf⟩ := hbd_s hf
    refine h_Vv [.int a2] (rest := []) (m_X9_put (d := 1) (cs := cs) (Nat.le_refl _) h6) v_X9_put q_1155 rfl (Nat.le_trans (by decide) hd) g19 rfl rfl (Nat.le_of_ble_eq_true rfl) dX9_feed_22 (Nat.le_refl _) (Nat.le_refl _) ?_
    refine h_aload_n dX9_feed_25 rfl 0 rfl ?_
    refine h_iload_n dX9_feed_26 rfl 3 rfl ?_
    obtain ⟨g18, hf⟩ := hck_s hf
    obtain ⟨S9, h8, hf⟩ := hbd_s hf
    refine h_Vv [.int a3] (rest := []) (m_X9_put (d := 1) (cs := cs) (Nat.le_refl _) h8) v_X9_put q_1155 rfl (Nat.le_trans (by decide) hd) g18 rfl rfl (Nat.le_of_ble_eq_true rfl) dX9_feed_27 (Nat.le_refl _) (Nat.le_refl _) ?_
    refine h_aload_n dX9_feed_30 rfl 0 rfl ?_
    refine h_iload dX9_feed_31 4 rfl ?_
    obtain ⟨g17, hf⟩ := hck_s hf
    obtain ⟨S11, h10, hf⟩ := hbd_s hf
    refine h_Vv [.int a4] (rest := []) (m_X9_put (d := 1) (cs := cs) (Nat.le_refl _) h10) v_X9_put q_1155 rfl (Nat.le_trans (by decide) hd) g17 rfl rfl (Nat.le_of_ble_eq_true rfl) dX9_feed_33 (Nat.le_refl _) (Nat.le_refl _) ?_
    refine h_aload_n dX9_feed_36 rfl 0 rfl ?_
    refine h_iload dX9_feed_37 5 rfl ?_
    obtain ⟨g16, hf⟩ := hck_s hf
    obtain ⟨S13, h12, hf⟩ := hbd_s hf
    refine h_Vv [.int a5] (rest := []) (m_X9_put (d := 1) (cs := cs) (Nat.le_refl _) h12) v_X9_put q_1155 rfl (Nat.le_trans (by decide) hd) g16 rfl rfl (Nat.le_of_ble_eq_true rfl) dX9_feed_39 (Nat.le_refl _) (Nat.le_refl _) ?_
    refine h_aload_n dX9_feed_42 rfl 0 rfl ?_
    obtain ⟨t14, h15, hf⟩ := hbd_s hf
    refine h_getI h15 rfl (Nat.le_of_ble_eq_true rfl) rfl q_983 rfl dX9_feed_43 ?_
    obtain rfl := Option.some.inj hf
    exact h_iret rfl rfl rfl (Nat.le_refl _) (Nat.le_refl _) dX9_feed_46
  · rw [if_neg c3] at hf
    refine h_iconst (v := (-1)) dX9_feed_13 rfl ?_
    obtain rfl := Option.some.inj hf
    exact h_iret rfl rfl rfl (Nat.le_refl _) (Nat.le_refl _) dX9_feed_14
abbrev x_X0_copy (d : Nat) (S0 : hS) (args : List Value) (r : hS) (cs : Nat → Nat) : hX := ((none, 2, d, 0, 0, false), (S0, args, none, r), cs)
theorem v_X0_copy : hVW yX0_copy cX0_copy 2 none RX0 1 := ⟨q_568, q_569, q_3, q_570, by decide +kernel, by decide⟩
def f_X0_copy (a0 : Nat) (a1 : Nat) (S : hS) : Option (hS) :=
  hbd (gR S a0 0 0) fun t1 =>
  hbd (gR S a1 0 0) fun t3 =>
  hck (S.K t1 = 7) <|
  hbd (f_X6_copy t1 t3 S) fun S6 =>
  hbd (gR S6 a1 0 11) fun t7 =>
  hbd (gR S6 a0 0 11) fun t9 =>
  hbd (cpA S6 t7 0 t9 0 120) fun S11 =>
  hbd (gI S11 a1 0 10) fun t13 =>
  hbd (sI S11 a0 0 10 t13) fun S15 =>
  hck (S15.K a0 = 1) <|
  hbd (f_X0_rewind a0 a1 S15) fun S18 =>
  some S18
set_option maxRecDepth 100000 in
set_option maxHeartbeats 4000000 in
theorem m_X0_copy {d : Nat} {cs : Nat → Nat} {a0 : Nat} {a1 : Nat} {S : hS} {r : hS} (hd : 3 ≤ d) (hf : f_X0_copy a0 a1 S = some r) : HM yX0_copy cX0_copy 2 none d 0 0 cs [.ref a0, .ref a1] S (none) r := by
  unfold f_X0_copy at hf
  refine HM.ofHW false (by decide) (fun h => by cases h) (Nat.le_of_ble_eq_true rfl) ?_
  show HW cX0_copy RX0 (x_X0_copy d S [.ref a0, .ref a1] r cs) 0 0 S 0 [(0, .ref a0), (1, .ref a1)] []
  refine h_aload_n dX0_copy_0 rfl 0 rfl ?_
  obtain ⟨t1, h2, hf⟩ := hbd_s hf
  refine h_getR h2 rfl (Nat.le_of_ble_eq_true rfl) rfl q_180 rfl dX0_copy_1 ?_
  refine h_aload_n dX0_copy_4 rfl 1 rfl ?_
  obtain ⟨t3, h4, hf⟩ := hbd_s hf
  refine h_getR h4 rfl (Nat.le_of_ble_eq_true rfl) rfl q_180 rfl dX0_copy_5 ?_
  obtain ⟨g20, hf⟩ := hck_s hf
  obtain ⟨S6, h5, hf⟩ := hbd_s hf
  refine h_Vv [.ref t3] (rest := []) (m_X6_copy (d := 1) (cs := cs) (Nat.le_refl _) h5) v_X6_copy q_571 rfl (Nat.le_trans (by decide) hd) g20 rfl rfl (Nat.le_of_ble_eq_true rfl) dX0_copy_8 (Nat.le_refl _) (Nat.le_refl _) ?_
  refine h_aload_n dX0_copy_11 rfl 1 rfl ?_
  obtain ⟨t7, h8, hf⟩ := hbd_s hf
  refine h_getR h8 rfl (Nat.le_of_ble_eq_true rfl) rfl q_204 rfl dX0_copy_12 ?_
  refine h_iconst (v := 0) dX0_copy_15 rfl ?_
  refine h_aload_n dX0_copy_16 rfl 0 rfl ?_
  obtain ⟨t9, h10, hf⟩ := hbd_s hf
  refine h_getR h10 rfl (Nat.le_of_ble_eq_true rfl) rfl q_204 rfl dX0_copy_17 ?_
  refine h_iconst (v := 0) dX0_copy_20 rfl ?_
  refine h_bipush (v := 120) dX0_copy_21 rfl ?_
  obtain ⟨S11, h12, hf⟩ := hbd_s hf
  refine h_acopy h12 q_578 (Nat.le_trans (by decide) hd) (Nat.le_of_ble_eq_true rfl) dX0_copy_23 ?_
  refine h_aload_n dX0_copy_26 rfl 0 rfl ?_
  refine h_aload_n dX0_copy_27 rfl 1 rfl ?_
  obtain ⟨t13, h14, hf⟩ := hbd_s hf
  refine h_getI h14 rfl (Nat.le_of_ble_eq_true rfl) rfl q_202 rfl dX0_copy_28 ?_
  obtain ⟨S15, h16, hf⟩ := hbd_s hf
  refine h_putI h16 rfl (Nat.le_of_ble_eq_true rfl) rfl q_202 rfl rfl (by decide +kernel) dX0_copy_31 ?_
  refine h_aload_n dX0_copy_34 rfl 0 rfl ?_
  refine h_aload_n dX0_copy_35 rfl 1 rfl ?_
  obtain ⟨g19, hf⟩ := hck_s hf
  obtain ⟨S18, h17, hf⟩ := hbd_s hf
  refine h_Vv [.ref a1] (rest := []) (m_X0_rewind (d := 2) (cs := cs) (Nat.le_refl _) h17) v_X0_rewind q_579 rfl (Nat.le_trans (by decide) hd) g19 rfl rfl (Nat.le_of_ble_eq_true rfl) dX0_copy_36 (Nat.le_refl _) (Nat.le_refl _) ?_
  obtain rfl := Option.some.inj hf
  exact h_vret rfl rfl rfl (Nat.le_refl _) (Nat.le_refl _) dX0_copy_39
abbrev x_X2_add (d : Nat) (S0 : hS) (args : List Value) (r : hS) (cs : Nat → Nat) : hX := ((none, 5, d, 0, 0, false), (S0, args, none, r), cs)
theorem v_X2_add : hVW yX2_add cX2_add 5 none RX2 3 := ⟨q_502, q_503, q_5, q_504, by decide +kernel, by decide⟩
def f_X2_add (a0 : Nat) (a1 : Int32) (a2 : Int32) (a3 : Int32) (S : hS) : Option (hS) :=
  hbd (gI S a0 2 0) fun t1 =>
  if t1 < 12 then
    (hbd (gI S a0 2 0) fun t4 =>
     hbd (gI S a0 2 0) fun t6 =>
     hbd (sI S a0 2 0 (t6 + 1)) fun S8 =>
     hbd (gR S8 a0 2 1) fun t10 =>
     hbd (sA S8 t10 t4 (-1)) fun S12 =>
     hbd (gR S12 a0 2 2) fun t14 =>
     hbd (sA S12 t14 t4 a2) fun S16 =>
     hbd (gR S16 a0 2 3) fun t18 =>
     hbd (sA S16 t18 t4 a3) fun S20 =>
     hbd (gR S20 a0 2 4) fun t22 =>
     hbd (sA S20 t22 t4 0) fun S24 =>
     hck (S24.K a0 = 3) <|
     hbd (f_X2_put a0 t4 a1 S24) fun S27 =>
     some S27)
  else
    (some S)
set_option maxRecDepth 100000 in
set_option maxHeartbeats 4000000 in
theorem m_X2_add {d : Nat} {cs : Nat → Nat} {a0 : Nat} {a1 : Int32} {a2 : Int32} {a3 : Int32} {S : hS} {r : hS} (hd : 4 ≤ d) (hf : f_X2_add a0 a1 a2 a3 S = some r) : HM yX2_add cX2_add 5 none d 0 0 cs [.ref a0, .int a1, .int a2, .int a3] S (none) r := by
  unfold f_X2_add at hf
  refine HM.ofHW false (by decide) (fun h => by cases h) (Nat.le_of_ble_eq_true rfl) ?_
  show HW cX2_add RX2 (x_X2_add d S [.ref a0, .int a1, .int a2, .int a3] r cs) 0 0 S 0 [(0, .ref a0), (1, .int a1), (2, .int a2), (3, .int a3)] []
  refine h_aload_n dX2_add_0 rfl 0 rfl ?_
  obtain ⟨t1, h2, hf⟩ := hbd_s hf
  refine h_getI h2 rfl (Nat.le_of_ble_eq_true rfl) rfl q_148 rfl dX2_add_1 ?_
  refine h_bipush (v := 12) dX2_add_4 rfl ?_
  refine h_icmp_lt (tgt := 10) dX2_add_6 (by decide) (fun c3 => ?_) (fun c3 => ?_)
  · rw [if_pos c3] at hf
    refine h_aload_n dX2_add_10 rfl 0 rfl ?_
    obtain ⟨t4, h5, hf⟩ := hbd_s hf
    refine h_getI h5 rfl (Nat.le_of_ble_eq_true rfl) rfl q_148 rfl dX2_add_11 ?_
    refine h_istore (lv2 := [(4, .int t4), (0, .ref a0), (1, .int a1), (2, .int a2), (3, .int a3)]) dX2_add_14 (Nat.le_of_ble_eq_true rfl) rfl ?_
    refine h_aload_n dX2_add_16 rfl 1 rfl ?_
    refine h_dup dX2_add_17 rfl ?_
    obtain ⟨t6, h7, hf⟩ := hbd_s hf
    refine h_getI h7 rfl (Nat.le_of_ble_eq_true rfl) rfl q_148 rfl dX2_add_18 ?_
    refine h_iconst (v := 1) dX2_add_21 rfl ?_
    refine h_iadd dX2_add_22 ?_
    obtain ⟨S8, h9, hf⟩ := hbd_s hf
    refine h_putI h9 rfl (Nat.le_of_ble_eq_true rfl) rfl q_148 rfl rfl (by decide +kernel) dX2_add_23 ?_
    refine h_aload_n dX2_add_26 rfl 1 rfl ?_
    obtain ⟨t10, h11, hf⟩ := hbd_s hf
    refine h_getR h11 rfl (Nat.le_of_ble_eq_true rfl) rfl q_152 rfl dX2_add_27 ?_
    refine h_iload dX2_add_30 0 rfl ?_
    refine h_iconst (v := (-1)) dX2_add_32 rfl ?_
    obtain ⟨S12, h13, hf⟩ := hbd_s hf
    refine h_iast h13 dX2_add_33 ?_
    refine h_aload_n dX2_add_34 rfl 1 rfl ?_
    obtain ⟨t14, h15, hf⟩ := hbd_s hf
    refine h_getR h15 rfl (Nat.le_of_ble_eq_true rfl) rfl q_155 rfl dX2_add_35 ?_
    refine h_iload dX2_add_38 0 rfl ?_
    refine h_iload_n dX2_add_40 rfl 3 rfl ?_
    obtain ⟨S16, h17, hf⟩ := hbd_s hf
    refine h_iast h17 dX2_add_41 ?_
    refine h_aload_n dX2_add_42 rfl 1 rfl ?_
    obtain ⟨t18, h19, hf⟩ := hbd_s hf
    refine h_getR h19 rfl (Nat.le_of_ble_eq_true rfl) rfl q_158 rfl dX2_add_43 ?_
    refine h_iload dX2_add_46 0 rfl ?_
    refine h_iload_n dX2_add_48 rfl 4 rfl ?_
    obtain ⟨S20, h21, hf⟩ := hbd_s hf
    refine h_iast h21 dX2_add_49 ?_
    refine h_aload_n dX2_add_50 rfl 1 rfl ?_
    obtain ⟨t22, h23, hf⟩ := hbd_s hf
    refine h_getR h23 rfl (Nat.le_of_ble_eq_true rfl) rfl q_160 rfl dX2_add_51 ?_
    refine h_iload dX2_add_54 0 rfl ?_
    refine h_iconst (v := 0) dX2_add_56 rfl ?_
    obtain ⟨S24, h25, hf⟩ := hbd_s hf
    refine h_iast h25 dX2_add_57 ?_
    refine h_aload_n dX2_add_58 rfl 1 rfl ?_
    refine h_iload dX2_add_59 0 rfl ?_
    refine h_iload_n dX2_add_61 rfl 2 rfl ?_
    obtain ⟨g28, hf⟩ := hck_s hf
    obtain ⟨S27, h26, hf⟩ := hbd_s hf
    refine h_Vv [.int t4, .int a1] (rest := []) (m_X2_put (d := 3) (cs := cs) (Nat.le_refl _) h26) v_X2_put q_505 rfl (Nat.le_trans (by decide) hd) g28 rfl rfl (Nat.le_of_ble_eq_true rfl) dX2_add_62 (Nat.le_refl _) (Nat.le_refl _) ?_
    obtain rfl := Option.some.inj hf
    exact h_vret rfl rfl rfl (Nat.le_refl _) (Nat.le_refl _) dX2_add_65
  · rw [if_neg c3] at hf
    obtain rfl := Option.some.inj hf
    exact h_vret rfl rfl rfl (Nat.le_refl _) (Nat.le_refl _) dX2_add_9
abbrev x_X3_readSize (d : Nat) (S0 : hS) (args : List Value) (r : hS) (cs : Nat → Nat) : hX := ((none, 3, d, 0, 0, false), (S0, args, none, r), cs)
theorem v_X3_readSize : hVW yX3_readSize cX3_readSize 3 none RX3 0 := ⟨q_465, q_s5, q_6, q_466, by decide +kernel, by decide⟩
def f_X3_readSize (a0 : Nat) (S : hS) : Option (hS) :=
  hbd (gR S a0 3 0) fun t1 =>
  hck (S.K t1 = 8) <|
  hb2 (f_X7_number t1 1 10 S) fun t5 S4 =>
  hck (S4.K a0 = 4) <|
  hb2 (f_X3_readNumber a0 1 8 S4) fun t8 S7 =>
  hbd (gR S7 a0 3 0) fun t9 =>
  hck (S7.K t9 = 8) <|
  hb2 (f_X7_failed t9 S7) fun t13 S12 =>
  if t13 = 0 then
    (hbd (gR S12 a0 3 1) fun t15 =>
     hbd (gR S12 t15 0 0) fun t17 =>
     hck (S12.K t17 = 7) <|
     hbd (f_X6_layOut t17 t5 t8 S12) fun S20 =>
     some S20)
  else
    (some S12)
set_option maxRecDepth 100000 in
set_option maxHeartbeats 4000000 in
theorem m_X3_readSize {d : Nat} {cs : Nat → Nat} {a0 : Nat} {S : hS} {r : hS} (hd : 4 ≤ d) (hf : f_X3_readSize a0 S = some r) : HM yX3_readSize cX3_readSize 3 none d 0 0 cs [.ref a0] S (none) r := by
  unfold f_X3_readSize at hf
  refine HM.ofHW false (by decide) (fun h => by cases h) (Nat.le_of_ble_eq_true rfl) ?_
  show HW cX3_readSize RX3 (x_X3_readSize d S [.ref a0] r cs) 0 0 S 0 [(0, .ref a0)] []
  refine h_aload_n dX3_readSize_0 rfl 0 rfl ?_
  obtain ⟨t1, h2, hf⟩ := hbd_s hf
  refine h_getR h2 rfl (Nat.le_of_ble_eq_true rfl) rfl q_237 rfl dX3_readSize_1 ?_
  refine h_iconst (v := 1) dX3_readSize_4 rfl ?_
  refine h_bipush (v := 10) dX3_readSize_5 rfl ?_
  obtain ⟨g24, hf⟩ := hck_s hf
  obtain ⟨t5, S4, h3, hf⟩ := hb2_s hf
  refine h_Vi [.int 1, .int 10] (rest := []) (m_X7_number (d := 2) (cs := cs) (Nat.le_refl _) h3) v_X7_number q_467 rfl (Nat.le_trans (by decide) hd) g24 rfl rfl (Nat.le_of_ble_eq_true rfl) dX3_readSize_7 (Nat.le_refl _) (Nat.le_refl _) ?_
  refine h_istore_n (lv2 := [(1, .int t5), (0, .ref a0)]) dX3_readSize_10 rfl (Nat.le_of_ble_eq_true rfl) rfl ?_
  refine h_aload_n dX3_readSize_11 rfl 1 rfl ?_
  refine h_iconst (v := 1) dX3_readSize_12 rfl ?_
  refine h_bipush (v := 8) dX3_readSize_13 rfl ?_
  obtain ⟨g23, hf⟩ := hck_s hf
  obtain ⟨t8, S7, h6, hf⟩ := hb2_s hf
  refine h_Vi [.int 1, .int 8] (rest := []) (m_X3_readNumber (d := 3) (cs := cs) (Nat.le_refl _) h6) v_X3_readNumber q_472 rfl (Nat.le_trans (by decide) hd) g23 rfl rfl (Nat.le_of_ble_eq_true rfl) dX3_readSize_15 (Nat.le_refl _) (Nat.le_refl _) ?_
  refine h_istore_n (lv2 := [(2, .int t8), (1, .int t5), (0, .ref a0)]) dX3_readSize_18 rfl (Nat.le_of_ble_eq_true rfl) rfl ?_
  refine h_aload_n dX3_readSize_19 rfl 2 rfl ?_
  obtain ⟨t9, h10, hf⟩ := hbd_s hf
  refine h_getR h10 rfl (Nat.le_of_ble_eq_true rfl) rfl q_237 rfl dX3_readSize_20 ?_
  obtain ⟨g22, hf⟩ := hck_s hf
  obtain ⟨t13, S12, h11, hf⟩ := hb2_s hf
  refine h_Vi [] (rest := []) (m_X7_failed (d := 1) (cs := cs) (Nat.le_refl _) h11) v_X7_failed q_476 rfl (Nat.le_trans (by decide) hd) g22 rfl rfl (Nat.le_of_ble_eq_true rfl) dX3_readSize_23 (Nat.le_refl _) (Nat.le_refl _) ?_
  refine h_if_ne (tgt := 41) dX3_readSize_26 (by decide) (fun c14 => ?_) (fun c14 => ?_)
  · rw [if_neg c14] at hf
    obtain rfl := Option.some.inj hf
    exact h_vret rfl rfl rfl (Nat.le_refl _) (Nat.le_refl _) dX3_readSize_41
  · rw [if_pos c14] at hf
    refine h_aload_n dX3_readSize_29 rfl 2 rfl ?_
    obtain ⟨t15, h16, hf⟩ := hbd_s hf
    refine h_getR h16 rfl (Nat.le_of_ble_eq_true rfl) rfl q_238 rfl dX3_readSize_30 ?_
    obtain ⟨t17, h18, hf⟩ := hbd_s hf
    refine h_getRN (host := "DeafSpot") h18 rfl (Nat.le_of_ble_eq_true rfl) rfl (List.mem_of_getElem? (i := 49) rfl) rfl dX3_readSize_33 ?_
    refine h_iload_n dX3_readSize_36 rfl 1 rfl ?_
    refine h_iload_n dX3_readSize_37 rfl 0 rfl ?_
    obtain ⟨g21, hf⟩ := hck_s hf
    obtain ⟨S20, h19, hf⟩ := hbd_s hf
    refine h_Vv [.int t5, .int t8] (rest := []) (m_X6_layOut (d := 2) (cs := cs) (Nat.le_refl _) h19) v_X6_layOut q_480 rfl (Nat.le_trans (by decide) hd) g21 rfl rfl (Nat.le_of_ble_eq_true rfl) dX3_readSize_38 (Nat.le_refl _) (Nat.le_refl _) ?_
    obtain rfl := Option.some.inj hf
    exact h_vret rfl rfl rfl (Nat.le_refl _) (Nat.le_refl _) dX3_readSize_41
abbrev x_X3_readSeat (d : Nat) (S0 : hS) (args : List Value) (r : Int32 × hS) (cs : Nat → Nat) : hX := (((some .int), 3, d, 0, 0, false), (S0, args, some (.int r.1), r.2), cs)
theorem v_X3_readSeat : hVW yX3_readSeat cX3_readSeat 3 (some .int) RX3 0 := ⟨q_498, q_s8, q_6, q_499, by decide +kernel, by decide⟩
def f_X3_readSeat (a0 : Nat) (S : hS) : Option (Int32 × hS) :=
  hbd (gR S a0 3 1) fun t1 =>
  hbd (gR S t1 0 0) fun t3 =>
  hbd (gI S t3 6 0) fun t5 =>
  hck (S.K a0 = 4) <|
  hb2 (f_X3_readNumber a0 0 (t5 - 1) S) fun t9 S8 =>
  hbd (gR S8 a0 3 1) fun t10 =>
  hbd (gR S8 t10 0 0) fun t12 =>
  hbd (gI S8 t12 6 1) fun t14 =>
  hck (S8.K a0 = 4) <|
  hb2 (f_X3_readNumber a0 0 (t14 - 1) S8) fun t18 S17 =>
  hbd (gR S17 a0 3 0) fun t19 =>
  hck (S17.K t19 = 8) <|
  hb2 (f_X7_failed t19 S17) fun t23 S22 =>
  if t23 = 0 then
    (hbd (gR S22 a0 3 1) fun t25 =>
     hbd (gR S22 t25 0 0) fun t27 =>
     hck (S22.K t27 = 7) <|
     hb2 (f_X6_seatAt t27 t9 t18 S22) fun t31 S30 =>
     some (t31, S30))
  else
    (some ((-1), S22))
set_option maxRecDepth 100000 in
set_option maxHeartbeats 4000000 in
theorem m_X3_readSeat {d : Nat} {cs : Nat → Nat} {a0 : Nat} {S : hS} {r : Int32 × hS} (hd : 4 ≤ d) (hf : f_X3_readSeat a0 S = some r) : HM yX3_readSeat cX3_readSeat 3 (some .int) d 0 0 cs [.ref a0] S (some (.int r.1)) r.2 := by
  unfold f_X3_readSeat at hf
  refine HM.ofHW false (by decide) (fun h => by cases h) (Nat.le_of_ble_eq_true rfl) ?_
  show HW cX3_readSeat RX3 (x_X3_readSeat d S [.ref a0] r cs) 0 0 S 0 [(0, .ref a0)] []
  refine h_aload_n dX3_readSeat_0 rfl 0 rfl ?_
  refine h_iconst (v := 0) dX3_readSeat_1 rfl ?_
  refine h_aload_n dX3_readSeat_2 rfl 0 rfl ?_
  obtain ⟨t1, h2, hf⟩ := hbd_s hf
  refine h_getR h2 rfl (Nat.le_of_ble_eq_true rfl) rfl q_238 rfl dX3_readSeat_3 ?_
  obtain ⟨t3, h4, hf⟩ := hbd_s hf
  refine h_getRN (host := "DeafSpot") h4 rfl (Nat.le_of_ble_eq_true rfl) rfl (List.mem_of_getElem? (i := 49) rfl) rfl dX3_readSeat_6 ?_
  obtain ⟨t5, h6, hf⟩ := hbd_s hf
  refine h_getIN (host := "DeafSpot") h6 rfl (Nat.le_of_ble_eq_true rfl) rfl (List.mem_of_getElem? (i := 5) rfl) rfl dX3_readSeat_9 ?_
  refine h_iconst (v := 1) dX3_readSeat_12 rfl ?_
  refine h_isub dX3_readSeat_13 ?_
  obtain ⟨g35, hf⟩ := hck_s hf
  obtain ⟨t9, S8, h7, hf⟩ := hb2_s hf
  refine h_Vi [.int 0, .int (t5 - 1)] (rest := []) (m_X3_readNumber (d := 3) (cs := cs) (Nat.le_refl _) h7) v_X3_readNumber q_472 rfl (Nat.le_trans (by decide) hd) g35 rfl rfl (Nat.le_of_ble_eq_true rfl) dX3_readSeat_14 (Nat.le_refl _) (Nat.le_refl _) ?_
  refine h_istore_n (lv2 := [(1, .int t9), (0, .ref a0)]) dX3_readSeat_17 rfl (Nat.le_of_ble_eq_true rfl) rfl ?_
  refine h_aload_n dX3_readSeat_18 rfl 1 rfl ?_
  refine h_iconst (v := 0) dX3_readSeat_19 rfl ?_
  refine h_aload_n dX3_readSeat_20 rfl 1 rfl ?_
  obtain ⟨t10, h11, hf⟩ := hbd_s hf
  refine h_getR h11 rfl (Nat.le_of_ble_eq_true rfl) rfl q_238 rfl dX3_readSeat_21 ?_
  obtain ⟨t12, h13, hf⟩ := hbd_s hf
  refine h_getRN (host := "DeafSpot") h13 rfl (Nat.le_of_ble_eq_true rfl) rfl (List.mem_of_getElem? (i := 49) rfl) rfl dX3_readSeat_24 ?_
  obtain ⟨t14, h15, hf⟩ := hbd_s hf
  refine h_getIN (host := "DeafSpot") h15 rfl (Nat.le_of_ble_eq_true rfl) rfl (List.mem_of_getElem? (i := 8) rfl) rfl dX3_readSeat_27 ?_
  refine h_iconst (v := 1) dX3_readSeat_30 rfl ?_
  refine h_isub dX3_readSeat_31 ?_
  obtain ⟨g34, hf⟩ := hck_s hf
  obtain ⟨t18, S17, h16, hf⟩ := hb2_s hf
  refine h_Vi [.int 0, .int (t14 - 1)] (rest := []) (m_X3_readNumber (d := 3) (cs := cs) (Nat.le_refl _) h16) v_X3_readNumber q_472 rfl (Nat.le_trans (by decide) hd) g34 rfl rfl (Nat.le_of_ble_eq_true rfl) dX3_readSeat_32 (Nat.le_refl _) (Nat.le_refl _) ?_
  refine h_istore_n (lv2 := [(2, .int t18), (1, .int t9), (0, .ref a0)]) dX3_readSeat_35 rfl (Nat.le_of_ble_eq_true rfl) rfl ?_
  refine h_aload_n dX3_readSeat_36 rfl 2 rfl ?_
  obtain ⟨t19, h20, hf⟩ := hbd_s hf
  refine h_getR h20 rfl (Nat.le_of_ble_eq_true rfl) rfl q_237 rfl dX3_readSeat_37 ?_
  obtain ⟨g33, hf⟩ := hck_s hf
  obtain ⟨t23, S22, h21, hf⟩ := hb2_s hf
  refine h_Vi [] (rest := []) (m_X7_failed (d := 1) (cs := cs) (Nat.le_refl _) h21) v_X7_failed q_476 rfl (Nat.le_trans (by decide) hd) g33 rfl rfl (Nat.le_of_ble_eq_true rfl) dX3_readSeat_40 (Nat.le_refl _) (Nat.le_refl _) ?_
  refine h_if_eq (tgt := 50) dX3_readSeat_43 (by decide) (fun c24 => ?_) (fun c24 => ?_)
  · rw [if_pos c24] at hf
    refine h_aload_n dX3_readSeat_50 rfl 2 rfl ?_
    obtain ⟨t25, h26, hf⟩ := hbd_s hf
    refine h_getR h26 rfl (Nat.le_of_ble_eq_true rfl) rfl q_238 rfl dX3_readSeat_51 ?_
    obtain ⟨t27, h28, hf⟩ := hbd_s hf
    refine h_getRN (host := "DeafSpot") h28 rfl (Nat.le_of_ble_eq_true rfl) rfl (List.mem_of_getElem? (i := 49) rfl) rfl dX3_readSeat_54 ?_
    refine h_iload_n dX3_readSeat_57 rfl 1 rfl ?_
    refine h_iload_n dX3_readSeat_58 rfl 0 rfl ?_
    obtain ⟨g32, hf⟩ := hck_s hf
    obtain ⟨t31, S30, h29, hf⟩ := hb2_s hf
    refine h_Vi [.int t9, .int t18] (rest := []) (m_X6_seatAt (d := 1) (cs := cs) (Nat.le_refl _) h29) v_X6_seatAt q_500 rfl (Nat.le_trans (by decide) hd) g32 rfl rfl (Nat.le_of_ble_eq_true rfl) dX3_readSeat_59 (Nat.le_refl _) (Nat.le_refl _) ?_
    obtain rfl := Option.some.inj hf
    exact h_iret rfl rfl rfl (Nat.le_refl _) (Nat.le_refl _) dX3_readSeat_62
  · rw [if_neg c24] at hf
    refine h_iconst (v := (-1)) dX3_readSeat_46 rfl ?_
    refine h_goto (tgt := 62) dX3_readSeat_47 (by decide) ?_
    obtain rfl := Option.some.inj hf
    exact h_iret rfl rfl rfl (Nat.le_refl _) (Nat.le_refl _) dX3_readSeat_62
abbrev x_X4_worth (d : Nat) (S0 : hS) (args : List Value) (r : Int64 × hS) (cs : Nat → Nat) : hX := (((some .long), 6, d, 0, 0, false), (S0, args, some (.long r.1), r.2), cs)
theorem v_X4_worth : hVW yX4_worth cX4_worth 6 (some .long) RX4 3 := ⟨q_769, q_770, q_17, q_771, by decide +kernel, by decide⟩
def f_X4_worth_L6 : Nat → Nat → Nat → Int32 → Int32 → Int32 → Int32 → hS → (hS → Option (Int64 × hS)) → (Int32 → Int32 → hS → Option (Int64 × hS)) → Option (Int64 × hS)
  | 0, _, _, _, _, _, _, _, _, _ => none
  | n + 1, x0, x1, x2, x3, x4, x5, S, k0, k1 =>
    hbd (gR S x0 4 1) fun t1 =>
    hbd (gN S t1) fun t3 =>
    if t3 ≤ x5 then
      (k0 S)
    else
      (hbd (gR S x0 4 2) fun t6 =>
       hbd (gN S t6) fun t8 =>
       if t8 ≤ x5 then
         (k0 S)
       else
         (hbd (gR S x0 4 1) fun t11 =>
          hbd (gA S t11 12 x5) fun t13 =>
          hbd (gR S x0 4 2) fun t15 =>
          hbd (gA S t15 12 x5) fun t17 =>
          if t13 = t17 then
            (k1 x4 x5 S)
          else
            (hbd (gR S x0 4 1) fun t20 =>
             hbd (gA S t20 12 x5) fun t22 =>
             hbd (gR S x0 4 2) fun t24 =>
             hbd (gA S t24 12 x5) fun t26 =>
             hck (S.K x0 = 5) <|
             hb2 (f_X4_reckon x0 t22 t26 x1 x2 x3 S) fun t30 S29 =>
             if (lg_cmp t30 0) = 0 then
               (hbd (gR S29 x0 4 2) fun t32 =>
                hbd (gA S29 t32 12 x5) fun t34 =>
                f_X4_worth_L6 n x0 x1 x2 x3 t34 (x5 + 1) S29 k0 k1)
             else
               (k1 x4 x5 S29))))
def f_X4_worth (a0 : Nat) (a1 : Nat) (a2 : Int32) (a3 : Int32) (S : hS) : Option (Int64 × hS) :=
  f_X4_worth_L6 hfuel a0 a1 a2 a3 0 0 S
    (fun S37 =>
      some (0, S37)
    )
    (fun u38 u39 S40 =>
      hbd (gR S40 a0 4 1) fun t41 =>
      hbd (gA S40 t41 12 u39) fun t43 =>
      hck (S40.K a0 = 5) <|
      hb2 (f_X4_reckon a0 u38 t43 a1 a2 a3 S40) fun t47 S46 =>
      some (t47, S46)
    )
set_option maxRecDepth 100000 in
set_option maxHeartbeats 4000000 in
theorem w_X4_worth_L6 {d : Nat} {S0 : hS} {args : List Value} {cs : Nat → Nat} {r : Int64 × hS} (hd : 3 ≤ d) : ∀ (n : Nat) (x0 : Nat) (x1 : Nat) (x2 : Int32) (x3 : Int32) (x4 : Int32) (x5 : Int32) (S : hS) (k0 : (hS → Option (Int64 × hS))) (k1 : (Int32 → Int32 → hS → Option (Int64 × hS))) , f_X4_worth_L6 n x0 x1 x2 x3 x4 x5 S k0 k1 = some r → (∀ (T : hS), k0 T = some r → HW cX4_worth RX4 (x_X4_worth d S0 args r cs) 0 0 T 101 [] []) → (∀ (y4 : Int32) (y5 : Int32) (T : hS), k1 y4 y5 T = some r → HW cX4_worth RX4 (x_X4_worth d S0 args r cs) 0 0 T 69 [(0, .ref x0), (1, .ref x1), (2, .int x2), (3, .int x3), (4, .int y4), (5, .int y5)] []) → HW cX4_worth RX4 (x_X4_worth d S0 args r cs) 0 0 S 6 [(0, .ref x0), (1, .ref x1), (2, .int x2), (3, .int x3), (4, .int x4), (5, .int x5)] [] := by
  intro n
  induction n with
  | zero =>
    intro x0 x1 x2 x3 x4 x5 S k0 k1 hf
    cases hf
  | succ n ih =>
    intro x0 x1 x2 x3 x4 x5 S k0 k1 hf hk0 hk1
    rw [f_X4_worth_L6] at hf
    refine h_iload dX4_worth_6 5 rfl ?_
    refine h_aload_n dX4_worth_8 rfl 0 rfl ?_
    obtain ⟨t1, h2, hf⟩ := hbd_s hf
    refine h_getR h2 rfl (Nat.le_of_ble_eq_true rfl) rfl q_673 rfl dX4_worth_9 ?_
    obtain ⟨t3, h4, hf⟩ := hbd_s hf
    refine h_alen h4 dX4_worth_12 ?_
    refine h_icmp_ge (tgt := 101) dX4_worth_13 (by decide) (fun c5 => ?_) (fun c5 => ?_)
    · rw [if_pos c5] at hf
      refine h_sub (lv2 := []) [] rfl ?_
      exact hk0 S hf
    · rw [if_neg c5] at hf
      refine h_iload dX4_worth_16 5 rfl ?_
      refine h_aload_n dX4_worth_18 rfl 0 rfl ?_
      obtain ⟨t6, h7, hf⟩ := hbd_s hf
      refine h_getR h7 rfl (Nat.le_of_ble_eq_true rfl) rfl q_674 rfl dX4_worth_19 ?_
      obtain ⟨t8, h9, hf⟩ := hbd_s hf
      refine h_alen h9 dX4_worth_22 ?_
      refine h_icmp_ge (tgt := 101) dX4_worth_23 (by decide) (fun c10 => ?_) (fun c10 => ?_)
      · rw [if_pos c10] at hf
        refine h_sub (lv2 := []) [] rfl ?_
        exact hk0 S hf
      · rw [if_neg c10] at hf
        refine h_aload_n dX4_worth_26 rfl 0 rfl ?_
        obtain ⟨t11, h12, hf⟩ := hbd_s hf
        refine h_getR h12 rfl (Nat.le_of_ble_eq_true rfl) rfl q_673 rfl dX4_worth_27 ?_
        refine h_iload dX4_worth_30 5 rfl ?_
        obtain ⟨t13, h14, hf⟩ := hbd_s hf
        refine h_iald h14 dX4_worth_32 ?_
        refine h_aload_n dX4_worth_33 rfl 0 rfl ?_
        obtain ⟨t15, h16, hf⟩ := hbd_s hf
        refine h_getR h16 rfl (Nat.le_of_ble_eq_true rfl) rfl q_674 rfl dX4_worth_34 ?_
        refine h_iload dX4_worth_37 5 rfl ?_
        obtain ⟨t17, h18, hf⟩ := hbd_s hf
        refine h_iald h18 dX4_worth_39 ?_
        refine h_icmp_eq (tgt := 69) dX4_worth_40 (by decide) (fun c19 => ?_) (fun c19 => ?_)
        · rw [if_pos c19] at hf
          exact hk1 x4 x5 S hf
        · rw [if_neg c19] at hf
          refine h_aload_n dX4_worth_43 rfl 0 rfl ?_
          refine h_aload_n dX4_worth_44 rfl 0 rfl ?_
          obtain ⟨t20, h21, hf⟩ := hbd_s hf
          refine h_getR h21 rfl (Nat.le_of_ble_eq_true rfl) rfl q_673 rfl dX4_worth_45 ?_
          refine h_iload dX4_worth_48 5 rfl ?_
          obtain ⟨t22, h23, hf⟩ := hbd_s hf
          refine h_iald h23 dX4_worth_50 ?_
          refine h_aload_n dX4_worth_51 rfl 0 rfl ?_
          obtain ⟨t24, h25, hf⟩ := hbd_s hf
          refine h_getR h25 rfl (Nat.le_of_ble_eq_true rfl) rfl q_674 rfl dX4_worth_52 ?_
          refine h_iload dX4_worth_55 5 rfl ?_
          obtain ⟨t26, h27, hf⟩ := hbd_s hf
          refine h_iald h27 dX4_worth_57 ?_
          refine h_aload_n dX4_worth_58 rfl 1 rfl ?_
          refine h_iload_n dX4_worth_59 rfl 2 rfl ?_
          refine h_iload_n dX4_worth_60 rfl 3 rfl ?_
          obtain ⟨g36, hf⟩ := hck_s hf
          obtain ⟨t30, S29, h28, hf⟩ := hb2_s hf
          refine h_Vl [.int t22, .int t26, .ref x1, .int x2, .int x3] (rest := []) (m_X4_reckon (d := 2) (cs := cs) (Nat.le_refl _) h28) v_X4_reckon q_772 rfl (Nat.le_trans (by decide) hd) g36 rfl rfl (Nat.le_of_ble_eq_true rfl) dX4_worth_61 (Nat.le_refl _) (Nat.le_refl _) ?_
          refine h_lconst (v := 0) dX4_worth_64 rfl ?_
          refine h_lcmp dX4_worth_65 ?_
          refine h_if_eq (tgt := 86) dX4_worth_66 (by decide) (fun c31 => ?_) (fun c31 => ?_)
          · rw [if_pos c31] at hf
            refine h_aload_n dX4_worth_86 rfl 0 rfl ?_
            obtain ⟨t32, h33, hf⟩ := hbd_s hf
            refine h_getR h33 rfl (Nat.le_of_ble_eq_true rfl) rfl q_674 rfl dX4_worth_87 ?_
            refine h_iload dX4_worth_90 5 rfl ?_
            obtain ⟨t34, h35, hf⟩ := hbd_s hf
            refine h_iald h35 dX4_worth_92 ?_
            refine h_istore (lv2 := [(4, .int t34), (0, .ref x0), (1, .ref x1), (2, .int x2), (3, .int x3), (5, .int x5)]) dX4_worth_93 (Nat.le_of_ble_eq_true rfl) rfl ?_
            refine h_iinc (q := 5) (v := x5 + 1) (lv2 := [(5, .int (x5 + 1)), (4, .int t34), (0, .ref x0), (1, .ref x1), (2, .int x2), (3, .int x3)]) dX4_worth_95 rfl rfl (Nat.le_of_ble_eq_true rfl) rfl ?_
            refine h_goto (tgt := 6) dX4_worth_98 (by decide) ?_
            refine h_sub (lv2 := [(0, .ref x0), (1, .ref x1), (2, .int x2), (3, .int x3), (4, .int t34), (5, .int (x5 + 1))]) [2, 3, 4, 5, 1, 0] rfl ?_
            exact ih x0 x1 x2 x3 t34 (x5 + 1) S29 k0 k1  hf hk0 hk1
          · rw [if_neg c31] at hf
            exact hk1 x4 x5 S29 hf
set_option maxRecDepth 100000 in
set_option maxHeartbeats 4000000 in
theorem m_X4_worth {d : Nat} {cs : Nat → Nat} {a0 : Nat} {a1 : Nat} {a2 : Int32} {a3 : Int32} {S : hS} {r : Int64 × hS} (hd : 3 ≤ d) (hf : f_X4_worth a0 a1 a2 a3 S = some r) : HM yX4_worth cX4_worth 6 (some .long) d 0 0 cs [.ref a0, .ref a1, .int a2, .int a3] S (some (.long r.1)) r.2 := by
  unfold f_X4_worth at hf
  refine HM.ofHW false (by decide) (fun h => by cases h) (Nat.le_of_ble_eq_true rfl) ?_
  show HW cX4_worth RX4 (x_X4_worth d S [.ref a0, .ref a1, .int a2, .int a3] r cs) 0 0 S 0 [(0, .ref a0), (1, .ref a1), (2, .int a2), (3, .int a3)] []
  refine h_iconst (v := 0) dX4_worth_0 rfl ?_
  refine h_istore (lv2 := [(4, .int 0), (0, .ref a0), (1, .ref a1), (2, .int a2), (3, .int a3)]) dX4_worth_1 (Nat.le_of_ble_eq_true rfl) rfl ?_
  refine h_iconst (v := 0) dX4_worth_3 rfl ?_
  refine h_istore (lv2 := [(5, .int 0), (4, .int 0), (0, .ref a0), (1, .ref a1), (2, .int a2), (3, .int a3)]) dX4_worth_4 (Nat.le_of_ble_eq_true rfl) rfl ?_
  refine h_sub (lv2 := [(0, .ref a0), (1, .ref a1), (2, .int a2), (3, .int a3), (4, .int 0), (5, .int 0)]) [2, 3, 4, 5, 1, 0] rfl ?_
  refine w_X4_worth_L6 hd hfuel a0 a1 a2 a3 0 0 S _ _  hf ?_ ?_
  · intro S37 hf
    refine h_lconst (v := 0) dX4_worth_101 rfl ?_
    obtain rfl := Option.some.inj hf
    exact h_lret rfl rfl rfl (Nat.le_refl _) (Nat.le_refl _) dX4_worth_102
  · intro u38 u39 S40 hf
    refine h_aload_n dX4_worth_69 rfl 0 rfl ?_
    refine h_iload dX4_worth_70 4 rfl ?_
    refine h_aload_n dX4_worth_72 rfl 0 rfl ?_
    obtain ⟨t41, h42, hf⟩ := hbd_s hf
    refine h_getR h42 rfl (Nat.le_of_ble_eq_true rfl) rfl q_673 rfl dX4_worth_73 ?_
    refine h_iload dX4_worth_76 5 rfl ?_
    obtain ⟨t43, h44, hf⟩ := hbd_s hf
    refine h_iald h44 dX4_worth_78 ?_
    refine h_aload_n dX4_worth_79 rfl 1 rfl ?_
    refine h_iload_n dX4_worth_80 rfl 2 rfl ?_
    refine h_iload_n dX4_worth_81 rfl 3 rfl ?_
    obtain ⟨g48, hf⟩ := hck_s hf
    obtain ⟨t47, S46, h45, hf⟩ := hb2_s hf
    refine h_Vl [.int u38, .int t43, .ref a1, .int a2, .int a3] (rest := []) (m_X4_reckon (d := 2) (cs := cs) (Nat.le_refl _) h45) v_X4_reckon q_772 rfl (Nat.le_trans (by decide) hd) g48 rfl rfl (Nat.le_of_ble_eq_true rfl) dX4_worth_82 (Nat.le_refl _) (Nat.le_refl _) ?_
    obtain rfl := Option.some.inj hf
    exact h_lret rfl rfl rfl (Nat.le_refl _) (Nat.le_refl _) dX4_worth_85
