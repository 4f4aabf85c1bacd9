abbrev x_X9_value (d : Nat) (S0 : hS) (args : List Value) (r : hS) (cs : Nat → Nat) : hX := ((none, 3, d, 0, 0, false), (S0, args, none, r), cs)
theorem v_X9_value : hVW yX9_value cX9_value 3 none RX9 0 := ⟨q_1266, q_s53, q_9, q_1267, by decide +kernel, by decide⟩
def f_X9_value_L37 : Nat → Nat → Int32 → hS → (Int32 → hS → Option (hS)) → Option (hS)
  | 0, _, _, _, _ => none
  | n + 1, x0, x2, S, k0 =>
    hbd (gI S x0 9 32) fun t1 =>
    if t1 ≤ x2 then
      (k0 x2 S)
    else
      (hb2 (f_X9_wordOf x2 S) fun t6 S5 =>
       hck (S5.K x0 = 10) <|
       hb2 (f_X9_stood x0 t6 S5) fun t9 S8 =>
       if t9 = 0 then
         (f_X9_value_L37 n x0 (x2 + 1) S8 k0)
       else
         (k0 x2 S8))
def f_X9_value (a0 : Nat) (S : hS) : Option (hS) :=
  hck (S.K a0 = 10) <|
  hbd (f_X9_blanks a0 S) fun S13 =>
  hbd (gI S13 a0 9 24) fun t14 =>
  hck (S13.K a0 = 10) <|
  hb2 (f_X9_isDigit a0 S13) fun t18 S17 =>
  if t18 = 0 then
    (f_X9_value_L37 hfuel a0 0 S17
       (fun u20 S21 =>
         hbd (gI S21 a0 9 32) fun t22 =>
         if u20 = t22 then
           (hck (S21.K a0 = 10) <|
            hbd (f_X9_fails a0 0 t14 S21) fun S41 =>
            some S41)
         else
           (hck (S21.K a0 = 10) <|
            hbd (f_X9_isCounted a0 t14 S21) fun S26 =>
            hbd (gI S26 a0 9 24) fun t27 =>
            hb2 (f_X9_wordOf u20 S26) fun t31 S30 =>
            hbd (gTL t31) fun t32 =>
            hbd (sI S30 a0 9 24 (t27 + t32)) fun S34 =>
            hck (S34.K a0 = 10) <|
            hbd (f_X9_entry a0 1 u20 S34) fun S37 =>
            some S37)
       ))
  else
    (hck (S17.K a0 = 10) <|
     hb2 (f_X9_digits a0 99999 S17) fun t45 S44 =>
     hck (S44.K a0 = 10) <|
     hbd (f_X9_isCounted a0 t14 S44) fun S47 =>
     hck (S47.K a0 = 10) <|
     hbd (f_X9_entry a0 0 t45 S47) fun S49 =>
     some S49)
set_option maxRecDepth 100000 in
set_option maxHeartbeats 4000000 in
theorem w_X9_value_L37 {d : Nat} {S0 : hS} {args : List Value} {cs : Nat → Nat} {r : hS} (hd : 6 ≤ d) : ∀ (n : Nat) (x0 : Nat) (x2 : Int32) (S : hS) (k0 : (Int32 → hS → Option (hS))) (z1 : Int32), f_X9_value_L37 n x0 x2 S k0 = some r → (∀ (y2 : Int32) (T : hS), k0 y2 T = some r → HW cX9_value RX9 (x_X9_value d S0 args r cs) 0 0 T 62 [(0, .ref x0), (1, .int z1), (2, .int y2)] []) → HW cX9_value RX9 (x_X9_value d S0 args r cs) 0 0 S 37 [(0, .ref x0), (1, .int z1), (2, .int x2)] [] := by
  intro n
  induction n with
  | zero =>
    intro x0 x2 S k0 z1 hf
    cases hf
  | succ n ih =>
    intro x0 x2 S k0 z1 hf hk0
    rw [f_X9_value_L37] at hf
    refine h_iload_n dX9_value_37 rfl 2 rfl ?_
    refine h_aload_n dX9_value_38 rfl 0 rfl ?_
    obtain ⟨t1, h2, hf⟩ := hbd_s hf
    refine h_getI h2 rfl (Nat.le_of_ble_eq_true rfl) rfl q_992 rfl dX9_value_39 ?_
    refine h_icmp_ge (tgt := 62) dX9_value_42 (by decide) (fun c3 => ?_) (fun c3 => ?_)
    · rw [if_pos c3] at hf
      exact hk0 x2 S hf
    · rw [if_neg c3] at hf
      refine h_aload_n dX9_value_45 rfl 0 rfl ?_
      refine h_iload_n dX9_value_46 rfl 2 rfl ?_
      obtain ⟨t6, S5, h4, hf⟩ := hb2_s hf
      refine h_Sr [.int x2] (rest := [.ref x0]) (m_X9_wordOf (d := 1) (cs := cs) (Nat.le_refl _) h4) v_X9_wordOf q_1276 rfl (Nat.le_trans (by decide) hd) rfl (Nat.le_of_ble_eq_true rfl) dX9_value_47 (Nat.le_refl _) (Nat.le_refl _) ?_
      obtain ⟨g11, hf⟩ := hck_s hf
      obtain ⟨t9, S8, h7, hf⟩ := hb2_s hf
      refine h_Vi [.ref (cs t6)] (rest := []) (m_X9_stood (d := 5) (cs := cs) (Nat.le_refl _) h7) v_X9_stood q_1192 rfl (Nat.le_trans (by decide) hd) g11 rfl rfl (Nat.le_of_ble_eq_true rfl) dX9_value_50 (Nat.le_refl _) (Nat.le_refl _) ?_
      refine h_if_ne (tgt := 62) dX9_value_53 (by decide) (fun c10 => ?_) (fun c10 => ?_)
      · rw [if_neg c10] at hf
        exact hk0 x2 S8 hf
      · rw [if_pos c10] at hf
        refine h_iinc (q := 2) (v := x2 + 1) (lv2 := [(2, .int (x2 + 1)), (0, .ref x0), (1, .int z1)]) dX9_value_56 rfl rfl (Nat.le_of_ble_eq_true rfl) rfl ?_
        refine h_goto (tgt := 37) dX9_value_59 (by decide) ?_
        refine h_sub (lv2 := [(0, .ref x0), (1, .int z1), (2, .int (x2 + 1))]) [1, 2, 0] rfl ?_
        exact ih x0 (x2 + 1) S8 k0 z1 hf hk0
set_option maxRecDepth 100000 in
set_option maxHeartbeats 4000000 in
theorem m_X9_value {d : Nat} {cs : Nat → Nat} {a0 : Nat} {S : hS} {r : hS} (hd : 6 ≤ d) (hf : f_X9_value a0 S = some r) : HM yX9_value cX9_value 3 none d 0 0 cs [.ref a0] S (none) r := by
  unfold f_X9_value at hf
  refine HM.ofHW false (by decide) (fun h => by cases h) (Nat.le_of_ble_eq_true rfl) ?_
  show HW cX9_value RX9 (x_X9_value d S [.ref a0] r cs) 0 0 S 0 [(0, .ref a0)] []
  refine h_aload_n dX9_value_0 rfl 0 rfl ?_
  obtain ⟨g54, hf⟩ := hck_s hf
  obtain ⟨S13, h12, hf⟩ := hbd_s hf
  refine h_Vv [] (rest := []) (m_X9_blanks (d := 2) (cs := cs) (Nat.le_refl _) h12) v_X9_blanks q_1175 rfl (Nat.le_trans (by decide) hd) g54 rfl rfl (Nat.le_of_ble_eq_true rfl) dX9_value_1 (Nat.le_refl _) (Nat.le_refl _) ?_
  refine h_aload_n dX9_value_4 rfl 0 rfl ?_
  obtain ⟨t14, h15, hf⟩ := hbd_s hf
  refine h_getI h15 rfl (Nat.le_of_ble_eq_true rfl) rfl q_984 rfl dX9_value_5 ?_
  refine h_istore_n (lv2 := [(1, .int t14), (0, .ref a0)]) dX9_value_8 rfl (Nat.le_of_ble_eq_true rfl) rfl ?_
  refine h_aload_n dX9_value_9 rfl 1 rfl ?_
  obtain ⟨g53, hf⟩ := hck_s hf
  obtain ⟨t18, S17, h16, hf⟩ := hb2_s hf
  refine h_Vi [] (rest := []) (m_X9_isDigit (d := 2) (cs := cs) (Nat.le_refl _) h16) v_X9_isDigit q_1219 rfl (Nat.le_trans (by decide) hd) g53 rfl rfl (Nat.le_of_ble_eq_true rfl) dX9_value_10 (Nat.le_refl _) (Nat.le_refl _) ?_
  refine h_if_eq (tgt := 35) dX9_value_13 (by decide) (fun c19 => ?_) (fun c19 => ?_)
  · rw [if_pos c19] at hf
    refine h_iconst (v := 0) dX9_value_35 rfl ?_
    refine h_istore_n (lv2 := [(2, .int 0), (1, .int t14), (0, .ref a0)]) dX9_value_36 rfl (Nat.le_of_ble_eq_true rfl) rfl ?_
    refine h_sub (lv2 := [(0, .ref a0), (1, .int t14), (2, .int 0)]) [2, 1, 0] rfl ?_
    refine w_X9_value_L37 hd hfuel a0 0 S17 _ t14 hf ?_
    · intro u20 S21 hf
      refine h_iload_n dX9_value_62 rfl 2 rfl ?_
      refine h_aload_n dX9_value_63 rfl 0 rfl ?_
      obtain ⟨t22, h23, hf⟩ := hbd_s hf
      refine h_getI h23 rfl (Nat.le_of_ble_eq_true rfl) rfl q_992 rfl dX9_value_64 ?_
      refine h_icmp_ne (tgt := 77) dX9_value_67 (by decide) (fun c24 => ?_) (fun c24 => ?_)
      · rw [if_neg c24] at hf
        refine h_aload_n dX9_value_77 rfl 0 rfl ?_
        refine h_iload_n dX9_value_78 rfl 1 rfl ?_
        obtain ⟨g39, hf⟩ := hck_s hf
        obtain ⟨S26, h25, hf⟩ := hbd_s hf
        refine h_Vv [.int t14] (rest := []) (m_X9_isCounted (d := 2) (cs := cs) (Nat.le_refl _) h25) v_X9_isCounted q_1268 rfl (Nat.le_trans (by decide) hd) g39 rfl rfl (Nat.le_of_ble_eq_true rfl) dX9_value_79 (Nat.le_refl _) (Nat.le_refl _) ?_
        refine h_aload_n dX9_value_82 rfl 0 rfl ?_
        refine h_dup dX9_value_83 rfl ?_
        obtain ⟨t27, h28, hf⟩ := hbd_s hf
        refine h_getI h28 rfl (Nat.le_of_ble_eq_true rfl) rfl q_984 rfl dX9_value_84 ?_
        refine h_iload_n dX9_value_87 rfl 2 rfl ?_
        obtain ⟨t31, S30, h29, hf⟩ := hb2_s hf
        refine h_Sr [.int u20] (rest := [.int t27, .ref a0]) (m_X9_wordOf (d := 1) (cs := cs) (Nat.le_refl _) h29) v_X9_wordOf q_1276 rfl (Nat.le_trans (by decide) hd) rfl (Nat.le_of_ble_eq_true rfl) dX9_value_88 (Nat.le_refl _) (Nat.le_refl _) ?_
        obtain ⟨t32, h33, hf⟩ := hbd_s hf
        refine h_Ti [] (rest := [.int t27, .ref a0]) (m_J0_length_8abf5 (d := 2) (cs := cs) (Nat.le_refl _) h33) v_J0_length_8abf5 (gTL_s h33).1 q_1196 rfl (Nat.le_trans (by decide) hd) rfl (Nat.le_of_ble_eq_true rfl) dX9_value_91 (Nat.le_refl _) (Nat.le_refl _) ?_
        refine h_iadd dX9_value_94 ?_
        obtain ⟨S34, h35, hf⟩ := hbd_s hf
        refine h_putI h35 rfl (Nat.le_of_ble_eq_true rfl) rfl q_984 rfl rfl (by decide +kernel) dX9_value_95 ?_
        refine h_aload_n dX9_value_98 rfl 0 rfl ?_
        refine h_iconst (v := 1) dX9_value_99 rfl ?_
        refine h_iload_n dX9_value_100 rfl 2 rfl ?_
        obtain ⟨g38, hf⟩ := hck_s hf
        obtain ⟨S37, h36, hf⟩ := hbd_s hf
        refine h_Vv [.int 1, .int u20] (rest := []) (m_X9_entry (d := 1) (cs := cs) (Nat.le_refl _) h36) v_X9_entry q_1272 rfl (Nat.le_trans (by decide) hd) g38 rfl rfl (Nat.le_of_ble_eq_true rfl) dX9_value_101 (Nat.le_refl _) (Nat.le_refl _) ?_
        obtain rfl := Option.some.inj hf
        exact h_vret rfl rfl rfl (Nat.le_refl _) (Nat.le_refl _) dX9_value_104
      · rw [if_pos c24] at hf
        refine h_aload_n dX9_value_70 rfl 0 rfl ?_
        refine h_iconst (v := 0) dX9_value_71 rfl ?_
        refine h_iload_n dX9_value_72 rfl 1 rfl ?_
        obtain ⟨g42, hf⟩ := hck_s hf
        obtain ⟨S41, h40, hf⟩ := hbd_s hf
        refine h_Vv [.int 0, .int t14] (rest := []) (m_X9_fails (d := 1) (cs := cs) (Nat.le_refl _) h40) v_X9_fails q_1198 rfl (Nat.le_trans (by decide) hd) g42 rfl rfl (Nat.le_of_ble_eq_true rfl) dX9_value_73 (Nat.le_refl _) (Nat.le_refl _) ?_
        obtain rfl := Option.some.inj hf
        exact h_vret rfl rfl rfl (Nat.le_refl _) (Nat.le_refl _) dX9_value_76
  · rw [if_neg c19] at hf
    refine h_aload_n dX9_value_16 rfl 1 rfl ?_
    refine h_ldc (v := 99999) dX9_value_17 q_1214 ?_
    obtain ⟨g52, hf⟩ := hck_s hf
    obtain ⟨t45, S44, h43, hf⟩ := hb2_s hf
    refine h_Vi [.int 99999] (rest := []) (m_X9_digits (d := 3) (cs := cs) (Nat.le_refl _) h43) v_X9_digits q_1215 rfl (Nat.le_trans (by decide) hd) g52 rfl rfl (Nat.le_of_ble_eq_true rfl) dX9_value_19 (Nat.le_refl _) (Nat.le_refl _) ?_
    refine h_istore_n (lv2 := [(2, .int t45), (1, .int t14), (0, .ref a0)]) dX9_value_22 rfl (Nat.le_of_ble_eq_true rfl) rfl ?_
    refine h_aload_n dX9_value_23 rfl 2 rfl ?_
    refine h_iload_n dX9_value_24 rfl 1 rfl ?_
    obtain ⟨g51, hf⟩ := hck_s hf
    obtain ⟨S47, h46, hf⟩ := hbd_s hf
    refine h_Vv [.int t14] (rest := []) (m_X9_isCounted (d := 2) (cs := cs) (Nat.le_refl _) h46) v_X9_isCounted q_1268 rfl (Nat.le_trans (by decide) hd) g51 rfl rfl (Nat.le_of_ble_eq_true rfl) dX9_value_25 (Nat.le_refl _) (Nat.le_refl _) ?_
    refine h_aload_n dX9_value_28 rfl 2 rfl ?_
    refine h_iconst (v := 0) dX9_value_29 rfl ?_
    refine h_iload_n dX9_value_30 rfl 0 rfl ?_
    obtain ⟨g50, hf⟩ := hck_s hf
    obtain ⟨S49, h48, hf⟩ := hbd_s hf
    refine h_Vv [.int 0, .int t45] (rest := []) (m_X9_entry (d := 1) (cs := cs) (Nat.le_refl _) h48) v_X9_entry q_1272 rfl (Nat.le_trans (by decide) hd) g50 rfl rfl (Nat.le_of_ble_eq_true rfl) dX9_value_31 (Nat.le_refl _) (Nat.le_refl _) ?_
    obtain rfl := Option.some.inj hf
    exact h_vret rfl rfl rfl (Nat.le_refl _) (Nat.le_refl _) dX9_value_34
abbrev x_X9_term (d : Nat) (S0 : hS) (args : List Value) (r : hS) (cs : Nat → Nat) : hX := ((none, 2, d, 0, 0, false), (S0, args, none, r), cs)
theorem v_X9_term : hVW yX9_term cX9_term 2 none RX9 0 := ⟨q_1262, q_s52, q_9, q_1263, by decide +kernel, by decide⟩
def f_X9_term_L8 : Nat → Nat → hS → (hS → Option (hS)) → Option (hS)
  | 0, _, _, _ => none
  | n + 1, x0, S, k0 =>
    hbd (gI S x0 9 25) fun t1 =>
    if t1 = 0 then
      (hck (S.K x0 = 10) <|
       hb2 (f_X9_sign x0 S) fun t6 S5 =>
       hj (γ := hS → Option (hS)) (fun (S8 : hS) =>
         hck (S8.K x0 = 10) <|
         hb2 (f_X9_sign x0 S8) fun t11 S10 =>
         hj (γ := Int32 → hS → Option (hS)) (fun (v13 : Int32) (S14 : hS) =>
           hbd (gI S14 x0 9 24) fun t15 =>
           hbd (sI S14 x0 9 24 (t15 + 1)) fun S17 =>
           hck (S17.K x0 = 10) <|
           hbd (f_X9_value x0 S17) fun S20 =>
           hck (S20.K x0 = 10) <|
           hbd (f_X9_entry x0 v13 0 S20) fun S22 =>
           hck (S22.K x0 = 10) <|
           hbd (f_X9_blanks x0 S22) fun S24 =>
           f_X9_term_L8 n x0 S24 k0
           ) fun J12 =>
         if t11 = 42 then
           (J12 13 S10)
         else
           (hck (S10.K x0 = 10) <|
            hb2 (f_X9_sign x0 S10) fun t31 S30 =>
            if t31 = 47 then
              (J12 14 S30)
            else
              (J12 15 S30))
         ) fun J7 =>
       if t6 = 42 then
         (J7 S5)
       else
         (hck (S5.K x0 = 10) <|
          hb2 (f_X9_sign x0 S5) fun t38 S37 =>
          if t38 = 47 then
            (J7 S37)
          else
            (hck (S37.K x0 = 10) <|
             hb2 (f_X9_sign x0 S37) fun t42 S41 =>
             if t42 = 37 then
               (J7 S41)
             else
               (k0 S41))))
    else
      (k0 S)
def f_X9_term (a0 : Nat) (S : hS) : Option (hS) :=
  hck (S.K a0 = 10) <|
  hbd (f_X9_value a0 S) fun S48 =>
  hck (S48.K a0 = 10) <|
  hbd (f_X9_blanks a0 S48) fun S50 =>
  f_X9_term_L8 hfuel a0 S50
    (fun S51 =>
      some S51
    )
set_option maxRecDepth 100000 in
set_option maxHeartbeats 4000000 in
theorem w_X9_term_L8 {d : Nat} {S0 : hS} {args : List Value} {cs : Nat → Nat} {r : hS} (hd : 7 ≤ d) : ∀ (n : Nat) (x0 : Nat) (S : hS) (k0 : (hS → Option (hS))) , f_X9_term_L8 n x0 S k0 = some r → (∀ (T : hS), k0 T = some r → HW cX9_term RX9 (x_X9_term d S0 args r cs) 0 0 T 100 [] []) → HW cX9_term RX9 (x_X9_term d S0 args r cs) 0 0 S 8 [(0, .ref x0)] [] := by
  intro n
  induction n with
  | zero =>
    intro x0 S k0 hf
    cases hf
  | succ n ih =>
    intro x0 S k0 hf hk0
    rw [f_X9_term_L8] at hf
    refine h_aload_n dX9_term_8 rfl 0 rfl ?_
    obtain ⟨t1, h2, hf⟩ := hbd_s hf
    refine h_getI h2 rfl (Nat.le_of_ble_eq_true rfl) rfl q_985 rfl dX9_term_9 ?_
    refine h_if_ne (tgt := 100) dX9_term_12 (by decide) (fun c3 => ?_) (fun c3 => ?_)
    · rw [if_neg c3] at hf
      refine h_sub (lv2 := []) [] rfl ?_
      exact hk0 S hf
    · rw [if_pos c3] at hf
      refine h_aload_n dX9_term_15 rfl 0 rfl ?_
      obtain ⟨g46, hf⟩ := hck_s hf
      obtain ⟨t6, S5, h4, hf⟩ := hb2_s hf
      refine h_Vi [] (rest := []) (m_X9_sign (d := 1) (cs := cs) (Nat.le_refl _) h4) v_X9_sign q_1179 rfl (Nat.le_trans (by decide) hd) g46 rfl rfl (Nat.le_of_ble_eq_true rfl) dX9_term_16 (Nat.le_refl _) (Nat.le_refl _) ?_
      refine h_bipush (v := 42) dX9_term_19 rfl ?_
      refine hj_s (fun J7 => ∀ (S8 : hS), J7 S8 = some r → HW cX9_term RX9 (x_X9_term d S0 args r cs) 0 0 S8 42 [(0, .ref x0)] []) hf ?_ ?_
      · intro S8 hf
        refine h_aload_n dX9_term_42 rfl 0 rfl ?_
        obtain ⟨g34, hf⟩ := hck_s hf
        obtain ⟨t11, S10, h9, hf⟩ := hb2_s hf
        refine h_Vi [] (rest := []) (m_X9_sign (d := 1) (cs := cs) (Nat.le_refl _) h9) v_X9_sign q_1179 rfl (Nat.le_trans (by decide) hd) g34 rfl rfl (Nat.le_of_ble_eq_true rfl) dX9_term_43 (Nat.le_refl _) (Nat.le_refl _) ?_
        refine h_bipush (v := 42) dX9_term_46 rfl ?_
        refine hj_s (fun J12 => ∀ (v13 : Int32) (S14 : hS), J12 v13 S14 = some r → HW cX9_term RX9 (x_X9_term d S0 args r cs) 0 0 S14 72 [(0, .ref x0)] [.int v13]) hf ?_ ?_
        · intro v13 S14 hf
          refine h_istore_n (lv2 := [(1, .int v13), (0, .ref x0)]) dX9_term_72 rfl (Nat.le_of_ble_eq_true rfl) rfl ?_
          refine h_aload_n dX9_term_73 rfl 1 rfl ?_
          refine h_dup dX9_term_74 rfl ?_
          obtain ⟨t15, h16, hf⟩ := hbd_s hf
          refine h_getI h16 rfl (Nat.le_of_ble_eq_true rfl) rfl q_984 rfl dX9_term_75 ?_
          refine h_iconst (v := 1) dX9_term_78 rfl ?_
          refine h_iadd dX9_term_79 ?_
          obtain ⟨S17, h18, hf⟩ := hbd_s hf
          refine h_putI h18 rfl (Nat.le_of_ble_eq_true rfl) rfl q_984 rfl rfl (by decide +kernel) dX9_term_80 ?_
          refine h_aload_n dX9_term_83 rfl 1 rfl ?_
          obtain ⟨g27, hf⟩ := hck_s hf
          obtain ⟨S20, h19, hf⟩ := hbd_s hf
          refine h_Vv [] (rest := []) (m_X9_value (d := 6) (cs := cs) (Nat.le_refl _) h19) v_X9_value q_1264 rfl (Nat.le_trans (by decide) hd) g27 rfl rfl (Nat.le_of_ble_eq_true rfl) dX9_term_84 (Nat.le_refl _) (Nat.le_refl _) ?_
          refine h_aload_n dX9_term_87 rfl 1 rfl ?_
          refine h_iload_n dX9_term_88 rfl 0 rfl ?_
          refine h_iconst (v := 0) dX9_term_89 rfl ?_
          obtain ⟨g26, hf⟩ := hck_s hf
          obtain ⟨S22, h21, hf⟩ := hbd_s hf
          refine h_Vv [.int v13, .int 0] (rest := []) (m_X9_entry (d := 1) (cs := cs) (Nat.le_refl _) h21) v_X9_entry q_1272 rfl (Nat.le_trans (by decide) hd) g26 rfl rfl (Nat.le_of_ble_eq_true rfl) dX9_term_90 (Nat.le_refl _) (Nat.le_refl _) ?_
          refine h_aload_n dX9_term_93 rfl 1 rfl ?_
          obtain ⟨g25, hf⟩ := hck_s hf
          obtain ⟨S24, h23, hf⟩ := hbd_s hf
          refine h_Vv [] (rest := []) (m_X9_blanks (d := 2) (cs := cs) (Nat.le_refl _) h23) v_X9_blanks q_1175 rfl (Nat.le_trans (by decide) hd) g25 rfl rfl (Nat.le_of_ble_eq_true rfl) dX9_term_94 (Nat.le_refl _) (Nat.le_refl _) ?_
          refine h_goto (tgt := 8) dX9_term_97 (by decide) ?_
          refine h_sub (lv2 := [(0, .ref x0)]) [1] rfl ?_
          exact ih x0 S24 k0  hf hk0
        · intro J12 hJ12 hf
          refine h_icmp_ne (tgt := 56) dX9_term_48 (by decide) (fun c28 => ?_) (fun c28 => ?_)
          · rw [if_neg c28] at hf
            refine h_aload_n dX9_term_56 rfl 0 rfl ?_
            obtain ⟨g33, hf⟩ := hck_s hf
            obtain ⟨t31, S30, h29, hf⟩ := hb2_s hf
            refine h_Vi [] (rest := []) (m_X9_sign (d := 1) (cs := cs) (Nat.le_refl _) h29) v_X9_sign q_1179 rfl (Nat.le_trans (by decide) hd) g33 rfl rfl (Nat.le_of_ble_eq_true rfl) dX9_term_57 (Nat.le_refl _) (Nat.le_refl _) ?_
            refine h_bipush (v := 47) dX9_term_60 rfl ?_
            refine h_icmp_ne (tgt := 70) dX9_term_62 (by decide) (fun c32 => ?_) (fun c32 => ?_)
            · rw [if_neg c32] at hf
              refine h_bipush (v := 15) dX9_term_70 rfl ?_
              exact hJ12 15 S30 hf
            · rw [if_pos c32] at hf
              refine h_bipush (v := 14) dX9_term_65 rfl ?_
              refine h_goto (tgt := 72) dX9_term_67 (by decide) ?_
              exact hJ12 14 S30 hf
          · rw [if_pos c28] at hf
            refine h_bipush (v := 13) dX9_term_51 rfl ?_
            refine h_goto (tgt := 72) dX9_term_53 (by decide) ?_
            exact hJ12 13 S10 hf
      · intro J7 hJ7 hf
        refine h_icmp_eq (tgt := 42) dX9_term_21 (by decide) (fun c35 => ?_) (fun c35 => ?_)
        · rw [if_pos c35] at hf
          exact hJ7 S5 hf
        · rw [if_neg c35] at hf
          refine h_aload_n dX9_term_24 rfl 0 rfl ?_
          obtain ⟨g45, hf⟩ := hck_s hf
          obtain ⟨t38, S37, h36, hf⟩ := hb2_s hf
          refine h_Vi [] (rest := []) (m_X9_sign (d := 1) (cs := cs) (Nat.le_refl _) h36) v_X9_sign q_1179 rfl (Nat.le_trans (by decide) hd) g45 rfl rfl (Nat.le_of_ble_eq_true rfl) dX9_term_25 (Nat.le_refl _) (Nat.le_refl _) ?_
          refine h_bipush (v := 47) dX9_term_28 rfl ?_
          refine h_icmp_eq (tgt := 42) dX9_term_30 (by decide) (fun c39 => ?_) (fun c39 => ?_)
          · rw [if_pos c39] at hf
            exact hJ7 S37 hf
          · rw [if_neg c39] at hf
            refine h_aload_n dX9_term_33 rfl 0 rfl ?_
            obtain ⟨g44, hf⟩ := hck_s hf
            obtain ⟨t42, S41, h40, hf⟩ := hb2_s hf
            refine h_Vi [] (rest := []) (m_X9_sign (d := 1) (cs := cs) (Nat.le_refl _) h40) v_X9_sign q_1179 rfl (Nat.le_trans (by decide) hd) g44 rfl rfl (Nat.le_of_ble_eq_true rfl) dX9_term_34 (Nat.le_refl _) (Nat.le_refl _) ?_
            refine h_bipush (v := 37) dX9_term_37 rfl ?_
            refine h_icmp_ne (tgt := 100) dX9_term_39 (by decide) (fun c43 => ?_) (fun c43 => ?_)
            · rw [if_neg c43] at hf
              refine h_sub (lv2 := []) [] rfl ?_
              exact hk0 S41 hf
            · rw [if_pos c43] at hf
              exact hJ7 S41 hf
set_option maxRecDepth 100000 in
set_option maxHeartbeats 4000000 in
theorem m_X9_term {d : Nat} {cs : Nat → Nat} {a0 : Nat} {S : hS} {r : hS} (hd : 7 ≤ d) (hf : f_X9_term a0 S = some r) : HM yX9_term cX9_term 2 none d 0 0 cs [.ref a0] S (none) r := by
  unfold f_X9_term at hf
  refine HM.ofHW false (by decide) (fun h => by cases h) (Nat.le_of_ble_eq_true rfl) ?_
  show HW cX9_term RX9 (x_X9_term d S [.ref a0] r cs) 0 0 S 0 [(0, .ref a0)] []
  refine h_aload_n dX9_term_0 rfl 0 rfl ?_
  obtain ⟨g53, hf⟩ := hck_s hf
  obtain ⟨S48, h47, hf⟩ := hbd_s hf
  refine h_Vv [] (rest := []) (m_X9_value (d := 6) (cs := cs) (Nat.le_refl _) h47) v_X9_value q_1264 rfl (Nat.le_trans (by decide) hd) g53 rfl rfl (Nat.le_of_ble_eq_true rfl) dX9_term_1 (Nat.le_refl _) (Nat.le_refl _) ?_
  refine h_aload_n dX9_term_4 rfl 0 rfl ?_
  obtain ⟨g52, hf⟩ := hck_s hf
  obtain ⟨S50, h49, hf⟩ := hbd_s hf
  refine h_Vv [] (rest := []) (m_X9_blanks (d := 2) (cs := cs) (Nat.le_refl _) h49) v_X9_blanks q_1175 rfl (Nat.le_trans (by decide) hd) g52 rfl rfl (Nat.le_of_ble_eq_true rfl) dX9_term_5 (Nat.le_refl _) (Nat.le_refl _) ?_
  refine w_X9_term_L8 hd hfuel a0 S50 _  hf ?_
  · intro S51 hf
    obtain rfl := Option.some.inj hf
    exact h_vret rfl rfl rfl (Nat.le_refl _) (Nat.le_refl _) dX9_term_100
abbrev x_X9_sum (d : Nat) (S0 : hS) (args : List Value) (r : hS) (cs : Nat → Nat) : hX := ((none, 2, d, 0, 0, false), (S0, args, none, r), cs)
theorem v_X9_sum : hVW yX9_sum cX9_sum 2 none RX9 0 := ⟨q_1258, q_s51, q_9, q_1259, by decide +kernel, by decide⟩
def f_X9_sum_L4 : Nat → Nat → hS → (hS → Option (hS)) → Option (hS)
  | 0, _, _, _ => none
  | n + 1, x0, S, k0 =>
    hbd (gI S x0 9 25) fun t1 =>
    if t1 = 0 then
      (hck (S.K x0 = 10) <|
       hb2 (f_X9_sign x0 S) fun t6 S5 =>
       hj (γ := hS → Option (hS)) (fun (S8 : hS) =>
         hck (S8.K x0 = 10) <|
         hb2 (f_X9_sign x0 S8) fun t11 S10 =>
         hj (γ := Int32 → Option (hS)) (fun (v13 : Int32) =>
           hbd (gI S10 x0 9 24) fun t14 =>
           hbd (sI S10 x0 9 24 (t14 + 1)) fun S16 =>
           hck (S16.K x0 = 10) <|
           hbd (f_X9_term x0 S16) fun S19 =>
           hck (S19.K x0 = 10) <|
           hbd (f_X9_entry x0 v13 0 S19) fun S21 =>
           f_X9_sum_L4 n x0 S21 k0
           ) fun J12 =>
         if t11 = 43 then
           (J12 2)
         else
           (J12 3)
         ) fun J7 =>
       if t6 = 43 then
         (J7 S5)
       else
         (hck (S5.K x0 = 10) <|
          hb2 (f_X9_sign x0 S5) fun t29 S28 =>
          if t29 = 45 then
            (J7 S28)
          else
            (k0 S28)))
    else
      (k0 S)
def f_X9_sum (a0 : Nat) (S : hS) : Option (hS) :=
  hck (S.K a0 = 10) <|
  hbd (f_X9_term a0 S) fun S34 =>
  f_X9_sum_L4 hfuel a0 S34
    (fun S35 =>
      some S35
    )
set_option maxRecDepth 100000 in
set_option maxHeartbeats 4000000 in
theorem w_X9_sum_L4 {d : Nat} {S0 : hS} {args : List Value} {cs : Nat → Nat} {r : hS} (hd : 8 ≤ d) : ∀ (n : Nat) (x0 : Nat) (S : hS) (k0 : (hS → Option (hS))) , f_X9_sum_L4 n x0 S k0 = some r → (∀ (T : hS), k0 T = some r → HW cX9_sum RX9 (x_X9_sum d S0 args r cs) 0 0 T 67 [] []) → HW cX9_sum RX9 (x_X9_sum d S0 args r cs) 0 0 S 4 [(0, .ref x0)] [] := by
  intro n
  induction n with
  | zero =>
    intro x0 S k0 hf
    cases hf
  | succ n ih =>
    intro x0 S k0 hf hk0
    rw [f_X9_sum_L4] at hf
    refine h_aload_n dX9_sum_4 rfl 0 rfl ?_
    obtain ⟨t1, h2, hf⟩ := hbd_s hf
    refine h_getI h2 rfl (Nat.le_of_ble_eq_true rfl) rfl q_985 rfl dX9_sum_5 ?_
    refine h_if_ne (tgt := 67) dX9_sum_8 (by decide) (fun c3 => ?_) (fun c3 => ?_)
    · rw [if_neg c3] at hf
      refine h_sub (lv2 := []) [] rfl ?_
      exact hk0 S hf
    · rw [if_pos c3] at hf
      refine h_aload_n dX9_sum_11 rfl 0 rfl ?_
      obtain ⟨g32, hf⟩ := hck_s hf
      obtain ⟨t6, S5, h4, hf⟩ := hb2_s hf
      refine h_Vi [] (rest := []) (m_X9_sign (d := 1) (cs := cs) (Nat.le_refl _) h4) v_X9_sign q_1179 rfl (Nat.le_trans (by decide) hd) g32 rfl rfl (Nat.le_of_ble_eq_true rfl) dX9_sum_12 (Nat.le_refl _) (Nat.le_refl _) ?_
      refine h_bipush (v := 43) dX9_sum_15 rfl ?_
      refine hj_s (fun J7 => ∀ (S8 : hS), J7 S8 = some r → HW cX9_sum RX9 (x_X9_sum d S0 args r cs) 0 0 S8 29 [(0, .ref x0)] []) hf ?_ ?_
      · intro S8 hf
        refine h_aload_n dX9_sum_29 rfl 0 rfl ?_
        obtain ⟨g25, hf⟩ := hck_s hf
        obtain ⟨t11, S10, h9, hf⟩ := hb2_s hf
        refine h_Vi [] (rest := []) (m_X9_sign (d := 1) (cs := cs) (Nat.le_refl _) h9) v_X9_sign q_1179 rfl (Nat.le_trans (by decide) hd) g25 rfl rfl (Nat.le_of_ble_eq_true rfl) dX9_sum_30 (Nat.le_refl _) (Nat.le_refl _) ?_
        refine h_bipush (v := 43) dX9_sum_33 rfl ?_
        refine hj_s (fun J12 => ∀ (v13 : Int32), J12 v13 = some r → HW cX9_sum RX9 (x_X9_sum d S0 args r cs) 0 0 S10 43 [(0, .ref x0)] [.int v13]) hf ?_ ?_
        · intro v13 hf
          refine h_istore_n (lv2 := [(1, .int v13), (0, .ref x0)]) dX9_sum_43 rfl (Nat.le_of_ble_eq_true rfl) rfl ?_
          refine h_aload_n dX9_sum_44 rfl 1 rfl ?_
          refine h_dup dX9_sum_45 rfl ?_
          obtain ⟨t14, h15, hf⟩ := hbd_s hf
          refine h_getI h15 rfl (Nat.le_of_ble_eq_true rfl) rfl q_984 rfl dX9_sum_46 ?_
          refine h_iconst (v := 1) dX9_sum_49 rfl ?_
          refine h_iadd dX9_sum_50 ?_
          obtain ⟨S16, h17, hf⟩ := hbd_s hf
          refine h_putI h17 rfl (Nat.le_of_ble_eq_true rfl) rfl q_984 rfl rfl (by decide +kernel) dX9_sum_51 ?_
          refine h_aload_n dX9_sum_54 rfl 1 rfl ?_
          obtain ⟨g23, hf⟩ := hck_s hf
          obtain ⟨S19, h18, hf⟩ := hbd_s hf
          refine h_Vv [] (rest := []) (m_X9_term (d := 7) (cs := cs) (Nat.le_refl _) h18) v_X9_term q_1260 rfl (Nat.le_trans (by decide) hd) g23 rfl rfl (Nat.le_of_ble_eq_true rfl) dX9_sum_55 (Nat.le_refl _) (Nat.le_refl _) ?_
          refine h_aload_n dX9_sum_58 rfl 1 rfl ?_
          refine h_iload_n dX9_sum_59 rfl 0 rfl ?_
          refine h_iconst (v := 0) dX9_sum_60 rfl ?_
          obtain ⟨g22, hf⟩ := hck_s hf
          obtain ⟨S21, h20, hf⟩ := hbd_s hf
          refine h_Vv [.int v13, .int 0] (rest := []) (m_X9_entry (d := 1) (cs := cs) (Nat.le_refl _) h20) v_X9_entry q_1272 rfl (Nat.le_trans (by decide) hd) g22 rfl rfl (Nat.le_of_ble_eq_true rfl) dX9_sum_61 (Nat.le_refl _) (Nat.le_refl _) ?_
          refine h_goto (tgt := 4) dX9_sum_64 (by decide) ?_
          refine h_sub (lv2 := [(0, .ref x0)]) [1] rfl ?_
          exact ih x0 S21 k0  hf hk0
        · intro J12 hJ12 hf
          refine h_icmp_ne (tgt := 42) dX9_sum_35 (by decide) (fun c24 => ?_) (fun c24 => ?_)
          · rw [if_neg c24] at hf
            refine h_iconst (v := 3) dX9_sum_42 rfl ?_
            exact hJ12 3 hf
          · rw [if_pos c24] at hf
            refine h_iconst (v := 2) dX9_sum_38 rfl ?_
            refine h_goto (tgt := 43) dX9_sum_39 (by decide) ?_
            exact hJ12 2 hf
      · intro J7 hJ7 hf
        refine h_icmp_eq (tgt := 29) dX9_sum_17 (by decide) (fun c26 => ?_) (fun c26 => ?_)
        · rw [if_pos c26] at hf
          exact hJ7 S5 hf
        · rw [if_neg c26] at hf
          refine h_aload_n dX9_sum_20 rfl 0 rfl ?_
          obtain ⟨g31, hf⟩ := hck_s hf
          obtain ⟨t29, S28, h27, hf⟩ := hb2_s hf
          refine h_Vi [] (rest := []) (m_X9_sign (d := 1) (cs := cs) (Nat.le_refl _) h27) v_X9_sign q_1179 rfl (Nat.le_trans (by decide) hd) g31 rfl rfl (Nat.le_of_ble_eq_true rfl) dX9_sum_21 (Nat.le_refl _) (Nat.le_refl _) ?_
          refine h_bipush (v := 45) dX9_sum_24 rfl ?_
          refine h_icmp_ne (tgt := 67) dX9_sum_26 (by decide) (fun c30 => ?_) (fun c30 => ?_)
          · rw [if_neg c30] at hf
            refine h_sub (lv2 := []) [] rfl ?_
            exact hk0 S28 hf
          · rw [if_pos c30] at hf
            exact hJ7 S28 hf
set_option maxRecDepth 100000 in
set_option maxHeartbeats 4000000 in
theorem m_X9_sum {d : Nat} {cs : Nat → Nat} {a0 : Nat} {S : hS} {r : hS} (hd : 8 ≤ d) (hf : f_X9_sum a0 S = some r) : HM yX9_sum cX9_sum 2 none d 0 0 cs [.ref a0] S (none) r := by
  unfold f_X9_sum at hf
  refine HM.ofHW false (by decide) (fun h => by cases h) (Nat.le_of_ble_eq_true rfl) ?_
  show HW cX9_sum RX9 (x_X9_sum d S [.ref a0] r cs) 0 0 S 0 [(0, .ref a0)] []
  refine h_aload_n dX9_sum_0 rfl 0 rfl ?_
  obtain ⟨g36, hf⟩ := hck_s hf
  obtain ⟨S34, h33, hf⟩ := hbd_s hf
  refine h_Vv [] (rest := []) (m_X9_term (d := 7) (cs := cs) (Nat.le_refl _) h33) v_X9_term q_1260 rfl (Nat.le_trans (by decide) hd) g36 rfl rfl (Nat.le_of_ble_eq_true rfl) dX9_sum_1 (Nat.le_refl _) (Nat.le_refl _) ?_
  refine w_X9_sum_L4 hd hfuel a0 S34 _  hf ?_
  · intro S35 hf
    obtain rfl := Option.some.inj hf
    exact h_vret rfl rfl rfl (Nat.le_refl _) (Nat.le_refl _) dX9_sum_67
abbrev x_X9_compared (d : Nat) (S0 : hS) (args : List Value) (r : hS) (cs : Nat → Nat) : hX := ((none, 3, d, 0, 0, false), (S0, args, none, r), cs)
theorem v_X9_compared : hVW yX9_compared cX9_compared 3 none RX9 0 := ⟨q_1308, q_s60, q_9, q_1309, by decide +kernel, by decide⟩
def f_X9_compared (a0 : Nat) (S : hS) : Option (hS) :=
  hck (S.K a0 = 10) <|
  hbd (f_X9_sum a0 S) fun S2 =>
  hck (S2.K a0 = 10) <|
  hb2 (f_X9_sign a0 S2) fun t5 S4 =>
  hj (γ := Unit → Option (hS)) (fun (_ : Unit) =>
    hbd (gI S4 a0 9 24) fun t7 =>
    hck (S4.K a0 = 10) <|
    hbd (f_X9_isCounted a0 t7 S4) fun S10 =>
    hbd (gI S10 a0 9 24) fun t11 =>
    hbd (sI S10 a0 9 24 (t11 + 1)) fun S13 =>
    hj (γ := Int32 → hS → Option (hS)) (fun (v16 : Int32) (S17 : hS) =>
      hbd (gI S17 a0 9 24) fun t18 =>
      hj (γ := Int32 → Option (hS)) (fun (v21 : Int32) =>
        hbd (sI S17 a0 9 24 (t18 + v21)) fun S22 =>
        hck (S22.K a0 = 10) <|
        hbd (f_X9_sum a0 S22) fun S25 =>
        hj (γ := Int32 → Option (hS)) (fun (v27 : Int32) =>
          hck (S25.K a0 = 10) <|
          hbd (f_X9_entry a0 v27 0 S25) fun S29 =>
          some S29
          ) fun J26 =>
        if t5 = 61 then
          (J26 6)
        else
          (if t5 = 60 then
             (if v16 = 0 then
                (J26 4)
              else
                (J26 5))
           else
             (if v16 = 0 then
                (J26 8)
              else
                (J26 7)))
        ) fun J20 =>
      if v16 = 0 then
        (J20 0)
      else
        (J20 1)
      ) fun J15 =>
    hj (γ := hS → Option (hS)) (fun (S38 : hS) =>
      J15 0 S38
      ) fun J37 =>
    if t5 = 61 then
      (J37 S13)
    else
      (hck (S13.K a0 = 10) <|
       hb2 (f_X9_sign a0 S13) fun t42 S41 =>
       if t42 = 61 then
         (J15 1 S41)
       else
         (J37 S41))
    ) fun J6 =>
  if t5 = 60 then
    (J6 ())
  else
    (if t5 = 61 then
       (J6 ())
     else
       (if t5 = 62 then
          (J6 ())
        else
          (hbd (gI S4 a0 9 24) fun t49 =>
           hck (S4.K a0 = 10) <|
           hbd (f_X9_fails a0 0 t49 S4) fun S52 =>
           some S52)))
set_option maxRecDepth 100000 in
set_option maxHeartbeats 4000000 in
theorem m_X9_compared {d : Nat} {cs : Nat → Nat} {a0 : Nat} {S : hS} {r : hS} (hd : 9 ≤ d) (hf : f_X9_compared a0 S = some r) : HM yX9_compared cX9_compared 3 none d 0 0 cs [.ref a0] S (none) r := by
  unfold f_X9_compared at hf
  refine HM.ofHW false (by decide) (fun h => by cases h) (Nat.le_of_ble_eq_true rfl) ?_
  show HW cX9_compared RX9 (x_X9_compared d S [.ref a0] r cs) 0 0 S 0 [(0, .ref a0)] []
  refine h_aload_n dX9_compared_0 rfl 0 rfl ?_
  obtain ⟨g55, hf⟩ := hck_s hf
  obtain ⟨S2, h1, hf⟩ := hbd_s hf
  refine h_Vv [] (rest := []) (m_X9_sum (d := 8) (cs := cs) (Nat.le_refl _) h1) v_X9_sum q_1256 rfl (Nat.le_trans (by decide) hd) g55 rfl rfl (Nat.le_of_ble_eq_true rfl) dX9_compared_1 (Nat.le_refl _) (Nat.le_refl _) ?_
  refine h_aload_n dX9_compared_4 rfl 0 rfl ?_
  obtain ⟨g54, hf⟩ := hck_s hf
  obtain ⟨t5, S4, h3, hf⟩ := hb2_s hf
  refine h_Vi [] (rest := []) (m_X9_sign (d := 1) (cs := cs) (Nat.le_refl _) h3) v_X9_sign q_1179 rfl (Nat.le_trans (by decide) hd) g54 rfl rfl (Nat.le_of_ble_eq_true rfl) dX9_compared_5 (Nat.le_refl _) (Nat.le_refl _) ?_
  refine h_istore_n (lv2 := [(1, .int t5), (0, .ref a0)]) dX9_compared_8 rfl (Nat.le_of_ble_eq_true rfl) rfl ?_
  refine h_iload_n dX9_compared_9 rfl 0 rfl ?_
  refine h_bipush (v := 60) dX9_compared_10 rfl ?_
  refine hj_s (fun J6 => ∀ (w : Unit), J6 w = some r → HW cX9_compared RX9 (x_X9_compared d S [.ref a0] r cs) 0 0 S4 37 [(0, .ref a0), (1, .int t5)] []) hf ?_ ?_
  · intro w hf
    refine h_aload_n dX9_compared_37 rfl 0 rfl ?_
    refine h_aload_n dX9_compared_38 rfl 0 rfl ?_
    obtain ⟨t7, h8, hf⟩ := hbd_s hf
    refine h_getI h8 rfl (Nat.le_of_ble_eq_true rfl) rfl q_984 rfl dX9_compared_39 ?_
    obtain ⟨g45, hf⟩ := hck_s hf
    obtain ⟨S10, h9, hf⟩ := hbd_s hf
    refine h_Vv [.int t7] (rest := []) (m_X9_isCounted (d := 2) (cs := cs) (Nat.le_refl _) h9) v_X9_isCounted q_1268 rfl (Nat.le_trans (by decide) hd) g45 rfl rfl (Nat.le_of_ble_eq_true rfl) dX9_compared_42 (Nat.le_refl _) (Nat.le_refl _) ?_
    refine h_aload_n dX9_compared_45 rfl 0 rfl ?_
    refine h_dup dX9_compared_46 rfl ?_
    obtain ⟨t11, h12, hf⟩ := hbd_s hf
    refine h_getI h12 rfl (Nat.le_of_ble_eq_true rfl) rfl q_984 rfl dX9_compared_47 ?_
    refine h_iconst (v := 1) dX9_compared_50 rfl ?_
    refine h_iadd dX9_compared_51 ?_
    obtain ⟨S13, h14, hf⟩ := hbd_s hf
    refine h_putI h14 rfl (Nat.le_of_ble_eq_true rfl) rfl q_984 rfl rfl (by decide +kernel) dX9_compared_52 ?_
    refine h_iload_n dX9_compared_55 rfl 1 rfl ?_
    refine h_bipush (v := 61) dX9_compared_56 rfl ?_
    refine hj_s (fun J15 => ∀ (v16 : Int32) (S17 : hS), J15 v16 S17 = some r → HW cX9_compared RX9 (x_X9_compared d S [.ref a0] r cs) 0 0 S17 75 [(0, .ref a0), (1, .int t5)] [.int v16]) hf ?_ ?_
    · intro v16 S17 hf
      refine h_istore_n (lv2 := [(2, .int v16), (0, .ref a0), (1, .int t5)]) dX9_compared_75 rfl (Nat.le_of_ble_eq_true rfl) rfl ?_
      refine h_aload_n dX9_compared_76 rfl 1 rfl ?_
      refine h_dup dX9_compared_77 rfl ?_
      obtain ⟨t18, h19, hf⟩ := hbd_s hf
      refine h_getI h19 rfl (Nat.le_of_ble_eq_true rfl) rfl q_984 rfl dX9_compared_78 ?_
      refine h_iload_n dX9_compared_81 rfl 0 rfl ?_
      refine hj_s (fun J20 => ∀ (v21 : Int32), J20 v21 = some r → HW cX9_compared RX9 (x_X9_compared d S [.ref a0] r cs) 0 0 S17 90 [(0, .ref a0), (1, .int t5), (2, .int v16)] [.int v21, .int t18, .ref a0]) hf ?_ ?_
      · intro v21 hf
        refine h_iadd dX9_compared_90 ?_
        obtain ⟨S22, h23, hf⟩ := hbd_s hf
        refine h_putI h23 rfl (Nat.le_of_ble_eq_true rfl) rfl q_984 rfl rfl (by decide +kernel) dX9_compared_91 ?_
        refine h_aload_n dX9_compared_94 rfl 0 rfl ?_
        obtain ⟨g35, hf⟩ := hck_s hf
        obtain ⟨S25, h24, hf⟩ := hbd_s hf
        refine h_Vv [] (rest := []) (m_X9_sum (d := 8) (cs := cs) (Nat.le_refl _) h24) v_X9_sum q_1256 rfl (Nat.le_trans (by decide) hd) g35 rfl rfl (Nat.le_of_ble_eq_true rfl) dX9_compared_95 (Nat.le_refl _) (Nat.le_refl _) ?_
        refine h_aload_n dX9_compared_98 rfl 0 rfl ?_
        refine h_iload_n dX9_compared_99 rfl 1 rfl ?_
        refine h_bipush (v := 61) dX9_compared_100 rfl ?_
        refine hj_s (fun J26 => ∀ (v27 : Int32), J26 v27 = some r → HW cX9_compared RX9 (x_X9_compared d S [.ref a0] r cs) 0 0 S25 139 [] [.int v27, .ref a0]) hf ?_ ?_
        · intro v27 hf
          refine h_iconst (v := 0) dX9_compared_139 rfl ?_
          obtain ⟨g30, hf⟩ := hck_s hf
          obtain ⟨S29, h28, hf⟩ := hbd_s hf
          refine h_Vv [.int v27, .int 0] (rest := []) (m_X9_entry (d := 1) (cs := cs) (Nat.le_refl _) h28) v_X9_entry q_1272 rfl (Nat.le_trans (by decide) hd) g30 rfl rfl (Nat.le_of_ble_eq_true rfl) dX9_compared_140 (Nat.le_refl _) (Nat.le_refl _) ?_
          obtain rfl := Option.some.inj hf
          exact h_vret rfl rfl rfl (Nat.le_refl _) (Nat.le_refl _) dX9_compared_143
        · intro J26 hJ26 hf
          refine h_icmp_ne (tgt := 110) dX9_compared_102 (by decide) (fun c31 => ?_) (fun c31 => ?_)
          · rw [if_neg c31] at hf
            refine h_iload_n dX9_compared_110 rfl 1 rfl ?_
            refine h_bipush (v := 60) dX9_compared_111 rfl ?_
            refine h_icmp_ne (tgt := 128) dX9_compared_113 (by decide) (fun c32 => ?_) (fun c32 => ?_)
            · rw [if_neg c32] at hf
              refine h_iload_n dX9_compared_128 rfl 2 rfl ?_
              refine h_if_eq (tgt := 137) dX9_compared_129 (by decide) (fun c33 => ?_) (fun c33 => ?_)
              · rw [if_pos c33] at hf
                refine h_bipush (v := 8) dX9_compared_137 rfl ?_
                refine h_sub (lv2 := []) [] rfl ?_
                exact hJ26 8 hf
              · rw [if_neg c33] at hf
                refine h_bipush (v := 7) dX9_compared_132 rfl ?_
                refine h_goto (tgt := 139) dX9_compared_134 (by decide) ?_
                refine h_sub (lv2 := []) [] rfl ?_
                exact hJ26 7 hf
            · rw [if_pos c32] at hf
              refine h_iload_n dX9_compared_116 rfl 2 rfl ?_
              refine h_if_eq (tgt := 124) dX9_compared_117 (by decide) (fun c34 => ?_) (fun c34 => ?_)
              · rw [if_pos c34] at hf
                refine h_iconst (v := 4) dX9_compared_124 rfl ?_
                refine h_goto (tgt := 139) dX9_compared_125 (by decide) ?_
                refine h_sub (lv2 := []) [] rfl ?_
                exact hJ26 4 hf
              · rw [if_neg c34] at hf
                refine h_iconst (v := 5) dX9_compared_120 rfl ?_
                refine h_goto (tgt := 139) dX9_compared_121 (by decide) ?_
                refine h_sub (lv2 := []) [] rfl ?_
                exact hJ26 5 hf
          · rw [if_pos c31] at hf
            refine h_bipush (v := 6) dX9_compared_105 rfl ?_
            refine h_goto (tgt := 139) dX9_compared_107 (by decide) ?_
            refine h_sub (lv2 := []) [] rfl ?_
            exact hJ26 6 hf
      · intro J20 hJ20 hf
        refine h_if_eq (tgt := 89) dX9_compared_82 (by decide) (fun c36 => ?_) (fun c36 => ?_)
        · rw [if_pos c36] at hf
          refine h_iconst (v := 0) dX9_compared_89 rfl ?_
          refine h_sub (lv2 := [(0, .ref a0), (1, .int t5), (2, .int v16)]) [1, 2, 0] rfl ?_
          exact hJ20 0 hf
        · rw [if_neg c36] at hf
          refine h_iconst (v := 1) dX9_compared_85 rfl ?_
          refine h_goto (tgt := 90) dX9_compared_86 (by decide) ?_
          refine h_sub (lv2 := [(0, .ref a0), (1, .int t5), (2, .int v16)]) [1, 2, 0] rfl ?_
          exact hJ20 1 hf
    · intro J15 hJ15 hf
      refine hj_s (fun J37 => ∀ (S38 : hS), J37 S38 = some r → HW cX9_compared RX9 (x_X9_compared d S [.ref a0] r cs) 0 0 S38 74 [(0, .ref a0), (1, .int t5)] []) hf ?_ ?_
      · intro S38 hf
        refine h_iconst (v := 0) dX9_compared_74 rfl ?_
        exact hJ15 0 S38 hf
      · intro J37 hJ37 hf
        refine h_icmp_eq (tgt := 74) dX9_compared_58 (by decide) (fun c39 => ?_) (fun c39 => ?_)
        · rw [if_pos c39] at hf
          exact hJ37 S13 hf
        · rw [if_neg c39] at hf
          refine h_aload_n dX9_compared_61 rfl 0 rfl ?_
          obtain ⟨g44, hf⟩ := hck_s hf
          obtain ⟨t42, S41, h40, hf⟩ := hb2_s hf
          refine h_Vi [] (rest := []) (m_X9_sign (d := 1) (cs := cs) (Nat.le_refl _) h40) v_X9_sign q_1179 rfl (Nat.le_trans (by decide) hd) g44 rfl rfl (Nat.le_of_ble_eq_true rfl) dX9_compared_62 (Nat.le_refl _) (Nat.le_refl _) ?_
          refine h_bipush (v := 61) dX9_compared_65 rfl ?_
          refine h_icmp_ne (tgt := 74) dX9_compared_67 (by decide) (fun c43 => ?_) (fun c43 => ?_)
          · rw [if_neg c43] at hf
            exact hJ37 S41 hf
          · rw [if_pos c43] at hf
            refine h_iconst (v := 1) dX9_compared_70 rfl ?_
            refine h_goto (tgt := 75) dX9_compared_71 (by decide) ?_
            exact hJ15 1 S41 hf
  · intro J6 hJ6 hf
    refine h_icmp_eq (tgt := 37) dX9_compared_12 (by decide) (fun c46 => ?_) (fun c46 => ?_)
    · rw [if_pos c46] at hf
      refine h_sub (lv2 := [(0, .ref a0), (1, .int t5)]) [1, 0] rfl ?_
      exact hJ6 () hf
    · rw [if_neg c46] at hf
      refine h_iload_n dX9_compared_15 rfl 0 rfl ?_
      refine h_bipush (v := 61) dX9_compared_16 rfl ?_
      refine h_icmp_eq (tgt := 37) dX9_compared_18 (by decide) (fun c47 => ?_) (fun c47 => ?_)
      · rw [if_pos c47] at hf
        refine h_sub (lv2 := [(0, .ref a0), (1, .int t5)]) [1, 0] rfl ?_
        exact hJ6 () hf
      · rw [if_neg c47] at hf
        refine h_iload_n dX9_compared_21 rfl 0 rfl ?_
        refine h_bipush (v := 62) dX9_compared_22 rfl ?_
        refine h_icmp_eq (tgt := 37) dX9_compared_24 (by decide) (fun c48 => ?_) (fun c48 => ?_)
        · rw [if_pos c48] at hf
          refine h_sub (lv2 := [(0, .ref a0), (1, .int t5)]) [1, 0] rfl ?_
          exact hJ6 () hf
        · rw [if_neg c48] at hf
          refine h_aload_n dX9_compared_27 rfl 1 rfl ?_
          refine h_iconst (v := 0) dX9_compared_28 rfl ?_
          refine h_aload_n dX9_compared_29 rfl 1 rfl ?_
          obtain ⟨t49, h50, hf⟩ := hbd_s hf
          refine h_getI h50 rfl (Nat.le_of_ble_eq_true rfl) rfl q_984 rfl dX9_compared_30 ?_
          obtain ⟨g53, hf⟩ := hck_s hf
          obtain ⟨S52, h51, hf⟩ := hbd_s hf
          refine h_Vv [.int 0, .int t49] (rest := []) (m_X9_fails (d := 1) (cs := cs) (Nat.le_refl _) h51) v_X9_fails q_1198 rfl (Nat.le_trans (by decide) hd) g53 rfl rfl (Nat.le_of_ble_eq_true rfl) dX9_compared_33 (Nat.le_refl _) (Nat.le_refl _) ?_
          obtain rfl := Option.some.inj hf
          exact h_vret rfl rfl rfl (Nat.le_refl _) (Nat.le_refl _) dX9_compared_36
abbrev x_X9_top (d : Nat) (S0 : hS) (args : List Value) (r : Int32 × hS) (cs : Nat → Nat) : hX := (((some .int), 1, d, 0, 0, false), (S0, args, some (.int r.1), r.2), cs)
theorem v_X9_top : hVW yX9_top cX9_top 1 (some .int) RX9 0 := ⟨q_1316, q_s62, q_9, q_1317, by decide +kernel, by decide⟩
def f_X9_top (a0 : Nat) (S : hS) : Option (Int32 × hS) :=
  hbd (gI S a0 9 31) fun t1 =>
  if t1 = 0 then
    (some ((-1), S))
  else
    (hbd (gR S a0 9 41) fun t4 =>
     hbd (gI S a0 9 31) fun t6 =>
     hbd (gA S t4 12 (t6 - 1)) fun t8 =>
     some (t8, S))
set_option maxRecDepth 100000 in
set_option maxHeartbeats 4000000 in
theorem m_X9_top {d : Nat} {cs : Nat → Nat} {a0 : Nat} {S : hS} {r : Int32 × hS} (hd : 1 ≤ d) (hf : f_X9_top a0 S = some r) : HM yX9_top cX9_top 1 (some .int) d 0 0 cs [.ref a0] S (some (.int r.1)) r.2 := by
  unfold f_X9_top at hf
  refine HM.ofHW false (by decide) (fun h => by cases h) (Nat.le_of_ble_eq_true rfl) ?_
  show HW cX9_top RX9 (x_X9_top d S [.ref a0] r cs) 0 0 S 0 [(0, .ref a0)] []
  refine h_aload_n dX9_top_0 rfl 0 rfl ?_
  obtain ⟨t1, h2, hf⟩ := hbd_s hf
  refine h_getI h2 rfl (Nat.le_of_ble_eq_true rfl) rfl q_991 rfl dX9_top_1 ?_
  refine h_if_ne (tgt := 11) dX9_top_4 (by decide) (fun c3 => ?_) (fun c3 => ?_)
  · rw [if_neg c3] at hf
    refine h_aload_n dX9_top_11 rfl 0 rfl ?_
    obtain ⟨t4, h5, hf⟩ := hbd_s hf
    refine h_getR h5 rfl (Nat.le_of_ble_eq_true rfl) rfl q_1001 rfl dX9_top_12 ?_
    refine h_aload_n dX9_top_15 rfl 0 rfl ?_
    obtain ⟨t6, h7, hf⟩ := hbd_s hf
    refine h_getI h7 rfl (Nat.le_of_ble_eq_true rfl) rfl q_991 rfl dX9_top_16 ?_
    refine h_iconst (v := 1) dX9_top_19 rfl ?_
    refine h_isub dX9_top_20 ?_
    obtain ⟨t8, h9, hf⟩ := hbd_s hf
    refine h_iald h9 dX9_top_21 ?_
    obtain rfl := Option.some.inj hf
    exact h_iret rfl rfl rfl (Nat.le_refl _) (Nat.le_refl _) dX9_top_22
  · rw [if_pos c3] at hf
    refine h_iconst (v := (-1)) dX9_top_7 rfl ?_
    refine h_goto (tgt := 22) dX9_top_8 (by decide) ?_
    obtain rfl := Option.some.inj hf
    exact h_iret rfl rfl rfl (Nat.le_refl _) (Nat.le_refl _) dX9_top_22
abbrev x_X9_opens (d : Nat) (S0 : hS) (args : List Value) (r : hS) (cs : Nat → Nat) : hX := ((none, 2, d, 0, 0, false), (S0, args, none, r), cs)
theorem v_X9_opens : hVW yX9_opens cX9_opens 2 none RX9 1 := ⟨q_1304, q_s59, q_9, q_1305, by decide +kernel, by decide⟩
def f_X9_opens (a0 : Nat) (a1 : Int32) (S : hS) : Option (hS) :=
  hj (γ := hS → Option (hS)) (fun (S2 : hS) =>
    hbd (gR S2 a0 9 41) fun t3 =>
    hbd (gI S2 a0 9 31) fun t5 =>
    hbd (sA S2 t3 t5 a1) fun S7 =>
    hbd (gI S7 a0 9 31) fun t9 =>
    hbd (sI S7 a0 9 31 (t9 + 1)) fun S11 =>
    some S11
    ) fun J1 =>
  hj (γ := Unit → Option (hS)) (fun (_ : Unit) =>
    hbd (gI S a0 9 29) fun t14 =>
    hj (γ := hS → Option (hS)) (fun (S17 : hS) =>
      hbd (gI S17 a0 9 29) fun t18 =>
      hbd (sI S17 a0 9 29 (t18 + 1)) fun S20 =>
      J1 S20
      ) fun J16 =>
    if t14 = 10 then
      (hbd (gI S a0 9 24) fun t23 =>
       hck (S.K a0 = 10) <|
       hbd (f_X9_fails a0 2 t23 S) fun S26 =>
       J16 S26)
    else
      (J16 S)
    ) fun J13 =>
  if a1 = 9 then
    (J13 ())
  else
    (if a1 = 12 then
       (J13 ())
     else
       (J1 S))
set_option maxRecDepth 100000 in
set_option maxHeartbeats 4000000 in
theorem m_X9_opens {d : Nat} {cs : Nat → Nat} {a0 : Nat} {a1 : Int32} {S : hS} {r : hS} (hd : 2 ≤ d) (hf : f_X9_opens a0 a1 S = some r) : HM yX9_opens cX9_opens 2 none d 0 0 cs [.ref a0, .int a1] S (none) r := by
  unfold f_X9_opens at hf
  refine HM.ofHW false (by decide) (fun h => by cases h) (Nat.le_of_ble_eq_true rfl) ?_
  show HW cX9_opens RX9 (x_X9_opens d S [.ref a0, .int a1] r cs) 0 0 S 0 [(0, .ref a0), (1, .int a1)] []
  refine h_iload_n dX9_opens_0 rfl 1 rfl ?_
  refine h_bipush (v := 9) dX9_opens_1 rfl ?_
  refine hj_s (fun J1 => ∀ (S2 : hS), J1 S2 = some r → HW cX9_opens RX9 (x_X9_opens d S [.ref a0, .int a1] r cs) 0 0 S2 40 [(0, .ref a0), (1, .int a1)] []) hf ?_ ?_
  · intro S2 hf
    refine h_aload_n dX9_opens_40 rfl 0 rfl ?_
    obtain ⟨t3, h4, hf⟩ := hbd_s hf
    refine h_getR h4 rfl (Nat.le_of_ble_eq_true rfl) rfl q_1001 rfl dX9_opens_41 ?_
    refine h_aload_n dX9_opens_44 rfl 0 rfl ?_
    obtain ⟨t5, h6, hf⟩ := hbd_s hf
    refine h_getI h6 rfl (Nat.le_of_ble_eq_true rfl) rfl q_991 rfl dX9_opens_45 ?_
    refine h_iload_n dX9_opens_48 rfl 1 rfl ?_
    obtain ⟨S7, h8, hf⟩ := hbd_s hf
    refine h_iast h8 dX9_opens_49 ?_
    refine h_aload_n dX9_opens_50 rfl 0 rfl ?_
    refine h_dup dX9_opens_51 rfl ?_
    obtain ⟨t9, h10, hf⟩ := hbd_s hf
    refine h_getI h10 rfl (Nat.le_of_ble_eq_true rfl) rfl q_991 rfl dX9_opens_52 ?_
    refine h_iconst (v := 1) dX9_opens_55 rfl ?_
    refine h_iadd dX9_opens_56 ?_
    obtain ⟨S11, h12, hf⟩ := hbd_s hf
    refine h_putI h12 rfl (Nat.le_of_ble_eq_true rfl) rfl q_991 rfl rfl (by decide +kernel) dX9_opens_57 ?_
    obtain rfl := Option.some.inj hf
    exact h_vret rfl rfl rfl (Nat.le_refl _) (Nat.le_refl _) dX9_opens_60
  · intro J1 hJ1 hf
    refine hj_s (fun J13 => ∀ (w : Unit), J13 w = some r → HW cX9_opens RX9 (x_X9_opens d S [.ref a0, .int a1] r cs) 0 0 S 12 [(0, .ref a0), (1, .int a1)] []) hf ?_ ?_
    · intro w hf
      refine h_aload_n dX9_opens_12 rfl 0 rfl ?_
      obtain ⟨t14, h15, hf⟩ := hbd_s hf
      refine h_getI h15 rfl (Nat.le_of_ble_eq_true rfl) rfl q_989 rfl dX9_opens_13 ?_
      refine h_bipush (v := 10) dX9_opens_16 rfl ?_
      refine hj_s (fun J16 => ∀ (S17 : hS), J16 S17 = some r → HW cX9_opens RX9 (x_X9_opens d S [.ref a0, .int a1] r cs) 0 0 S17 30 [(0, .ref a0), (1, .int a1)] []) hf ?_ ?_
      · intro S17 hf
        refine h_aload_n dX9_opens_30 rfl 0 rfl ?_
        refine h_dup dX9_opens_31 rfl ?_
        obtain ⟨t18, h19, hf⟩ := hbd_s hf
        refine h_getI h19 rfl (Nat.le_of_ble_eq_true rfl) rfl q_989 rfl dX9_opens_32 ?_
        refine h_iconst (v := 1) dX9_opens_35 rfl ?_
        refine h_iadd dX9_opens_36 ?_
        obtain ⟨S20, h21, hf⟩ := hbd_s hf
        refine h_putI h21 rfl (Nat.le_of_ble_eq_true rfl) rfl q_989 rfl rfl (by decide +kernel) dX9_opens_37 ?_
        exact hJ1 S20 hf
      · intro J16 hJ16 hf
        refine h_icmp_ne (tgt := 30) dX9_opens_18 (by decide) (fun c22 => ?_) (fun c22 => ?_)
        · rw [if_neg c22] at hf
          exact hJ16 S hf
        · rw [if_pos c22] at hf
          refine h_aload_n dX9_opens_21 rfl 0 rfl ?_
          refine h_iconst (v := 2) dX9_opens_22 rfl ?_
          refine h_aload_n dX9_opens_23 rfl 0 rfl ?_
          obtain ⟨t23, h24, hf⟩ := hbd_s hf
          refine h_getI h24 rfl (Nat.le_of_ble_eq_true rfl) rfl q_984 rfl dX9_opens_24 ?_
          obtain ⟨g27, hf⟩ := hck_s hf
          obtain ⟨S26, h25, hf⟩ := hbd_s hf
          refine h_Vv [.int 2, .int t23] (rest := []) (m_X9_fails (d := 1) (cs := cs) (Nat.le_refl _) h25) v_X9_fails q_1198 rfl (Nat.le_trans (by decide) hd) g27 rfl rfl (Nat.le_of_ble_eq_true rfl) dX9_opens_27 (Nat.le_refl _) (Nat.le_refl _) ?_
          exact hJ16 S26 hf
    · intro J13 hJ13 hf
      refine h_icmp_eq (tgt := 12) dX9_opens_3 (by decide) (fun c28 => ?_) (fun c28 => ?_)
      · rw [if_pos c28] at hf
        exact hJ13 () hf
      · rw [if_neg c28] at hf
        refine h_iload_n dX9_opens_6 rfl 1 rfl ?_
        refine h_bipush (v := 12) dX9_opens_7 rfl ?_
        refine h_icmp_ne (tgt := 40) dX9_opens_9 (by decide) (fun c29 => ?_) (fun c29 => ?_)
        · rw [if_neg c29] at hf
          exact hJ1 S hf
        · rw [if_pos c29] at hf
          exact hJ13 () hf
abbrev x_X9_answers (d : Nat) (S0 : hS) (args : List Value) (r : hS) (cs : Nat → Nat) : hX := ((none, 2, d, 0, 0, false), (S0, args, none, r), cs)
theorem v_X9_answers : hVW yX9_answers cX9_answers 2 none RX9 1 := ⟨q_1312, q_s61, q_9, q_1313, by decide +kernel, by decide⟩
def f_X9_answers_L0 : Nat → Nat → Int32 → hS → (hS → Option (hS)) → Option (hS)
  | 0, _, _, _, _ => none
  | n + 1, x0, x1, S, k0 =>
    hck (S.K x0 = 10) <|
    hb2 (f_X9_top x0 S) fun t3 S2 =>
    if t3 = x1 then
      (hbd (gI S2 x0 9 25) fun t5 =>
       if t5 = 0 then
         (hck (S2.K x0 = 10) <|
          hbd (f_X9_entry x0 x1 0 S2) fun S9 =>
          hbd (gI S9 x0 9 31) fun t10 =>
          hbd (sI S9 x0 9 31 (t10 - 1)) fun S12 =>
          hbd (gI S12 x0 9 29) fun t14 =>
          hj (γ := Int32 → Option (hS)) (fun (v17 : Int32) =>
            hbd (sI S12 x0 9 29 (t14 - v17)) fun S18 =>
            f_X9_answers_L0 n x0 x1 S18 k0
            ) fun J16 =>
          if x1 = 9 then
            (J16 1)
          else
            (J16 0))
       else
         (k0 S2))
    else
      (k0 S2)
def f_X9_answers (a0 : Nat) (a1 : Int32) (S : hS) : Option (hS) :=
  f_X9_answers_L0 hfuel a0 a1 S
    (fun S23 =>
      some S23
    )
set_option maxRecDepth 100000 in
set_option maxHeartbeats 4000000 in
theorem w_X9_answers_L0 {d : Nat} {S0 : hS} {args : List Value} {cs : Nat → Nat} {r : hS} (hd : 2 ≤ d) : ∀ (n : Nat) (x0 : Nat) (x1 : Int32) (S : hS) (k0 : (hS → Option (hS))) , f_X9_answers_L0 n x0 x1 S k0 = some r → (∀ (T : hS), k0 T = some r → HW cX9_answers RX9 (x_X9_answers d S0 args r cs) 0 0 T 54 [] []) → HW cX9_answers RX9 (x_X9_answers d S0 args r cs) 0 0 S 0 [(0, .ref x0), (1, .int x1)] [] := by
  intro n
  induction n with
  | zero =>
    intro x0 x1 S k0 hf
    cases hf
  | succ n ih =>
    intro x0 x1 S k0 hf hk0
    rw [f_X9_answers_L0] at hf
    refine h_aload_n dX9_answers_0 rfl 0 rfl ?_
    obtain ⟨g22, hf⟩ := hck_s hf
    obtain ⟨t3, S2, h1, hf⟩ := hb2_s hf
    refine h_Vi [] (rest := []) (m_X9_top (d := 1) (cs := cs) (Nat.le_refl _) h1) v_X9_top q_1314 rfl (Nat.le_trans (by decide) hd) g22 rfl rfl (Nat.le_of_ble_eq_true rfl) dX9_answers_1 (Nat.le_refl _) (Nat.le_refl _) ?_
    refine h_iload_n dX9_answers_4 rfl 1 rfl ?_
    refine h_icmp_ne (tgt := 54) dX9_answers_5 (by decide) (fun c4 => ?_) (fun c4 => ?_)
    · rw [if_neg c4] at hf
      refine h_sub (lv2 := []) [] rfl ?_
      exact hk0 S2 hf
    · rw [if_pos c4] at hf
      refine h_aload_n dX9_answers_8 rfl 0 rfl ?_
      obtain ⟨t5, h6, hf⟩ := hbd_s hf
      refine h_getI h6 rfl (Nat.le_of_ble_eq_true rfl) rfl q_985 rfl dX9_answers_9 ?_
      refine h_if_ne (tgt := 54) dX9_answers_12 (by decide) (fun c7 => ?_) (fun c7 => ?_)
      · rw [if_neg c7] at hf
        refine h_sub (lv2 := []) [] rfl ?_
        exact hk0 S2 hf
      · rw [if_pos c7] at hf
        refine h_aload_n dX9_answers_15 rfl 0 rfl ?_
        refine h_iload_n dX9_answers_16 rfl 1 rfl ?_
        refine h_iconst (v := 0) dX9_answers_17 rfl ?_
        obtain ⟨g21, hf⟩ := hck_s hf
        obtain ⟨S9, h8, hf⟩ := hbd_s hf
        refine h_Vv [.int x1, .int 0] (rest := []) (m_X9_entry (d := 1) (cs := cs) (Nat.le_refl _) h8) v_X9_entry q_1272 rfl (Nat.le_trans (by decide) hd) g21 rfl rfl (Nat.le_of_ble_eq_true rfl) dX9_answers_18 (Nat.le_refl _) (Nat.le_refl _) ?_
        refine h_aload_n dX9_answers_21 rfl 0 rfl ?_
        refine h_dup dX9_answers_22 rfl ?_
        obtain ⟨t10, h11, hf⟩ := hbd_s hf
        refine h_getI h11 rfl (Nat.le_of_ble_eq_true rfl) rfl q_991 rfl dX9_answers_23 ?_
        refine h_iconst (v := 1) dX9_answers_26 rfl ?_
        refine h_isub dX9_answers_27 ?_
        obtain ⟨S12, h13, hf⟩ := hbd_s hf
        refine h_putI h13 rfl (Nat.le_of_ble_eq_true rfl) rfl q_991 rfl rfl (by decide +kernel) dX9_answers_28 ?_
        refine h_aload_n dX9_answers_31 rfl 0 rfl ?_
        refine h_dup dX9_answers_32 rfl ?_
        obtain ⟨t14, h15, hf⟩ := hbd_s hf
        refine h_getI h15 rfl (Nat.le_of_ble_eq_true rfl) rfl q_989 rfl dX9_answers_33 ?_
        refine h_iload_n dX9_answers_36 rfl 1 rfl ?_
        refine h_bipush (v := 9) dX9_answers_37 rfl ?_
        refine hj_s (fun J16 => ∀ (v17 : Int32), J16 v17 = some r → HW cX9_answers RX9 (x_X9_answers d S0 args r cs) 0 0 S12 47 [(0, .ref x0), (1, .int x1)] [.int v17, .int t14, .ref x0]) hf ?_ ?_
        · intro v17 hf
          refine h_isub dX9_answers_47 ?_
          obtain ⟨S18, h19, hf⟩ := hbd_s hf
          refine h_putI h19 rfl (Nat.le_of_ble_eq_true rfl) rfl q_989 rfl rfl (by decide +kernel) dX9_answers_48 ?_
          refine h_goto (tgt := 0) dX9_answers_51 (by decide) ?_
          exact ih x0 x1 S18 k0  hf hk0
        · intro J16 hJ16 hf
          refine h_icmp_ne (tgt := 46) dX9_answers_39 (by decide) (fun c20 => ?_) (fun c20 => ?_)
          · rw [if_neg c20] at hf
            refine h_iconst (v := 0) dX9_answers_46 rfl ?_
            exact hJ16 0 hf
          · rw [if_pos c20] at hf
            refine h_iconst (v := 1) dX9_answers_42 rfl ?_
            refine h_goto (tgt := 47) dX9_answers_43 (by decide) ?_
            exact hJ16 1 hf
set_option maxRecDepth 100000 in
set_option maxHeartbeats 4000000 in
theorem m_X9_answers {d : Nat} {cs : Nat → Nat} {a0 : Nat} {a1 : Int32} {S : hS} {r : hS} (hd : 2 ≤ d) (hf : f_X9_answers a0 a1 S = some r) : HM yX9_answers cX9_answers 2 none d 0 0 cs [.ref a0, .int a1] S (none) r := by
  unfold f_X9_answers at hf
  refine HM.ofHW false (by decide) (fun h => by cases h) (Nat.le_of_ble_eq_true rfl) ?_
  show HW cX9_answers RX9 (x_X9_answers d S [.ref a0, .int a1] r cs) 0 0 S 0 [(0, .ref a0), (1, .int a1)] []
  refine w_X9_answers_L0 hd hfuel a0 a1 S _  hf ?_
  · intro S23 hf
    obtain rfl := Option.some.inj hf
    exact h_vret rfl rfl rfl (Nat.le_refl _) (Nat.le_refl _) dX9_answers_54
abbrev x_X9_fact (d : Nat) (S0 : hS) (args : List Value) (r : Int32 × hS) (cs : Nat → Nat) : hX := (((some .boolean), 1, d, 0, 0, false), (S0, args, some (.int r.1), r.2), cs)
theorem v_X9_fact : hVW yX9_fact cX9_fact 1 (some .boolean) RX9 0 := ⟨q_1299, q_s58, q_9, q_1300, by decide +kernel, by decide⟩
def f_X9_fact (a0 : Nat) (S : hS) : Option (Int32 × hS) :=
  hck (S.K a0 = 10) <|
  hbd (f_X9_blanks a0 S) fun S2 =>
  hck (S2.K a0 = 10) <|
  hb2 (f_X9_stood a0 5 S2) fun t5 S4 =>
  if t5 = 0 then
    (hck (S4.K a0 = 10) <|
     hb2 (f_X9_sign a0 S4) fun t9 S8 =>
     if t9 = 91 then
       (hck (S8.K a0 = 10) <|
        hbd (f_X9_opens a0 12 S8) fun S15 =>
        hbd (gI S15 a0 9 24) fun t16 =>
        hbd (sI S15 a0 9 24 (t16 + 1)) fun S18 =>
        some (0, S18))
     else
       (hck (S8.K a0 = 10) <|
        hbd (f_X9_compared a0 S8) fun S12 =>
        some (1, S12)))
  else
    (hck (S4.K a0 = 10) <|
     hbd (f_X9_opens a0 9 S4) fun S23 =>
     hbd (gI S23 a0 9 24) fun t24 =>
     hbd (sI S23 a0 9 24 (t24 + 3)) fun S26 =>
     some (0, S26))
set_option maxRecDepth 100000 in
set_option maxHeartbeats 4000000 in
theorem m_X9_fact {d : Nat} {cs : Nat → Nat} {a0 : Nat} {S : hS} {r : Int32 × hS} (hd : 10 ≤ d) (hf : f_X9_fact a0 S = some r) : HM yX9_fact cX9_fact 1 (some .boolean) d 0 0 cs [.ref a0] S (some (.int r.1)) r.2 := by
  unfold f_X9_fact at hf
  refine HM.ofHW false (by decide) (fun h => by cases h) (Nat.le_of_ble_eq_true rfl) ?_
  show HW cX9_fact RX9 (x_X9_fact d S [.ref a0] r cs) 0 0 S 0 [(0, .ref a0)] []
  refine h_aload_n dX9_fact_0 rfl 0 rfl ?_
  obtain ⟨g30, hf⟩ := hck_s hf
  obtain ⟨S2, h1, hf⟩ := hbd_s hf
  refine h_Vv [] (rest := []) (m_X9_blanks (d := 2) (cs := cs) (Nat.le_refl _) h1) v_X9_blanks q_1175 rfl (Nat.le_trans (by decide) hd) g30 rfl rfl (Nat.le_of_ble_eq_true rfl) dX9_fact_1 (Nat.le_refl _) (Nat.le_refl _) ?_
  refine h_aload_n dX9_fact_4 rfl 0 rfl ?_
  refine h_ldcwS dX9_fact_5 (List.mem_of_getElem? (i := 27) rfl) ?_
  obtain ⟨g29, hf⟩ := hck_s hf
  obtain ⟨t5, S4, h3, hf⟩ := hb2_s hf
  refine h_Vi [.ref (cs 5)] (rest := []) (m_X9_stood (d := 5) (cs := cs) (Nat.le_refl _) h3) v_X9_stood q_1192 rfl (Nat.le_trans (by decide) hd) g29 rfl rfl (Nat.le_of_ble_eq_true rfl) dX9_fact_8 (Nat.le_refl _) (Nat.le_refl _) ?_
  refine h_if_eq (tgt := 32) dX9_fact_11 (by decide) (fun c6 => ?_) (fun c6 => ?_)
  · rw [if_pos c6] at hf
    refine h_aload_n dX9_fact_32 rfl 0 rfl ?_
    obtain ⟨g21, hf⟩ := hck_s hf
    obtain ⟨t9, S8, h7, hf⟩ := hb2_s hf
    refine h_Vi [] (rest := []) (m_X9_sign (d := 1) (cs := cs) (Nat.le_refl _) h7) v_X9_sign q_1179 rfl (Nat.le_trans (by decide) hd) g21 rfl rfl (Nat.le_of_ble_eq_true rfl) dX9_fact_33 (Nat.le_refl _) (Nat.le_refl _) ?_
    refine h_bipush (v := 91) dX9_fact_36 rfl ?_
    refine h_icmp_ne (tgt := 59) dX9_fact_38 (by decide) (fun c10 => ?_) (fun c10 => ?_)
    · rw [if_neg c10] at hf
      refine h_aload_n dX9_fact_59 rfl 0 rfl ?_
      obtain ⟨g13, hf⟩ := hck_s hf
      obtain ⟨S12, h11, hf⟩ := hbd_s hf
      refine h_Vv [] (rest := []) (m_X9_compared (d := 9) (cs := cs) (Nat.le_refl _) h11) v_X9_compared q_1306 rfl (Nat.le_trans (by decide) hd) g13 rfl rfl (Nat.le_of_ble_eq_true rfl) dX9_fact_60 (Nat.le_refl _) (Nat.le_refl _) ?_
      refine h_iconst (v := 1) dX9_fact_63 rfl ?_
      obtain rfl := Option.some.inj hf
      exact h_zret rfl (by decide) rfl rfl (Nat.le_refl _) (Nat.le_refl _) dX9_fact_64
    · rw [if_pos c10] at hf
      refine h_aload_n dX9_fact_41 rfl 0 rfl ?_
      refine h_bipush (v := 12) dX9_fact_42 rfl ?_
      obtain ⟨g20, hf⟩ := hck_s hf
      obtain ⟨S15, h14, hf⟩ := hbd_s hf
      refine h_Vv [.int 12] (rest := []) (m_X9_opens (d := 2) (cs := cs) (Nat.le_refl _) h14) v_X9_opens q_1302 rfl (Nat.le_trans (by decide) hd) g20 rfl rfl (Nat.le_of_ble_eq_true rfl) dX9_fact_44 (Nat.le_refl _) (Nat.le_refl _) ?_
      refine h_aload_n dX9_fact_47 rfl 0 rfl ?_
      refine h_dup dX9_fact_48 rfl ?_
      obtain ⟨t16, h17, hf⟩ := hbd_s hf
      refine h_getI h17 rfl (Nat.le_of_ble_eq_true rfl) rfl q_984 rfl dX9_fact_49 ?_
      refine h_iconst (v := 1) dX9_fact_52 rfl ?_
      refine h_iadd dX9_fact_53 ?_
      obtain ⟨S18, h19, hf⟩ := hbd_s hf
      refine h_putI h19 rfl (Nat.le_of_ble_eq_true rfl) rfl q_984 rfl rfl (by decide +kernel) dX9_fact_54 ?_
      refine h_iconst (v := 0) dX9_fact_57 rfl ?_
      obtain rfl := Option.some.inj hf
      exact h_zret rfl (by decide) rfl rfl (Nat.le_refl _) (Nat.le_refl _) dX9_fact_58
  · rw [if_neg c6] at hf
    refine h_aload_n dX9_fact_14 rfl 0 rfl ?_
    refine h_bipush (v := 9) dX9_fact_15 rfl ?_
    obtain ⟨g28, hf⟩ := hck_s hf
    obtain ⟨S23, h22, hf⟩ := hbd_s hf
    refine h_Vv [.int 9] (rest := []) (m_X9_opens (d := 2) (cs := cs) (Nat.le_refl _) h22) v_X9_opens q_1302 rfl (Nat.le_trans (by decide) hd) g28 rfl rfl (Nat.le_of_ble_eq_true rfl) dX9_fact_17 (Nat.le_refl _) (Nat.le_refl _) ?_
    refine h_aload_n dX9_fact_20 rfl 0 rfl ?_
    refine h_dup dX9_fact_21 rfl ?_
    obtain ⟨t24, h25, hf⟩ := hbd_s hf
    refine h_getI h25 rfl (Nat.le_of_ble_eq_true rfl) rfl q_984 rfl dX9_fact_22 ?_
    refine h_iconst (v := 3) dX9_fact_25 rfl ?_
    refine h_iadd dX9_fact_26 ?_
    obtain ⟨S26, h27, hf⟩ := hbd_s hf
    refine h_putI h27 rfl (Nat.le_of_ble_eq_true rfl) rfl q_984 rfl rfl (by decide +kernel) dX9_fact_27 ?_
    refine h_iconst (v := 0) dX9_fact_30 rfl ?_
    obtain rfl := Option.some.inj hf
    exact h_zret rfl (by decide) rfl rfl (Nat.le_refl _) (Nat.le_refl _) dX9_fact_31
abbrev x_X9_test (d : Nat) (S0 : hS) (args : List Value) (r : hS) (cs : Nat → Nat) : hX := ((none, 5, d, 0, 0, false), (S0, args, none, r), cs)
theorem v_X9_test : hVW yX9_test cX9_test 5 none RX9 0 := ⟨q_1295, q_s57, q_9, q_1296, by decide +kernel, by decide⟩
def f_X9_test_L9 : Nat → Nat → Int32 → Int32 → hS → (hS → Option (hS)) → Option (hS)
  | 0, _, _, _, _, _ => none
  | n + 1, x0, x1, x2, S, k0 =>
    if x2 = 0 then
      (k0 S)
    else
      (hbd (gI S x0 9 25) fun t2 =>
       if t2 = 0 then
         (if x1 = 0 then
            (hck (S.K x0 = 10) <|
             hbd (f_X9_answers x0 9 S) fun S7 =>
             hck (S7.K x0 = 10) <|
             hbd (f_X9_blanks x0 S7) fun S9 =>
             hck (S9.K x0 = 10) <|
             hb2 (f_X9_stood x0 8 S9) fun t12 S11 =>
             hck (S11.K x0 = 10) <|
             hb2 (f_X9_stood x0 9 S11) fun t15 S14 =>
             hck (S14.K x0 = 10) <|
             hbd (f_X9_answers x0 10 S14) fun S17 =>
             hj (γ := Unit → Option (hS)) (fun (_ : Unit) =>
               hj (γ := hS → Option (hS)) (fun (S20 : hS) =>
                 hj (γ := Int32 → Option (hS)) (fun (v22 : Int32) =>
                   hck (S20.K x0 = 10) <|
                   hbd (f_X9_opens x0 v22 S20) fun S24 =>
                   hbd (gI S24 x0 9 24) fun t25 =>
                   hj (γ := Int32 → Option (hS)) (fun (v28 : Int32) =>
                     hbd (sI S24 x0 9 24 (t25 + v28)) fun S29 =>
                     f_X9_test_L9 n x0 1 x2 S29 k0
                     ) fun J27 =>
                   if t12 = 0 then
                     (J27 2)
                   else
                     (J27 3)
                   ) fun J21 =>
                 if t12 = 0 then
                   (J21 11)
                 else
                   (J21 10)
                 ) fun J19 =>
               if t15 = 0 then
                 (J19 S17)
               else
                 (hck (S17.K x0 = 10) <|
                  hbd (f_X9_answers x0 11 S17) fun S36 =>
                  J19 S36)
               ) fun J18 =>
             if t12 = 0 then
               (if t15 = 0 then
                  (hck (S17.K x0 = 10) <|
                   hbd (f_X9_answers x0 11 S17) fun S41 =>
                   hck (S41.K x0 = 10) <|
                   hb2 (f_X9_top x0 S41) fun t44 S43 =>
                   if t44 = 12 then
                     (hck (S43.K x0 = 10) <|
                      hb2 (f_X9_sign x0 S43) fun t48 S47 =>
                      hj (γ := hS → Option (hS)) (fun (S50 : hS) =>
                        hbd (gI S50 x0 9 24) fun t51 =>
                        hbd (sI S50 x0 9 24 (t51 + 1)) fun S53 =>
                        hbd (gI S53 x0 9 31) fun t55 =>
                        hbd (sI S53 x0 9 31 (t55 - 1)) fun S57 =>
                        hbd (gI S57 x0 9 29) fun t59 =>
                        hbd (sI S57 x0 9 29 (t59 - 1)) fun S61 =>
                        f_X9_test_L9 n x0 x1 x2 S61 k0
                        ) fun J49 =>
                      if t48 = 93 then
                        (J49 S47)
                      else
                        (hbd (gI S47 x0 9 24) fun t64 =>
                         hck (S47.K x0 = 10) <|
                         hbd (f_X9_fails x0 0 t64 S47) fun S67 =>
                         J49 S67))
                   else
                     (f_X9_test_L9 n x0 x1 0 S43 k0))
                else
                  (J18 ()))
             else
               (J18 ()))
          else
            (hck (S.K x0 = 10) <|
             hb2 (f_X9_fact x0 S) fun t79 S78 =>
             hj (γ := Int32 → Option (hS)) (fun (v81 : Int32) =>
               f_X9_test_L9 n x0 v81 x2 S78 k0
               ) fun J80 =>
             if t79 = 0 then
               (J80 1)
             else
               (J80 0)))
       else
         (k0 S))
def f_X9_test (a0 : Nat) (S : hS) : Option (hS) :=
  hbd (sI S a0 9 31 0) fun S84 =>
  f_X9_test_L9 hfuel a0 1 1 S84
    (fun S86 =>
      some S86
    )
set_option maxRecDepth 100000 in
set_option maxHeartbeats 4000000 in
theorem w_X9_test_L9 {d : Nat} {S0 : hS} {args : List Value} {cs : Nat → Nat} {r : hS} (hd : 11 ≤ d) : ∀ (n : Nat) (x0 : Nat) (x1 : Int32) (x2 : Int32) (S : hS) (k0 : (hS → Option (hS))) , f_X9_test_L9 n x0 x1 x2 S k0 = some r → (∀ (T : hS), k0 T = some r → HW cX9_test RX9 (x_X9_test d S0 args r cs) 0 0 T 202 [] []) → HW cX9_test RX9 (x_X9_test d S0 args r cs) 0 0 S 9 [(0, .ref x0), (1, .int x1), (2, .int x2)] [] := by
  intro n
  induction n with
  | zero =>
    intro x0 x1 x2 S k0 hf
    cases hf
  | succ n ih =>
    intro x0 x1 x2 S k0 hf hk0
    rw [f_X9_test_L9] at hf
    refine h_iload_n dX9_test_9 rfl 2 rfl ?_
    refine h_if_eq (tgt := 202) dX9_test_10 (by decide) (fun c1 => ?_) (fun c1 => ?_)
    · rw [if_pos c1] at hf
      refine h_sub (lv2 := []) [] rfl ?_
      exact hk0 S hf
    · rw [if_neg c1] at hf
      refine h_aload_n dX9_test_13 rfl 0 rfl ?_
      obtain ⟨t2, h3, hf⟩ := hbd_s hf
      refine h_getI h3 rfl (Nat.le_of_ble_eq_true rfl) rfl q_985 rfl dX9_test_14 ?_
      refine h_if_ne (tgt := 202) dX9_test_17 (by decide) (fun c4 => ?_) (fun c4 => ?_)
      · rw [if_neg c4] at hf
        refine h_sub (lv2 := []) [] rfl ?_
        exact hk0 S hf
      · rw [if_pos c4] at hf
        refine h_iload_n dX9_test_20 rfl 1 rfl ?_
        refine h_if_eq (tgt := 40) dX9_test_21 (by decide) (fun c5 => ?_) (fun c5 => ?_)
        · rw [if_pos c5] at hf
          refine h_aload_n dX9_test_40 rfl 0 rfl ?_
          refine h_bipush (v := 9) dX9_test_41 rfl ?_
          obtain ⟨g76, hf⟩ := hck_s hf
          obtain ⟨S7, h6, hf⟩ := hbd_s hf
          refine h_Vv [.int 9] (rest := []) (m_X9_answers (d := 2) (cs := cs) (Nat.le_refl _) h6) v_X9_answers q_1310 rfl (Nat.le_trans (by decide) hd) g76 rfl rfl (Nat.le_of_ble_eq_true rfl) dX9_test_43 (Nat.le_refl _) (Nat.le_refl _) ?_
          refine h_aload_n dX9_test_46 rfl 0 rfl ?_
          obtain ⟨g75, hf⟩ := hck_s hf
          obtain ⟨S9, h8, hf⟩ := hbd_s hf
          refine h_Vv [] (rest := []) (m_X9_blanks (d := 2) (cs := cs) (Nat.le_refl _) h8) v_X9_blanks q_1175 rfl (Nat.le_trans (by decide) hd) g75 rfl rfl (Nat.le_of_ble_eq_true rfl) dX9_test_47 (Nat.le_refl _) (Nat.le_refl _) ?_
          refine h_aload_n dX9_test_50 rfl 0 rfl ?_
          refine h_ldcwS dX9_test_51 (List.mem_of_getElem? (i := 28) rfl) ?_
          obtain ⟨g74, hf⟩ := hck_s hf
          obtain ⟨t12, S11, h10, hf⟩ := hb2_s hf
          refine h_Vi [.ref (cs 8)] (rest := []) (m_X9_stood (d := 5) (cs := cs) (Nat.le_refl _) h10) v_X9_stood q_1192 rfl (Nat.le_trans (by decide) hd) g74 rfl rfl (Nat.le_of_ble_eq_true rfl) dX9_test_54 (Nat.le_refl _) (Nat.le_refl _) ?_
          refine h_istore_n (lv2 := [(3, .int t12), (0, .ref x0), (1, .int x1), (2, .int x2)]) dX9_test_57 rfl (Nat.le_of_ble_eq_true rfl) rfl ?_
          refine h_aload_n dX9_test_58 rfl 1 rfl ?_
          refine h_ldcwS dX9_test_59 (List.mem_of_getElem? (i := 29) rfl) ?_
          obtain ⟨g73, hf⟩ := hck_s hf
          obtain ⟨t15, S14, h13, hf⟩ := hb2_s hf
          refine h_Vi [.ref (cs 9)] (rest := []) (m_X9_stood (d := 5) (cs := cs) (Nat.le_refl _) h13) v_X9_stood q_1192 rfl (Nat.le_trans (by decide) hd) g73 rfl rfl (Nat.le_of_ble_eq_true rfl) dX9_test_62 (Nat.le_refl _) (Nat.le_refl _) ?_
          refine h_istore (lv2 := [(4, .int t15), (3, .int t12), (0, .ref x0), (1, .int x1), (2, .int x2)]) dX9_test_65 (Nat.le_of_ble_eq_true rfl) rfl ?_
          refine h_aload_n dX9_test_67 rfl 2 rfl ?_
          refine h_bipush (v := 10) dX9_test_68 rfl ?_
          obtain ⟨g72, hf⟩ := hck_s hf
          obtain ⟨S17, h16, hf⟩ := hbd_s hf
          refine h_Vv [.int 10] (rest := []) (m_X9_answers (d := 2) (cs := cs) (Nat.le_refl _) h16) v_X9_answers q_1310 rfl (Nat.le_trans (by decide) hd) g72 rfl rfl (Nat.le_of_ble_eq_true rfl) dX9_test_70 (Nat.le_refl _) (Nat.le_refl _) ?_
          refine h_iload_n dX9_test_73 rfl 1 rfl ?_
          refine hj_s (fun J18 => ∀ (w : Unit), J18 w = some r → HW cX9_test RX9 (x_X9_test d S0 args r cs) 0 0 S17 82 [(0, .ref x0), (2, .int x2), (3, .int t12), (4, .int t15)] []) hf ?_ ?_
          · intro w hf
            refine h_iload dX9_test_82 3 rfl ?_
            refine hj_s (fun J19 => ∀ (S20 : hS), J19 S20 = some r → HW cX9_test RX9 (x_X9_test d S0 args r cs) 0 0 S20 93 [(0, .ref x0), (2, .int x2), (3, .int t12)] []) hf ?_ ?_
            · intro S20 hf
              refine h_aload_n dX9_test_93 rfl 0 rfl ?_
              refine h_iload_n dX9_test_94 rfl 2 rfl ?_
              refine hj_s (fun J21 => ∀ (v22 : Int32), J21 v22 = some r → HW cX9_test RX9 (x_X9_test d S0 args r cs) 0 0 S20 105 [(0, .ref x0), (2, .int x2), (3, .int t12)] [.int v22, .ref x0]) hf ?_ ?_
              · intro v22 hf
                obtain ⟨g32, hf⟩ := hck_s hf
                obtain ⟨S24, h23, hf⟩ := hbd_s hf
                refine h_Vv [.int v22] (rest := []) (m_X9_opens (d := 2) (cs := cs) (Nat.le_refl _) h23) v_X9_opens q_1302 rfl (Nat.le_trans (by decide) hd) g32 rfl rfl (Nat.le_of_ble_eq_true rfl) dX9_test_105 (Nat.le_refl _) (Nat.le_refl _) ?_
                refine h_aload_n dX9_test_108 rfl 0 rfl ?_
                refine h_dup dX9_test_109 rfl ?_
                obtain ⟨t25, h26, hf⟩ := hbd_s hf
                refine h_getI h26 rfl (Nat.le_of_ble_eq_true rfl) rfl q_984 rfl dX9_test_110 ?_
                refine h_iload_n dX9_test_113 rfl 2 rfl ?_
                refine hj_s (fun J27 => ∀ (v28 : Int32), J27 v28 = some r → HW cX9_test RX9 (x_X9_test d S0 args r cs) 0 0 S24 122 [(0, .ref x0), (2, .int x2)] [.int v28, .int t25, .ref x0]) hf ?_ ?_
                · intro v28 hf
                  refine h_iadd dX9_test_122 ?_
                  obtain ⟨S29, h30, hf⟩ := hbd_s hf
                  refine h_putI h30 rfl (Nat.le_of_ble_eq_true rfl) rfl q_984 rfl rfl (by decide +kernel) dX9_test_123 ?_
                  refine h_iconst (v := 1) dX9_test_126 rfl ?_
                  refine h_istore_n (lv2 := [(1, .int 1), (0, .ref x0), (2, .int x2)]) dX9_test_127 rfl (Nat.le_of_ble_eq_true rfl) rfl ?_
                  refine h_goto (tgt := 199) dX9_test_128 (by decide) ?_
                  refine h_goto (tgt := 9) dX9_test_199 (by decide) ?_
                  refine h_sub (lv2 := [(0, .ref x0), (1, .int 1), (2, .int x2)]) [1, 0, 2] rfl ?_
                  exact ih x0 1 x2 S29 k0  hf hk0
                · intro J27 hJ27 hf
                  refine h_if_eq (tgt := 121) dX9_test_114 (by decide) (fun c31 => ?_) (fun c31 => ?_)
                  · rw [if_pos c31] at hf
                    refine h_iconst (v := 2) dX9_test_121 rfl ?_
                    refine h_sub (lv2 := [(0, .ref x0), (2, .int x2)]) [0, 1] rfl ?_
                    exact hJ27 2 hf
                  · rw [if_neg c31] at hf
                    refine h_iconst (v := 3) dX9_test_117 rfl ?_
                    refine h_goto (tgt := 122) dX9_test_118 (by decide) ?_
                    refine h_sub (lv2 := [(0, .ref x0), (2, .int x2)]) [0, 1] rfl ?_
                    exact hJ27 3 hf
              · intro J21 hJ21 hf
                refine h_if_eq (tgt := 103) dX9_test_95 (by decide) (fun c33 => ?_) (fun c33 => ?_)
                · rw [if_pos c33] at hf
                  refine h_bipush (v := 11) dX9_test_103 rfl ?_
                  exact hJ21 11 hf
                · rw [if_neg c33] at hf
                  refine h_bipush (v := 10) dX9_test_98 rfl ?_
                  refine h_goto (tgt := 105) dX9_test_100 (by decide) ?_
                  exact hJ21 10 hf
            · intro J19 hJ19 hf
              refine h_if_eq (tgt := 93) dX9_test_84 (by decide) (fun c34 => ?_) (fun c34 => ?_)
              · rw [if_pos c34] at hf
                refine h_sub (lv2 := [(0, .ref x0), (2, .int x2), (3, .int t12)]) [0, 1, 2] rfl ?_
                exact hJ19 S17 hf
              · rw [if_neg c34] at hf
                refine h_aload_n dX9_test_87 rfl 0 rfl ?_
                refine h_bipush (v := 11) dX9_test_88 rfl ?_
                obtain ⟨g37, hf⟩ := hck_s hf
                obtain ⟨S36, h35, hf⟩ := hbd_s hf
                refine h_Vv [.int 11] (rest := []) (m_X9_answers (d := 2) (cs := cs) (Nat.le_refl _) h35) v_X9_answers q_1310 rfl (Nat.le_trans (by decide) hd) g37 rfl rfl (Nat.le_of_ble_eq_true rfl) dX9_test_90 (Nat.le_refl _) (Nat.le_refl _) ?_
                refine h_sub (lv2 := [(0, .ref x0), (2, .int x2), (3, .int t12)]) [0, 1, 2] rfl ?_
                exact hJ19 S36 hf
          · intro J18 hJ18 hf
            refine h_if_ne (tgt := 82) dX9_test_74 (by decide) (fun c38 => ?_) (fun c38 => ?_)
            · rw [if_neg c38] at hf
              refine h_sub (lv2 := [(0, .ref x0), (2, .int x2), (3, .int t12), (4, .int t15)]) [2, 4, 1, 0] rfl ?_
              exact hJ18 () hf
            · rw [if_pos c38] at hf
              refine h_iload dX9_test_77 0 rfl ?_
              refine h_if_eq (tgt := 131) dX9_test_79 (by decide) (fun c39 => ?_) (fun c39 => ?_)
              · rw [if_pos c39] at hf
                refine h_aload_n dX9_test_131 rfl 2 rfl ?_
                refine h_bipush (v := 11) dX9_test_132 rfl ?_
                obtain ⟨g71, hf⟩ := hck_s hf
                obtain ⟨S41, h40, hf⟩ := hbd_s hf
                refine h_Vv [.int 11] (rest := []) (m_X9_answers (d := 2) (cs := cs) (Nat.le_refl _) h40) v_X9_answers q_1310 rfl (Nat.le_trans (by decide) hd) g71 rfl rfl (Nat.le_of_ble_eq_true rfl) dX9_test_134 (Nat.le_refl _) (Nat.le_refl _) ?_
                refine h_aload_n dX9_test_137 rfl 2 rfl ?_
                obtain ⟨g70, hf⟩ := hck_s hf
                obtain ⟨t44, S43, h42, hf⟩ := hb2_s hf
                refine h_Vi [] (rest := []) (m_X9_top (d := 1) (cs := cs) (Nat.le_refl _) h42) v_X9_top q_1314 rfl (Nat.le_trans (by decide) hd) g70 rfl rfl (Nat.le_of_ble_eq_true rfl) dX9_test_138 (Nat.le_refl _) (Nat.le_refl _) ?_
                refine h_bipush (v := 12) dX9_test_141 rfl ?_
                refine h_icmp_ne (tgt := 197) dX9_test_143 (by decide) (fun c45 => ?_) (fun c45 => ?_)
                · rw [if_neg c45] at hf
                  refine h_iconst (v := 0) dX9_test_197 rfl ?_
                  refine h_istore_n (lv2 := [(2, .int 0), (4, .int t15), (3, .int t12), (0, .ref x0), (1, .int x1)]) dX9_test_198 rfl (Nat.le_of_ble_eq_true rfl) rfl ?_
                  refine h_goto (tgt := 9) dX9_test_199 (by decide) ?_
                  refine h_sub (lv2 := [(0, .ref x0), (1, .int x1), (2, .int 0)]) [3, 4, 0] rfl ?_
                  exact ih x0 x1 0 S43 k0  hf hk0
                · rw [if_pos c45] at hf
                  refine h_aload_n dX9_test_146 rfl 2 rfl ?_
                  obtain ⟨g69, hf⟩ := hck_s hf
                  obtain ⟨t48, S47, h46, hf⟩ := hb2_s hf
                  refine h_Vi [] (rest := []) (m_X9_sign (d := 1) (cs := cs) (Nat.le_refl _) h46) v_X9_sign q_1179 rfl (Nat.le_trans (by decide) hd) g69 rfl rfl (Nat.le_of_ble_eq_true rfl) dX9_test_147 (Nat.le_refl _) (Nat.le_refl _) ?_
                  refine h_bipush (v := 93) dX9_test_150 rfl ?_
                  refine hj_s (fun J49 => ∀ (S50 : hS), J49 S50 = some r → HW cX9_test RX9 (x_X9_test d S0 args r cs) 0 0 S50 164 [(0, .ref x0), (1, .int x1), (2, .int x2)] []) hf ?_ ?_
                  · intro S50 hf
                    refine h_aload_n dX9_test_164 rfl 0 rfl ?_
                    refine h_dup dX9_test_165 rfl ?_
                    obtain ⟨t51, h52, hf⟩ := hbd_s hf
                    refine h_getI h52 rfl (Nat.le_of_ble_eq_true rfl) rfl q_984 rfl dX9_test_166 ?_
                    refine h_iconst (v := 1) dX9_test_169 rfl ?_
                    refine h_iadd dX9_test_170 ?_
                    obtain ⟨S53, h54, hf⟩ := hbd_s hf
                    refine h_putI h54 rfl (Nat.le_of_ble_eq_true rfl) rfl q_984 rfl rfl (by decide +kernel) dX9_test_171 ?_
                    refine h_aload_n dX9_test_174 rfl 0 rfl ?_
                    refine h_dup dX9_test_175 rfl ?_
                    obtain ⟨t55, h56, hf⟩ := hbd_s hf
                    refine h_getI h56 rfl (Nat.le_of_ble_eq_true rfl) rfl q_991 rfl dX9_test_176 ?_
                    refine h_iconst (v := 1) dX9_test_179 rfl ?_
                    refine h_isub dX9_test_180 ?_
                    obtain ⟨S57, h58, hf⟩ := hbd_s hf
                    refine h_putI h58 rfl (Nat.le_of_ble_eq_true rfl) rfl q_991 rfl rfl (by decide +kernel) dX9_test_181 ?_
                    refine h_aload_n dX9_test_184 rfl 0 rfl ?_
                    refine h_dup dX9_test_185 rfl ?_
                    obtain ⟨t59, h60, hf⟩ := hbd_s hf
                    refine h_getI h60 rfl (Nat.le_of_ble_eq_true rfl) rfl q_989 rfl dX9_test_186 ?_
                    refine h_iconst (v := 1) dX9_test_189 rfl ?_
                    refine h_isub dX9_test_190 ?_
                    obtain ⟨S61, h62, hf⟩ := hbd_s hf
                    refine h_putI h62 rfl (Nat.le_of_ble_eq_true rfl) rfl q_989 rfl rfl (by decide +kernel) dX9_test_191 ?_
                    refine h_goto (tgt := 199) dX9_test_194 (by decide) ?_
                    refine h_goto (tgt := 9) dX9_test_199 (by decide) ?_
                    exact ih x0 x1 x2 S61 k0  hf hk0
                  · intro J49 hJ49 hf
                    refine h_icmp_eq (tgt := 164) dX9_test_152 (by decide) (fun c63 => ?_) (fun c63 => ?_)
                    · rw [if_pos c63] at hf
                      refine h_sub (lv2 := [(0, .ref x0), (1, .int x1), (2, .int x2)]) [2, 3, 4] rfl ?_
                      exact hJ49 S47 hf
                    · rw [if_neg c63] at hf
                      refine h_aload_n dX9_test_155 rfl 2 rfl ?_
                      refine h_iconst (v := 0) dX9_test_156 rfl ?_
                      refine h_aload_n dX9_test_157 rfl 2 rfl ?_
                      obtain ⟨t64, h65, hf⟩ := hbd_s hf
                      refine h_getI h65 rfl (Nat.le_of_ble_eq_true rfl) rfl q_984 rfl dX9_test_158 ?_
                      obtain ⟨g68, hf⟩ := hck_s hf
                      obtain ⟨S67, h66, hf⟩ := hbd_s hf
                      refine h_Vv [.int 0, .int t64] (rest := []) (m_X9_fails (d := 1) (cs := cs) (Nat.le_refl _) h66) v_X9_fails q_1198 rfl (Nat.le_trans (by decide) hd) g68 rfl rfl (Nat.le_of_ble_eq_true rfl) dX9_test_161 (Nat.le_refl _) (Nat.le_refl _) ?_
                      refine h_sub (lv2 := [(0, .ref x0), (1, .int x1), (2, .int x2)]) [2, 3, 4] rfl ?_
                      exact hJ49 S67 hf
              · rw [if_neg c39] at hf
                refine h_sub (lv2 := [(0, .ref x0), (2, .int x2), (3, .int t12), (4, .int t15)]) [2, 4, 1, 0] rfl ?_
                exact hJ18 () hf
        · rw [if_neg c5] at hf
          refine h_aload_n dX9_test_24 rfl 0 rfl ?_
          obtain ⟨g83, hf⟩ := hck_s hf
          obtain ⟨t79, S78, h77, hf⟩ := hb2_s hf
          refine h_Vi [] (rest := []) (m_X9_fact (d := 10) (cs := cs) (Nat.le_refl _) h77) v_X9_fact q_1297 rfl (Nat.le_trans (by decide) hd) g83 rfl rfl (Nat.le_of_ble_eq_true rfl) dX9_test_25 (Nat.le_refl _) (Nat.le_refl _) ?_
          refine hj_s (fun J80 => ∀ (v81 : Int32), J80 v81 = some r → HW cX9_test RX9 (x_X9_test d S0 args r cs) 0 0 S78 36 [(0, .ref x0), (2, .int x2)] [.int v81]) hf ?_ ?_
          · intro v81 hf
            refine h_istore_n (lv2 := [(1, .int v81), (0, .ref x0), (2, .int x2)]) dX9_test_36 rfl (Nat.le_of_ble_eq_true rfl) rfl ?_
            refine h_goto (tgt := 9) dX9_test_37 (by decide) ?_
            refine h_sub (lv2 := [(0, .ref x0), (1, .int v81), (2, .int x2)]) [1, 0, 2] rfl ?_
            exact ih x0 v81 x2 S78 k0  hf hk0
          · intro J80 hJ80 hf
            refine h_if_ne (tgt := 35) dX9_test_28 (by decide) (fun c82 => ?_) (fun c82 => ?_)
            · rw [if_neg c82] at hf
              refine h_iconst (v := 0) dX9_test_35 rfl ?_
              refine h_sub (lv2 := [(0, .ref x0), (2, .int x2)]) [0, 2] rfl ?_
              exact hJ80 0 hf
            · rw [if_pos c82] at hf
              refine h_iconst (v := 1) dX9_test_31 rfl ?_
              refine h_goto (tgt := 36) dX9_test_32 (by decide) ?_
              refine h_sub (lv2 := [(0, .ref x0), (2, .int x2)]) [0, 2] rfl ?_
              exact hJ80 1 hf
set_option maxRecDepth 100000 in
set_option maxHeartbeats 4000000 in
theorem m_X9_test {d : Nat} {cs : Nat → Nat} {a0 : Nat} {S : hS} {r : hS} (hd : 11 ≤ d) (hf : f_X9_test a0 S = some r) : HM yX9_test cX9_test 5 none d 0 0 cs [.ref a0] S (none) r := by
  unfold f_X9_test at hf
  refine HM.ofHW false (by decide) (fun h => by cases h) (Nat.le_of_ble_eq_true rfl) ?_
  show HW cX9_test RX9 (x_X9_test d S [.ref a0] r cs) 0 0 S 0 [(0, .ref a0)] []
  refine h_aload_n dX9_test_0 rfl 0 rfl ?_
  refine h_iconst (v := 0) dX9_test_1 rfl ?_
  obtain ⟨S84, h85, hf⟩ := hbd_s hf
  refine h_putI h85 rfl (Nat.le_of_ble_eq_true rfl) rfl q_991 rfl rfl (by decide +kernel) dX9_test_2 ?_
  refine h_iconst (v := 1) dX9_test_5 rfl ?_
  refine h_istore_n (lv2 := [(1, .int 1), (0, .ref a0)]) dX9_test_6 rfl (Nat.le_of_ble_eq_true rfl) rfl ?_
  refine h_iconst (v := 1) dX9_test_7 rfl ?_
  refine h_istore_n (lv2 := [(2, .int 1), (1, .int 1), (0, .ref a0)]) dX9_test_8 rfl (Nat.le_of_ble_eq_true rfl) rfl ?_
  refine h_sub (lv2 := [(0, .ref a0), (1, .int 1), (2, .int 1)]) [2, 1, 0] rfl ?_
  refine w_X9_test_L9 hd hfuel a0 1 1 S84 _  hf ?_
  · intro S86 hf
    obtain rfl := Option.some.inj hf
    exact h_vret rfl rfl rfl (Nat.le_refl _) (Nat.le_refl _) dX9_test_202
abbrev x_X9_amount (d : Nat) (S0 : hS) (args : List Value) (r : Int32 × hS) (cs : Nat → Nat) : hX := (((some .int), 5, d, 0, 0, false), (S0, args, some (.int r.1), r.2), cs)
theorem v_X9_amount : hVW yX9_amount cX9_amount 5 (some .int) RX9 2 := ⟨q_1212, q_s43, q_9, q_1213, by decide +kernel, by decide⟩
def f_X9_amount (a0 : Nat) (a1 : Int32) (a2 : Int32) (S : hS) : Option (Int32 × hS) :=
  hck (S.K a0 = 10) <|
  hbd (f_X9_blanks a0 S) fun S2 =>
  hbd (gI S2 a0 9 24) fun t3 =>
  hbd (gI S2 a0 9 25) fun t5 =>
  hj (γ := Int32 → hS → Option (Int32 × hS)) (fun (v8 : Int32) (S9 : hS) =>
    hbd (gI S9 a0 9 25) fun t10 =>
    if t10 = 0 then
      (hb2 (f_X9_in (Int32.toInt64 v8) (Int32.toInt64 a1) (Int32.toInt64 a2) S9) fun t15 S14 =>
       if t15 = 0 then
         (hck (S14.K a0 = 10) <|
          hbd (f_X9_fails a0 1 t3 S14) fun S18 =>
          some (v8, S18))
       else
         (some (v8, S14)))
    else
      (some (v8, S9))
    ) fun J7 =>
  if t5 = 0 then
    (hck (S2.K a0 = 10) <|
     hb2 (f_X9_digits a0 99999 S2) fun t23 S22 =>
     J7 t23 S22)
  else
    (J7 0 S2)
set_option maxRecDepth 100000 in
set_option maxHeartbeats 4000000 in
theorem m_X9_amount {d : Nat} {cs : Nat → Nat} {a0 : Nat} {a1 : Int32} {a2 : Int32} {S : hS} {r : Int32 × hS} (hd : 4 ≤ d) (hf : f_X9_amount a0 a1 a2 S = some r) : HM yX9_amount cX9_amount 5 (some .int) d 0 0 cs [.ref a0, .int a1, .int a2] S (some (.int r.1)) r.2 := by
  unfold f_X9_amount at hf
  refine HM.ofHW false (by decide) (fun h => by cases h) (Nat.le_of_ble_eq_true rfl) ?_
  show HW cX9_amount RX9 (x_X9_amount d S [.ref a0, .int a1, .int a2] r cs) 0 0 S 0 [(0, .ref a0), (1, .int a1), (2, .int a2)] []
  refine h_aload_n dX9_amount_0 rfl 0 rfl ?_
  obtain ⟨g25, hf⟩ := hck_s hf
  obtain ⟨S2, h1, hf⟩ := hbd_s hf
  refine h_Vv [] (rest := []) (m_X9_blanks (d := 2) (cs := cs) (Nat.le_refl _) h1) v_X9_blanks q_1175 rfl (Nat.le_trans (by decide) hd) g25 rfl rfl (Nat.le_of_ble_eq_true rfl) dX9_amount_1 (Nat.le_refl _) (Nat.le_refl _) ?_
  refine h_aload_n dX9_amount_4 rfl 0 rfl ?_
  obtain ⟨t3, h4, hf⟩ := hbd_s hf
  refine h_getI h4 rfl (Nat.le_of_ble_eq_true rfl) rfl q_984 rfl dX9_amount_5 ?_
  refine h_istore_n (lv2 := [(3, .int t3), (0, .ref a0), (1, .int a1), (2, .int a2)]) dX9_amount_8 rfl (Nat.le_of_ble_eq_true rfl) rfl ?_
  refine h_aload_n dX9_amount_9 rfl 1 rfl ?_
  obtain ⟨t5, h6, hf⟩ := hbd_s hf
  refine h_getI h6 rfl (Nat.le_of_ble_eq_true rfl) rfl q_985 rfl dX9_amount_10 ?_
  refine hj_s (fun J7 => ∀ (v8 : Int32) (S9 : hS), J7 v8 S9 = some r → HW cX9_amount RX9 (x_X9_amount d S [.ref a0, .int a1, .int a2] r cs) 0 0 S9 26 [(0, .ref a0), (1, .int a1), (2, .int a2), (3, .int t3)] [.int v8]) hf ?_ ?_
  · intro v8 S9 hf
    refine h_istore (lv2 := [(4, .int v8), (0, .ref a0), (1, .int a1), (2, .int a2), (3, .int t3)]) dX9_amount_26 (Nat.le_of_ble_eq_true rfl) rfl ?_
    refine h_aload_n dX9_amount_28 rfl 1 rfl ?_
    obtain ⟨t10, h11, hf⟩ := hbd_s hf
    refine h_getI h11 rfl (Nat.le_of_ble_eq_true rfl) rfl q_985 rfl dX9_amount_29 ?_
    refine h_if_ne (tgt := 54) dX9_amount_32 (by decide) (fun c12 => ?_) (fun c12 => ?_)
    · rw [if_neg c12] at hf
      refine h_iload dX9_amount_54 0 rfl ?_
      obtain rfl := Option.some.inj hf
      exact h_iret rfl rfl rfl (Nat.le_refl _) (Nat.le_refl _) dX9_amount_56
    · rw [if_pos c12] at hf
      refine h_iload dX9_amount_35 0 rfl ?_
      refine h_i2l dX9_amount_37 ?_
      refine h_iload_n dX9_amount_38 rfl 2 rfl ?_
      refine h_i2l dX9_amount_39 ?_
      refine h_iload_n dX9_amount_40 rfl 3 rfl ?_
      refine h_i2l dX9_amount_41 ?_
      obtain ⟨t15, S14, h13, hf⟩ := hb2_s hf
      refine h_Si [.long (Int32.toInt64 v8), .long (Int32.toInt64 a1), .long (Int32.toInt64 a2)] (rest := []) (m_X9_in (d := 1) (cs := cs) (Nat.le_refl _) h13) v_X9_in q_1225 rfl (Nat.le_trans (by decide) hd) rfl (Nat.le_of_ble_eq_true rfl) dX9_amount_42 (Nat.le_refl _) (Nat.le_refl _) ?_
      refine h_if_ne (tgt := 54) dX9_amount_45 (by decide) (fun c16 => ?_) (fun c16 => ?_)
      · rw [if_neg c16] at hf
        refine h_iload dX9_amount_54 0 rfl ?_
        obtain rfl := Option.some.inj hf
        exact h_iret rfl rfl rfl (Nat.le_refl _) (Nat.le_refl _) dX9_amount_56
      · rw [if_pos c16] at hf
        refine h_aload_n dX9_amount_48 rfl 1 rfl ?_
        refine h_iconst (v := 1) dX9_amount_49 rfl ?_
        refine h_iload_n dX9_amount_50 rfl 4 rfl ?_
        obtain ⟨g19, hf⟩ := hck_s hf
        obtain ⟨S18, h17, hf⟩ := hbd_s hf
        refine h_Vv [.int 1, .int t3] (rest := []) (m_X9_fails (d := 1) (cs := cs) (Nat.le_refl _) h17) v_X9_fails q_1198 rfl (Nat.le_trans (by decide) hd) g19 rfl rfl (Nat.le_of_ble_eq_true rfl) dX9_amount_51 (Nat.le_refl _) (Nat.le_refl _) ?_
        refine h_iload dX9_amount_54 0 rfl ?_
        obtain rfl := Option.some.inj hf
        exact h_iret rfl rfl rfl (Nat.le_refl _) (Nat.le_refl _) dX9_amount_56
  · intro J7 hJ7 hf
    refine h_if_ne (tgt := 25) dX9_amount_13 (by decide) (fun c20 => ?_) (fun c20 => ?_)
    · rw [if_neg c20] at hf
      refine h_iconst (v := 0) dX9_amount_25 rfl ?_
      refine h_sub (lv2 := [(0, .ref a0), (1, .int a1), (2, .int a2), (3, .int t3)]) [1, 2, 3, 0] rfl ?_
      exact hJ7 0 S2 hf
    · rw [if_pos c20] at hf
      refine h_aload_n dX9_amount_16 rfl 1 rfl ?_
      refine h_ldc (v := 99999) dX9_amount_17 q_1214 ?_
      obtain ⟨g24, hf⟩ := hck_s hf
      obtain ⟨t23, S22, h21, hf⟩ := hb2_s hf
      refine h_Vi [.int 99999] (rest := []) (m_X9_digits (d := 3) (cs := cs) (Nat.le_refl _) h21) v_X9_digits q_1215 rfl (Nat.le_trans (by decide) hd) g24 rfl rfl (Nat.le_of_ble_eq_true rfl) dX9_amount_19 (Nat.le_refl _) (Nat.le_refl _) ?_
      refine h_goto (tgt := 26) dX9_amount_22 (by decide) ?_
      refine h_sub (lv2 := [(0, .ref a0), (1, .int a1), (2, .int a2), (3, .int t3)]) [1, 2, 3, 0] rfl ?_
      exact hJ7 t23 S22 hf
abbrev x_X9_spotted (d : Nat) (S0 : hS) (args : List Value) (r : Int32 × hS) (cs : Nat → Nat) : hX := (((some .int), 2, d, 0, 0, false), (S0, args, some (.int r.1), r.2), cs)
theorem v_X9_spotted : hVW yX9_spotted cX9_spotted 2 (some .int) RX9 0 := ⟨q_1234, q_s47, q_9, q_1235, by decide +kernel, by decide⟩
def f_X9_spotted (a0 : Nat) (S : hS) : Option (Int32 × hS) :=
  hbd (gR S a0 9 13) fun t1 =>
  hbd (gA S t1 12 0) fun t3 =>
  hck (S.K a0 = 10) <|
  hb2 (f_X9_amount a0 0 (t3 - 1) S) fun t7 S6 =>
  hbd (gR S6 a0 9 13) fun t8 =>
  hbd (gA S6 t8 12 1) fun t10 =>
  hck (S6.K a0 = 10) <|
  hb2 (f_X9_amount a0 0 (t10 - 1) S6) fun t14 S13 =>
  some ((10 * t14) + t7, S13)
set_option maxRecDepth 100000 in
set_option maxHeartbeats 4000000 in
theorem m_X9_spotted {d : Nat} {cs : Nat → Nat} {a0 : Nat} {S : hS} {r : Int32 × hS} (hd : 5 ≤ d) (hf : f_X9_spotted a0 S = some r) : HM yX9_spotted cX9_spotted 2 (some .int) d 0 0 cs [.ref a0] S (some (.int r.1)) r.2 := by
  unfold f_X9_spotted at hf
  refine HM.ofHW false (by decide) (fun h => by cases h) (Nat.le_of_ble_eq_true rfl) ?_
  show HW cX9_spotted RX9 (x_X9_spotted d S [.ref a0] r cs) 0 0 S 0 [(0, .ref a0)] []
  refine h_aload_n dX9_spotted_0 rfl 0 rfl ?_
  refine h_iconst (v := 0) dX9_spotted_1 rfl ?_
  refine h_aload_n dX9_spotted_2 rfl 0 rfl ?_
  obtain ⟨t1, h2, hf⟩ := hbd_s hf
  refine h_getR h2 rfl (Nat.le_of_ble_eq_true rfl) rfl q_973 rfl dX9_spotted_3 ?_
  refine h_iconst (v := 0) dX9_spotted_6 rfl ?_
  obtain ⟨t3, h4, hf⟩ := hbd_s hf
  refine h_iald h4 dX9_spotted_7 ?_
  refine h_iconst (v := 1) dX9_spotted_8 rfl ?_
  refine h_isub dX9_spotted_9 ?_
  obtain ⟨g16, hf⟩ := hck_s hf
  obtain ⟨t7, S6, h5, hf⟩ := hb2_s hf
  refine h_Vi [.int 0, .int (t3 - 1)] (rest := []) (m_X9_amount (d := 4) (cs := cs) (Nat.le_refl _) h5) v_X9_amount q_1210 rfl (Nat.le_trans (by decide) hd) g16 rfl rfl (Nat.le_of_ble_eq_true rfl) dX9_spotted_10 (Nat.le_refl _) (Nat.le_refl _) ?_
  refine h_istore_n (lv2 := [(1, .int t7), (0, .ref a0)]) dX9_spotted_13 rfl (Nat.le_of_ble_eq_true rfl) rfl ?_
  refine h_bipush (v := 10) dX9_spotted_14 rfl ?_
  refine h_aload_n dX9_spotted_16 rfl 1 rfl ?_
  refine h_iconst (v := 0) dX9_spotted_17 rfl ?_
  refine h_aload_n dX9_spotted_18 rfl 1 rfl ?_
  obtain ⟨t8, h9, hf⟩ := hbd_s hf
  refine h_getR h9 rfl (Nat.le_of_ble_eq_true rfl) rfl q_973 rfl dX9_spotted_19 ?_
  refine h_iconst (v := 1) dX9_spotted_22 rfl ?_
  obtain ⟨t10, h11, hf⟩ := hbd_s hf
  refine h_iald h11 dX9_spotted_23 ?_
  refine h_iconst (v := 1) dX9_spotted_24 rfl ?_
  refine h_isub dX9_spotted_25 ?_
  obtain ⟨g15, hf⟩ := hck_s hf
  obtain ⟨t14, S13, h12, hf⟩ := hb2_s hf
  refine h_Vi [.int 0, .int (t10 - 1)] (rest := [.int 10]) (m_X9_amount (d := 4) (cs := cs) (Nat.le_refl _) h12) v_X9_amount q_1210 rfl (Nat.le_trans (by decide) hd) g15 rfl rfl (Nat.le_of_ble_eq_true rfl) dX9_spotted_26 (Nat.le_refl _) (Nat.le_refl _) ?_
  refine h_imul dX9_spotted_29 ?_
  refine h_iload_n dX9_spotted_30 rfl 0 rfl ?_
  refine h_iadd dX9_spotted_31 ?_
  obtain rfl := Option.some.inj hf
  exact h_iret rfl rfl rfl (Nat.le_refl _) (Nat.le_refl _) dX9_spotted_32
