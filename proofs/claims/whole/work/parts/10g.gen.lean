abbrev x_X9_readsGuest (d : Nat) (S0 : hS) (args : List Value) (r : hS) (cs : Nat → Nat) : hX := ((none, 5, d, 0, 0, false), (S0, args, none, r), cs)
theorem v_X9_readsGuest : hVW yX9_readsGuest cX9_readsGuest 5 none RX9 0 := ⟨q_1230, q_s46, q_9, q_1231, by decide +kernel, by decide⟩
def f_X9_readsGuest_L24 : Nat → Nat → Int32 → Int32 → Int32 → Int32 → hS → (hS → Option (hS)) → Option (hS)
  | 0, _, _, _, _, _, _, _ => none
  | n + 1, x0, x1, x2, x3, x4, S, k0 =>
    if x3 ≤ x4 then
      (k0 S)
    else
      (hbd (gI S x0 9 25) fun t2 =>
       if t2 = 0 then
         (hbd (gR S x0 9 15) fun t5 =>
          hbd (gA S t5 12 x4) fun t7 =>
          if t7 = x2 then
            (hck (S.K x0 = 10) <|
             hbd (f_X9_fails x0 5 x1 S) fun S11 =>
             f_X9_readsGuest_L24 n x0 x1 x2 x3 (x4 + 1) S11 k0)
          else
            (f_X9_readsGuest_L24 n x0 x1 x2 x3 (x4 + 1) S k0))
       else
         (k0 S))
def f_X9_readsGuest (a0 : Nat) (S : hS) : Option (hS) :=
  hck (S.K a0 = 10) <|
  hbd (f_X9_blanks a0 S) fun S14 =>
  hbd (gI S14 a0 9 24) fun t15 =>
  hck (S14.K a0 = 10) <|
  hb2 (f_X9_spotted a0 S14) fun t19 S18 =>
  hbd (gR S18 a0 9 13) fun t20 =>
  hbd (gA S18 t20 12 2) fun t22 =>
  f_X9_readsGuest_L24 hfuel a0 t15 t19 t22 0 S18
    (fun S24 =>
      hbd (gR S24 a0 9 15) fun t25 =>
      hbd (sA S24 t25 t22 t19) fun S27 =>
      hbd (gR S27 a0 9 16) fun t29 =>
      hck (S27.K a0 = 10) <|
      hb2 (f_X9_amount a0 0 99 S27) fun t33 S32 =>
      hbd (sA S32 t29 t22 t33) fun S34 =>
      hbd (gR S34 a0 9 17) fun t36 =>
      hck (S34.K a0 = 10) <|
      hb2 (f_X9_amount a0 0 9 S34) fun t40 S39 =>
      hbd (sA S39 t36 t22 t40) fun S41 =>
      hbd (gR S41 a0 9 13) fun t43 =>
      hbd (gA S41 t43 12 2) fun t45 =>
      hbd (sA S41 t43 2 (t45 + 1)) fun S47 =>
      some S47
    )
set_option maxRecDepth 100000 in
set_option maxHeartbeats 4000000 in
theorem w_X9_readsGuest_L24 {d : Nat} {S0 : hS} {args : List Value} {cs : Nat → Nat} {r : hS} (hd : 6 ≤ d) : ∀ (n : Nat) (x0 : Nat) (x1 : Int32) (x2 : Int32) (x3 : Int32) (x4 : Int32) (S : hS) (k0 : (hS → Option (hS))) , f_X9_readsGuest_L24 n x0 x1 x2 x3 x4 S k0 = some r → (∀ (T : hS), k0 T = some r → HW cX9_readsGuest RX9 (x_X9_readsGuest d S0 args r cs) 0 0 T 60 [(0, .ref x0), (2, .int x2), (3, .int x3)] []) → HW cX9_readsGuest RX9 (x_X9_readsGuest d S0 args r cs) 0 0 S 24 [(0, .ref x0), (1, .int x1), (2, .int x2), (3, .int x3), (4, .int x4)] [] := by
  intro n
  induction n with
  | zero =>
    intro x0 x1 x2 x3 x4 S k0 hf
    cases hf
  | succ n ih =>
    intro x0 x1 x2 x3 x4 S k0 hf hk0
    rw [f_X9_readsGuest_L24] at hf
    refine h_iload dX9_readsGuest_24 4 rfl ?_
    refine h_iload_n dX9_readsGuest_26 rfl 3 rfl ?_
    refine h_icmp_ge (tgt := 60) dX9_readsGuest_27 (by decide) (fun c1 => ?_) (fun c1 => ?_)
    · rw [if_pos c1] at hf
      refine h_sub (lv2 := [(0, .ref x0), (2, .int x2), (3, .int x3)]) [0, 2, 3] rfl ?_
      exact hk0 S hf
    · rw [if_neg c1] at hf
      refine h_aload_n dX9_readsGuest_30 rfl 0 rfl ?_
      obtain ⟨t2, h3, hf⟩ := hbd_s hf
      refine h_getI h3 rfl (Nat.le_of_ble_eq_true rfl) rfl q_985 rfl dX9_readsGuest_31 ?_
      refine h_if_ne (tgt := 60) dX9_readsGuest_34 (by decide) (fun c4 => ?_) (fun c4 => ?_)
      · rw [if_neg c4] at hf
        refine h_sub (lv2 := [(0, .ref x0), (2, .int x2), (3, .int x3)]) [0, 2, 3] rfl ?_
        exact hk0 S hf
      · rw [if_pos c4] at hf
        refine h_aload_n dX9_readsGuest_37 rfl 0 rfl ?_
        obtain ⟨t5, h6, hf⟩ := hbd_s hf
        refine h_getR h6 rfl (Nat.le_of_ble_eq_true rfl) rfl q_975 rfl dX9_readsGuest_38 ?_
        refine h_iload dX9_readsGuest_41 4 rfl ?_
        obtain ⟨t7, h8, hf⟩ := hbd_s hf
        refine h_iald h8 dX9_readsGuest_43 ?_
        refine h_iload_n dX9_readsGuest_44 rfl 2 rfl ?_
        refine h_icmp_ne (tgt := 54) dX9_readsGuest_45 (by decide) (fun c9 => ?_) (fun c9 => ?_)
        · rw [if_neg c9] at hf
          refine h_iinc (q := 4) (v := x4 + 1) (lv2 := [(4, .int (x4 + 1)), (0, .ref x0), (1, .int x1), (2, .int x2), (3, .int x3)]) dX9_readsGuest_54 rfl rfl (Nat.le_of_ble_eq_true rfl) rfl ?_
          refine h_goto (tgt := 24) dX9_readsGuest_57 (by decide) ?_
          refine h_sub (lv2 := [(0, .ref x0), (1, .int x1), (2, .int x2), (3, .int x3), (4, .int (x4 + 1))]) [1, 2, 3, 4, 0] rfl ?_
          exact ih x0 x1 x2 x3 (x4 + 1) S k0  hf hk0
        · rw [if_pos c9] at hf
          refine h_aload_n dX9_readsGuest_48 rfl 0 rfl ?_
          refine h_iconst (v := 5) dX9_readsGuest_49 rfl ?_
          refine h_iload_n dX9_readsGuest_50 rfl 1 rfl ?_
          obtain ⟨g12, hf⟩ := hck_s hf
          obtain ⟨S11, h10, hf⟩ := hbd_s hf
          refine h_Vv [.int 5, .int x1] (rest := []) (m_X9_fails (d := 1) (cs := cs) (Nat.le_refl _) h10) v_X9_fails q_1198 rfl (Nat.le_trans (by decide) hd) g12 rfl rfl (Nat.le_of_ble_eq_true rfl) dX9_readsGuest_51 (Nat.le_refl _) (Nat.le_refl _) ?_
          refine h_iinc (q := 4) (v := x4 + 1) (lv2 := [(4, .int (x4 + 1)), (0, .ref x0), (1, .int x1), (2, .int x2), (3, .int x3)]) dX9_readsGuest_54 rfl rfl (Nat.le_of_ble_eq_true rfl) rfl ?_
          refine h_goto (tgt := 24) dX9_readsGuest_57 (by decide) ?_
          refine h_sub (lv2 := [(0, .ref x0), (1, .int x1), (2, .int x2), (3, .int x3), (4, .int (x4 + 1))]) [1, 2, 3, 4, 0] rfl ?_
          exact ih x0 x1 x2 x3 (x4 + 1) S11 k0  hf hk0
set_option maxRecDepth 100000 in
set_option maxHeartbeats 4000000 in
theorem m_X9_readsGuest {d : Nat} {cs : Nat → Nat} {a0 : Nat} {S : hS} {r : hS} (hd : 6 ≤ d) (hf : f_X9_readsGuest a0 S = some r) : HM yX9_readsGuest cX9_readsGuest 5 none d 0 0 cs [.ref a0] S (none) r := by
  unfold f_X9_readsGuest at hf
  refine HM.ofHW false (by decide) (fun h => by cases h) (Nat.le_of_ble_eq_true rfl) ?_
  show HW cX9_readsGuest RX9 (x_X9_readsGuest d S [.ref a0] r cs) 0 0 S 0 [(0, .ref a0)] []
  refine h_aload_n dX9_readsGuest_0 rfl 0 rfl ?_
  obtain ⟨g52, hf⟩ := hck_s hf
  obtain ⟨S14, h13, hf⟩ := hbd_s hf
  refine h_Vv [] (rest := []) (m_X9_blanks (d := 2) (cs := cs) (Nat.le_refl _) h13) v_X9_blanks q_1175 rfl (Nat.le_trans (by decide) hd) g52 rfl rfl (Nat.le_of_ble_eq_true rfl) dX9_readsGuest_1 (Nat.le_refl _) (Nat.le_refl _) ?_
  refine h_aload_n dX9_readsGuest_4 rfl 0 rfl ?_
  obtain ⟨t15, h16, hf⟩ := hbd_s hf
  refine h_getI h16 rfl (Nat.le_of_ble_eq_true rfl) rfl q_984 rfl dX9_readsGuest_5 ?_
  refine h_istore_n (lv2 := [(1, .int t15), (0, .ref a0)]) dX9_readsGuest_8 rfl (Nat.le_of_ble_eq_true rfl) rfl ?_
  refine h_aload_n dX9_readsGuest_9 rfl 1 rfl ?_
  obtain ⟨g51, hf⟩ := hck_s hf
  obtain ⟨t19, S18, h17, hf⟩ := hb2_s hf
  refine h_Vi [] (rest := []) (m_X9_spotted (d := 5) (cs := cs) (Nat.le_refl _) h17) v_X9_spotted q_1232 rfl (Nat.le_trans (by decide) hd) g51 rfl rfl (Nat.le_of_ble_eq_true rfl) dX9_readsGuest_10 (Nat.le_refl _) (Nat.le_refl _) ?_
  refine h_istore_n (lv2 := [(2, .int t19), (1, .int t15), (0, .ref a0)]) dX9_readsGuest_13 rfl (Nat.le_of_ble_eq_true rfl) rfl ?_
  refine h_aload_n dX9_readsGuest_14 rfl 2 rfl ?_
  obtain ⟨t20, h21, hf⟩ := hbd_s hf
  refine h_getR h21 rfl (Nat.le_of_ble_eq_true rfl) rfl q_973 rfl dX9_readsGuest_15 ?_
  refine h_iconst (v := 2) dX9_readsGuest_18 rfl ?_
  obtain ⟨t22, h23, hf⟩ := hbd_s hf
  refine h_iald h23 dX9_readsGuest_19 ?_
  refine h_istore_n (lv2 := [(3, .int t22), (2, .int t19), (1, .int t15), (0, .ref a0)]) dX9_readsGuest_20 rfl (Nat.le_of_ble_eq_true rfl) rfl ?_
  refine h_iconst (v := 0) dX9_readsGuest_21 rfl ?_
  refine h_istore (lv2 := [(4, .int 0), (3, .int t22), (2, .int t19), (1, .int t15), (0, .ref a0)]) dX9_readsGuest_22 (Nat.le_of_ble_eq_true rfl) rfl ?_
  refine h_sub (lv2 := [(0, .ref a0), (1, .int t15), (2, .int t19), (3, .int t22), (4, .int 0)]) [4, 3, 2, 1, 0] rfl ?_
  refine w_X9_readsGuest_L24 hd hfuel a0 t15 t19 t22 0 S18 _  hf ?_
  · intro S24 hf
    refine h_aload_n dX9_readsGuest_60 rfl 0 rfl ?_
    obtain ⟨t25, h26, hf⟩ := hbd_s hf
    refine h_getR h26 rfl (Nat.le_of_ble_eq_true rfl) rfl q_975 rfl dX9_readsGuest_61 ?_
    refine h_iload_n dX9_readsGuest_64 rfl 2 rfl ?_
    refine h_iload_n dX9_readsGuest_65 rfl 1 rfl ?_
    obtain ⟨S27, h28, hf⟩ := hbd_s hf
    refine h_iast h28 dX9_readsGuest_66 ?_
    refine h_aload_n dX9_readsGuest_67 rfl 0 rfl ?_
    obtain ⟨t29, h30, hf⟩ := hbd_s hf
    refine h_getR h30 rfl (Nat.le_of_ble_eq_true rfl) rfl q_976 rfl dX9_readsGuest_68 ?_
    refine h_iload_n dX9_readsGuest_71 rfl 2 rfl ?_
    refine h_aload_n dX9_readsGuest_72 rfl 0 rfl ?_
    refine h_iconst (v := 0) dX9_readsGuest_73 rfl ?_
    refine h_bipush (v := 99) dX9_readsGuest_74 rfl ?_
    obtain ⟨g50, hf⟩ := hck_s hf
    obtain ⟨t33, S32, h31, hf⟩ := hb2_s hf
    refine h_Vi [.int 0, .int 99] (rest := [.int t22, .ref t29]) (m_X9_amount (d := 4) (cs := cs) (Nat.le_refl _) h31) v_X9_amount q_1210 rfl (Nat.le_trans (by decide) hd) g50 rfl rfl (Nat.le_of_ble_eq_true rfl) dX9_readsGuest_76 (Nat.le_refl _) (Nat.le_refl _) ?_
    obtain ⟨S34, h35, hf⟩ := hbd_s hf
    refine h_iast h35 dX9_readsGuest_79 ?_
    refine h_aload_n dX9_readsGuest_80 rfl 0 rfl ?_
    obtain ⟨t36, h37, hf⟩ := hbd_s hf
    refine h_getR h37 rfl (Nat.le_of_ble_eq_true rfl) rfl q_977 rfl dX9_readsGuest_81 ?_
    refine h_iload_n dX9_readsGuest_84 rfl 2 rfl ?_
    refine h_aload_n dX9_readsGuest_85 rfl 0 rfl ?_
    refine h_iconst (v := 0) dX9_readsGuest_86 rfl ?_
    refine h_bipush (v := 9) dX9_readsGuest_87 rfl ?_
    obtain ⟨g49, hf⟩ := hck_s hf
    obtain ⟨t40, S39, h38, hf⟩ := hb2_s hf
    refine h_Vi [.int 0, .int 9] (rest := [.int t22, .ref t36]) (m_X9_amount (d := 4) (cs := cs) (Nat.le_refl _) h38) v_X9_amount q_1210 rfl (Nat.le_trans (by decide) hd) g49 rfl rfl (Nat.le_of_ble_eq_true rfl) dX9_readsGuest_89 (Nat.le_refl _) (Nat.le_refl _) ?_
    obtain ⟨S41, h42, hf⟩ := hbd_s hf
    refine h_iast h42 dX9_readsGuest_92 ?_
    refine h_aload_n dX9_readsGuest_93 rfl 0 rfl ?_
    obtain ⟨t43, h44, hf⟩ := hbd_s hf
    refine h_getR h44 rfl (Nat.le_of_ble_eq_true rfl) rfl q_973 rfl dX9_readsGuest_94 ?_
    refine h_iconst (v := 2) dX9_readsGuest_97 rfl ?_
    refine h_dup2 dX9_readsGuest_98 rfl rfl ?_
    obtain ⟨t45, h46, hf⟩ := hbd_s hf
    refine h_iald h46 dX9_readsGuest_99 ?_
    refine h_iconst (v := 1) dX9_readsGuest_100 rfl ?_
    refine h_iadd dX9_readsGuest_101 ?_
    obtain ⟨S47, h48, hf⟩ := hbd_s hf
    refine h_iast h48 dX9_readsGuest_102 ?_
    obtain rfl := Option.some.inj hf
    exact h_vret rfl rfl rfl (Nat.le_refl _) (Nat.le_refl _) dX9_readsGuest_103
abbrev x_X9_hallPart (d : Nat) (S0 : hS) (args : List Value) (r : hS) (cs : Nat → Nat) : hX := ((none, 4, d, 0, 0, false), (S0, args, none, r), cs)
theorem v_X9_hallPart : hVW yX9_hallPart cX9_hallPart 4 none RX9 1 := ⟨q_1208, q_s42, q_9, q_1209, by decide +kernel, by decide⟩
def f_X9_hallPart (a0 : Nat) (a1 : Int32) (S : hS) : Option (hS) :=
  if a1 = 0 then
    (hbd (gR S a0 9 13) fun t94 =>
     hck (S.K a0 = 10) <|
     hb2 (f_X9_amount a0 1 10 S) fun t98 S97 =>
     hbd (sA S97 t94 0 t98) fun S99 =>
     hbd (gR S99 a0 9 13) fun t101 =>
     hck (S99.K a0 = 10) <|
     hb2 (f_X9_amount a0 1 8 S99) fun t105 S104 =>
     hbd (sA S104 t101 1 t105) fun S106 =>
     some S106)
  else
    (if a1 = 1 then
       (hck (S.K a0 = 10) <|
        hbd (f_X9_readsGuest a0 S) fun S92 =>
        some S92)
     else
       (if a1 = 2 then
          (hbd (gR S a0 9 13) fun t57 =>
           hbd (gA S t57 12 3) fun t59 =>
           hbd (gR S a0 9 18) fun t61 =>
           hck (S.K a0 = 10) <|
           hb2 (f_X9_spotted a0 S) fun t65 S64 =>
           hbd (sA S64 t61 t59 t65) fun S66 =>
           hbd (gR S66 a0 9 19) fun t68 =>
           hck (S66.K a0 = 10) <|
           hb2 (f_X9_amount a0 1 4 S66) fun t72 S71 =>
           hbd (sA S71 t68 t59 t72) fun S73 =>
           hbd (gR S73 a0 9 20) fun t75 =>
           hck (S73.K a0 = 10) <|
           hb2 (f_X9_amount a0 1 99 S73) fun t79 S78 =>
           hbd (sA S78 t75 t59 t79) fun S80 =>
           hbd (gR S80 a0 9 13) fun t82 =>
           hbd (gA S80 t82 12 3) fun t84 =>
           hbd (sA S80 t82 3 (t84 + 1)) fun S86 =>
           some S86)
        else
          (if a1 = 3 then
             (hbd (gR S a0 9 13) fun t31 =>
              hbd (gA S t31 12 4) fun t33 =>
              hbd (gR S a0 9 21) fun t35 =>
              hck (S.K a0 = 10) <|
              hb2 (f_X9_spotted a0 S) fun t39 S38 =>
              hbd (sA S38 t35 t33 t39) fun S40 =>
              hbd (gR S40 a0 9 22) fun t42 =>
              hck (S40.K a0 = 10) <|
              hb2 (f_X9_amount a0 1 99 S40) fun t46 S45 =>
              hbd (sA S45 t42 t33 t46) fun S47 =>
              hbd (gR S47 a0 9 13) fun t49 =>
              hbd (gA S47 t49 12 4) fun t51 =>
              hbd (sA S47 t49 4 (t51 + 1)) fun S53 =>
              some S53)
           else
             (if a1 = 4 then
                (hbd (gR S a0 9 13) fun t21 =>
                 hck (S.K a0 = 10) <|
                 hb2 (f_X9_spotted a0 S) fun t25 S24 =>
                 hbd (sA S24 t21 5 t25) fun S26 =>
                 hbd (sZ S26 a0 9 33 1) fun S28 =>
                 some S28)
              else
                (hck (S.K a0 = 10) <|
                 hb2 (f_X9_spotted a0 S) fun t8 S7 =>
                 hck (S7.K a0 = 10) <|
                 hb2 (f_X9_amount a0 0 9999 S7) fun t11 S10 =>
                 hbd (gI S10 a0 9 25) fun t12 =>
                 if t12 = 0 then
                   (hbd (gR S10 a0 9 14) fun t15 =>
                    hbd (sA S10 t15 t8 t11) fun S17 =>
                    some S17)
                 else
                   (some S10))))))
set_option maxRecDepth 100000 in
set_option maxHeartbeats 4000000 in
theorem m_X9_hallPart {d : Nat} {cs : Nat → Nat} {a0 : Nat} {a1 : Int32} {S : hS} {r : hS} (hd : 7 ≤ d) (hf : f_X9_hallPart a0 a1 S = some r) : HM yX9_hallPart cX9_hallPart 4 none d 0 0 cs [.ref a0, .int a1] S (none) r := by
  unfold f_X9_hallPart at hf
  refine HM.ofHW false (by decide) (fun h => by cases h) (Nat.le_of_ble_eq_true rfl) ?_
  show HW cX9_hallPart RX9 (x_X9_hallPart d S [.ref a0, .int a1] r cs) 0 0 S 0 [(0, .ref a0), (1, .int a1)] []
  refine h_iload_n dX9_hallPart_0 rfl 1 rfl ?_
  refine h_if_ne (tgt := 33) dX9_hallPart_1 (by decide) (fun c1 => ?_) (fun c1 => ?_)
  · rw [if_neg c1] at hf
    refine h_iload_n dX9_hallPart_33 rfl 1 rfl ?_
    refine h_iconst (v := 1) dX9_hallPart_34 rfl ?_
    refine h_icmp_ne (tgt := 45) dX9_hallPart_35 (by decide) (fun c2 => ?_) (fun c2 => ?_)
    · rw [if_neg c2] at hf
      refine h_iload_n dX9_hallPart_45 rfl 1 rfl ?_
      refine h_iconst (v := 2) dX9_hallPart_46 rfl ?_
      refine h_icmp_ne (tgt := 105) dX9_hallPart_47 (by decide) (fun c3 => ?_) (fun c3 => ?_)
      · rw [if_neg c3] at hf
        refine h_iload_n dX9_hallPart_105 rfl 1 rfl ?_
        refine h_iconst (v := 3) dX9_hallPart_106 rfl ?_
        refine h_icmp_ne (tgt := 153) dX9_hallPart_107 (by decide) (fun c4 => ?_) (fun c4 => ?_)
        · rw [if_neg c4] at hf
          refine h_iload_n dX9_hallPart_153 rfl 1 rfl ?_
          refine h_iconst (v := 4) dX9_hallPart_154 rfl ?_
          refine h_icmp_ne (tgt := 176) dX9_hallPart_155 (by decide) (fun c5 => ?_) (fun c5 => ?_)
          · rw [if_neg c5] at hf
            refine h_aload_n dX9_hallPart_176 rfl 0 rfl ?_
            obtain ⟨g20, hf⟩ := hck_s hf
            obtain ⟨t8, S7, h6, hf⟩ := hb2_s hf
            refine h_Vi [] (rest := []) (m_X9_spotted (d := 5) (cs := cs) (Nat.le_refl _) h6) v_X9_spotted q_1232 rfl (Nat.le_trans (by decide) hd) g20 rfl rfl (Nat.le_of_ble_eq_true rfl) dX9_hallPart_177 (Nat.le_refl _) (Nat.le_refl _) ?_
            refine h_istore_n (lv2 := [(2, .int t8), (0, .ref a0), (1, .int a1)]) dX9_hallPart_180 rfl (Nat.le_of_ble_eq_true rfl) rfl ?_
            refine h_aload_n dX9_hallPart_181 rfl 1 rfl ?_
            refine h_iconst (v := 0) dX9_hallPart_182 rfl ?_
            refine h_sipush (v := 9999) dX9_hallPart_183 rfl ?_
            obtain ⟨g19, hf⟩ := hck_s hf
            obtain ⟨t11, S10, h9, hf⟩ := hb2_s hf
            refine h_Vi [.int 0, .int 9999] (rest := []) (m_X9_amount (d := 4) (cs := cs) (Nat.le_refl _) h9) v_X9_amount q_1210 rfl (Nat.le_trans (by decide) hd) g19 rfl rfl (Nat.le_of_ble_eq_true rfl) dX9_hallPart_186 (Nat.le_refl _) (Nat.le_refl _) ?_
            refine h_istore_n (lv2 := [(3, .int t11), (2, .int t8), (0, .ref a0), (1, .int a1)]) dX9_hallPart_189 rfl (Nat.le_of_ble_eq_true rfl) rfl ?_
            refine h_aload_n dX9_hallPart_190 rfl 2 rfl ?_
            obtain ⟨t12, h13, hf⟩ := hbd_s hf
            refine h_getI h13 rfl (Nat.le_of_ble_eq_true rfl) rfl q_985 rfl dX9_hallPart_191 ?_
            refine h_if_ne (tgt := 204) dX9_hallPart_194 (by decide) (fun c14 => ?_) (fun c14 => ?_)
            · rw [if_neg c14] at hf
              obtain rfl := Option.some.inj hf
              exact h_vret rfl rfl rfl (Nat.le_refl _) (Nat.le_refl _) dX9_hallPart_204
            · rw [if_pos c14] at hf
              refine h_aload_n dX9_hallPart_197 rfl 2 rfl ?_
              obtain ⟨t15, h16, hf⟩ := hbd_s hf
              refine h_getR h16 rfl (Nat.le_of_ble_eq_true rfl) rfl q_974 rfl dX9_hallPart_198 ?_
              refine h_iload_n dX9_hallPart_201 rfl 1 rfl ?_
              refine h_iload_n dX9_hallPart_202 rfl 0 rfl ?_
              obtain ⟨S17, h18, hf⟩ := hbd_s hf
              refine h_iast h18 dX9_hallPart_203 ?_
              obtain rfl := Option.some.inj hf
              exact h_vret rfl rfl rfl (Nat.le_refl _) (Nat.le_refl _) dX9_hallPart_204
          · rw [if_pos c5] at hf
            refine h_aload_n dX9_hallPart_158 rfl 0 rfl ?_
            obtain ⟨t21, h22, hf⟩ := hbd_s hf
            refine h_getR h22 rfl (Nat.le_of_ble_eq_true rfl) rfl q_973 rfl dX9_hallPart_159 ?_
            refine h_iconst (v := 5) dX9_hallPart_162 rfl ?_
            refine h_aload_n dX9_hallPart_163 rfl 0 rfl ?_
            obtain ⟨g30, hf⟩ := hck_s hf
            obtain ⟨t25, S24, h23, hf⟩ := hb2_s hf
            refine h_Vi [] (rest := [.int 5, .ref t21]) (m_X9_spotted (d := 5) (cs := cs) (Nat.le_refl _) h23) v_X9_spotted q_1232 rfl (Nat.le_trans (by decide) hd) g30 rfl rfl (Nat.le_of_ble_eq_true rfl) dX9_hallPart_164 (Nat.le_refl _) (Nat.le_refl _) ?_
            obtain ⟨S26, h27, hf⟩ := hbd_s hf
            refine h_iast h27 dX9_hallPart_167 ?_
            refine h_aload_n dX9_hallPart_168 rfl 0 rfl ?_
            refine h_iconst (v := 1) dX9_hallPart_169 rfl ?_
            obtain ⟨S28, h29, hf⟩ := hbd_s hf
            refine h_putZ h29 rfl (Nat.le_of_ble_eq_true rfl) rfl q_993 rfl rfl (by decide +kernel) dX9_hallPart_170 ?_
            refine h_goto (tgt := 204) dX9_hallPart_173 (by decide) ?_
            obtain rfl := Option.some.inj hf
            exact h_vret rfl rfl rfl (Nat.le_refl _) (Nat.le_refl _) dX9_hallPart_204
        · rw [if_pos c4] at hf
          refine h_aload_n dX9_hallPart_110 rfl 0 rfl ?_
          obtain ⟨t31, h32, hf⟩ := hbd_s hf
          refine h_getR h32 rfl (Nat.le_of_ble_eq_true rfl) rfl q_973 rfl dX9_hallPart_111 ?_
          refine h_iconst (v := 4) dX9_hallPart_114 rfl ?_
          obtain ⟨t33, h34, hf⟩ := hbd_s hf
          refine h_iald h34 dX9_hallPart_115 ?_
          refine h_istore_n (lv2 := [(2, .int t33), (0, .ref a0), (1, .int a1)]) dX9_hallPart_116 rfl (Nat.le_of_ble_eq_true rfl) rfl ?_
          refine h_aload_n dX9_hallPart_117 rfl 1 rfl ?_
          obtain ⟨t35, h36, hf⟩ := hbd_s hf
          refine h_getR h36 rfl (Nat.le_of_ble_eq_true rfl) rfl q_981 rfl dX9_hallPart_118 ?_
          refine h_iload_n dX9_hallPart_121 rfl 0 rfl ?_
          refine h_aload_n dX9_hallPart_122 rfl 1 rfl ?_
          obtain ⟨g56, hf⟩ := hck_s hf
          obtain ⟨t39, S38, h37, hf⟩ := hb2_s hf
          refine h_Vi [] (rest := [.int t33, .ref t35]) (m_X9_spotted (d := 5) (cs := cs) (Nat.le_refl _) h37) v_X9_spotted q_1232 rfl (Nat.le_trans (by decide) hd) g56 rfl rfl (Nat.le_of_ble_eq_true rfl) dX9_hallPart_123 (Nat.le_refl _) (Nat.le_refl _) ?_
          obtain ⟨S40, h41, hf⟩ := hbd_s hf
          refine h_iast h41 dX9_hallPart_126 ?_
          refine h_aload_n dX9_hallPart_127 rfl 1 rfl ?_
          obtain ⟨t42, h43, hf⟩ := hbd_s hf
          refine h_getR h43 rfl (Nat.le_of_ble_eq_true rfl) rfl q_982 rfl dX9_hallPart_128 ?_
          refine h_iload_n dX9_hallPart_131 rfl 0 rfl ?_
          refine h_aload_n dX9_hallPart_132 rfl 1 rfl ?_
          refine h_iconst (v := 1) dX9_hallPart_133 rfl ?_
          refine h_bipush (v := 99) dX9_hallPart_134 rfl ?_
          obtain ⟨g55, hf⟩ := hck_s hf
          obtain ⟨t46, S45, h44, hf⟩ := hb2_s hf
          refine h_Vi [.int 1, .int 99] (rest := [.int t33, .ref t42]) (m_X9_amount (d := 4) (cs := cs) (Nat.le_refl _) h44) v_X9_amount q_1210 rfl (Nat.le_trans (by decide) hd) g55 rfl rfl (Nat.le_of_ble_eq_true rfl) dX9_hallPart_136 (Nat.le_refl _) (Nat.le_refl _) ?_
          obtain ⟨S47, h48, hf⟩ := hbd_s hf
          refine h_iast h48 dX9_hallPart_139 ?_
          refine h_aload_n dX9_hallPart_140 rfl 1 rfl ?_
          obtain ⟨t49, h50, hf⟩ := hbd_s hf
          refine h_getR h50 rfl (Nat.le_of_ble_eq_true rfl) rfl q_973 rfl dX9_hallPart_141 ?_
          refine h_iconst (v := 4) dX9_hallPart_144 rfl ?_
          refine h_dup2 dX9_hallPart_145 rfl rfl ?_
          obtain ⟨t51, h52, hf⟩ := hbd_s hf
          refine h_iald h52 dX9_hallPart_146 ?_
          refine h_iconst (v := 1) dX9_hallPart_147 rfl ?_
          refine h_iadd dX9_hallPart_148 ?_
          obtain ⟨S53, h54, hf⟩ := hbd_s hf
          refine h_iast h54 dX9_hallPart_149 ?_
          refine h_goto (tgt := 204) dX9_hallPart_150 (by decide) ?_
          obtain rfl := Option.some.inj hf
          exact h_vret rfl rfl rfl (Nat.le_refl _) (Nat.le_refl _) dX9_hallPart_204
      · rw [if_pos c3] at hf
        refine h_aload_n dX9_hallPart_50 rfl 0 rfl ?_
        obtain ⟨t57, h58, hf⟩ := hbd_s hf
        refine h_getR h58 rfl (Nat.le_of_ble_eq_true rfl) rfl q_973 rfl dX9_hallPart_51 ?_
        refine h_iconst (v := 3) dX9_hallPart_54 rfl ?_
        obtain ⟨t59, h60, hf⟩ := hbd_s hf
        refine h_iald h60 dX9_hallPart_55 ?_
        refine h_istore_n (lv2 := [(2, .int t59), (0, .ref a0), (1, .int a1)]) dX9_hallPart_56 rfl (Nat.le_of_ble_eq_true rfl) rfl ?_
        refine h_aload_n dX9_hallPart_57 rfl 1 rfl ?_
        obtain ⟨t61, h62, hf⟩ := hbd_s hf
        refine h_getR h62 rfl (Nat.le_of_ble_eq_true rfl) rfl q_978 rfl dX9_hallPart_58 ?_
        refine h_iload_n dX9_hallPart_61 rfl 0 rfl ?_
        refine h_aload_n dX9_hallPart_62 rfl 1 rfl ?_
        obtain ⟨g90, hf⟩ := hck_s hf
        obtain ⟨t65, S64, h63, hf⟩ := hb2_s hf
        refine h_Vi [] (rest := [.int t59, .ref t61]) (m_X9_spotted (d := 5) (cs := cs) (Nat.le_refl _) h63) v_X9_spotted q_1232 rfl (Nat.le_trans (by decide) hd) g90 rfl rfl (Nat.le_of_ble_eq_true rfl) dX9_hallPart_63 (Nat.le_refl _) (Nat.le_refl _) ?_
        obtain ⟨S66, h67, hf⟩ := hbd_s hf
        refine h_iast h67 dX9_hallPart_66 ?_
        refine h_aload_n dX9_hallPart_67 rfl 1 rfl ?_
        obtain ⟨t68, h69, hf⟩ := hbd_s hf
        refine h_getR h69 rfl (Nat.le_of_ble_eq_true rfl) rfl q_979 rfl dX9_hallPart_68 ?_
        refine h_iload_n dX9_hallPart_71 rfl 0 rfl ?_
        refine h_aload_n dX9_hallPart_72 rfl 1 rfl ?_
        refine h_iconst (v := 1) dX9_hallPart_73 rfl ?_
        refine h_iconst (v := 4) dX9_hallPart_74 rfl ?_
        obtain ⟨g89, hf⟩ := hck_s hf
        obtain ⟨t72, S71, h70, hf⟩ := hb2_s hf
        refine h_Vi [.int 1, .int 4] (rest := [.int t59, .ref t68]) (m_X9_amount (d := 4) (cs := cs) (Nat.le_refl _) h70) v_X9_amount q_1210 rfl (Nat.le_trans (by decide) hd) g89 rfl rfl (Nat.le_of_ble_eq_true rfl) dX9_hallPart_75 (Nat.le_refl _) (Nat.le_refl _) ?_
        obtain ⟨S73, h74, hf⟩ := hbd_s hf
        refine h_iast h74 dX9_hallPart_78 ?_
        refine h_aload_n dX9_hallPart_79 rfl 1 rfl ?_
        obtain ⟨t75, h76, hf⟩ := hbd_s hf
        refine h_getR h76 rfl (Nat.le_of_ble_eq_true rfl) rfl q_980 rfl dX9_hallPart_80 ?_
        refine h_iload_n dX9_hallPart_83 rfl 0 rfl ?_
        refine h_aload_n dX9_hallPart_84 rfl 1 rfl ?_
        refine h_iconst (v := 1) dX9_hallPart_85 rfl ?_
        refine h_bipush (v := 99) dX9_hallPart_86 rfl ?_
        obtain ⟨g88, hf⟩ := hck_s hf
        obtain ⟨t79, S78, h77, hf⟩ := hb2_s hf
        refine h_Vi [.int 1, .int 99] (rest := [.int t59, .ref t75]) (m_X9_amount (d := 4) (cs := cs) (Nat.le_refl _) h77) v_X9_amount q_1210 rfl (Nat.le_trans (by decide) hd) g88 rfl rfl (Nat.le_of_ble_eq_true rfl) dX9_hallPart_88 (Nat.le_refl _) (Nat.le_refl _) ?_
        obtain ⟨S80, h81, hf⟩ := hbd_s hf
        refine h_iast h81 dX9_hallPart_91 ?_
        refine h_aload_n dX9_hallPart_92 rfl 1 rfl ?_
        obtain ⟨t82, h83, hf⟩ := hbd_s hf
        refine h_getR h83 rfl (Nat.le_of_ble_eq_true rfl) rfl q_973 rfl dX9_hallPart_93 ?_
        refine h_iconst (v := 3) dX9_hallPart_96 rfl ?_
        refine h_dup2 dX9_hallPart_97 rfl rfl ?_
        obtain ⟨t84, h85, hf⟩ := hbd_s hf
        refine h_iald h85 dX9_hallPart_98 ?_
        refine h_iconst (v := 1) dX9_hallPart_99 rfl ?_
        refine h_iadd dX9_hallPart_100 ?_
        obtain ⟨S86, h87, hf⟩ := hbd_s hf
        refine h_iast h87 dX9_hallPart_101 ?_
        refine h_goto (tgt := 204) dX9_hallPart_102 (by decide) ?_
        obtain rfl := Option.some.inj hf
        exact h_vret rfl rfl rfl (Nat.le_refl _) (Nat.le_refl _) dX9_hallPart_204
    · rw [if_pos c2] at hf
      refine h_aload_n dX9_hallPart_38 rfl 0 rfl ?_
      obtain ⟨g93, hf⟩ := hck_s hf
      obtain ⟨S92, h91, hf⟩ := hbd_s hf
      refine h_Vv [] (rest := []) (m_X9_readsGuest (d := 6) (cs := cs) (Nat.le_refl _) h91) v_X9_readsGuest q_1228 rfl (Nat.le_trans (by decide) hd) g93 rfl rfl (Nat.le_of_ble_eq_true rfl) dX9_hallPart_39 (Nat.le_refl _) (Nat.le_refl _) ?_
      refine h_goto (tgt := 204) dX9_hallPart_42 (by decide) ?_
      obtain rfl := Option.some.inj hf
      exact h_vret rfl rfl rfl (Nat.le_refl _) (Nat.le_refl _) dX9_hallPart_204
  · rw [if_pos c1] at hf
    refine h_aload_n dX9_hallPart_4 rfl 0 rfl ?_
    obtain ⟨t94, h95, hf⟩ := hbd_s hf
    refine h_getR h95 rfl (Nat.le_of_ble_eq_true rfl) rfl q_973 rfl dX9_hallPart_5 ?_
    refine h_iconst (v := 0) dX9_hallPart_8 rfl ?_
    refine h_aload_n dX9_hallPart_9 rfl 0 rfl ?_
    refine h_iconst (v := 1) dX9_hallPart_10 rfl ?_
    refine h_bipush (v := 10) dX9_hallPart_11 rfl ?_
    obtain ⟨g109, hf⟩ := hck_s hf
    obtain ⟨t98, S97, h96, hf⟩ := hb2_s hf
    refine h_Vi [.int 1, .int 10] (rest := [.int 0, .ref t94]) (m_X9_amount (d := 4) (cs := cs) (Nat.le_refl _) h96) v_X9_amount q_1210 rfl (Nat.le_trans (by decide) hd) g109 rfl rfl (Nat.le_of_ble_eq_true rfl) dX9_hallPart_13 (Nat.le_refl _) (Nat.le_refl _) ?_
    obtain ⟨S99, h100, hf⟩ := hbd_s hf
    refine h_iast h100 dX9_hallPart_16 ?_
    refine h_aload_n dX9_hallPart_17 rfl 0 rfl ?_
    obtain ⟨t101, h102, hf⟩ := hbd_s hf
    refine h_getR h102 rfl (Nat.le_of_ble_eq_true rfl) rfl q_973 rfl dX9_hallPart_18 ?_
    refine h_iconst (v := 1) dX9_hallPart_21 rfl ?_
    refine h_aload_n dX9_hallPart_22 rfl 0 rfl ?_
    refine h_iconst (v := 1) dX9_hallPart_23 rfl ?_
    refine h_bipush (v := 8) dX9_hallPart_24 rfl ?_
    obtain ⟨g108, hf⟩ := hck_s hf
    obtain ⟨t105, S104, h103, hf⟩ := hb2_s hf
    refine h_Vi [.int 1, .int 8] (rest := [.int 1, .ref t101]) (m_X9_amount (d := 4) (cs := cs) (Nat.le_refl _) h103) v_X9_amount q_1210 rfl (Nat.le_trans (by decide) hd) g108 rfl rfl (Nat.le_of_ble_eq_true rfl) dX9_hallPart_26 (Nat.le_refl _) (Nat.le_refl _) ?_
    obtain ⟨S106, h107, hf⟩ := hbd_s hf
    refine h_iast h107 dX9_hallPart_29 ?_
    refine h_goto (tgt := 204) dX9_hallPart_30 (by decide) ?_
    obtain rfl := Option.some.inj hf
    exact h_vret rfl rfl rfl (Nat.le_refl _) (Nat.le_refl _) dX9_hallPart_204
abbrev x_X9_isFull (d : Nat) (S0 : hS) (args : List Value) (r : Int32 × hS) (cs : Nat → Nat) : hX := (((some .boolean), 4, d, 0, 0, false), (S0, args, some (.int r.1), r.2), cs)
theorem v_X9_isFull : hVW yX9_isFull cX9_isFull 4 (some .boolean) RX9 2 := ⟨q_1204, q_s41, q_9, q_1205, by decide +kernel, by decide⟩
def f_X9_isFull (a0 : Nat) (a1 : Int32) (a2 : Int32) (S : hS) : Option (Int32 × hS) :=
  hbd (gR S a0 9 13) fun t1 =>
  hbd (gA S t1 12 0) fun t3 =>
  hj (γ := Int32 → Option (Int32 × hS)) (fun (v6 : Int32) =>
    if a2 = 32 then
      (some (1, S))
    else
      (hj (γ := Int32 → Option (Int32 × hS)) (fun (v9 : Int32) =>
         if v9 = v6 then
           (some (1, S))
         else
           (if a1 = 1 then
              (hbd (gR S a0 9 13) fun t12 =>
               hbd (gA S t12 12 2) fun t14 =>
               if t14 = 12 then
                 (some (1, S))
               else
                 (some (0, S)))
            else
              (if a1 = 2 then
                 (hbd (gR S a0 9 13) fun t18 =>
                  hbd (gA S t18 12 3) fun t20 =>
                  if t20 = 6 then
                    (some (1, S))
                  else
                    (some (0, S)))
               else
                 (if a1 = 3 then
                    (hbd (gR S a0 9 13) fun t24 =>
                     hbd (gA S t24 12 4) fun t26 =>
                     if t26 = 8 then
                       (some (1, S))
                     else
                       (some (0, S)))
                  else
                    (if a1 = 4 then
                       (hbd (gI S a0 9 33) fun t30 =>
                        hck (t30 = 0 ∨ t30 = 1) <|
                        some (t30, S))
                     else
                       (some (0, S))))))
         ) fun J8 =>
       if a1 = 0 then
         (J8 1)
       else
         (J8 0))
    ) fun J5 =>
  if t3 ≤ 0 then
    (J5 0)
  else
    (J5 1)
set_option maxRecDepth 100000 in
set_option maxHeartbeats 4000000 in
theorem m_X9_isFull {d : Nat} {cs : Nat → Nat} {a0 : Nat} {a1 : Int32} {a2 : Int32} {S : hS} {r : Int32 × hS} (hd : 1 ≤ d) (hf : f_X9_isFull a0 a1 a2 S = some r) : HM yX9_isFull cX9_isFull 4 (some .boolean) d 0 0 cs [.ref a0, .int a1, .int a2] S (some (.int r.1)) r.2 := by
  unfold f_X9_isFull at hf
  refine HM.ofHW false (by decide) (fun h => by cases h) (Nat.le_of_ble_eq_true rfl) ?_
  show HW cX9_isFull RX9 (x_X9_isFull d S [.ref a0, .int a1, .int a2] r cs) 0 0 S 0 [(0, .ref a0), (1, .int a1), (2, .int a2)] []
  refine h_aload_n dX9_isFull_0 rfl 0 rfl ?_
  obtain ⟨t1, h2, hf⟩ := hbd_s hf
  refine h_getR h2 rfl (Nat.le_of_ble_eq_true rfl) rfl q_973 rfl dX9_isFull_1 ?_
  refine h_iconst (v := 0) dX9_isFull_4 rfl ?_
  obtain ⟨t3, h4, hf⟩ := hbd_s hf
  refine h_iald h4 dX9_isFull_5 ?_
  refine hj_s (fun J5 => ∀ (v6 : Int32), J5 v6 = some r → HW cX9_isFull RX9 (x_X9_isFull d S [.ref a0, .int a1, .int a2] r cs) 0 0 S 14 [(0, .ref a0), (1, .int a1), (2, .int a2)] [.int v6]) hf ?_ ?_
  · intro v6 hf
    refine h_istore_n (lv2 := [(3, .int v6), (0, .ref a0), (1, .int a1), (2, .int a2)]) dX9_isFull_14 rfl (Nat.le_of_ble_eq_true rfl) rfl ?_
    refine h_iload_n dX9_isFull_15 rfl 3 rfl ?_
    refine h_bipush (v := 32) dX9_isFull_16 rfl ?_
    refine h_icmp_eq (tgt := 34) dX9_isFull_18 (by decide) (fun c7 => ?_) (fun c7 => ?_)
    · rw [if_pos c7] at hf
      refine h_iconst (v := 1) dX9_isFull_34 rfl ?_
      obtain rfl := Option.some.inj hf
      exact h_zret rfl (by decide) rfl rfl (Nat.le_refl _) (Nat.le_refl _) dX9_isFull_35
    · rw [if_neg c7] at hf
      refine h_iload_n dX9_isFull_21 rfl 2 rfl ?_
      refine hj_s (fun J8 => ∀ (v9 : Int32), J8 v9 = some r → HW cX9_isFull RX9 (x_X9_isFull d S [.ref a0, .int a1, .int a2] r cs) 0 0 S 30 [(0, .ref a0), (1, .int a1), (3, .int v6)] [.int v9]) hf ?_ ?_
      · intro v9 hf
        refine h_iload_n dX9_isFull_30 rfl 2 rfl ?_
        refine h_icmp_ne (tgt := 36) dX9_isFull_31 (by decide) (fun c10 => ?_) (fun c10 => ?_)
        · rw [if_neg c10] at hf
          refine h_iload_n dX9_isFull_36 rfl 1 rfl ?_
          by_cases c11 : a1 = 1
          · rw [if_pos c11] at hf
            refine h_tabIn (tgt := 68) 1 (by rw [c11]; rfl) dX9_isFull_37 (by decide) (by decide) rfl (by decide) ?_
            refine h_aload_n dX9_isFull_68 rfl 0 rfl ?_
            obtain ⟨t12, h13, hf⟩ := hbd_s hf
            refine h_getR h13 rfl (Nat.le_of_ble_eq_true rfl) rfl q_973 rfl dX9_isFull_69 ?_
            refine h_iconst (v := 2) dX9_isFull_72 rfl ?_
            obtain ⟨t14, h15, hf⟩ := hbd_s hf
            refine h_iald h15 dX9_isFull_73 ?_
            refine h_bipush (v := 12) dX9_isFull_74 rfl ?_
            refine h_icmp_ne (tgt := 83) dX9_isFull_76 (by decide) (fun c16 => ?_) (fun c16 => ?_)
            · rw [if_neg c16] at hf
              refine h_iconst (v := 0) dX9_isFull_83 rfl ?_
              obtain rfl := Option.some.inj hf
              exact h_zret rfl (by decide) rfl rfl (Nat.le_refl _) (Nat.le_refl _) dX9_isFull_84
            · rw [if_pos c16] at hf
              refine h_iconst (v := 1) dX9_isFull_79 rfl ?_
              refine h_goto (tgt := 84) dX9_isFull_80 (by decide) ?_
              obtain rfl := Option.some.inj hf
              exact h_zret rfl (by decide) rfl rfl (Nat.le_refl _) (Nat.le_refl _) dX9_isFull_84
          · rw [if_neg c11] at hf
            by_cases c17 : a1 = 2
            · rw [if_pos c17] at hf
              refine h_tabIn (tgt := 85) 2 (by rw [c17]; rfl) dX9_isFull_37 (by decide) (by decide) rfl (by decide) ?_
              refine h_aload_n dX9_isFull_85 rfl 0 rfl ?_
              obtain ⟨t18, h19, hf⟩ := hbd_s hf
              refine h_getR h19 rfl (Nat.le_of_ble_eq_true rfl) rfl q_973 rfl dX9_isFull_86 ?_
              refine h_iconst (v := 3) dX9_isFull_89 rfl ?_
              obtain ⟨t20, h21, hf⟩ := hbd_s hf
              refine h_iald h21 dX9_isFull_90 ?_
              refine h_bipush (v := 6) dX9_isFull_91 rfl ?_
              refine h_icmp_ne (tgt := 100) dX9_isFull_93 (by decide) (fun c22 => ?_) (fun c22 => ?_)
              · rw [if_neg c22] at hf
                refine h_iconst (v := 0) dX9_isFull_100 rfl ?_
                obtain rfl := Option.some.inj hf
                exact h_zret rfl (by decide) rfl rfl (Nat.le_refl _) (Nat.le_refl _) dX9_isFull_101
              · rw [if_pos c22] at hf
                refine h_iconst (v := 1) dX9_isFull_96 rfl ?_
                refine h_goto (tgt := 101) dX9_isFull_97 (by decide) ?_
                obtain rfl := Option.some.inj hf
                exact h_zret rfl (by decide) rfl rfl (Nat.le_refl _) (Nat.le_refl _) dX9_isFull_101
            · rw [if_neg c17] at hf
              by_cases c23 : a1 = 3
              · rw [if_pos c23] at hf
                refine h_tabIn (tgt := 102) 3 (by rw [c23]; rfl) dX9_isFull_37 (by decide) (by decide) rfl (by decide) ?_
                refine h_aload_n dX9_isFull_102 rfl 0 rfl ?_
                obtain ⟨t24, h25, hf⟩ := hbd_s hf
                refine h_getR h25 rfl (Nat.le_of_ble_eq_true rfl) rfl q_973 rfl dX9_isFull_103 ?_
                refine h_iconst (v := 4) dX9_isFull_106 rfl ?_
                obtain ⟨t26, h27, hf⟩ := hbd_s hf
                refine h_iald h27 dX9_isFull_107 ?_
                refine h_bipush (v := 8) dX9_isFull_108 rfl ?_
                refine h_icmp_ne (tgt := 117) dX9_isFull_110 (by decide) (fun c28 => ?_) (fun c28 => ?_)
                · rw [if_neg c28] at hf
                  refine h_iconst (v := 0) dX9_isFull_117 rfl ?_
                  obtain rfl := Option.some.inj hf
                  exact h_zret rfl (by decide) rfl rfl (Nat.le_refl _) (Nat.le_refl _) dX9_isFull_118
                · rw [if_pos c28] at hf
                  refine h_iconst (v := 1) dX9_isFull_113 rfl ?_
                  refine h_goto (tgt := 118) dX9_isFull_114 (by decide) ?_
                  obtain rfl := Option.some.inj hf
                  exact h_zret rfl (by decide) rfl rfl (Nat.le_refl _) (Nat.le_refl _) dX9_isFull_118
              · rw [if_neg c23] at hf
                by_cases c29 : a1 = 4
                · rw [if_pos c29] at hf
                  refine h_tabIn (tgt := 119) 4 (by rw [c29]; rfl) dX9_isFull_37 (by decide) (by decide) rfl (by decide) ?_
                  refine h_aload_n dX9_isFull_119 rfl 0 rfl ?_
                  obtain ⟨t30, h31, hf⟩ := hbd_s hf
                  refine h_getI h31 rfl (Nat.le_of_ble_eq_true rfl) rfl q_993 rfl dX9_isFull_120 ?_
                  obtain ⟨hz, hf⟩ := hck_s hf
                  obtain rfl := Option.some.inj hf
                  exact h_zret rfl hz rfl rfl (Nat.le_refl _) (Nat.le_refl _) dX9_isFull_123
                · rw [if_neg c29] at hf
                  refine h_tabOut (tgt := 124) dX9_isFull_37 (by have g0 := hne_t (a := 1) c11 rfl; have g1 := hne_t (a := 2) c17 rfl; have g2 := hne_t (a := 3) c23 rfl; have g3 := hne_t (a := 4) c29 rfl; omega) (by decide) ?_
                  refine h_iconst (v := 0) dX9_isFull_124 rfl ?_
                  obtain rfl := Option.some.inj hf
                  exact h_zret rfl (by decide) rfl rfl (Nat.le_refl _) (Nat.le_refl _) dX9_isFull_125
        · rw [if_pos c10] at hf
          refine h_iconst (v := 1) dX9_isFull_34 rfl ?_
          obtain rfl := Option.some.inj hf
          exact h_zret rfl (by decide) rfl rfl (Nat.le_refl _) (Nat.le_refl _) dX9_isFull_35
      · intro J8 hJ8 hf
        refine h_if_ne (tgt := 29) dX9_isFull_22 (by decide) (fun c32 => ?_) (fun c32 => ?_)
        · rw [if_neg c32] at hf
          refine h_iconst (v := 0) dX9_isFull_29 rfl ?_
          refine h_sub (lv2 := [(0, .ref a0), (1, .int a1), (3, .int v6)]) [1, 2, 0] rfl ?_
          exact hJ8 0 hf
        · rw [if_pos c32] at hf
          refine h_iconst (v := 1) dX9_isFull_25 rfl ?_
          refine h_goto (tgt := 30) dX9_isFull_26 (by decide) ?_
          refine h_sub (lv2 := [(0, .ref a0), (1, .int a1), (3, .int v6)]) [1, 2, 0] rfl ?_
          exact hJ8 1 hf
  · intro J5 hJ5 hf
    refine h_if_le (tgt := 13) dX9_isFull_6 (by decide) (fun c33 => ?_) (fun c33 => ?_)
    · rw [if_pos c33] at hf
      refine h_iconst (v := 0) dX9_isFull_13 rfl ?_
      exact hJ5 0 hf
    · rw [if_neg c33] at hf
      refine h_iconst (v := 1) dX9_isFull_9 rfl ?_
      refine h_goto (tgt := 14) dX9_isFull_10 (by decide) ?_
      exact hJ5 1 hf
abbrev x_X9_hallClause (d : Nat) (S0 : hS) (args : List Value) (r : hS) (cs : Nat → Nat) : hX := ((none, 4, d, 0, 0, false), (S0, args, none, r), cs)
theorem v_X9_hallClause : hVW yX9_hallClause cX9_hallClause 4 none RX9 1 := ⟨q_1173, q_s36, q_9, q_1174, by decide +kernel, by decide⟩
def f_X9_hallClause_L11 : Nat → Nat → Int32 → hS → (Int32 → hS → Option (hS)) → Option (hS)
  | 0, _, _, _, _ => none
  | n + 1, x0, x3, S, k0 =>
    if 6 ≤ x3 then
      (k0 x3 S)
    else
      (hb2 (f_X9_hallWord x3 S) fun t4 S3 =>
       hck (S3.K x0 = 10) <|
       hb2 (f_X9_stood x0 t4 S3) fun t7 S6 =>
       if t7 = 0 then
         (f_X9_hallClause_L11 n x0 (x3 + 1) S6 k0)
       else
         (k0 x3 S6))
def f_X9_hallClause (a0 : Nat) (a1 : Int32) (S : hS) : Option (hS) :=
  hck (S.K a0 = 10) <|
  hbd (f_X9_blanks a0 S) fun S11 =>
  hbd (gI S11 a0 9 24) fun t12 =>
  f_X9_hallClause_L11 hfuel a0 0 S11
    (fun u14 S15 =>
      if u14 = 6 then
        (hck (S15.K a0 = 10) <|
         hbd (f_X9_fails a0 0 t12 S15) fun S38 =>
         some S38)
      else
        (hck (S15.K a0 = 10) <|
         hb2 (f_X9_isFull a0 u14 a1 S15) fun t19 S18 =>
         if t19 = 0 then
           (hbd (gI S18 a0 9 24) fun t21 =>
            hb2 (f_X9_hallWord u14 S18) fun t25 S24 =>
            hbd (gTL t25) fun t26 =>
            hbd (sI S24 a0 9 24 (t21 + t26)) fun S28 =>
            hck (S28.K a0 = 10) <|
            hbd (f_X9_hallPart a0 u14 S28) fun S31 =>
            some S31)
         else
           (hck (S18.K a0 = 10) <|
            hbd (f_X9_fails a0 4 t12 S18) fun S34 =>
            some S34))
    )
set_option maxRecDepth 100000 in
set_option maxHeartbeats 4000000 in
theorem w_X9_hallClause_L11 {d : Nat} {S0 : hS} {args : List Value} {cs : Nat → Nat} {r : hS} (hd : 8 ≤ d) : ∀ (n : Nat) (x0 : Nat) (x3 : Int32) (S : hS) (k0 : (Int32 → hS → Option (hS))) (z1 : Int32) (z2 : Int32), f_X9_hallClause_L11 n x0 x3 S k0 = some r → (∀ (y3 : Int32) (T : hS), k0 y3 T = some r → HW cX9_hallClause RX9 (x_X9_hallClause d S0 args r cs) 0 0 T 34 [(0, .ref x0), (1, .int z1), (2, .int z2), (3, .int y3)] []) → HW cX9_hallClause RX9 (x_X9_hallClause d S0 args r cs) 0 0 S 11 [(0, .ref x0), (1, .int z1), (2, .int z2), (3, .int x3)] [] := by
  intro n
  induction n with
  | zero =>
    intro x0 x3 S k0 z1 z2 hf
    cases hf
  | succ n ih =>
    intro x0 x3 S k0 z1 z2 hf hk0
    rw [f_X9_hallClause_L11] at hf
    refine h_iload_n dX9_hallClause_11 rfl 3 rfl ?_
    refine h_bipush (v := 6) dX9_hallClause_12 rfl ?_
    refine h_icmp_ge (tgt := 34) dX9_hallClause_14 (by decide) (fun c1 => ?_) (fun c1 => ?_)
    · rw [if_pos c1] at hf
      exact hk0 x3 S hf
    · rw [if_neg c1] at hf
      refine h_aload_n dX9_hallClause_17 rfl 0 rfl ?_
      refine h_iload_n dX9_hallClause_18 rfl 3 rfl ?_
      obtain ⟨t4, S3, h2, hf⟩ := hb2_s hf
      refine h_Sr [.int x3] (rest := [.ref x0]) (m_X9_hallWord (d := 1) (cs := cs) (Nat.le_refl _) h2) v_X9_hallWord q_1183 rfl (Nat.le_trans (by decide) hd) rfl (Nat.le_of_ble_eq_true rfl) dX9_hallClause_19 (Nat.le_refl _) (Nat.le_refl _) ?_
      obtain ⟨g9, hf⟩ := hck_s hf
      obtain ⟨t7, S6, h5, hf⟩ := hb2_s hf
      refine h_Vi [.ref (cs t4)] (rest := []) (m_X9_stood (d := 5) (cs := cs) (Nat.le_refl _) h5) v_X9_stood q_1192 rfl (Nat.le_trans (by decide) hd) g9 rfl rfl (Nat.le_of_ble_eq_true rfl) dX9_hallClause_22 (Nat.le_refl _) (Nat.le_refl _) ?_
      refine h_if_ne (tgt := 34) dX9_hallClause_25 (by decide) (fun c8 => ?_) (fun c8 => ?_)
      · rw [if_neg c8] at hf
        exact hk0 x3 S6 hf
      · rw [if_pos c8] at hf
        refine h_iinc (q := 3) (v := x3 + 1) (lv2 := [(3, .int (x3 + 1)), (0, .ref x0), (1, .int z1), (2, .int z2)]) dX9_hallClause_28 rfl rfl (Nat.le_of_ble_eq_true rfl) rfl ?_
        refine h_goto (tgt := 11) dX9_hallClause_31 (by decide) ?_
        refine h_sub (lv2 := [(0, .ref x0), (1, .int z1), (2, .int z2), (3, .int (x3 + 1))]) [1, 2, 3, 0] rfl ?_
        exact ih x0 (x3 + 1) S6 k0 z1 z2 hf hk0
set_option maxRecDepth 100000 in
set_option maxHeartbeats 4000000 in
theorem m_X9_hallClause {d : Nat} {cs : Nat → Nat} {a0 : Nat} {a1 : Int32} {S : hS} {r : hS} (hd : 8 ≤ d) (hf : f_X9_hallClause a0 a1 S = some r) : HM yX9_hallClause cX9_hallClause 4 none d 0 0 cs [.ref a0, .int a1] S (none) r := by
  unfold f_X9_hallClause at hf
  refine HM.ofHW false (by decide) (fun h => by cases h) (Nat.le_of_ble_eq_true rfl) ?_
  show HW cX9_hallClause RX9 (x_X9_hallClause d S [.ref a0, .int a1] r cs) 0 0 S 0 [(0, .ref a0), (1, .int a1)] []
  refine h_aload_n dX9_hallClause_0 rfl 0 rfl ?_
  obtain ⟨g40, hf⟩ := hck_s hf
  obtain ⟨S11, h10, hf⟩ := hbd_s hf
  refine h_Vv [] (rest := []) (m_X9_blanks (d := 2) (cs := cs) (Nat.le_refl _) h10) v_X9_blanks q_1175 rfl (Nat.le_trans (by decide) hd) g40 rfl rfl (Nat.le_of_ble_eq_true rfl) dX9_hallClause_1 (Nat.le_refl _) (Nat.le_refl _) ?_
  refine h_aload_n dX9_hallClause_4 rfl 0 rfl ?_
  obtain ⟨t12, h13, hf⟩ := hbd_s hf
  refine h_getI h13 rfl (Nat.le_of_ble_eq_true rfl) rfl q_984 rfl dX9_hallClause_5 ?_
  refine h_istore_n (lv2 := [(2, .int t12), (0, .ref a0), (1, .int a1)]) dX9_hallClause_8 rfl (Nat.le_of_ble_eq_true rfl) rfl ?_
  refine h_iconst (v := 0) dX9_hallClause_9 rfl ?_
  refine h_istore_n (lv2 := [(3, .int 0), (2, .int t12), (0, .ref a0), (1, .int a1)]) dX9_hallClause_10 rfl (Nat.le_of_ble_eq_true rfl) rfl ?_
  refine h_sub (lv2 := [(0, .ref a0), (1, .int a1), (2, .int t12), (3, .int 0)]) [2, 3, 1, 0] rfl ?_
  refine w_X9_hallClause_L11 hd hfuel a0 0 S11 _ a1 t12 hf ?_
  · intro u14 S15 hf
    refine h_iload_n dX9_hallClause_34 rfl 3 rfl ?_
    refine h_bipush (v := 6) dX9_hallClause_35 rfl ?_
    refine h_icmp_ne (tgt := 47) dX9_hallClause_37 (by decide) (fun c16 => ?_) (fun c16 => ?_)
    · rw [if_neg c16] at hf
      refine h_aload_n dX9_hallClause_47 rfl 0 rfl ?_
      refine h_iload_n dX9_hallClause_48 rfl 3 rfl ?_
      refine h_iload_n dX9_hallClause_49 rfl 1 rfl ?_
      obtain ⟨g36, hf⟩ := hck_s hf
      obtain ⟨t19, S18, h17, hf⟩ := hb2_s hf
      refine h_Vi [.int u14, .int a1] (rest := []) (m_X9_isFull (d := 1) (cs := cs) (Nat.le_refl _) h17) v_X9_isFull q_1202 rfl (Nat.le_trans (by decide) hd) g36 rfl rfl (Nat.le_of_ble_eq_true rfl) dX9_hallClause_50 (Nat.le_refl _) (Nat.le_refl _) ?_
      refine h_if_eq (tgt := 63) dX9_hallClause_53 (by decide) (fun c20 => ?_) (fun c20 => ?_)
      · rw [if_pos c20] at hf
        refine h_aload_n dX9_hallClause_63 rfl 0 rfl ?_
        refine h_dup dX9_hallClause_64 rfl ?_
        obtain ⟨t21, h22, hf⟩ := hbd_s hf
        refine h_getI h22 rfl (Nat.le_of_ble_eq_true rfl) rfl q_984 rfl dX9_hallClause_65 ?_
        refine h_iload_n dX9_hallClause_68 rfl 3 rfl ?_
        obtain ⟨t25, S24, h23, hf⟩ := hb2_s hf
        refine h_Sr [.int u14] (rest := [.int t21, .ref a0]) (m_X9_hallWord (d := 1) (cs := cs) (Nat.le_refl _) h23) v_X9_hallWord q_1183 rfl (Nat.le_trans (by decide) hd) rfl (Nat.le_of_ble_eq_true rfl) dX9_hallClause_69 (Nat.le_refl _) (Nat.le_refl _) ?_
        obtain ⟨t26, h27, hf⟩ := hbd_s hf
        refine h_Ti [] (rest := [.int t21, .ref a0]) (m_J0_length_8abf5 (d := 2) (cs := cs) (Nat.le_refl _) h27) v_J0_length_8abf5 (gTL_s h27).1 q_1196 rfl (Nat.le_trans (by decide) hd) rfl (Nat.le_of_ble_eq_true rfl) dX9_hallClause_72 (Nat.le_refl _) (Nat.le_refl _) ?_
        refine h_iadd dX9_hallClause_75 ?_
        obtain ⟨S28, h29, hf⟩ := hbd_s hf
        refine h_putI h29 rfl (Nat.le_of_ble_eq_true rfl) rfl q_984 rfl rfl (by decide +kernel) dX9_hallClause_76 ?_
        refine h_aload_n dX9_hallClause_79 rfl 0 rfl ?_
        refine h_iload_n dX9_hallClause_80 rfl 3 rfl ?_
        obtain ⟨g32, hf⟩ := hck_s hf
        obtain ⟨S31, h30, hf⟩ := hbd_s hf
        refine h_Vv [.int u14] (rest := []) (m_X9_hallPart (d := 7) (cs := cs) (Nat.le_refl _) h30) v_X9_hallPart q_1206 rfl (Nat.le_trans (by decide) hd) g32 rfl rfl (Nat.le_of_ble_eq_true rfl) dX9_hallClause_81 (Nat.le_refl _) (Nat.le_refl _) ?_
        obtain rfl := Option.some.inj hf
        exact h_vret rfl rfl rfl (Nat.le_refl _) (Nat.le_refl _) dX9_hallClause_84
      · rw [if_neg c20] at hf
        refine h_aload_n dX9_hallClause_56 rfl 0 rfl ?_
        refine h_iconst (v := 4) dX9_hallClause_57 rfl ?_
        refine h_iload_n dX9_hallClause_58 rfl 2 rfl ?_
        obtain ⟨g35, hf⟩ := hck_s hf
        obtain ⟨S34, h33, hf⟩ := hbd_s hf
        refine h_Vv [.int 4, .int t12] (rest := []) (m_X9_fails (d := 1) (cs := cs) (Nat.le_refl _) h33) v_X9_fails q_1198 rfl (Nat.le_trans (by decide) hd) g35 rfl rfl (Nat.le_of_ble_eq_true rfl) dX9_hallClause_59 (Nat.le_refl _) (Nat.le_refl _) ?_
        obtain rfl := Option.some.inj hf
        exact h_vret rfl rfl rfl (Nat.le_refl _) (Nat.le_refl _) dX9_hallClause_62
    · rw [if_pos c16] at hf
      refine h_aload_n dX9_hallClause_40 rfl 0 rfl ?_
      refine h_iconst (v := 0) dX9_hallClause_41 rfl ?_
      refine h_iload_n dX9_hallClause_42 rfl 2 rfl ?_
      obtain ⟨g39, hf⟩ := hck_s hf
      obtain ⟨S38, h37, hf⟩ := hbd_s hf
      refine h_Vv [.int 0, .int t12] (rest := []) (m_X9_fails (d := 1) (cs := cs) (Nat.le_refl _) h37) v_X9_fails q_1198 rfl (Nat.le_trans (by decide) hd) g39 rfl rfl (Nat.le_of_ble_eq_true rfl) dX9_hallClause_43 (Nat.le_refl _) (Nat.le_refl _) ?_
      obtain rfl := Option.some.inj hf
      exact h_vret rfl rfl rfl (Nat.le_refl _) (Nat.le_refl _) dX9_hallClause_46
abbrev x_X9_lay (d : Nat) (S0 : hS) (args : List Value) (r : hS) (cs : Nat → Nat) : hX := ((none, 3, d, 0, 0, false), (S0, args, none, r), cs)
theorem v_X9_lay : hSW yX9_lay cX9_lay 3 none 2 := ⟨q_1241, q_9, q_1242, by decide +kernel, by decide⟩
def f_X9_lay_L2 : Nat → Nat → Nat → Int32 → hS → (hS → Option (hS)) → Option (hS)
  | 0, _, _, _, _, _ => none
  | n + 1, x0, x1, x2, S, k0 =>
    hbd (gN S x0) fun t1 =>
    if t1 ≤ x2 then
      (k0 S)
    else
      (hbd (gA S x0 12 x2) fun t4 =>
       hbd (sA S x1 x2 t4) fun S6 =>
       f_X9_lay_L2 n x0 x1 (x2 + 1) S6 k0)
def f_X9_lay (a0 : Nat) (a1 : Nat) (S : hS) : Option (hS) :=
  f_X9_lay_L2 hfuel a0 a1 0 S
    (fun S8 =>
      some S8
    )
set_option maxRecDepth 100000 in
set_option maxHeartbeats 4000000 in
theorem w_X9_lay_L2 {d : Nat} {S0 : hS} {args : List Value} {cs : Nat → Nat} {r : hS} (hd : 1 ≤ d) : ∀ (n : Nat) (x0 : Nat) (x1 : Nat) (x2 : Int32) (S : hS) (k0 : (hS → Option (hS))) , f_X9_lay_L2 n x0 x1 x2 S k0 = some r → (∀ (T : hS), k0 T = some r → HW cX9_lay RX9 (x_X9_lay d S0 args r cs) 0 0 T 20 [] []) → HW cX9_lay RX9 (x_X9_lay d S0 args r cs) 0 0 S 2 [(0, .ref x0), (1, .ref x1), (2, .int x2)] [] := by
  intro n
  induction n with
  | zero =>
    intro x0 x1 x2 S k0 hf
    cases hf
  | succ n ih =>
    intro x0 x1 x2 S k0 hf hk0
    rw [f_X9_lay_L2] at hf
    refine h_iload_n dX9_lay_2 rfl 2 rfl ?_
    refine h_aload_n dX9_lay_3 rfl 0 rfl ?_
    obtain ⟨t1, h2, hf⟩ := hbd_s hf
    refine h_alen h2 dX9_lay_4 ?_
    refine h_icmp_ge (tgt := 20) dX9_lay_5 (by decide) (fun c3 => ?_) (fun c3 => ?_)
    · rw [if_pos c3] at hf
      refine h_sub (lv2 := []) [] rfl ?_
      exact hk0 S hf
    · rw [if_neg c3] at hf
      refine h_aload_n dX9_lay_8 rfl 1 rfl ?_
      refine h_iload_n dX9_lay_9 rfl 2 rfl ?_
      refine h_aload_n dX9_lay_10 rfl 0 rfl ?_
      refine h_iload_n dX9_lay_11 rfl 2 rfl ?_
      obtain ⟨t4, h5, hf⟩ := hbd_s hf
      refine h_iald h5 dX9_lay_12 ?_
      obtain ⟨S6, h7, hf⟩ := hbd_s hf
      refine h_iast h7 dX9_lay_13 ?_
      refine h_iinc (q := 2) (v := x2 + 1) (lv2 := [(2, .int (x2 + 1)), (0, .ref x0), (1, .ref x1)]) dX9_lay_14 rfl rfl (Nat.le_of_ble_eq_true rfl) rfl ?_
      refine h_goto (tgt := 2) dX9_lay_17 (by decide) ?_
      refine h_sub (lv2 := [(0, .ref x0), (1, .ref x1), (2, .int (x2 + 1))]) [1, 2, 0] rfl ?_
      exact ih x0 x1 (x2 + 1) S6 k0  hf hk0
set_option maxRecDepth 100000 in
set_option maxHeartbeats 4000000 in
theorem m_X9_lay {d : Nat} {cs : Nat → Nat} {a0 : Nat} {a1 : Nat} {S : hS} {r : hS} (hd : 1 ≤ d) (hf : f_X9_lay a0 a1 S = some r) : HM yX9_lay cX9_lay 3 none d 0 0 cs [.ref a0, .ref a1] S (none) r := by
  unfold f_X9_lay at hf
  refine HM.ofHW false (by decide) (fun h => by cases h) (Nat.le_of_ble_eq_true rfl) ?_
  show HW cX9_lay RX9 (x_X9_lay d S [.ref a0, .ref a1] r cs) 0 0 S 0 [(0, .ref a0), (1, .ref a1)] []
  refine h_iconst (v := 0) dX9_lay_0 rfl ?_
  refine h_istore_n (lv2 := [(2, .int 0), (0, .ref a0), (1, .ref a1)]) dX9_lay_1 rfl (Nat.le_of_ble_eq_true rfl) rfl ?_
  refine h_sub (lv2 := [(0, .ref a0), (1, .ref a1), (2, .int 0)]) [1, 2, 0] rfl ?_
  refine w_X9_lay_L2 hd hfuel a0 a1 0 S _  hf ?_
  · intro S8 hf
    obtain rfl := Option.some.inj hf
    exact h_vret rfl rfl rfl (Nat.le_refl _) (Nat.le_refl _) dX9_lay_20
abbrev x_X9_goesOn (d : Nat) (S0 : hS) (args : List Value) (r : Int32 × hS) (cs : Nat → Nat) : hX := (((some .boolean), 2, d, 0, 0, false), (S0, args, some (.int r.1), r.2), cs)
theorem v_X9_goesOn : hVW yX9_goesOn cX9_goesOn 2 (some .boolean) RX9 0 := ⟨q_1238, q_s48, q_9, q_1239, by decide +kernel, by decide⟩
def f_X9_goesOn (a0 : Nat) (S : hS) : Option (Int32 × hS) :=
  hck (S.K a0 = 10) <|
  hbd (f_X9_blanks a0 S) fun S2 =>
  hbd (gI S2 a0 9 25) fun t3 =>
  hj (γ := hS → Option (Int32 × hS)) (fun (S6 : hS) =>
    hbd (gI S6 a0 9 25) fun t7 =>
    hj (γ := Int32 → Option (Int32 × hS)) (fun (v10 : Int32) =>
      hbd (gI S6 a0 9 24) fun t11 =>
      hbd (sI S6 a0 9 24 (t11 + 1)) fun S13 =>
      hck (v10 = 0 ∨ v10 = 1) <|
      some (v10, S13)
      ) fun J9 =>
    hj (γ := Unit → Option (Int32 × hS)) (fun (_ : Unit) =>
      J9 0
      ) fun J15 =>
    if t7 = 0 then
      (hbd (gI S6 a0 9 24) fun t17 =>
       hbd (gI S6 a0 9 23) fun t19 =>
       if t19 ≤ t17 then
         (J15 ())
       else
         (J9 1))
    else
      (J15 ())
    ) fun J5 =>
  if t3 = 0 then
    (hbd (gI S2 a0 9 24) fun t23 =>
     hbd (gI S2 a0 9 23) fun t25 =>
     if t25 ≤ t23 then
       (J5 S2)
     else
       (hck (S2.K a0 = 10) <|
        hb2 (f_X9_sign a0 S2) fun t30 S29 =>
        if t30 = 59 then
          (J5 S29)
        else
          (hbd (gI S29 a0 9 24) fun t32 =>
           hck (S29.K a0 = 10) <|
           hbd (f_X9_fails a0 0 t32 S29) fun S35 =>
           J5 S35)))
  else
    (J5 S2)
set_option maxRecDepth 100000 in
set_option maxHeartbeats 4000000 in
theorem m_X9_goesOn {d : Nat} {cs : Nat → Nat} {a0 : Nat} {S : hS} {r : Int32 × hS} (hd : 3 ≤ d) (hf : f_X9_goesOn a0 S = some r) : HM yX9_goesOn cX9_goesOn 2 (some .boolean) d 0 0 cs [.ref a0] S (some (.int r.1)) r.2 := by
  unfold f_X9_goesOn at hf
  refine HM.ofHW false (by decide) (fun h => by cases h) (Nat.le_of_ble_eq_true rfl) ?_
  show HW cX9_goesOn RX9 (x_X9_goesOn d S [.ref a0] r cs) 0 0 S 0 [(0, .ref a0)] []
  refine h_aload_n dX9_goesOn_0 rfl 0 rfl ?_
  obtain ⟨g38, hf⟩ := hck_s hf
  obtain ⟨S2, h1, hf⟩ := hbd_s hf
  refine h_Vv [] (rest := []) (m_X9_blanks (d := 2) (cs := cs) (Nat.le_refl _) h1) v_X9_blanks q_1175 rfl (Nat.le_trans (by decide) hd) g38 rfl rfl (Nat.le_of_ble_eq_true rfl) dX9_goesOn_1 (Nat.le_refl _) (Nat.le_refl _) ?_
  refine h_aload_n dX9_goesOn_4 rfl 0 rfl ?_
  obtain ⟨t3, h4, hf⟩ := hbd_s hf
  refine h_getI h4 rfl (Nat.le_of_ble_eq_true rfl) rfl q_985 rfl dX9_goesOn_5 ?_
  refine hj_s (fun J5 => ∀ (S6 : hS), J5 S6 = some r → HW cX9_goesOn RX9 (x_X9_goesOn d S [.ref a0] r cs) 0 0 S6 40 [(0, .ref a0)] []) hf ?_ ?_
  · intro S6 hf
    refine h_aload_n dX9_goesOn_40 rfl 0 rfl ?_
    obtain ⟨t7, h8, hf⟩ := hbd_s hf
    refine h_getI h8 rfl (Nat.le_of_ble_eq_true rfl) rfl q_985 rfl dX9_goesOn_41 ?_
    refine hj_s (fun J9 => ∀ (v10 : Int32), J9 v10 = some r → HW cX9_goesOn RX9 (x_X9_goesOn d S [.ref a0] r cs) 0 0 S6 63 [(0, .ref a0)] [.int v10]) hf ?_ ?_
    · intro v10 hf
      refine h_istore_n (lv2 := [(1, .int v10), (0, .ref a0)]) dX9_goesOn_63 rfl (Nat.le_of_ble_eq_true rfl) rfl ?_
      refine h_aload_n dX9_goesOn_64 rfl 1 rfl ?_
      refine h_dup dX9_goesOn_65 rfl ?_
      obtain ⟨t11, h12, hf⟩ := hbd_s hf
      refine h_getI h12 rfl (Nat.le_of_ble_eq_true rfl) rfl q_984 rfl dX9_goesOn_66 ?_
      refine h_iconst (v := 1) dX9_goesOn_69 rfl ?_
      refine h_iadd dX9_goesOn_70 ?_
      obtain ⟨S13, h14, hf⟩ := hbd_s hf
      refine h_putI h14 rfl (Nat.le_of_ble_eq_true rfl) rfl q_984 rfl rfl (by decide +kernel) dX9_goesOn_71 ?_
      refine h_iload_n dX9_goesOn_74 rfl 0 rfl ?_
      obtain ⟨hz, hf⟩ := hck_s hf
      obtain rfl := Option.some.inj hf
      exact h_zret rfl hz rfl rfl (Nat.le_refl _) (Nat.le_refl _) dX9_goesOn_75
    · intro J9 hJ9 hf
      refine hj_s (fun J15 => ∀ (w : Unit), J15 w = some r → HW cX9_goesOn RX9 (x_X9_goesOn d S [.ref a0] r cs) 0 0 S6 62 [(0, .ref a0)] []) hf ?_ ?_
      · intro w hf
        refine h_iconst (v := 0) dX9_goesOn_62 rfl ?_
        exact hJ9 0 hf
      · intro J15 hJ15 hf
        refine h_if_ne (tgt := 62) dX9_goesOn_44 (by decide) (fun c16 => ?_) (fun c16 => ?_)
        · rw [if_neg c16] at hf
          exact hJ15 () hf
        · rw [if_pos c16] at hf
          refine h_aload_n dX9_goesOn_47 rfl 0 rfl ?_
          obtain ⟨t17, h18, hf⟩ := hbd_s hf
          refine h_getI h18 rfl (Nat.le_of_ble_eq_true rfl) rfl q_984 rfl dX9_goesOn_48 ?_
          refine h_aload_n dX9_goesOn_51 rfl 0 rfl ?_
          obtain ⟨t19, h20, hf⟩ := hbd_s hf
          refine h_getI h20 rfl (Nat.le_of_ble_eq_true rfl) rfl q_983 rfl dX9_goesOn_52 ?_
          refine h_icmp_ge (tgt := 62) dX9_goesOn_55 (by decide) (fun c21 => ?_) (fun c21 => ?_)
          · rw [if_pos c21] at hf
            exact hJ15 () hf
          · rw [if_neg c21] at hf
            refine h_iconst (v := 1) dX9_goesOn_58 rfl ?_
            refine h_goto (tgt := 63) dX9_goesOn_59 (by decide) ?_
            exact hJ9 1 hf
  · intro J5 hJ5 hf
    refine h_if_ne (tgt := 40) dX9_goesOn_8 (by decide) (fun c22 => ?_) (fun c22 => ?_)
    · rw [if_neg c22] at hf
      exact hJ5 S2 hf
    · rw [if_pos c22] at hf
      refine h_aload_n dX9_goesOn_11 rfl 0 rfl ?_
      obtain ⟨t23, h24, hf⟩ := hbd_s hf
      refine h_getI h24 rfl (Nat.le_of_ble_eq_true rfl) rfl q_984 rfl dX9_goesOn_12 ?_
      refine h_aload_n dX9_goesOn_15 rfl 0 rfl ?_
      obtain ⟨t25, h26, hf⟩ := hbd_s hf
      refine h_getI h26 rfl (Nat.le_of_ble_eq_true rfl) rfl q_983 rfl dX9_goesOn_16 ?_
      refine h_icmp_ge (tgt := 40) dX9_goesOn_19 (by decide) (fun c27 => ?_) (fun c27 => ?_)
      · rw [if_pos c27] at hf
        exact hJ5 S2 hf
      · rw [if_neg c27] at hf
        refine h_aload_n dX9_goesOn_22 rfl 0 rfl ?_
        obtain ⟨g37, hf⟩ := hck_s hf
        obtain ⟨t30, S29, h28, hf⟩ := hb2_s hf
        refine h_Vi [] (rest := []) (m_X9_sign (d := 1) (cs := cs) (Nat.le_refl _) h28) v_X9_sign q_1179 rfl (Nat.le_trans (by decide) hd) g37 rfl rfl (Nat.le_of_ble_eq_true rfl) dX9_goesOn_23 (Nat.le_refl _) (Nat.le_refl _) ?_
        refine h_bipush (v := 59) dX9_goesOn_26 rfl ?_
        refine h_icmp_eq (tgt := 40) dX9_goesOn_28 (by decide) (fun c31 => ?_) (fun c31 => ?_)
        · rw [if_pos c31] at hf
          exact hJ5 S29 hf
        · rw [if_neg c31] at hf
          refine h_aload_n dX9_goesOn_31 rfl 0 rfl ?_
          refine h_iconst (v := 0) dX9_goesOn_32 rfl ?_
          refine h_aload_n dX9_goesOn_33 rfl 0 rfl ?_
          obtain ⟨t32, h33, hf⟩ := hbd_s hf
          refine h_getI h33 rfl (Nat.le_of_ble_eq_true rfl) rfl q_984 rfl dX9_goesOn_34 ?_
          obtain ⟨g36, hf⟩ := hck_s hf
          obtain ⟨S35, h34, hf⟩ := hbd_s hf
          refine h_Vv [.int 0, .int t32] (rest := []) (m_X9_fails (d := 1) (cs := cs) (Nat.le_refl _) h34) v_X9_fails q_1198 rfl (Nat.le_trans (by decide) hd) g36 rfl rfl (Nat.le_of_ble_eq_true rfl) dX9_goesOn_37 (Nat.le_refl _) (Nat.le_refl _) ?_
          exact hJ5 S35 hf
abbrev x_X9_starts (d : Nat) (S0 : hS) (args : List Value) (r : hS) (cs : Nat → Nat) : hX := ((none, 1, d, 0, 0, false), (S0, args, none, r), cs)
theorem v_X9_starts : hVW yX9_starts cX9_starts 1 none RX9 0 := ⟨q_1169, q_s35, q_9, q_1170, by decide +kernel, by decide⟩
def f_X9_starts (a0 : Nat) (S : hS) : Option (hS) :=
  hbd (sI S a0 9 24 0) fun S1 =>
  hbd (sI S1 a0 9 25 0) fun S3 =>
  hbd (sI S3 a0 9 28 0) fun S5 =>
  hbd (sI S5 a0 9 29 0) fun S7 =>
  hbd (sI S7 a0 9 30 0) fun S9 =>
  some S9
set_option maxRecDepth 100000 in
set_option maxHeartbeats 4000000 in
theorem m_X9_starts {d : Nat} {cs : Nat → Nat} {a0 : Nat} {S : hS} {r : hS} (hd : 1 ≤ d) (hf : f_X9_starts a0 S = some r) : HM yX9_starts cX9_starts 1 none d 0 0 cs [.ref a0] S (none) r := by
  unfold f_X9_starts at hf
  refine HM.ofHW false (by decide) (fun h => by cases h) (Nat.le_of_ble_eq_true rfl) ?_
  show HW cX9_starts RX9 (x_X9_starts d S [.ref a0] r cs) 0 0 S 0 [(0, .ref a0)] []
  refine h_aload_n dX9_starts_0 rfl 0 rfl ?_
  refine h_iconst (v := 0) dX9_starts_1 rfl ?_
  obtain ⟨S1, h2, hf⟩ := hbd_s hf
  refine h_putI h2 rfl (Nat.le_of_ble_eq_true rfl) rfl q_984 rfl rfl (by decide +kernel) dX9_starts_2 ?_
  refine h_aload_n dX9_starts_5 rfl 0 rfl ?_
  refine h_iconst (v := 0) dX9_starts_6 rfl ?_
  obtain ⟨S3, h4, hf⟩ := hbd_s hf
  refine h_putI h4 rfl (Nat.le_of_ble_eq_true rfl) rfl q_985 rfl rfl (by decide +kernel) dX9_starts_7 ?_
  refine h_aload_n dX9_starts_10 rfl 0 rfl ?_
  refine h_iconst (v := 0) dX9_starts_11 rfl ?_
  obtain ⟨S5, h6, hf⟩ := hbd_s hf
  refine h_putI h6 rfl (Nat.le_of_ble_eq_true rfl) rfl q_988 rfl rfl (by decide +kernel) dX9_starts_12 ?_
  refine h_aload_n dX9_starts_15 rfl 0 rfl ?_
  refine h_iconst (v := 0) dX9_starts_16 rfl ?_
  obtain ⟨S7, h8, hf⟩ := hbd_s hf
  refine h_putI h8 rfl (Nat.le_of_ble_eq_true rfl) rfl q_989 rfl rfl (by decide +kernel) dX9_starts_17 ?_
  refine h_aload_n dX9_starts_20 rfl 0 rfl ?_
  refine h_iconst (v := 0) dX9_starts_21 rfl ?_
  obtain ⟨S9, h10, hf⟩ := hbd_s hf
  refine h_putI h10 rfl (Nat.le_of_ble_eq_true rfl) rfl q_990 rfl rfl (by decide +kernel) dX9_starts_22 ?_
  obtain rfl := Option.some.inj hf
  exact h_vret rfl rfl rfl (Nat.le_refl _) (Nat.le_refl _) dX9_starts_25
abbrev x_X9_hall (d : Nat) (S0 : hS) (args : List Value) (r : Int32 × hS) (cs : Nat → Nat) : hX := (((some .int), 5, d, 0, 0, false), (S0, args, some (.int r.1), r.2), cs)
theorem v_X9_hall : hVW yX9_hall cX9_hall 5 (some .int) RX9 0 := ⟨q_1164, q_1165, q_9, q_1166, by decide +kernel, by decide⟩
def f_X9_hall_L11 : Nat → Nat → Int32 → hS → (hS → Option (Int32 × hS)) → Option (Int32 × hS)
  | 0, _, _, _, _ => none
  | n + 1, x0, x1, S, k0 =>
    if 6 ≤ x1 then
      (k0 S)
    else
      (hbd (gR S x0 9 13) fun t2 =>
       hbd (sA S t2 x1 0) fun S4 =>
       f_X9_hall_L11 n x0 (x1 + 1) S4 k0)
def f_X9_hall_L32 : Nat → Nat → Int32 → hS → (hS → Option (Int32 × hS)) → Option (Int32 × hS)
  | 0, _, _, _, _ => none
  | n + 1, x0, x1, S, k0 =>
    if 80 ≤ x1 then
      (k0 S)
    else
      (hbd (gR S x0 9 14) fun t2 =>
       hbd (sA S t2 x1 0) fun S4 =>
       f_X9_hall_L32 n x0 (x1 + 1) S4 k0)
def f_X9_hall_L55 : Nat → Nat → Int32 → Int32 → hS → (hS → Option (Int32 × hS)) → Option (Int32 × hS)
  | 0, _, _, _, _, _ => none
  | n + 1, x0, x1, x2, S, k0 =>
    if x2 = 0 then
      (k0 S)
    else
      (hck (S.K x0 = 10) <|
       hbd (f_X9_hallClause x0 x1 S) fun S3 =>
       hck (S3.K x0 = 10) <|
       hb2 (f_X9_goesOn x0 S3) fun t6 S5 =>
       f_X9_hall_L55 n x0 (x1 + 1) t6 S5 k0)
def f_X9_hall_L265 : Nat → Nat → Int32 → hS → (hS → Option (Int32 × hS)) → Option (Int32 × hS)
  | 0, _, _, _, _ => none
  | n + 1, x0, x4, S, k0 =>
    if 12 ≤ x4 then
      (k0 S)
    else
      (hbd (gR S x0 9 6) fun t2 =>
       hbd (sA S t2 x4 0) fun S4 =>
       f_X9_hall_L265 n x0 (x4 + 1) S4 k0)
def f_X9_hall_L106 : Nat → Nat → Int32 → hS → (hS → Option (Int32 × hS)) → Option (Int32 × hS)
  | 0, _, _, _, _ => none
  | n + 1, x0, x4, S, k0 =>
    hbd (gR S x0 9 1) fun t1 =>
    hbd (gN S t1) fun t3 =>
    if t3 ≤ x4 then
      (k0 S)
    else
      (hbd (gR S x0 9 1) fun t6 =>
       hj (γ := Int32 → Option (Int32 × hS)) (fun (v9 : Int32) =>
         hbd (sA S t6 x4 v9) fun S10 =>
         f_X9_hall_L106 n x0 (x4 + 1) S10 k0
         ) fun J8 =>
       if 6 ≤ x4 then
         (J8 0)
       else
         (hbd (gR S x0 9 13) fun t13 =>
          hbd (gA S t13 12 x4) fun t15 =>
          J8 t15))
def f_X9_hall (a0 : Nat) (S : hS) : Option (Int32 × hS) :=
  hck (S.K a0 = 10) <|
  hbd (f_X9_starts a0 S) fun S18 =>
  hbd (sZ S18 a0 9 33 0) fun S19 =>
  f_X9_hall_L11 hfuel a0 0 S19
    (fun S21 =>
      f_X9_hall_L32 hfuel a0 0 S21
        (fun S22 =>
          f_X9_hall_L55 hfuel a0 0 1 S22
            (fun S23 =>
              hbd (sI S23 a0 9 23 0) fun S24 =>
              hbd (gI S24 a0 9 25) fun t26 =>
              if t26 ≤ 0 then
                (hbd (gR S24 a0 9 1) fun t29 =>
                 hbd (gA S24 t29 12 13) fun t31 =>
                 f_X9_hall_L106 hfuel a0 0 S24
                   (fun S33 =>
                     hbd (gR S33 a0 9 1) fun t34 =>
                     hbd (sA S33 t34 13 t31) fun S36 =>
                     hbd (gR S36 a0 9 1) fun t38 =>
                     hbd (sA S36 t38 6 (-1)) fun S40 =>
                     hbd (gR S40 a0 9 14) fun t42 =>
                     hbd (gR S40 a0 9 2) fun t44 =>
                     hbd (f_X9_lay t42 t44 S40) fun S47 =>
                     hbd (gR S47 a0 9 15) fun t48 =>
                     hbd (gR S47 a0 9 3) fun t50 =>
                     hbd (f_X9_lay t48 t50 S47) fun S53 =>
                     hbd (gR S53 a0 9 16) fun t54 =>
                     hbd (gR S53 a0 9 4) fun t56 =>
                     hbd (f_X9_lay t54 t56 S53) fun S59 =>
                     hbd (gR S59 a0 9 17) fun t60 =>
                     hbd (gR S59 a0 9 5) fun t62 =>
                     hbd (f_X9_lay t60 t62 S59) fun S65 =>
                     hbd (gR S65 a0 9 18) fun t66 =>
                     hbd (gR S65 a0 9 7) fun t68 =>
                     hbd (f_X9_lay t66 t68 S65) fun S71 =>
                     hbd (gR S71 a0 9 19) fun t72 =>
                     hbd (gR S71 a0 9 8) fun t74 =>
                     hbd (f_X9_lay t72 t74 S71) fun S77 =>
                     hbd (gR S77 a0 9 20) fun t78 =>
                     hbd (gR S77 a0 9 9) fun t80 =>
                     hbd (f_X9_lay t78 t80 S77) fun S83 =>
                     hbd (gR S83 a0 9 21) fun t84 =>
                     hbd (gR S83 a0 9 10) fun t86 =>
                     hbd (f_X9_lay t84 t86 S83) fun S89 =>
                     hbd (gR S89 a0 9 22) fun t90 =>
                     hbd (gR S89 a0 9 11) fun t92 =>
                     hbd (f_X9_lay t90 t92 S89) fun S95 =>
                     f_X9_hall_L265 hfuel a0 0 S95
                       (fun S96 =>
                         hbd (gR S96 a0 9 1) fun t97 =>
                         hck (S96.K a0 = 10) <|
                         hb2 (f_X9_allHeat a0 S96) fun t101 S100 =>
                         hbd (sA S100 t97 11 t101) fun S102 =>
                         hbd (gR S102 a0 9 1) fun t104 =>
                         hbd (gA S102 t104 12 2) fun t106 =>
                         some (t106, S102)
                       )
                   ))
              else
                (hbd (gI S24 a0 9 25) fun t109 =>
                 some ((-2) - t109, S24))
            )
        )
    )
set_option maxRecDepth 100000 in
set_option maxHeartbeats 4000000 in
theorem w_X9_hall_L11 {d : Nat} {S0 : hS} {args : List Value} {cs : Nat → Nat} {r : Int32 × hS} (hd : 9 ≤ d) : ∀ (n : Nat) (x0 : Nat) (x1 : Int32) (S : hS) (k0 : (hS → Option (Int32 × hS))) , f_X9_hall_L11 n x0 x1 S k0 = some r → (∀ (T : hS), k0 T = some r → HW cX9_hall RX9 (x_X9_hall d S0 args r cs) 0 0 T 30 [(0, .ref x0)] []) → HW cX9_hall RX9 (x_X9_hall d S0 args r cs) 0 0 S 11 [(0, .ref x0), (1, .int x1)] [] := by
  intro n
  induction n with
  | zero =>
    intro x0 x1 S k0 hf
    cases hf
  | succ n ih =>
    intro x0 x1 S k0 hf hk0
    rw [f_X9_hall_L11] at hf
    refine h_iload_n dX9_hall_11 rfl 1 rfl ?_
    refine h_bipush (v := 6) dX9_hall_12 rfl ?_
    refine h_icmp_ge (tgt := 30) dX9_hall_14 (by decide) (fun c1 => ?_) (fun c1 => ?_)
    · rw [if_pos c1] at hf
      refine h_sub (lv2 := [(0, .ref x0)]) [0] rfl ?_
      exact hk0 S hf
    · rw [if_neg c1] at hf
      refine h_aload_n dX9_hall_17 rfl 0 rfl ?_
      obtain ⟨t2, h3, hf⟩ := hbd_s hf
      refine h_getR h3 rfl (Nat.le_of_ble_eq_true rfl) rfl q_973 rfl dX9_hall_18 ?_
      refine h_iload_n dX9_hall_21 rfl 1 rfl ?_
      refine h_iconst (v := 0) dX9_hall_22 rfl ?_
      obtain ⟨S4, h5, hf⟩ := hbd_s hf
      refine h_iast h5 dX9_hall_23 ?_
      refine h_iinc (q := 1) (v := x1 + 1) (lv2 := [(1, .int (x1 + 1)), (0, .ref x0)]) dX9_hall_24 rfl rfl (Nat.le_of_ble_eq_true rfl) rfl ?_
      refine h_goto (tgt := 11) dX9_hall_27 (by decide) ?_
      refine h_sub (lv2 := [(0, .ref x0), (1, .int (x1 + 1))]) [1, 0] rfl ?_
      exact ih x0 (x1 + 1) S4 k0  hf hk0
set_option maxRecDepth 100000 in
set_option maxHeartbeats 4000000 in
theorem w_X9_hall_L32 {d : Nat} {S0 : hS} {args : List Value} {cs : Nat → Nat} {r : Int32 × hS} (hd : 9 ≤ d) : ∀ (n : Nat) (x0 : Nat) (x1 : Int32) (S : hS) (k0 : (hS → Option (Int32 × hS))) , f_X9_hall_L32 n x0 x1 S k0 = some r → (∀ (T : hS), k0 T = some r → HW cX9_hall RX9 (x_X9_hall d S0 args r cs) 0 0 T 51 [(0, .ref x0)] []) → HW cX9_hall RX9 (x_X9_hall d S0 args r cs) 0 0 S 32 [(0, .ref x0), (1, .int x1)] [] := by
  intro n
  induction n with
  | zero =>
    intro x0 x1 S k0 hf
    cases hf
  | succ n ih =>
    intro x0 x1 S k0 hf hk0
    rw [f_X9_hall_L32] at hf
    refine h_iload_n dX9_hall_32 rfl 1 rfl ?_
    refine h_bipush (v := 80) dX9_hall_33 rfl ?_
    refine h_icmp_ge (tgt := 51) dX9_hall_35 (by decide) (fun c1 => ?_) (fun c1 => ?_)
    · rw [if_pos c1] at hf
      refine h_sub (lv2 := [(0, .ref x0)]) [0] rfl ?_
      exact hk0 S hf
    · rw [if_neg c1] at hf
      refine h_aload_n dX9_hall_38 rfl 0 rfl ?_
      obtain ⟨t2, h3, hf⟩ := hbd_s hf
      refine h_getR h3 rfl (Nat.le_of_ble_eq_true rfl) rfl q_974 rfl dX9_hall_39 ?_
      refine h_iload_n dX9_hall_42 rfl 1 rfl ?_
      refine h_iconst (v := 0) dX9_hall_43 rfl ?_
      obtain ⟨S4, h5, hf⟩ := hbd_s hf
      refine h_iast h5 dX9_hall_44 ?_
      refine h_iinc (q := 1) (v := x1 + 1) (lv2 := [(1, .int (x1 + 1)), (0, .ref x0)]) dX9_hall_45 rfl rfl (Nat.le_of_ble_eq_true rfl) rfl ?_
      refine h_goto (tgt := 32) dX9_hall_48 (by decide) ?_
      refine h_sub (lv2 := [(0, .ref x0), (1, .int (x1 + 1))]) [1, 0] rfl ?_
      exact ih x0 (x1 + 1) S4 k0  hf hk0
set_option maxRecDepth 100000 in
set_option maxHeartbeats 4000000 in
theorem w_X9_hall_L55 {d : Nat} {S0 : hS} {args : List Value} {cs : Nat → Nat} {r : Int32 × hS} (hd : 9 ≤ d) : ∀ (n : Nat) (x0 : Nat) (x1 : Int32) (x2 : Int32) (S : hS) (k0 : (hS → Option (Int32 × hS))) , f_X9_hall_L55 n x0 x1 x2 S k0 = some r → (∀ (T : hS), k0 T = some r → HW cX9_hall RX9 (x_X9_hall d S0 args r cs) 0 0 T 75 [(0, .ref x0)] []) → HW cX9_hall RX9 (x_X9_hall d S0 args r cs) 0 0 S 55 [(0, .ref x0), (1, .int x1), (2, .int x2)] [] := by
  intro n
  induction n with
  | zero =>
    intro x0 x1 x2 S k0 hf
    cases hf
  | succ n ih =>
    intro x0 x1 x2 S k0 hf hk0
    rw [f_X9_hall_L55] at hf
    refine h_iload_n dX9_hall_55 rfl 2 rfl ?_
    refine h_if_eq (tgt := 75) dX9_hall_56 (by decide) (fun c1 => ?_) (fun c1 => ?_)
    · rw [if_pos c1] at hf
      refine h_sub (lv2 := [(0, .ref x0)]) [0] rfl ?_
      exact hk0 S hf
    · rw [if_neg c1] at hf
      refine h_aload_n dX9_hall_59 rfl 0 rfl ?_
      refine h_iload_n dX9_hall_60 rfl 1 rfl ?_
      obtain ⟨g8, hf⟩ := hck_s hf
      obtain ⟨S3, h2, hf⟩ := hbd_s hf
      refine h_Vv [.int x1] (rest := []) (m_X9_hallClause (d := 8) (cs := cs) (Nat.le_refl _) h2) v_X9_hallClause q_1171 rfl (Nat.le_trans (by decide) hd) g8 rfl rfl (Nat.le_of_ble_eq_true rfl) dX9_hall_61 (Nat.le_refl _) (Nat.le_refl _) ?_
      refine h_iinc (q := 1) (v := x1 + 1) (lv2 := [(1, .int (x1 + 1)), (0, .ref x0), (2, .int x2)]) dX9_hall_64 rfl rfl (Nat.le_of_ble_eq_true rfl) rfl ?_
      refine h_aload_n dX9_hall_67 rfl 1 rfl ?_
      obtain ⟨g7, hf⟩ := hck_s hf
      obtain ⟨t6, S5, h4, hf⟩ := hb2_s hf
      refine h_Vi [] (rest := []) (m_X9_goesOn (d := 3) (cs := cs) (Nat.le_refl _) h4) v_X9_goesOn q_1236 rfl (Nat.le_trans (by decide) hd) g7 rfl rfl (Nat.le_of_ble_eq_true rfl) dX9_hall_68 (Nat.le_refl _) (Nat.le_refl _) ?_
      refine h_istore_n (lv2 := [(2, .int t6), (1, .int (x1 + 1)), (0, .ref x0)]) dX9_hall_71 rfl (Nat.le_of_ble_eq_true rfl) rfl ?_
      refine h_goto (tgt := 55) dX9_hall_72 (by decide) ?_
      refine h_sub (lv2 := [(0, .ref x0), (1, .int (x1 + 1)), (2, .int t6)]) [2, 1, 0] rfl ?_
      exact ih x0 (x1 + 1) t6 S5 k0  hf hk0
set_option maxRecDepth 100000 in
set_option maxHeartbeats 4000000 in
theorem w_X9_hall_L265 {d : Nat} {S0 : hS} {args : List Value} {cs : Nat → Nat} {r : Int32 × hS} (hd : 9 ≤ d) : ∀ (n : Nat) (x0 : Nat) (x4 : Int32) (S : hS) (k0 : (hS → Option (Int32 × hS))) , f_X9_hall_L265 n x0 x4 S k0 = some r → (∀ (T : hS), k0 T = some r → HW cX9_hall RX9 (x_X9_hall d S0 args r cs) 0 0 T 286 [(0, .ref x0)] []) → HW cX9_hall RX9 (x_X9_hall d S0 args r cs) 0 0 S 265 [(0, .ref x0), (4, .int x4)] [] := by
  intro n
  induction n with
  | zero =>
    intro x0 x4 S k0 hf
    cases hf
  | succ n ih =>
    intro x0 x4 S k0 hf hk0
    rw [f_X9_hall_L265] at hf
    refine h_iload dX9_hall_265 1 rfl ?_
    refine h_bipush (v := 12) dX9_hall_267 rfl ?_
    refine h_icmp_ge (tgt := 286) dX9_hall_269 (by decide) (fun c1 => ?_) (fun c1 => ?_)
    · rw [if_pos c1] at hf
      refine h_sub (lv2 := [(0, .ref x0)]) [0] rfl ?_
      exact hk0 S hf
    · rw [if_neg c1] at hf
      refine h_aload_n dX9_hall_272 rfl 0 rfl ?_
      obtain ⟨t2, h3, hf⟩ := hbd_s hf
      refine h_getR h3 rfl (Nat.le_of_ble_eq_true rfl) rfl q_966 rfl dX9_hall_273 ?_
      refine h_iload dX9_hall_276 1 rfl ?_
      refine h_iconst (v := 0) dX9_hall_278 rfl ?_
      obtain ⟨S4, h5, hf⟩ := hbd_s hf
      refine h_iast h5 dX9_hall_279 ?_
      refine h_iinc (q := 1) (v := x4 + 1) (lv2 := [(4, .int (x4 + 1)), (0, .ref x0)]) dX9_hall_280 rfl rfl (Nat.le_of_ble_eq_true rfl) rfl ?_
      refine h_goto (tgt := 265) dX9_hall_283 (by decide) ?_
      refine h_sub (lv2 := [(0, .ref x0), (4, .int (x4 + 1))]) [1, 0] rfl ?_
      exact ih x0 (x4 + 1) S4 k0  hf hk0
set_option maxRecDepth 100000 in
set_option maxHeartbeats 4000000 in
theorem w_X9_hall_L106 {d : Nat} {S0 : hS} {args : List Value} {cs : Nat → Nat} {r : Int32 × hS} (hd : 9 ≤ d) : ∀ (n : Nat) (x0 : Nat) (x4 : Int32) (S : hS) (k0 : (hS → Option (Int32 × hS))) (z3 : Int32), f_X9_hall_L106 n x0 x4 S k0 = some r → (∀ (T : hS), k0 T = some r → HW cX9_hall RX9 (x_X9_hall d S0 args r cs) 0 0 T 147 [(0, .ref x0), (3, .int z3)] []) → HW cX9_hall RX9 (x_X9_hall d S0 args r cs) 0 0 S 106 [(0, .ref x0), (3, .int z3), (4, .int x4)] [] := by
  intro n
  induction n with
  | zero =>
    intro x0 x4 S k0 z3 hf
    cases hf
  | succ n ih =>
    intro x0 x4 S k0 z3 hf hk0
    rw [f_X9_hall_L106] at hf
    refine h_iload dX9_hall_106 2 rfl ?_
    refine h_aload_n dX9_hall_108 rfl 0 rfl ?_
    obtain ⟨t1, h2, hf⟩ := hbd_s hf
    refine h_getR h2 rfl (Nat.le_of_ble_eq_true rfl) rfl q_961 rfl dX9_hall_109 ?_
    obtain ⟨t3, h4, hf⟩ := hbd_s hf
    refine h_alen h4 dX9_hall_112 ?_
    refine h_icmp_ge (tgt := 147) dX9_hall_113 (by decide) (fun c5 => ?_) (fun c5 => ?_)
    · rw [if_pos c5] at hf
      refine h_sub (lv2 := [(0, .ref x0), (3, .int z3)]) [0, 1] rfl ?_
      exact hk0 S hf
    · rw [if_neg c5] at hf
      refine h_aload_n dX9_hall_116 rfl 0 rfl ?_
      obtain ⟨t6, h7, hf⟩ := hbd_s hf
      refine h_getR h7 rfl (Nat.le_of_ble_eq_true rfl) rfl q_961 rfl dX9_hall_117 ?_
      refine h_iload dX9_hall_120 2 rfl ?_
      refine h_iload dX9_hall_122 2 rfl ?_
      refine h_bipush (v := 6) dX9_hall_124 rfl ?_
      refine hj_s (fun J8 => ∀ (v9 : Int32), J8 v9 = some r → HW cX9_hall RX9 (x_X9_hall d S0 args r cs) 0 0 S 140 [(0, .ref x0), (3, .int z3), (4, .int x4)] [.int v9, .int x4, .ref t6]) hf ?_ ?_
      · intro v9 hf
        obtain ⟨S10, h11, hf⟩ := hbd_s hf
        refine h_iast h11 dX9_hall_140 ?_
        refine h_iinc (q := 2) (v := x4 + 1) (lv2 := [(4, .int (x4 + 1)), (0, .ref x0), (3, .int z3)]) dX9_hall_141 rfl rfl (Nat.le_of_ble_eq_true rfl) rfl ?_
        refine h_goto (tgt := 106) dX9_hall_144 (by decide) ?_
        refine h_sub (lv2 := [(0, .ref x0), (3, .int z3), (4, .int (x4 + 1))]) [1, 2, 0] rfl ?_
        exact ih x0 (x4 + 1) S10 k0 z3 hf hk0
      · intro J8 hJ8 hf
        refine h_icmp_ge (tgt := 139) dX9_hall_126 (by decide) (fun c12 => ?_) (fun c12 => ?_)
        · rw [if_pos c12] at hf
          refine h_iconst (v := 0) dX9_hall_139 rfl ?_
          exact hJ8 0 hf
        · rw [if_neg c12] at hf
          refine h_aload_n dX9_hall_129 rfl 0 rfl ?_
          obtain ⟨t13, h14, hf⟩ := hbd_s hf
          refine h_getR h14 rfl (Nat.le_of_ble_eq_true rfl) rfl q_973 rfl dX9_hall_130 ?_
          refine h_iload dX9_hall_133 2 rfl ?_
          obtain ⟨t15, h16, hf⟩ := hbd_s hf
          refine h_iald h16 dX9_hall_135 ?_
          refine h_goto (tgt := 140) dX9_hall_136 (by decide) ?_
          exact hJ8 t15 hf
set_option maxRecDepth 100000 in
set_option maxHeartbeats 4000000 in
theorem m_X9_hall {d : Nat} {cs : Nat → Nat} {a0 : Nat} {S : hS} {r : Int32 × hS} (hd : 9 ≤ d) (hf : f_X9_hall a0 S = some r) : HM yX9_hall cX9_hall 5 (some .int) d 0 0 cs [.ref a0] S (some (.int r.1)) r.2 := by
  unfold f_X9_hall at hf
  refine HM.ofHW false (by decide) (fun h => by cases h) (Nat.le_of_ble_eq_true rfl) ?_
  show HW cX9_hall RX9 (x_X9_hall d S [.ref a0] r cs) 0 0 S 0 [(0, .ref a0)] []
  refine h_aload_n dX9_hall_0 rfl 0 rfl ?_
  obtain ⟨g111, hf⟩ := hck_s hf
  obtain ⟨S18, h17, hf⟩ := hbd_s hf
  refine h_Vv [] (rest := []) (m_X9_starts (d := 1) (cs := cs) (Nat.le_refl _) h17) v_X9_starts q_1167 rfl (Nat.le_trans (by decide) hd) g111 rfl rfl (Nat.le_of_ble_eq_true rfl) dX9_hall_1 (Nat.le_refl _) (Nat.le_refl _) ?_
  refine h_aload_n dX9_hall_4 rfl 0 rfl ?_
  refine h_iconst (v := 0) dX9_hall_5 rfl ?_
  obtain ⟨S19, h20, hf⟩ := hbd_s hf
  refine h_putZ h20 rfl (Nat.le_of_ble_eq_true rfl) rfl q_993 rfl rfl (by decide +kernel) dX9_hall_6 ?_
  refine h_iconst (v := 0) dX9_hall_9 rfl ?_
  refine h_istore_n (lv2 := [(1, .int 0), (0, .ref a0)]) dX9_hall_10 rfl (Nat.le_of_ble_eq_true rfl) rfl ?_
  refine h_sub (lv2 := [(0, .ref a0), (1, .int 0)]) [1, 0] rfl ?_
  refine w_X9_hall_L11 hd hfuel a0 0 S19 _  hf ?_
  · intro S21 hf
    refine h_iconst (v := 0) dX9_hall_30 rfl ?_
    refine h_istore_n (lv2 := [(1, .int 0), (0, .ref a0)]) dX9_hall_31 rfl (Nat.le_of_ble_eq_true rfl) rfl ?_
    refine h_sub (lv2 := [(0, .ref a0), (1, .int 0)]) [1, 0] rfl ?_
    refine w_X9_hall_L32 hd hfuel a0 0 S21 _  hf ?_
    · intro S22 hf
      refine h_iconst (v := 0) dX9_hall_51 rfl ?_
      refine h_istore_n (lv2 := [(1, .int 0), (0, .ref a0)]) dX9_hall_52 rfl (Nat.le_of_ble_eq_true rfl) rfl ?_
      refine h_iconst (v := 1) dX9_hall_53 rfl ?_
      refine h_istore_n (lv2 := [(2, .int 1), (1, .int 0), (0, .ref a0)]) dX9_hall_54 rfl (Nat.le_of_ble_eq_true rfl) rfl ?_
      refine h_sub (lv2 := [(0, .ref a0), (1, .int 0), (2, .int 1)]) [2, 1, 0] rfl ?_
      refine w_X9_hall_L55 hd hfuel a0 0 1 S22 _  hf ?_
      · intro S23 hf
        refine h_aload_n dX9_hall_75 rfl 0 rfl ?_
        refine h_iconst (v := 0) dX9_hall_76 rfl ?_
        obtain ⟨S24, h25, hf⟩ := hbd_s hf
        refine h_putI h25 rfl (Nat.le_of_ble_eq_true rfl) rfl q_983 rfl rfl (by decide +kernel) dX9_hall_77 ?_
        refine h_aload_n dX9_hall_80 rfl 0 rfl ?_
        obtain ⟨t26, h27, hf⟩ := hbd_s hf
        refine h_getI h27 rfl (Nat.le_of_ble_eq_true rfl) rfl q_985 rfl dX9_hall_81 ?_
        refine h_if_le (tgt := 95) dX9_hall_84 (by decide) (fun c28 => ?_) (fun c28 => ?_)
        · rw [if_pos c28] at hf
          refine h_aload_n dX9_hall_95 rfl 0 rfl ?_
          obtain ⟨t29, h30, hf⟩ := hbd_s hf
          refine h_getR h30 rfl (Nat.le_of_ble_eq_true rfl) rfl q_961 rfl dX9_hall_96 ?_
          refine h_bipush (v := 13) dX9_hall_99 rfl ?_
          obtain ⟨t31, h32, hf⟩ := hbd_s hf
          refine h_iald h32 dX9_hall_101 ?_
          refine h_istore_n (lv2 := [(3, .int t31), (0, .ref a0)]) dX9_hall_102 rfl (Nat.le_of_ble_eq_true rfl) rfl ?_
          refine h_iconst (v := 0) dX9_hall_103 rfl ?_
          refine h_istore (lv2 := [(4, .int 0), (3, .int t31), (0, .ref a0)]) dX9_hall_104 (Nat.le_of_ble_eq_true rfl) rfl ?_
          refine h_sub (lv2 := [(0, .ref a0), (3, .int t31), (4, .int 0)]) [2, 1, 0] rfl ?_
          refine w_X9_hall_L106 hd hfuel a0 0 S24 _ t31 hf ?_
          · intro S33 hf
            refine h_aload_n dX9_hall_147 rfl 0 rfl ?_
            obtain ⟨t34, h35, hf⟩ := hbd_s hf
            refine h_getR h35 rfl (Nat.le_of_ble_eq_true rfl) rfl q_961 rfl dX9_hall_148 ?_
            refine h_bipush (v := 13) dX9_hall_151 rfl ?_
            refine h_iload_n dX9_hall_153 rfl 1 rfl ?_
            obtain ⟨S36, h37, hf⟩ := hbd_s hf
            refine h_iast h37 dX9_hall_154 ?_
            refine h_aload_n dX9_hall_155 rfl 0 rfl ?_
            obtain ⟨t38, h39, hf⟩ := hbd_s hf
            refine h_getR h39 rfl (Nat.le_of_ble_eq_true rfl) rfl q_961 rfl dX9_hall_156 ?_
            refine h_bipush (v := 6) dX9_hall_159 rfl ?_
            refine h_iconst (v := (-1)) dX9_hall_161 rfl ?_
            obtain ⟨S40, h41, hf⟩ := hbd_s hf
            refine h_iast h41 dX9_hall_162 ?_
            refine h_aload_n dX9_hall_163 rfl 0 rfl ?_
            obtain ⟨t42, h43, hf⟩ := hbd_s hf
            refine h_getR h43 rfl (Nat.le_of_ble_eq_true rfl) rfl q_974 rfl dX9_hall_164 ?_
            refine h_aload_n dX9_hall_167 rfl 0 rfl ?_
            obtain ⟨t44, h45, hf⟩ := hbd_s hf
            refine h_getR h45 rfl (Nat.le_of_ble_eq_true rfl) rfl q_962 rfl dX9_hall_168 ?_
            obtain ⟨S47, h46, hf⟩ := hbd_s hf
            refine h_Sv [.ref t42, .ref t44] (rest := []) (m_X9_lay (d := 1) (cs := cs) (Nat.le_refl _) h46) v_X9_lay q_1240 rfl (Nat.le_trans (by decide) hd) rfl (Nat.le_of_ble_eq_true rfl) dX9_hall_171 (Nat.le_refl _) (Nat.le_refl _) ?_
            refine h_aload_n dX9_hall_174 rfl 0 rfl ?_
            obtain ⟨t48, h49, hf⟩ := hbd_s hf
            refine h_getR h49 rfl (Nat.le_of_ble_eq_true rfl) rfl q_975 rfl dX9_hall_175 ?_
            refine h_aload_n dX9_hall_178 rfl 0 rfl ?_
            obtain ⟨t50, h51, hf⟩ := hbd_s hf
            refine h_getR h51 rfl (Nat.le_of_ble_eq_true rfl) rfl q_963 rfl dX9_hall_179 ?_
            obtain ⟨S53, h52, hf⟩ := hbd_s hf
            refine h_Sv [.ref t48, .ref t50] (rest := []) (m_X9_lay (d := 1) (cs := cs) (Nat.le_refl _) h52) v_X9_lay q_1240 rfl (Nat.le_trans (by decide) hd) rfl (Nat.le_of_ble_eq_true rfl) dX9_hall_182 (Nat.le_refl _) (Nat.le_refl _) ?_
            refine h_aload_n dX9_hall_185 rfl 0 rfl ?_
            obtain ⟨t54, h55, hf⟩ := hbd_s hf
            refine h_getR h55 rfl (Nat.le_of_ble_eq_true rfl) rfl q_976 rfl dX9_hall_186 ?_
            refine h_aload_n dX9_hall_189 rfl 0 rfl ?_
            obtain ⟨t56, h57, hf⟩ := hbd_s hf
            refine h_getR h57 rfl (Nat.le_of_ble_eq_true rfl) rfl q_964 rfl dX9_hall_190 ?_
            obtain ⟨S59, h58, hf⟩ := hbd_s hf
            refine h_Sv [.ref t54, .ref t56] (rest := []) (m_X9_lay (d := 1) (cs := cs) (Nat.le_refl _) h58) v_X9_lay q_1240 rfl (Nat.le_trans (by decide) hd) rfl (Nat.le_of_ble_eq_true rfl) dX9_hall_193 (Nat.le_refl _) (Nat.le_refl _) ?_
            refine h_aload_n dX9_hall_196 rfl 0 rfl ?_
            obtain ⟨t60, h61, hf⟩ := hbd_s hf
            refine h_getR h61 rfl (Nat.le_of_ble_eq_true rfl) rfl q_977 rfl dX9_hall_197 ?_
            refine h_aload_n dX9_hall_200 rfl 0 rfl ?_
            obtain ⟨t62, h63, hf⟩ := hbd_s hf
            refine h_getR h63 rfl (Nat.le_of_ble_eq_true rfl) rfl q_965 rfl dX9_hall_201 ?_
            obtain ⟨S65, h64, hf⟩ := hbd_s hf
            refine h_Sv [.ref t60, .ref t62] (rest := []) (m_X9_lay (d := 1) (cs := cs) (Nat.le_refl _) h64) v_X9_lay q_1240 rfl (Nat.le_trans (by decide) hd) rfl (Nat.le_of_ble_eq_true rfl) dX9_hall_204 (Nat.le_refl _) (Nat.le_refl _) ?_
            refine h_aload_n dX9_hall_207 rfl 0 rfl ?_
            obtain ⟨t66, h67, hf⟩ := hbd_s hf
            refine h_getR h67 rfl (Nat.le_of_ble_eq_true rfl) rfl q_978 rfl dX9_hall_208 ?_
            refine h_aload_n dX9_hall_211 rfl 0 rfl ?_
            obtain ⟨t68, h69, hf⟩ := hbd_s hf
            refine h_getR h69 rfl (Nat.le_of_ble_eq_true rfl) rfl q_967 rfl dX9_hall_212 ?_
            obtain ⟨S71, h70, hf⟩ := hbd_s hf
            refine h_Sv [.ref t66, .ref t68] (rest := []) (m_X9_lay (d := 1) (cs := cs) (Nat.le_refl _) h70) v_X9_lay q_1240 rfl (Nat.le_trans (by decide) hd) rfl (Nat.le_of_ble_eq_true rfl) dX9_hall_215 (Nat.le_refl _) (Nat.le_refl _) ?_
            refine h_aload_n dX9_hall_218 rfl 0 rfl ?_
            obtain ⟨t72, h73, hf⟩ := hbd_s hf
            refine h_getR h73 rfl (Nat.le_of_ble_eq_true rfl) rfl q_979 rfl dX9_hall_219 ?_
            refine h_aload_n dX9_hall_222 rfl 0 rfl ?_
            obtain ⟨t74, h75, hf⟩ := hbd_s hf
            refine h_getR h75 rfl (Nat.le_of_ble_eq_true rfl) rfl q_968 rfl dX9_hall_223 ?_
            obtain ⟨S77, h76, hf⟩ := hbd_s hf
            refine h_Sv [.ref t72, .ref t74] (rest := []) (m_X9_lay (d := 1) (cs := cs) (Nat.le_refl _) h76) v_X9_lay q_1240 rfl (Nat.le_trans (by decide) hd) rfl (Nat.le_of_ble_eq_true rfl) dX9_hall_226 (Nat.le_refl _) (Nat.le_refl _) ?_
            refine h_aload_n dX9_hall_229 rfl 0 rfl ?_
            obtain ⟨t78, h79, hf⟩ := hbd_s hf
            refine h_getR h79 rfl (Nat.le_of_ble_eq_true rfl) rfl q_980 rfl dX9_hall_230 ?_
            refine h_aload_n dX9_hall_233 rfl 0 rfl ?_
            obtain ⟨t80, h81, hf⟩ := hbd_s hf
            refine h_getR h81 rfl (Nat.le_of_ble_eq_true rfl) rfl q_969 rfl dX9_hall_234 ?_
            obtain ⟨S83, h82, hf⟩ := hbd_s hf
            refine h_Sv [.ref t78, .ref t80] (rest := []) (m_X9_lay (d := 1) (cs := cs) (Nat.le_refl _) h82) v_X9_lay q_1240 rfl (Nat.le_trans (by decide) hd) rfl (Nat.le_of_ble_eq_true rfl) dX9_hall_237 (Nat.le_refl _) (Nat.le_refl _) ?_
            refine h_aload_n dX9_hall_240 rfl 0 rfl ?_
            obtain ⟨t84, h85, hf⟩ := hbd_s hf
            refine h_getR h85 rfl (Nat.le_of_ble_eq_true rfl) rfl q_981 rfl dX9_hall_241 ?_
            refine h_aload_n dX9_hall_244 rfl 0 rfl ?_
            obtain ⟨t86, h87, hf⟩ := hbd_s hf
            refine h_getR h87 rfl (Nat.le_of_ble_eq_true rfl) rfl q_970 rfl dX9_hall_245 ?_
            obtain ⟨S89, h88, hf⟩ := hbd_s hf
            refine h_Sv [.ref t84, .ref t86] (rest := []) (m_X9_lay (d := 1) (cs := cs) (Nat.le_refl _) h88) v_X9_lay q_1240 rfl (Nat.le_trans (by decide) hd) rfl (Nat.le_of_ble_eq_true rfl) dX9_hall_248 (Nat.le_refl _) (Nat.le_refl _) ?_
            refine h_aload_n dX9_hall_251 rfl 0 rfl ?_
            obtain ⟨t90, h91, hf⟩ := hbd_s hf
            refine h_getR h91 rfl (Nat.le_of_ble_eq_true rfl) rfl q_982 rfl dX9_hall_252 ?_
            refine h_aload_n dX9_hall_255 rfl 0 rfl ?_
            obtain ⟨t92, h93, hf⟩ := hbd_s hf
            refine h_getR h93 rfl (Nat.le_of_ble_eq_true rfl) rfl q_971 rfl dX9_hall_256 ?_
            obtain ⟨S95, h94, hf⟩ := hbd_s hf
            refine h_Sv [.ref t90, .ref t92] (rest := []) (m_X9_lay (d := 1) (cs := cs) (Nat.le_refl _) h94) v_X9_lay q_1240 rfl (Nat.le_trans (by decide) hd) rfl (Nat.le_of_ble_eq_true rfl) dX9_hall_259 (Nat.le_refl _) (Nat.le_refl _) ?_
            refine h_iconst (v := 0) dX9_hall_262 rfl ?_
            refine h_istore (lv2 := [(4, .int 0), (0, .ref a0), (3, .int t31)]) dX9_hall_263 (Nat.le_of_ble_eq_true rfl) rfl ?_
            refine h_sub (lv2 := [(0, .ref a0), (4, .int 0)]) [1, 0] rfl ?_
            refine w_X9_hall_L265 hd hfuel a0 0 S95 _  hf ?_
            · intro S96 hf
              refine h_aload_n dX9_hall_286 rfl 0 rfl ?_
              obtain ⟨t97, h98, hf⟩ := hbd_s hf
              refine h_getR h98 rfl (Nat.le_of_ble_eq_true rfl) rfl q_961 rfl dX9_hall_287 ?_
              refine h_bipush (v := 11) dX9_hall_290 rfl ?_
              refine h_aload_n dX9_hall_292 rfl 0 rfl ?_
              obtain ⟨g108, hf⟩ := hck_s hf
              obtain ⟨t101, S100, h99, hf⟩ := hb2_s hf
              refine h_Vi [] (rest := [.int 11, .ref t97]) (m_X9_allHeat (d := 1) (cs := cs) (Nat.le_refl _) h99) v_X9_allHeat q_1243 rfl (Nat.le_trans (by decide) hd) g108 rfl rfl (Nat.le_of_ble_eq_true rfl) dX9_hall_293 (Nat.le_refl _) (Nat.le_refl _) ?_
              obtain ⟨S102, h103, hf⟩ := hbd_s hf
              refine h_iast h103 dX9_hall_296 ?_
              refine h_aload_n dX9_hall_297 rfl 0 rfl ?_
              obtain ⟨t104, h105, hf⟩ := hbd_s hf
              refine h_getR h105 rfl (Nat.le_of_ble_eq_true rfl) rfl q_961 rfl dX9_hall_298 ?_
              refine h_iconst (v := 2) dX9_hall_301 rfl ?_
              obtain ⟨t106, h107, hf⟩ := hbd_s hf
              refine h_iald h107 dX9_hall_302 ?_
              obtain rfl := Option.some.inj hf
              exact h_iret rfl rfl rfl (Nat.le_refl _) (Nat.le_refl _) dX9_hall_303
        · rw [if_neg c28] at hf
          refine h_bipush (v := (-2)) dX9_hall_87 rfl ?_
          refine h_aload_n dX9_hall_89 rfl 0 rfl ?_
          obtain ⟨t109, h110, hf⟩ := hbd_s hf
          refine h_getI h110 rfl (Nat.le_of_ble_eq_true rfl) rfl q_985 rfl dX9_hall_90 ?_
          refine h_isub dX9_hall_93 ?_
          obtain rfl := Option.some.inj hf
          exact h_iret rfl rfl rfl (Nat.le_refl _) (Nat.le_refl _) dX9_hall_94
