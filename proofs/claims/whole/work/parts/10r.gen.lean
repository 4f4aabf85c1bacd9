abbrev x_X8_critic (d : Nat) (S0 : hS) (args : List Value) (r : Int32 × hS) (cs : Nat → Nat) : hX := (((some .int), 7, d, 0, 0, false), (S0, args, some (.int r.1), r.2), cs)
theorem v_X8_critic : hVW yX8_critic cX8_critic 7 (some .int) RX8 3 := ⟨q_800, q_801, q_1, q_802, by decide +kernel, by decide⟩
def f_X8_critic_L57 : Nat → Nat → Int32 → Int32 → hS → (Int32 → hS → Option (Int32 × hS)) → Option (Int32 × hS)
  | 0, _, _, _, _, _ => none
  | n + 1, x0, x5, x6, S, k0 =>
    hbd (gR S x0 8 3) fun t1 =>
    hbd (gR S t1 0 1) fun t3 =>
    hbd (gI S t3 2 0) fun t5 =>
    if t5 ≤ x6 then
      (k0 x5 S)
    else
      (hck (S.K x0 = 9) <|
       hb2 (f_X8_deafMinutes x0 x6 S) fun t10 S9 =>
       hck (S9.K x0 = 9) <|
       hb2 (f_X8_deafMinutes x0 x5 S9) fun t13 S12 =>
       if t10 ≤ t13 then
         (f_X8_critic_L57 n x0 x5 (x6 + 1) S12 k0)
       else
         (f_X8_critic_L57 n x0 x6 (x6 + 1) S12 k0))
def f_X8_critic (a0 : Nat) (a1 : Int32) (a2 : Int32) (a3 : Int32) (S : hS) : Option (Int32 × hS) :=
  hck (S.K a0 = 9) <|
  hb2 (f_X8_ruleFor a0 a1 a2 0 60 S) fun t19 S18 =>
  hnl t19 (
    some ((-1), S18)
    ) fun b20 =>
  if a3 < 0 then
    (some ((-1), S18))
  else
    (if a3 ≤ 1 then
       (hbd (gR S18 a0 8 3) fun t24 =>
        hbd (gR S18 t24 0 1) fun t26 =>
        hbd (gI S18 t26 2 0) fun t28 =>
        if t28 = 0 then
          (some ((-2), S18))
        else
          (hck (S18.K a0 = 9) <|
           hb2 (f_X8_spotAhead a0 b20 a2 S18) fun t33 S32 =>
           f_X8_critic_L57 hfuel a0 0 1 S32
             (fun u34 S35 =>
               if a3 = 0 then
                 (some (u34, S35))
               else
                 (hck (S35.K a0 = 9) <|
                  hb2 (f_X8_deafMinutes a0 u34 S35) fun t39 S38 =>
                  some (t39, S38))
             )))
     else
       (some ((-1), S18)))
set_option maxRecDepth 100000 in
set_option maxHeartbeats 4000000 in
theorem w_X8_critic_L57 {d : Nat} {S0 : hS} {args : List Value} {cs : Nat → Nat} {r : Int32 × hS} (hd : 8 ≤ d) : ∀ (n : Nat) (x0 : Nat) (x5 : Int32) (x6 : Int32) (S : hS) (k0 : (Int32 → hS → Option (Int32 × hS))) (z3 : Int32), f_X8_critic_L57 n x0 x5 x6 S k0 = some r → (∀ (y5 : Int32) (T : hS), k0 y5 T = some r → HW cX8_critic RX8 (x_X8_critic d S0 args r cs) 0 0 T 97 [(0, .ref x0), (3, .int z3), (5, .int y5)] []) → HW cX8_critic RX8 (x_X8_critic d S0 args r cs) 0 0 S 57 [(0, .ref x0), (3, .int z3), (5, .int x5), (6, .int x6)] [] := by
  intro n
  induction n with
  | zero =>
    intro x0 x5 x6 S k0 z3 hf
    cases hf
  | succ n ih =>
    intro x0 x5 x6 S k0 z3 hf hk0
    rw [f_X8_critic_L57] at hf
    refine h_iload dX8_critic_57 3 rfl ?_
    refine h_aload_n dX8_critic_59 rfl 0 rfl ?_
    obtain ⟨t1, h2, hf⟩ := hbd_s hf
    refine h_getR h2 rfl (Nat.le_of_ble_eq_true rfl) rfl q_303 rfl dX8_critic_60 ?_
    obtain ⟨t3, h4, hf⟩ := hbd_s hf
    refine h_getRN (host := "DeafSpot") h4 rfl (Nat.le_of_ble_eq_true rfl) rfl (List.mem_of_getElem? (i := 52) rfl) rfl dX8_critic_63 ?_
    obtain ⟨t5, h6, hf⟩ := hbd_s hf
    refine h_getIN (host := "DeafSpot") h6 rfl (Nat.le_of_ble_eq_true rfl) rfl (List.mem_of_getElem? (i := 37) rfl) rfl dX8_critic_66 ?_
    refine h_icmp_ge (tgt := 97) dX8_critic_69 (by decide) (fun c7 => ?_) (fun c7 => ?_)
    · rw [if_pos c7] at hf
      refine h_sub (lv2 := [(0, .ref x0), (3, .int z3), (5, .int x5)]) [0, 1, 2] rfl ?_
      exact hk0 x5 S hf
    · rw [if_neg c7] at hf
      refine h_aload_n dX8_critic_72 rfl 0 rfl ?_
      refine h_iload dX8_critic_73 3 rfl ?_
      obtain ⟨g16, hf⟩ := hck_s hf
      obtain ⟨t10, S9, h8, hf⟩ := hb2_s hf
      refine h_Vi [.int x6] (rest := []) (m_X8_deafMinutes (d := 1) (cs := cs) (Nat.le_refl _) h8) v_X8_deafMinutes q_795 rfl (Nat.le_trans (by decide) hd) g16 rfl rfl (Nat.le_of_ble_eq_true rfl) dX8_critic_75 (Nat.le_refl _) (Nat.le_refl _) ?_
      refine h_aload_n dX8_critic_78 rfl 0 rfl ?_
      refine h_iload dX8_critic_79 2 rfl ?_
      obtain ⟨g15, hf⟩ := hck_s hf
      obtain ⟨t13, S12, h11, hf⟩ := hb2_s hf
      refine h_Vi [.int x5] (rest := [.int t10]) (m_X8_deafMinutes (d := 1) (cs := cs) (Nat.le_refl _) h11) v_X8_deafMinutes q_795 rfl (Nat.le_trans (by decide) hd) g15 rfl rfl (Nat.le_of_ble_eq_true rfl) dX8_critic_81 (Nat.le_refl _) (Nat.le_refl _) ?_
      refine h_icmp_le (tgt := 91) dX8_critic_84 (by decide) (fun c14 => ?_) (fun c14 => ?_)
      · rw [if_pos c14] at hf
        refine h_iinc (q := 3) (v := x6 + 1) (lv2 := [(6, .int (x6 + 1)), (0, .ref x0), (3, .int z3), (5, .int x5)]) dX8_critic_91 rfl rfl (Nat.le_of_ble_eq_true rfl) rfl ?_
        refine h_goto (tgt := 57) dX8_critic_94 (by decide) ?_
        refine h_sub (lv2 := [(0, .ref x0), (3, .int z3), (5, .int x5), (6, .int (x6 + 1))]) [1, 2, 3, 0] rfl ?_
        exact ih x0 x5 (x6 + 1) S12 k0 z3 hf hk0
      · rw [if_neg c14] at hf
        refine h_iload dX8_critic_87 3 rfl ?_
        refine h_istore (lv2 := [(5, .int x6), (0, .ref x0), (3, .int z3), (6, .int x6)]) dX8_critic_89 (Nat.le_of_ble_eq_true rfl) rfl ?_
        refine h_iinc (q := 3) (v := x6 + 1) (lv2 := [(6, .int (x6 + 1)), (5, .int x6), (0, .ref x0), (3, .int z3)]) dX8_critic_91 rfl rfl (Nat.le_of_ble_eq_true rfl) rfl ?_
        refine h_goto (tgt := 57) dX8_critic_94 (by decide) ?_
        refine h_sub (lv2 := [(0, .ref x0), (3, .int z3), (5, .int x6), (6, .int (x6 + 1))]) [2, 3, 1, 0] rfl ?_
        exact ih x0 x6 (x6 + 1) S12 k0 z3 hf hk0
set_option maxRecDepth 100000 in
set_option maxHeartbeats 4000000 in
theorem m_X8_critic {d : Nat} {cs : Nat → Nat} {a0 : Nat} {a1 : Int32} {a2 : Int32} {a3 : Int32} {S : hS} {r : Int32 × hS} (hd : 8 ≤ d) (hf : f_X8_critic a0 a1 a2 a3 S = some r) : HM yX8_critic cX8_critic 7 (some .int) d 0 0 cs [.ref a0, .int a1, .int a2, .int a3] S (some (.int r.1)) r.2 := by
  unfold f_X8_critic at hf
  refine HM.ofHW false (by decide) (fun h => by cases h) (Nat.le_of_ble_eq_true rfl) ?_
  show HW cX8_critic RX8 (x_X8_critic d S [.ref a0, .int a1, .int a2, .int a3] r cs) 0 0 S 0 [(0, .ref a0), (1, .int a1), (2, .int a2), (3, .int a3)] []
  refine h_aload_n dX8_critic_0 rfl 0 rfl ?_
  refine h_iload_n dX8_critic_1 rfl 1 rfl ?_
  refine h_iload_n dX8_critic_2 rfl 2 rfl ?_
  refine h_iconst (v := 0) dX8_critic_3 rfl ?_
  refine h_bipush (v := 60) dX8_critic_4 rfl ?_
  obtain ⟨g42, hf⟩ := hck_s hf
  obtain ⟨t19, S18, h17, hf⟩ := hb2_s hf
  refine h_Vr [.int a1, .int a2, .int 0, .int 60] (rest := []) (m_X8_ruleFor (d := 1) (cs := cs) (Nat.le_refl _) h17) v_X8_ruleFor q_735 rfl (Nat.le_trans (by decide) hd) g42 rfl rfl (Nat.le_of_ble_eq_true rfl) dX8_critic_6 (Nat.le_refl _) (Nat.le_refl _) ?_
  refine h_astoreV (lv2 := [(4, va_rf t19), (0, .ref a0), (1, .int a1), (2, .int a2), (3, .int a3)]) dX8_critic_9 (Nat.le_of_ble_eq_true rfl) rfl ?_
  refine h_aloadV dX8_critic_11 0 rfl ?_
  refine h_ifnull (tgt := 25) dX8_critic_13 (by decide) (fun c21 => ?_) (fun b20 c21 => ?_)
  · subst c21
    rw [hnl_n] at hf
    refine h_iconst (v := (-1)) dX8_critic_25 rfl ?_
    obtain rfl := Option.some.inj hf
    exact h_iret rfl rfl rfl (Nat.le_refl _) (Nat.le_refl _) dX8_critic_26
  · subst c21
    rw [hnl_s] at hf
    show HW cX8_critic RX8 (x_X8_critic d S [.ref a0, .int a1, .int a2, .int a3] r cs) 0 0 S18 16 [(4, .ref b20), (0, .ref a0), (1, .int a1), (2, .int a2), (3, .int a3)] []
    refine h_iload_n dX8_critic_16 rfl 4 rfl ?_
    refine h_if_lt (tgt := 25) dX8_critic_17 (by decide) (fun c22 => ?_) (fun c22 => ?_)
    · rw [if_pos c22] at hf
      refine h_iconst (v := (-1)) dX8_critic_25 rfl ?_
      obtain rfl := Option.some.inj hf
      exact h_iret rfl rfl rfl (Nat.le_refl _) (Nat.le_refl _) dX8_critic_26
    · rw [if_neg c22] at hf
      refine h_iload_n dX8_critic_20 rfl 4 rfl ?_
      refine h_iconst (v := 1) dX8_critic_21 rfl ?_
      refine h_icmp_le (tgt := 27) dX8_critic_22 (by decide) (fun c23 => ?_) (fun c23 => ?_)
      · rw [if_pos c23] at hf
        refine h_aload_n dX8_critic_27 rfl 1 rfl ?_
        obtain ⟨t24, h25, hf⟩ := hbd_s hf
        refine h_getR h25 rfl (Nat.le_of_ble_eq_true rfl) rfl q_303 rfl dX8_critic_28 ?_
        obtain ⟨t26, h27, hf⟩ := hbd_s hf
        refine h_getRN (host := "DeafSpot") h27 rfl (Nat.le_of_ble_eq_true rfl) rfl (List.mem_of_getElem? (i := 52) rfl) rfl dX8_critic_31 ?_
        obtain ⟨t28, h29, hf⟩ := hbd_s hf
        refine h_getIN (host := "DeafSpot") h29 rfl (Nat.le_of_ble_eq_true rfl) rfl (List.mem_of_getElem? (i := 37) rfl) rfl dX8_critic_34 ?_
        refine h_if_ne (tgt := 43) dX8_critic_37 (by decide) (fun c30 => ?_) (fun c30 => ?_)
        · rw [if_neg c30] at hf
          refine h_aload_n dX8_critic_43 rfl 1 rfl ?_
          refine h_aload dX8_critic_44 0 rfl ?_
          refine h_iload_n dX8_critic_46 rfl 3 rfl ?_
          obtain ⟨g41, hf⟩ := hck_s hf
          obtain ⟨t33, S32, h31, hf⟩ := hb2_s hf
          refine h_Vi [.ref b20, .int a2] (rest := []) (m_X8_spotAhead (d := 7) (cs := cs) (Nat.le_refl _) h31) v_X8_spotAhead q_787 rfl (Nat.le_trans (by decide) hd) g41 rfl rfl (Nat.le_of_ble_eq_true rfl) dX8_critic_47 (Nat.le_refl _) (Nat.le_refl _) ?_
          refine h_pop dX8_critic_50 rfl ?_
          refine h_iconst (v := 0) dX8_critic_51 rfl ?_
          refine h_istore (lv2 := [(5, .int 0), (4, .ref b20), (0, .ref a0), (1, .int a1), (2, .int a2), (3, .int a3)]) dX8_critic_52 (Nat.le_of_ble_eq_true rfl) rfl ?_
          refine h_iconst (v := 1) dX8_critic_54 rfl ?_
          refine h_istore (lv2 := [(6, .int 1), (5, .int 0), (4, .ref b20), (0, .ref a0), (1, .int a1), (2, .int a2), (3, .int a3)]) dX8_critic_55 (Nat.le_of_ble_eq_true rfl) rfl ?_
          refine h_sub (lv2 := [(0, .ref a0), (3, .int a3), (5, .int 0), (6, .int 1)]) [3, 6, 1, 0] rfl ?_
          refine w_X8_critic_L57 hd hfuel a0 0 1 S32 _ a3 hf ?_
          · intro u34 S35 hf
            refine h_iload_n dX8_critic_97 rfl 1 rfl ?_
            refine h_if_ne (tgt := 106) dX8_critic_98 (by decide) (fun c36 => ?_) (fun c36 => ?_)
            · rw [if_neg c36] at hf
              refine h_aload_n dX8_critic_106 rfl 0 rfl ?_
              refine h_iload dX8_critic_107 2 rfl ?_
              obtain ⟨g40, hf⟩ := hck_s hf
              obtain ⟨t39, S38, h37, hf⟩ := hb2_s hf
              refine h_Vi [.int u34] (rest := []) (m_X8_deafMinutes (d := 1) (cs := cs) (Nat.le_refl _) h37) v_X8_deafMinutes q_795 rfl (Nat.le_trans (by decide) hd) g40 rfl rfl (Nat.le_of_ble_eq_true rfl) dX8_critic_109 (Nat.le_refl _) (Nat.le_refl _) ?_
              obtain rfl := Option.some.inj hf
              exact h_iret rfl rfl rfl (Nat.le_refl _) (Nat.le_refl _) dX8_critic_112
            · rw [if_pos c36] at hf
              refine h_iload dX8_critic_101 2 rfl ?_
              refine h_goto (tgt := 112) dX8_critic_103 (by decide) ?_
              obtain rfl := Option.some.inj hf
              exact h_iret rfl rfl rfl (Nat.le_refl _) (Nat.le_refl _) dX8_critic_112
        · rw [if_pos c30] at hf
          refine h_bipush (v := (-2)) dX8_critic_40 rfl ?_
          obtain rfl := Option.some.inj hf
          exact h_iret rfl rfl rfl (Nat.le_refl _) (Nat.le_refl _) dX8_critic_42
      · rw [if_neg c23] at hf
        refine h_iconst (v := (-1)) dX8_critic_25 rfl ?_
        obtain rfl := Option.some.inj hf
        exact h_iret rfl rfl rfl (Nat.le_refl _) (Nat.le_refl _) dX8_critic_26
abbrev x_X8_seated (d : Nat) (S0 : hS) (args : List Value) (r : Int32 × hS) (cs : Nat → Nat) : hX := (((some .int), 6, d, 0, 0, false), (S0, args, some (.int r.1), r.2), cs)
theorem v_X8_seated : hVW yX8_seated cX8_seated 6 (some .int) RX8 4 := ⟨q_804, q_805, q_1, q_806, by decide +kernel, by decide⟩
def f_X8_seated (a0 : Nat) (a1 : Int32) (a2 : Int32) (a3 : Int32) (a4 : Int32) (S : hS) : Option (Int32 × hS) :=
  hck (S.K a0 = 9) <|
  hb2 (f_X8_ruleFor a0 a1 a2 0 30 S) fun t3 S2 =>
  hnl t3 (
    some ((-1), S2)
    ) fun b4 =>
  hbd (gR S2 a0 8 3) fun t6 =>
  hbd (gR S2 t6 0 1) fun t8 =>
  hck (S2.K t8 = 3) <|
  hb2 (f_X2_here t8 a3 S2) fun t12 S11 =>
  if t12 = 0 then
    (some ((-1), S11))
  else
    (if a4 < 0 then
       (some ((-1), S11))
     else
       (if a4 ≤ 2 then
          (hbd (gR S11 a0 8 9) fun t16 =>
           hck (S11.K t16 = 2) <|
           hb2 (f_X1_answers t16 1 a1 a2 a3 0 S11) fun t20 S19 =>
           hj (γ := hS → Option (Int32 × hS)) (fun (S22 : hS) =>
             hbd (gR S22 a0 8 9) fun t23 =>
             hck (S22.K t23 = 2) <|
             hb2 (f_X1_part t23 a4 S22) fun t27 S26 =>
             some (t27, S26)
             ) fun J21 =>
           if t20 = 0 then
             (hbd (gR S19 a0 8 9) fun t30 =>
              hck (S19.K t30 = 2) <|
              hbd (f_X1_begin t30 1 a1 a2 a3 0 S19) fun S33 =>
              hck (S33.K a0 = 9) <|
              hbd (f_X8_seekSeat a0 b4 a2 a3 S33) fun S35 =>
              J21 S35)
           else
             (J21 S19))
        else
          (some ((-1), S11))))
set_option maxRecDepth 100000 in
set_option maxHeartbeats 4000000 in
theorem m_X8_seated {d : Nat} {cs : Nat → Nat} {a0 : Nat} {a1 : Int32} {a2 : Int32} {a3 : Int32} {a4 : Int32} {S : hS} {r : Int32 × hS} (hd : 8 ≤ d) (hf : f_X8_seated a0 a1 a2 a3 a4 S = some r) : HM yX8_seated cX8_seated 6 (some .int) d 0 0 cs [.ref a0, .int a1, .int a2, .int a3, .int a4] S (some (.int r.1)) r.2 := by
  unfold f_X8_seated at hf
  refine HM.ofHW false (by decide) (fun h => by cases h) (Nat.le_of_ble_eq_true rfl) ?_
  show HW cX8_seated RX8 (x_X8_seated d S [.ref a0, .int a1, .int a2, .int a3, .int a4] r cs) 0 0 S 0 [(0, .ref a0), (1, .int a1), (2, .int a2), (3, .int a3), (4, .int a4)] []
  refine h_aload_n dX8_seated_0 rfl 0 rfl ?_
  refine h_iload_n dX8_seated_1 rfl 1 rfl ?_
  refine h_iload_n dX8_seated_2 rfl 2 rfl ?_
  refine h_iconst (v := 0) dX8_seated_3 rfl ?_
  refine h_bipush (v := 30) dX8_seated_4 rfl ?_
  obtain ⟨g40, hf⟩ := hck_s hf
  obtain ⟨t3, S2, h1, hf⟩ := hb2_s hf
  refine h_Vr [.int a1, .int a2, .int 0, .int 30] (rest := []) (m_X8_ruleFor (d := 1) (cs := cs) (Nat.le_refl _) h1) v_X8_ruleFor q_735 rfl (Nat.le_trans (by decide) hd) g40 rfl rfl (Nat.le_of_ble_eq_true rfl) dX8_seated_6 (Nat.le_refl _) (Nat.le_refl _) ?_
  refine h_astoreV (lv2 := [(5, va_rf t3), (0, .ref a0), (1, .int a1), (2, .int a2), (3, .int a3), (4, .int a4)]) dX8_seated_9 (Nat.le_of_ble_eq_true rfl) rfl ?_
  refine h_aloadV dX8_seated_11 0 rfl ?_
  refine h_ifnull (tgt := 41) dX8_seated_13 (by decide) (fun c5 => ?_) (fun b4 c5 => ?_)
  · subst c5
    rw [hnl_n] at hf
    refine h_iconst (v := (-1)) dX8_seated_41 rfl ?_
    obtain rfl := Option.some.inj hf
    exact h_iret rfl rfl rfl (Nat.le_refl _) (Nat.le_refl _) dX8_seated_42
  · subst c5
    rw [hnl_s] at hf
    show HW cX8_seated RX8 (x_X8_seated d S [.ref a0, .int a1, .int a2, .int a3, .int a4] r cs) 0 0 S2 16 [(5, .ref b4), (0, .ref a0), (1, .int a1), (2, .int a2), (3, .int a3), (4, .int a4)] []
    refine h_aload_n dX8_seated_16 rfl 1 rfl ?_
    obtain ⟨t6, h7, hf⟩ := hbd_s hf
    refine h_getR h7 rfl (Nat.le_of_ble_eq_true rfl) rfl q_303 rfl dX8_seated_17 ?_
    obtain ⟨t8, h9, hf⟩ := hbd_s hf
    refine h_getRN (host := "DeafSpot") h9 rfl (Nat.le_of_ble_eq_true rfl) rfl (List.mem_of_getElem? (i := 52) rfl) rfl dX8_seated_20 ?_
    refine h_iload_n dX8_seated_23 rfl 4 rfl ?_
    obtain ⟨g39, hf⟩ := hck_s hf
    obtain ⟨t12, S11, h10, hf⟩ := hb2_s hf
    refine h_Vi [.int a3] (rest := []) (m_X2_here (d := 1) (cs := cs) (Nat.le_refl _) h10) v_X2_here q_717 rfl (Nat.le_trans (by decide) hd) g39 rfl rfl (Nat.le_of_ble_eq_true rfl) dX8_seated_24 (Nat.le_refl _) (Nat.le_refl _) ?_
    refine h_if_eq (tgt := 41) dX8_seated_27 (by decide) (fun c13 => ?_) (fun c13 => ?_)
    · rw [if_pos c13] at hf
      refine h_iconst (v := (-1)) dX8_seated_41 rfl ?_
      obtain rfl := Option.some.inj hf
      exact h_iret rfl rfl rfl (Nat.le_refl _) (Nat.le_refl _) dX8_seated_42
    · rw [if_neg c13] at hf
      refine h_iload dX8_seated_30 5 rfl ?_
      refine h_if_lt (tgt := 41) dX8_seated_32 (by decide) (fun c14 => ?_) (fun c14 => ?_)
      · rw [if_pos c14] at hf
        refine h_iconst (v := (-1)) dX8_seated_41 rfl ?_
        obtain rfl := Option.some.inj hf
        exact h_iret rfl rfl rfl (Nat.le_refl _) (Nat.le_refl _) dX8_seated_42
      · rw [if_neg c14] at hf
        refine h_iload dX8_seated_35 5 rfl ?_
        refine h_iconst (v := 2) dX8_seated_37 rfl ?_
        refine h_icmp_le (tgt := 43) dX8_seated_38 (by decide) (fun c15 => ?_) (fun c15 => ?_)
        · rw [if_pos c15] at hf
          refine h_aload_n dX8_seated_43 rfl 1 rfl ?_
          obtain ⟨t16, h17, hf⟩ := hbd_s hf
          refine h_getR h17 rfl (Nat.le_of_ble_eq_true rfl) rfl q_309 rfl dX8_seated_44 ?_
          refine h_iconst (v := 1) dX8_seated_47 rfl ?_
          refine h_iload_n dX8_seated_48 rfl 2 rfl ?_
          refine h_iload_n dX8_seated_49 rfl 3 rfl ?_
          refine h_iload_n dX8_seated_50 rfl 4 rfl ?_
          refine h_iconst (v := 0) dX8_seated_51 rfl ?_
          obtain ⟨g38, hf⟩ := hck_s hf
          obtain ⟨t20, S19, h18, hf⟩ := hb2_s hf
          refine h_Vi [.int 1, .int a1, .int a2, .int a3, .int 0] (rest := []) (m_X1_answers (d := 1) (cs := cs) (Nat.le_refl _) h18) v_X1_answers q_807 rfl (Nat.le_trans (by decide) hd) g38 rfl rfl (Nat.le_of_ble_eq_true rfl) dX8_seated_52 (Nat.le_refl _) (Nat.le_refl _) ?_
          refine hj_s (fun J21 => ∀ (S22 : hS), J21 S22 = some r → HW cX8_seated RX8 (x_X8_seated d S [.ref a0, .int a1, .int a2, .int a3, .int a4] r cs) 0 0 S22 78 [(0, .ref a0), (4, .int a4)] []) hf ?_ ?_
          · intro S22 hf
            refine h_aload_n dX8_seated_78 rfl 0 rfl ?_
            obtain ⟨t23, h24, hf⟩ := hbd_s hf
            refine h_getR h24 rfl (Nat.le_of_ble_eq_true rfl) rfl q_309 rfl dX8_seated_79 ?_
            refine h_iload dX8_seated_82 1 rfl ?_
            obtain ⟨g28, hf⟩ := hck_s hf
            obtain ⟨t27, S26, h25, hf⟩ := hb2_s hf
            refine h_Vi [.int a4] (rest := []) (m_X1_part (d := 1) (cs := cs) (Nat.le_refl _) h25) v_X1_part q_837 rfl (Nat.le_trans (by decide) hd) g28 rfl rfl (Nat.le_of_ble_eq_true rfl) dX8_seated_84 (Nat.le_refl _) (Nat.le_refl _) ?_
            obtain rfl := Option.some.inj hf
            exact h_iret rfl rfl rfl (Nat.le_refl _) (Nat.le_refl _) dX8_seated_87
          · intro J21 hJ21 hf
            refine h_if_ne (tgt := 78) dX8_seated_55 (by decide) (fun c29 => ?_) (fun c29 => ?_)
            · rw [if_neg c29] at hf
              refine h_sub (lv2 := [(0, .ref a0), (4, .int a4)]) [1, 5] rfl ?_
              exact hJ21 S19 hf
            · rw [if_pos c29] at hf
              refine h_aload_n dX8_seated_58 rfl 1 rfl ?_
              obtain ⟨t30, h31, hf⟩ := hbd_s hf
              refine h_getR h31 rfl (Nat.le_of_ble_eq_true rfl) rfl q_309 rfl dX8_seated_59 ?_
              refine h_iconst (v := 1) dX8_seated_62 rfl ?_
              refine h_iload_n dX8_seated_63 rfl 2 rfl ?_
              refine h_iload_n dX8_seated_64 rfl 3 rfl ?_
              refine h_iload_n dX8_seated_65 rfl 4 rfl ?_
              refine h_iconst (v := 0) dX8_seated_66 rfl ?_
              obtain ⟨g37, hf⟩ := hck_s hf
              obtain ⟨S33, h32, hf⟩ := hbd_s hf
              refine h_Vv [.int 1, .int a1, .int a2, .int a3, .int 0] (rest := []) (m_X1_begin (d := 1) (cs := cs) (Nat.le_refl _) h32) v_X1_begin q_811 rfl (Nat.le_trans (by decide) hd) g37 rfl rfl (Nat.le_of_ble_eq_true rfl) dX8_seated_67 (Nat.le_refl _) (Nat.le_refl _) ?_
              refine h_aload_n dX8_seated_70 rfl 1 rfl ?_
              refine h_aload dX8_seated_71 0 rfl ?_
              refine h_iload_n dX8_seated_73 rfl 3 rfl ?_
              refine h_iload_n dX8_seated_74 rfl 4 rfl ?_
              obtain ⟨g36, hf⟩ := hck_s hf
              obtain ⟨S35, h34, hf⟩ := hbd_s hf
              refine h_Vv [.ref b4, .int a2, .int a3] (rest := []) (m_X8_seekSeat (d := 7) (cs := cs) (Nat.le_refl _) h34) v_X8_seekSeat q_815 rfl (Nat.le_trans (by decide) hd) g36 rfl rfl (Nat.le_of_ble_eq_true rfl) dX8_seated_75 (Nat.le_refl _) (Nat.le_refl _) ?_
              refine h_sub (lv2 := [(0, .ref a0), (4, .int a4)]) [1, 5] rfl ?_
              exact hJ21 S35 hf
        · rw [if_neg c15] at hf
          refine h_iconst (v := (-1)) dX8_seated_41 rfl ?_
          obtain rfl := Option.some.inj hf
          exact h_iret rfl rfl rfl (Nat.le_refl _) (Nat.le_refl _) dX8_seated_42
abbrev x_X8_without (d : Nat) (S0 : hS) (args : List Value) (r : Int32 × hS) (cs : Nat → Nat) : hX := (((some .int), 5, d, 0, 0, false), (S0, args, some (.int r.1), r.2), cs)
theorem v_X8_without : hVW yX8_without cX8_without 5 (some .int) RX8 3 := ⟨q_846, q_847, q_1, q_848, by decide +kernel, by decide⟩
def f_X8_without (a0 : Nat) (a1 : Int32) (a2 : Int32) (a3 : Int32) (S : hS) : Option (Int32 × hS) :=
  hck (S.K a0 = 9) <|
  hb2 (f_X8_ruleFor a0 a1 a2 0 60 S) fun t3 S2 =>
  hnl t3 (
    some ((-1), S2)
    ) fun b4 =>
  hbd (gR S2 a0 8 3) fun t6 =>
  hbd (gR S2 t6 0 1) fun t8 =>
  hck (S2.K t8 = 3) <|
  hb2 (f_X2_here t8 a3 S2) fun t12 S11 =>
  if t12 = 0 then
    (some ((-1), S11))
  else
    (hck (S11.K a0 = 9) <|
     hb2 (f_X8_spotAhead a0 b4 a2 S11) fun t16 S15 =>
     hck (S15.K a0 = 9) <|
     hb2 (f_X8_stepsWithout a0 b4 a2 a3 t16 S15) fun t19 S18 =>
     some (t19, S18))
set_option maxRecDepth 100000 in
set_option maxHeartbeats 4000000 in
theorem m_X8_without {d : Nat} {cs : Nat → Nat} {a0 : Nat} {a1 : Int32} {a2 : Int32} {a3 : Int32} {S : hS} {r : Int32 × hS} (hd : 8 ≤ d) (hf : f_X8_without a0 a1 a2 a3 S = some r) : HM yX8_without cX8_without 5 (some .int) d 0 0 cs [.ref a0, .int a1, .int a2, .int a3] S (some (.int r.1)) r.2 := by
  unfold f_X8_without at hf
  refine HM.ofHW false (by decide) (fun h => by cases h) (Nat.le_of_ble_eq_true rfl) ?_
  show HW cX8_without RX8 (x_X8_without d S [.ref a0, .int a1, .int a2, .int a3] r cs) 0 0 S 0 [(0, .ref a0), (1, .int a1), (2, .int a2), (3, .int a3)] []
  refine h_aload_n dX8_without_0 rfl 0 rfl ?_
  refine h_iload_n dX8_without_1 rfl 1 rfl ?_
  refine h_iload_n dX8_without_2 rfl 2 rfl ?_
  refine h_iconst (v := 0) dX8_without_3 rfl ?_
  refine h_bipush (v := 60) dX8_without_4 rfl ?_
  obtain ⟨g23, hf⟩ := hck_s hf
  obtain ⟨t3, S2, h1, hf⟩ := hb2_s hf
  refine h_Vr [.int a1, .int a2, .int 0, .int 60] (rest := []) (m_X8_ruleFor (d := 1) (cs := cs) (Nat.le_refl _) h1) v_X8_ruleFor q_735 rfl (Nat.le_trans (by decide) hd) g23 rfl rfl (Nat.le_of_ble_eq_true rfl) dX8_without_6 (Nat.le_refl _) (Nat.le_refl _) ?_
  refine h_astoreV (lv2 := [(4, va_rf t3), (0, .ref a0), (1, .int a1), (2, .int a2), (3, .int a3)]) dX8_without_9 (Nat.le_of_ble_eq_true rfl) rfl ?_
  refine h_aloadV dX8_without_11 0 rfl ?_
  refine h_ifnull (tgt := 30) dX8_without_13 (by decide) (fun c5 => ?_) (fun b4 c5 => ?_)
  · subst c5
    rw [hnl_n] at hf
    refine h_iconst (v := (-1)) dX8_without_30 rfl ?_
    obtain rfl := Option.some.inj hf
    exact h_iret rfl rfl rfl (Nat.le_refl _) (Nat.le_refl _) dX8_without_31
  · subst c5
    rw [hnl_s] at hf
    show HW cX8_without RX8 (x_X8_without d S [.ref a0, .int a1, .int a2, .int a3] r cs) 0 0 S2 16 [(4, .ref b4), (0, .ref a0), (1, .int a1), (2, .int a2), (3, .int a3)] []
    refine h_aload_n dX8_without_16 rfl 1 rfl ?_
    obtain ⟨t6, h7, hf⟩ := hbd_s hf
    refine h_getR h7 rfl (Nat.le_of_ble_eq_true rfl) rfl q_303 rfl dX8_without_17 ?_
    obtain ⟨t8, h9, hf⟩ := hbd_s hf
    refine h_getRN (host := "DeafSpot") h9 rfl (Nat.le_of_ble_eq_true rfl) rfl (List.mem_of_getElem? (i := 52) rfl) rfl dX8_without_20 ?_
    refine h_iload_n dX8_without_23 rfl 4 rfl ?_
    obtain ⟨g22, hf⟩ := hck_s hf
    obtain ⟨t12, S11, h10, hf⟩ := hb2_s hf
    refine h_Vi [.int a3] (rest := []) (m_X2_here (d := 1) (cs := cs) (Nat.le_refl _) h10) v_X2_here q_717 rfl (Nat.le_trans (by decide) hd) g22 rfl rfl (Nat.le_of_ble_eq_true rfl) dX8_without_24 (Nat.le_refl _) (Nat.le_refl _) ?_
    refine h_if_ne (tgt := 32) dX8_without_27 (by decide) (fun c13 => ?_) (fun c13 => ?_)
    · rw [if_neg c13] at hf
      refine h_aload_n dX8_without_32 rfl 1 rfl ?_
      refine h_aload dX8_without_33 0 rfl ?_
      refine h_iload_n dX8_without_35 rfl 3 rfl ?_
      refine h_iload_n dX8_without_36 rfl 4 rfl ?_
      refine h_aload_n dX8_without_37 rfl 1 rfl ?_
      refine h_aload dX8_without_38 0 rfl ?_
      refine h_iload_n dX8_without_40 rfl 3 rfl ?_
      obtain ⟨g21, hf⟩ := hck_s hf
      obtain ⟨t16, S15, h14, hf⟩ := hb2_s hf
      refine h_Vi [.ref b4, .int a2] (rest := [.int a3, .int a2, .ref b4, .ref a0]) (m_X8_spotAhead (d := 7) (cs := cs) (Nat.le_refl _) h14) v_X8_spotAhead q_787 rfl (Nat.le_trans (by decide) hd) g21 rfl rfl (Nat.le_of_ble_eq_true rfl) dX8_without_41 (Nat.le_refl _) (Nat.le_refl _) ?_
      obtain ⟨g20, hf⟩ := hck_s hf
      obtain ⟨t19, S18, h17, hf⟩ := hb2_s hf
      refine h_Vi [.ref b4, .int a2, .int a3, .int t16] (rest := []) (m_X8_stepsWithout (d := 7) (cs := cs) (Nat.le_refl _) h17) v_X8_stepsWithout q_849 rfl (Nat.le_trans (by decide) hd) g20 rfl rfl (Nat.le_of_ble_eq_true rfl) dX8_without_44 (Nat.le_refl _) (Nat.le_refl _) ?_
      obtain rfl := Option.some.inj hf
      exact h_iret rfl rfl rfl (Nat.le_refl _) (Nat.le_refl _) dX8_without_47
    · rw [if_pos c13] at hf
      refine h_iconst (v := (-1)) dX8_without_30 rfl ?_
      obtain rfl := Option.some.inj hf
      exact h_iret rfl rfl rfl (Nat.le_refl _) (Nat.le_refl _) dX8_without_31
abbrev x_X8_baron (d : Nat) (S0 : hS) (args : List Value) (r : Int32 × hS) (cs : Nat → Nat) : hX := (((some .int), 10, d, 0, 0, false), (S0, args, some (.int r.1), r.2), cs)
theorem v_X8_baron : hVW yX8_baron cX8_baron 10 (some .int) RX8 3 := ⟨q_855, q_856, q_1, q_857, by decide +kernel, by decide⟩
def f_X8_baron_L47 : Nat → Nat → Int32 → Option Nat → Int32 → Int32 → Int32 → Int32 → hS → (Int32 → Int32 → hS → Option (Int32 × hS)) → Option (Int32 × hS)
  | 0, _, _, _, _, _, _, _, _, _ => none
  | n + 1, x0, x2, x4, x5, x6, x7, x8, S, k0 =>
    hbd (gR S x0 8 3) fun t1 =>
    hbd (gR S t1 0 1) fun t3 =>
    hbd (gI S t3 2 0) fun t5 =>
    if t5 ≤ x8 then
      (k0 x6 x7 S)
    else
      (hbd (gR S x0 8 3) fun t8 =>
       hbd (gR S t8 0 1) fun t10 =>
       hck (S.K t10 = 3) <|
       hb2 (f_X2_here t10 x8 S) fun t14 S13 =>
       if t14 = 0 then
         (f_X8_baron_L47 n x0 x2 x4 x5 x6 x7 (x8 + 1) S13 k0)
       else
         (hck (S13.K x0 = 9) <|
          hb2 (f_X8_stepsWithout x0 x4 x2 x8 x5 S13) fun t18 S17 =>
          if t18 ≤ x7 then
            (f_X8_baron_L47 n x0 x2 x4 x5 x6 x7 (x8 + 1) S17 k0)
          else
            (f_X8_baron_L47 n x0 x2 x4 x5 x8 t18 (x8 + 1) S17 k0)))
def f_X8_baron (a0 : Nat) (a1 : Int32) (a2 : Int32) (a3 : Int32) (S : hS) : Option (Int32 × hS) :=
  hck (S.K a0 = 9) <|
  hb2 (f_X8_ruleFor a0 a1 a2 0 60 S) fun t24 S23 =>
  hnl t24 (
    some ((-1), S23)
    ) fun b25 =>
  if a3 < 0 then
    (some ((-1), S23))
  else
    (if a3 ≤ 1 then
       (hck (S23.K a0 = 9) <|
        hb2 (f_X8_spotAhead a0 b25 a2 S23) fun t31 S30 =>
        f_X8_baron_L47 hfuel a0 a2 b25 t31 (-2) (-2) 0 S30
          (fun u32 u33 S34 =>
            if a3 = 0 then
              (some (u32, S34))
            else
              (some (u33, S34))
          ))
     else
       (some ((-1), S23)))
set_option maxRecDepth 100000 in
set_option maxHeartbeats 4000000 in
theorem w_X8_baron_L47 {d : Nat} {S0 : hS} {args : List Value} {cs : Nat → Nat} {r : Int32 × hS} (hd : 8 ≤ d) : ∀ (n : Nat) (x0 : Nat) (x2 : Int32) (x4 : Option Nat) (x5 : Int32) (x6 : Int32) (x7 : Int32) (x8 : Int32) (S : hS) (k0 : (Int32 → Int32 → hS → Option (Int32 × hS))) (z3 : Int32), f_X8_baron_L47 n x0 x2 x4 x5 x6 x7 x8 S k0 = some r → (∀ (y6 : Int32) (y7 : Int32) (T : hS), k0 y6 y7 T = some r → HW cX8_baron RX8 (x_X8_baron d S0 args r cs) 0 0 T 111 [(3, .int z3), (6, .int y6), (7, .int y7)] []) → HW cX8_baron RX8 (x_X8_baron d S0 args r cs) 0 0 S 47 [(0, .ref x0), (2, .int x2), (3, .int z3), (4, va_rf x4), (5, .int x5), (6, .int x6), (7, .int x7), (8, .int x8)] [] := by
  intro n
  induction n with
  | zero =>
    intro x0 x2 x4 x5 x6 x7 x8 S k0 z3 hf
    cases hf
  | succ n ih =>
    intro x0 x2 x4 x5 x6 x7 x8 S k0 z3 hf hk0
    rw [f_X8_baron_L47] at hf
    refine h_iload dX8_baron_47 7 rfl ?_
    refine h_aload_n dX8_baron_49 rfl 0 rfl ?_
    obtain ⟨t1, h2, hf⟩ := hbd_s hf
    refine h_getR h2 rfl (Nat.le_of_ble_eq_true rfl) rfl q_303 rfl dX8_baron_50 ?_
    obtain ⟨t3, h4, hf⟩ := hbd_s hf
    refine h_getRN (host := "DeafSpot") h4 rfl (Nat.le_of_ble_eq_true rfl) rfl (List.mem_of_getElem? (i := 52) rfl) rfl dX8_baron_53 ?_
    obtain ⟨t5, h6, hf⟩ := hbd_s hf
    refine h_getIN (host := "DeafSpot") h6 rfl (Nat.le_of_ble_eq_true rfl) rfl (List.mem_of_getElem? (i := 37) rfl) rfl dX8_baron_56 ?_
    refine h_icmp_ge (tgt := 111) dX8_baron_59 (by decide) (fun c7 => ?_) (fun c7 => ?_)
    · rw [if_pos c7] at hf
      refine h_sub (lv2 := [(3, .int z3), (6, .int x6), (7, .int x7)]) [2, 5, 6] rfl ?_
      exact hk0 x6 x7 S hf
    · rw [if_neg c7] at hf
      refine h_aload_n dX8_baron_62 rfl 0 rfl ?_
      obtain ⟨t8, h9, hf⟩ := hbd_s hf
      refine h_getR h9 rfl (Nat.le_of_ble_eq_true rfl) rfl q_303 rfl dX8_baron_63 ?_
      obtain ⟨t10, h11, hf⟩ := hbd_s hf
      refine h_getRN (host := "DeafSpot") h11 rfl (Nat.le_of_ble_eq_true rfl) rfl (List.mem_of_getElem? (i := 52) rfl) rfl dX8_baron_66 ?_
      refine h_iload dX8_baron_69 7 rfl ?_
      obtain ⟨g21, hf⟩ := hck_s hf
      obtain ⟨t14, S13, h12, hf⟩ := hb2_s hf
      refine h_Vi [.int x8] (rest := []) (m_X2_here (d := 1) (cs := cs) (Nat.le_refl _) h12) v_X2_here q_717 rfl (Nat.le_trans (by decide) hd) g21 rfl rfl (Nat.le_of_ble_eq_true rfl) dX8_baron_71 (Nat.le_refl _) (Nat.le_refl _) ?_
      refine h_if_eq (tgt := 105) dX8_baron_74 (by decide) (fun c15 => ?_) (fun c15 => ?_)
      · rw [if_pos c15] at hf
        refine h_iinc (q := 7) (v := x8 + 1) (lv2 := [(8, .int (x8 + 1)), (0, .ref x0), (2, .int x2), (3, .int z3), (4, va_rf x4), (5, .int x5), (6, .int x6), (7, .int x7)]) dX8_baron_105 rfl rfl (Nat.le_of_ble_eq_true rfl) rfl ?_
        refine h_goto (tgt := 47) dX8_baron_108 (by decide) ?_
        refine h_sub (lv2 := [(0, .ref x0), (2, .int x2), (3, .int z3), (4, va_rf x4), (5, .int x5), (6, .int x6), (7, .int x7), (8, .int (x8 + 1))]) [1, 2, 3, 4, 5, 6, 7, 0] rfl ?_
        exact ih x0 x2 x4 x5 x6 x7 (x8 + 1) S13 k0 z3 hf hk0
      · rw [if_neg c15] at hf
        refine h_aload_n dX8_baron_77 rfl 0 rfl ?_
        refine h_aloadV dX8_baron_78 3 rfl ?_
        refine h_iload_n dX8_baron_80 rfl 1 rfl ?_
        refine h_iload dX8_baron_81 7 rfl ?_
        refine h_iload dX8_baron_83 4 rfl ?_
        obtain ⟨g20, hf⟩ := hck_s hf
        obtain ⟨t18, S17, h16, hf⟩ := hb2_s hf
        refine h_Vi [va_rf x4, .int x2, .int x8, .int x5] (rest := []) (m_X8_stepsWithout (d := 7) (cs := cs) (Nat.le_refl _) h16) v_X8_stepsWithout q_849 rfl (Nat.le_trans (by decide) hd) g20 rfl rfl (Nat.le_of_ble_eq_true rfl) dX8_baron_85 (Nat.le_refl _) (Nat.le_refl _) ?_
        refine h_istore (lv2 := [(9, .int t18), (0, .ref x0), (2, .int x2), (3, .int z3), (4, va_rf x4), (5, .int x5), (6, .int x6), (7, .int x7), (8, .int x8)]) dX8_baron_88 (Nat.le_of_ble_eq_true rfl) rfl ?_
        refine h_iload dX8_baron_90 0 rfl ?_
        refine h_iload dX8_baron_92 7 rfl ?_
        refine h_icmp_le (tgt := 105) dX8_baron_94 (by decide) (fun c19 => ?_) (fun c19 => ?_)
        · rw [if_pos c19] at hf
          refine h_iinc (q := 8) (v := x8 + 1) (lv2 := [(8, .int (x8 + 1)), (9, .int t18), (0, .ref x0), (2, .int x2), (3, .int z3), (4, va_rf x4), (5, .int x5), (6, .int x6), (7, .int x7)]) dX8_baron_105 rfl rfl (Nat.le_of_ble_eq_true rfl) rfl ?_
          refine h_goto (tgt := 47) dX8_baron_108 (by decide) ?_
          refine h_sub (lv2 := [(0, .ref x0), (2, .int x2), (3, .int z3), (4, va_rf x4), (5, .int x5), (6, .int x6), (7, .int x7), (8, .int (x8 + 1))]) [2, 3, 4, 5, 6, 7, 8, 0] rfl ?_
          exact ih x0 x2 x4 x5 x6 x7 (x8 + 1) S17 k0 z3 hf hk0
        · rw [if_neg c19] at hf
          refine h_iload dX8_baron_97 0 rfl ?_
          refine h_istore (lv2 := [(7, .int t18), (9, .int t18), (0, .ref x0), (2, .int x2), (3, .int z3), (4, va_rf x4), (5, .int x5), (6, .int x6), (8, .int x8)]) dX8_baron_99 (Nat.le_of_ble_eq_true rfl) rfl ?_
          refine h_iload dX8_baron_101 8 rfl ?_
          refine h_istore (lv2 := [(6, .int x8), (7, .int t18), (9, .int t18), (0, .ref x0), (2, .int x2), (3, .int z3), (4, va_rf x4), (5, .int x5), (8, .int x8)]) dX8_baron_103 (Nat.le_of_ble_eq_true rfl) rfl ?_
          refine h_iinc (q := 8) (v := x8 + 1) (lv2 := [(8, .int (x8 + 1)), (6, .int x8), (7, .int t18), (9, .int t18), (0, .ref x0), (2, .int x2), (3, .int z3), (4, va_rf x4), (5, .int x5)]) dX8_baron_105 rfl rfl (Nat.le_of_ble_eq_true rfl) rfl ?_
          refine h_goto (tgt := 47) dX8_baron_108 (by decide) ?_
          refine h_sub (lv2 := [(0, .ref x0), (2, .int x2), (3, .int z3), (4, va_rf x4), (5, .int x5), (6, .int x8), (7, .int t18), (8, .int (x8 + 1))]) [4, 5, 6, 7, 8, 1, 2, 0] rfl ?_
          exact ih x0 x2 x4 x5 x8 t18 (x8 + 1) S17 k0 z3 hf hk0
set_option maxRecDepth 100000 in
set_option maxHeartbeats 4000000 in
theorem m_X8_baron {d : Nat} {cs : Nat → Nat} {a0 : Nat} {a1 : Int32} {a2 : Int32} {a3 : Int32} {S : hS} {r : Int32 × hS} (hd : 8 ≤ d) (hf : f_X8_baron a0 a1 a2 a3 S = some r) : HM yX8_baron cX8_baron 10 (some .int) d 0 0 cs [.ref a0, .int a1, .int a2, .int a3] S (some (.int r.1)) r.2 := by
  unfold f_X8_baron at hf
  refine HM.ofHW false (by decide) (fun h => by cases h) (Nat.le_of_ble_eq_true rfl) ?_
  show HW cX8_baron RX8 (x_X8_baron d S [.ref a0, .int a1, .int a2, .int a3] r cs) 0 0 S 0 [(0, .ref a0), (1, .int a1), (2, .int a2), (3, .int a3)] []
  refine h_aload_n dX8_baron_0 rfl 0 rfl ?_
  refine h_iload_n dX8_baron_1 rfl 1 rfl ?_
  refine h_iload_n dX8_baron_2 rfl 2 rfl ?_
  refine h_iconst (v := 0) dX8_baron_3 rfl ?_
  refine h_bipush (v := 60) dX8_baron_4 rfl ?_
  obtain ⟨g37, hf⟩ := hck_s hf
  obtain ⟨t24, S23, h22, hf⟩ := hb2_s hf
  refine h_Vr [.int a1, .int a2, .int 0, .int 60] (rest := []) (m_X8_ruleFor (d := 1) (cs := cs) (Nat.le_refl _) h22) v_X8_ruleFor q_735 rfl (Nat.le_trans (by decide) hd) g37 rfl rfl (Nat.le_of_ble_eq_true rfl) dX8_baron_6 (Nat.le_refl _) (Nat.le_refl _) ?_
  refine h_astoreV (lv2 := [(4, va_rf t24), (0, .ref a0), (1, .int a1), (2, .int a2), (3, .int a3)]) dX8_baron_9 (Nat.le_of_ble_eq_true rfl) rfl ?_
  refine h_aloadV dX8_baron_11 0 rfl ?_
  refine h_ifnull (tgt := 25) dX8_baron_13 (by decide) (fun c26 => ?_) (fun b25 c26 => ?_)
  · subst c26
    rw [hnl_n] at hf
    refine h_iconst (v := (-1)) dX8_baron_25 rfl ?_
    obtain rfl := Option.some.inj hf
    exact h_iret rfl rfl rfl (Nat.le_refl _) (Nat.le_refl _) dX8_baron_26
  · subst c26
    rw [hnl_s] at hf
    show HW cX8_baron RX8 (x_X8_baron d S [.ref a0, .int a1, .int a2, .int a3] r cs) 0 0 S23 16 [(4, .ref b25), (0, .ref a0), (1, .int a1), (2, .int a2), (3, .int a3)] []
    refine h_iload_n dX8_baron_16 rfl 4 rfl ?_
    refine h_if_lt (tgt := 25) dX8_baron_17 (by decide) (fun c27 => ?_) (fun c27 => ?_)
    · rw [if_pos c27] at hf
      refine h_iconst (v := (-1)) dX8_baron_25 rfl ?_
      obtain rfl := Option.some.inj hf
      exact h_iret rfl rfl rfl (Nat.le_refl _) (Nat.le_refl _) dX8_baron_26
    · rw [if_neg c27] at hf
      refine h_iload_n dX8_baron_20 rfl 4 rfl ?_
      refine h_iconst (v := 1) dX8_baron_21 rfl ?_
      refine h_icmp_le (tgt := 27) dX8_baron_22 (by decide) (fun c28 => ?_) (fun c28 => ?_)
      · rw [if_pos c28] at hf
        refine h_aload_n dX8_baron_27 rfl 1 rfl ?_
        refine h_aload dX8_baron_28 0 rfl ?_
        refine h_iload_n dX8_baron_30 rfl 3 rfl ?_
        obtain ⟨g36, hf⟩ := hck_s hf
        obtain ⟨t31, S30, h29, hf⟩ := hb2_s hf
        refine h_Vi [.ref b25, .int a2] (rest := []) (m_X8_spotAhead (d := 7) (cs := cs) (Nat.le_refl _) h29) v_X8_spotAhead q_787 rfl (Nat.le_trans (by decide) hd) g36 rfl rfl (Nat.le_of_ble_eq_true rfl) dX8_baron_31 (Nat.le_refl _) (Nat.le_refl _) ?_
        refine h_istore (lv2 := [(5, .int t31), (4, .ref b25), (0, .ref a0), (1, .int a1), (2, .int a2), (3, .int a3)]) dX8_baron_34 (Nat.le_of_ble_eq_true rfl) rfl ?_
        refine h_bipush (v := (-2)) dX8_baron_36 rfl ?_
        refine h_istore (lv2 := [(6, .int (-2)), (5, .int t31), (4, .ref b25), (0, .ref a0), (1, .int a1), (2, .int a2), (3, .int a3)]) dX8_baron_38 (Nat.le_of_ble_eq_true rfl) rfl ?_
        refine h_bipush (v := (-2)) dX8_baron_40 rfl ?_
        refine h_istore (lv2 := [(7, .int (-2)), (6, .int (-2)), (5, .int t31), (4, .ref b25), (0, .ref a0), (1, .int a1), (2, .int a2), (3, .int a3)]) dX8_baron_42 (Nat.le_of_ble_eq_true rfl) rfl ?_
        refine h_iconst (v := 0) dX8_baron_44 rfl ?_
        refine h_istore (lv2 := [(8, .int 0), (7, .int (-2)), (6, .int (-2)), (5, .int t31), (4, .ref b25), (0, .ref a0), (1, .int a1), (2, .int a2), (3, .int a3)]) dX8_baron_45 (Nat.le_of_ble_eq_true rfl) rfl ?_
        refine h_sub (lv2 := [(0, .ref a0), (2, .int a2), (3, .int a3), (4, .ref b25), (5, .int t31), (6, .int (-2)), (7, .int (-2)), (8, .int 0)]) [5, 7, 8, 4, 3, 2, 1, 0] rfl ?_
        refine w_X8_baron_L47 hd hfuel a0 a2 b25 t31 (-2) (-2) 0 S30 _ a3 hf ?_
        · intro u32 u33 S34 hf
          refine h_iload_n dX8_baron_111 rfl 0 rfl ?_
          refine h_if_ne (tgt := 120) dX8_baron_112 (by decide) (fun c35 => ?_) (fun c35 => ?_)
          · rw [if_neg c35] at hf
            refine h_iload dX8_baron_120 2 rfl ?_
            obtain rfl := Option.some.inj hf
            exact h_iret rfl rfl rfl (Nat.le_refl _) (Nat.le_refl _) dX8_baron_122
          · rw [if_pos c35] at hf
            refine h_iload dX8_baron_115 1 rfl ?_
            refine h_goto (tgt := 122) dX8_baron_117 (by decide) ?_
            obtain rfl := Option.some.inj hf
            exact h_iret rfl rfl rfl (Nat.le_refl _) (Nat.le_refl _) dX8_baron_122
      · rw [if_neg c28] at hf
        refine h_iconst (v := (-1)) dX8_baron_25 rfl ?_
        obtain rfl := Option.some.inj hf
        exact h_iret rfl rfl rfl (Nat.le_refl _) (Nat.le_refl _) dX8_baron_26
abbrev x_X8_led (d : Nat) (S0 : hS) (args : List Value) (r : Int32 × hS) (cs : Nat → Nat) : hX := (((some .int), 7, d, 0, 0, false), (S0, args, some (.int r.1), r.2), cs)
theorem v_X8_led : hVW yX8_led cX8_led 7 (some .int) RX8 2 := ⟨q_859, q_860, q_1, q_861, by decide +kernel, by decide⟩
def f_X8_led_L30 : Nat → Nat → Int32 → Option Nat → Int32 → Int32 → Int32 → hS → (Int32 → hS → Option (Int32 × hS)) → Option (Int32 × hS)
  | 0, _, _, _, _, _, _, _, _ => none
  | n + 1, x0, x2, x3, x4, x5, x6, S, k0 =>
    hbd (gR S x0 8 3) fun t1 =>
    hbd (gR S t1 0 1) fun t3 =>
    hbd (gI S t3 2 0) fun t5 =>
    if t5 ≤ x6 then
      (k0 x5 S)
    else
      (hbd (gR S x0 8 3) fun t8 =>
       hbd (gR S t8 0 1) fun t10 =>
       hck (S.K t10 = 3) <|
       hb2 (f_X2_here t10 x6 S) fun t14 S13 =>
       if t14 = 0 then
         (f_X8_led_L30 n x0 x2 x3 x4 x5 (x6 + 1) S13 k0)
       else
         (hck (S13.K x0 = 9) <|
          hb2 (f_X8_stepsWithout x0 x3 x2 x6 x4 S13) fun t18 S17 =>
          if t18 ≤ 0 then
            (f_X8_led_L30 n x0 x2 x3 x4 x5 (x6 + 1) S17 k0)
          else
            (f_X8_led_L30 n x0 x2 x3 x4 (x5 ||| (1 <<< (x6 &&& 31))) (x6 + 1) S17 k0)))
def f_X8_led (a0 : Nat) (a1 : Int32) (a2 : Int32) (S : hS) : Option (Int32 × hS) :=
  hck (S.K a0 = 9) <|
  hb2 (f_X8_ruleFor a0 a1 a2 0 60 S) fun t24 S23 =>
  hnl t24 (
    some ((-1), S23)
    ) fun b25 =>
  hck (S23.K a0 = 9) <|
  hb2 (f_X8_spotAhead a0 b25 a2 S23) fun t29 S28 =>
  f_X8_led_L30 hfuel a0 a2 b25 t29 0 0 S28
    (fun u30 S31 =>
      some (u30, S31)
    )
set_option maxRecDepth 100000 in
set_option maxHeartbeats 4000000 in
theorem w_X8_led_L30 {d : Nat} {S0 : hS} {args : List Value} {cs : Nat → Nat} {r : Int32 × hS} (hd : 8 ≤ d) : ∀ (n : Nat) (x0 : Nat) (x2 : Int32) (x3 : Option Nat) (x4 : Int32) (x5 : Int32) (x6 : Int32) (S : hS) (k0 : (Int32 → hS → Option (Int32 × hS))) , f_X8_led_L30 n x0 x2 x3 x4 x5 x6 S k0 = some r → (∀ (y5 : Int32) (T : hS), k0 y5 T = some r → HW cX8_led RX8 (x_X8_led d S0 args r cs) 0 0 T 88 [(5, .int y5)] []) → HW cX8_led RX8 (x_X8_led d S0 args r cs) 0 0 S 30 [(0, .ref x0), (2, .int x2), (3, va_rf x3), (4, .int x4), (5, .int x5), (6, .int x6)] [] := by
  intro n
  induction n with
  | zero =>
    intro x0 x2 x3 x4 x5 x6 S k0 hf
    cases hf
  | succ n ih =>
    intro x0 x2 x3 x4 x5 x6 S k0 hf hk0
    rw [f_X8_led_L30] at hf
    refine h_iload dX8_led_30 5 rfl ?_
    refine h_aload_n dX8_led_32 rfl 0 rfl ?_
    obtain ⟨t1, h2, hf⟩ := hbd_s hf
    refine h_getR h2 rfl (Nat.le_of_ble_eq_true rfl) rfl q_303 rfl dX8_led_33 ?_
    obtain ⟨t3, h4, hf⟩ := hbd_s hf
    refine h_getRN (host := "DeafSpot") h4 rfl (Nat.le_of_ble_eq_true rfl) rfl (List.mem_of_getElem? (i := 52) rfl) rfl dX8_led_36 ?_
    obtain ⟨t5, h6, hf⟩ := hbd_s hf
    refine h_getIN (host := "DeafSpot") h6 rfl (Nat.le_of_ble_eq_true rfl) rfl (List.mem_of_getElem? (i := 37) rfl) rfl dX8_led_39 ?_
    refine h_icmp_ge (tgt := 88) dX8_led_42 (by decide) (fun c7 => ?_) (fun c7 => ?_)
    · rw [if_pos c7] at hf
      refine h_sub (lv2 := [(5, .int x5)]) [4] rfl ?_
      exact hk0 x5 S hf
    · rw [if_neg c7] at hf
      refine h_aload_n dX8_led_45 rfl 0 rfl ?_
      obtain ⟨t8, h9, hf⟩ := hbd_s hf
      refine h_getR h9 rfl (Nat.le_of_ble_eq_true rfl) rfl q_303 rfl dX8_led_46 ?_
      obtain ⟨t10, h11, hf⟩ := hbd_s hf
      refine h_getRN (host := "DeafSpot") h11 rfl (Nat.le_of_ble_eq_true rfl) rfl (List.mem_of_getElem? (i := 52) rfl) rfl dX8_led_49 ?_
      refine h_iload dX8_led_52 5 rfl ?_
      obtain ⟨g21, hf⟩ := hck_s hf
      obtain ⟨t14, S13, h12, hf⟩ := hb2_s hf
      refine h_Vi [.int x6] (rest := []) (m_X2_here (d := 1) (cs := cs) (Nat.le_refl _) h12) v_X2_here q_717 rfl (Nat.le_trans (by decide) hd) g21 rfl rfl (Nat.le_of_ble_eq_true rfl) dX8_led_54 (Nat.le_refl _) (Nat.le_refl _) ?_
      refine h_if_eq (tgt := 82) dX8_led_57 (by decide) (fun c15 => ?_) (fun c15 => ?_)
      · rw [if_pos c15] at hf
        refine h_iinc (q := 5) (v := x6 + 1) (lv2 := [(6, .int (x6 + 1)), (0, .ref x0), (2, .int x2), (3, va_rf x3), (4, .int x4), (5, .int x5)]) dX8_led_82 rfl rfl (Nat.le_of_ble_eq_true rfl) rfl ?_
        refine h_goto (tgt := 30) dX8_led_85 (by decide) ?_
        refine h_sub (lv2 := [(0, .ref x0), (2, .int x2), (3, va_rf x3), (4, .int x4), (5, .int x5), (6, .int (x6 + 1))]) [1, 2, 3, 4, 5, 0] rfl ?_
        exact ih x0 x2 x3 x4 x5 (x6 + 1) S13 k0  hf hk0
      · rw [if_neg c15] at hf
        refine h_aload_n dX8_led_60 rfl 0 rfl ?_
        refine h_aload_nV dX8_led_61 rfl 2 rfl ?_
        refine h_iload_n dX8_led_62 rfl 1 rfl ?_
        refine h_iload dX8_led_63 5 rfl ?_
        refine h_iload dX8_led_65 3 rfl ?_
        obtain ⟨g20, hf⟩ := hck_s hf
        obtain ⟨t18, S17, h16, hf⟩ := hb2_s hf
        refine h_Vi [va_rf x3, .int x2, .int x6, .int x4] (rest := []) (m_X8_stepsWithout (d := 7) (cs := cs) (Nat.le_refl _) h16) v_X8_stepsWithout q_849 rfl (Nat.le_trans (by decide) hd) g20 rfl rfl (Nat.le_of_ble_eq_true rfl) dX8_led_67 (Nat.le_refl _) (Nat.le_refl _) ?_
        refine h_if_le (tgt := 82) dX8_led_70 (by decide) (fun c19 => ?_) (fun c19 => ?_)
        · rw [if_pos c19] at hf
          refine h_iinc (q := 5) (v := x6 + 1) (lv2 := [(6, .int (x6 + 1)), (0, .ref x0), (2, .int x2), (3, va_rf x3), (4, .int x4), (5, .int x5)]) dX8_led_82 rfl rfl (Nat.le_of_ble_eq_true rfl) rfl ?_
          refine h_goto (tgt := 30) dX8_led_85 (by decide) ?_
          refine h_sub (lv2 := [(0, .ref x0), (2, .int x2), (3, va_rf x3), (4, .int x4), (5, .int x5), (6, .int (x6 + 1))]) [1, 2, 3, 4, 5, 0] rfl ?_
          exact ih x0 x2 x3 x4 x5 (x6 + 1) S17 k0  hf hk0
        · rw [if_neg c19] at hf
          refine h_iload dX8_led_73 4 rfl ?_
          refine h_iconst (v := 1) dX8_led_75 rfl ?_
          refine h_iload dX8_led_76 5 rfl ?_
          refine h_ishl dX8_led_78 ?_
          refine h_ior dX8_led_79 ?_
          refine h_istore (lv2 := [(5, .int (x5 ||| (1 <<< (x6 &&& 31)))), (0, .ref x0), (2, .int x2), (3, va_rf x3), (4, .int x4), (6, .int x6)]) dX8_led_80 (Nat.le_of_ble_eq_true rfl) rfl ?_
          refine h_iinc (q := 5) (v := x6 + 1) (lv2 := [(6, .int (x6 + 1)), (5, .int (x5 ||| (1 <<< (x6 &&& 31)))), (0, .ref x0), (2, .int x2), (3, va_rf x3), (4, .int x4)]) dX8_led_82 rfl rfl (Nat.le_of_ble_eq_true rfl) rfl ?_
          refine h_goto (tgt := 30) dX8_led_85 (by decide) ?_
          refine h_sub (lv2 := [(0, .ref x0), (2, .int x2), (3, va_rf x3), (4, .int x4), (5, .int (x5 ||| (1 <<< (x6 &&& 31)))), (6, .int (x6 + 1))]) [2, 3, 4, 5, 1, 0] rfl ?_
          exact ih x0 x2 x3 x4 (x5 ||| (1 <<< (x6 &&& 31))) (x6 + 1) S17 k0  hf hk0
set_option maxRecDepth 100000 in
set_option maxHeartbeats 4000000 in
theorem m_X8_led {d : Nat} {cs : Nat → Nat} {a0 : Nat} {a1 : Int32} {a2 : Int32} {S : hS} {r : Int32 × hS} (hd : 8 ≤ d) (hf : f_X8_led a0 a1 a2 S = some r) : HM yX8_led cX8_led 7 (some .int) d 0 0 cs [.ref a0, .int a1, .int a2] S (some (.int r.1)) r.2 := by
  unfold f_X8_led at hf
  refine HM.ofHW false (by decide) (fun h => by cases h) (Nat.le_of_ble_eq_true rfl) ?_
  show HW cX8_led RX8 (x_X8_led d S [.ref a0, .int a1, .int a2] r cs) 0 0 S 0 [(0, .ref a0), (1, .int a1), (2, .int a2)] []
  refine h_aload_n dX8_led_0 rfl 0 rfl ?_
  refine h_iload_n dX8_led_1 rfl 1 rfl ?_
  refine h_iload_n dX8_led_2 rfl 2 rfl ?_
  refine h_iconst (v := 0) dX8_led_3 rfl ?_
  refine h_bipush (v := 60) dX8_led_4 rfl ?_
  obtain ⟨g33, hf⟩ := hck_s hf
  obtain ⟨t24, S23, h22, hf⟩ := hb2_s hf
  refine h_Vr [.int a1, .int a2, .int 0, .int 60] (rest := []) (m_X8_ruleFor (d := 1) (cs := cs) (Nat.le_refl _) h22) v_X8_ruleFor q_735 rfl (Nat.le_trans (by decide) hd) g33 rfl rfl (Nat.le_of_ble_eq_true rfl) dX8_led_6 (Nat.le_refl _) (Nat.le_refl _) ?_
  refine h_astore_nV (lv2 := [(3, va_rf t24), (0, .ref a0), (1, .int a1), (2, .int a2)]) dX8_led_9 rfl (Nat.le_of_ble_eq_true rfl) rfl ?_
  refine h_aload_nV dX8_led_10 rfl 0 rfl ?_
  refine h_ifnonnull (tgt := 16) dX8_led_11 (by decide) (fun c26 => ?_) (fun b25 c26 => ?_)
  · subst c26
    rw [hnl_n] at hf
    refine h_iconst (v := (-1)) dX8_led_14 rfl ?_
    obtain rfl := Option.some.inj hf
    exact h_iret rfl rfl rfl (Nat.le_refl _) (Nat.le_refl _) dX8_led_15
  · subst c26
    rw [hnl_s] at hf
    show HW cX8_led RX8 (x_X8_led d S [.ref a0, .int a1, .int a2] r cs) 0 0 S23 16 [(3, .ref b25), (0, .ref a0), (1, .int a1), (2, .int a2)] []
    refine h_aload_n dX8_led_16 rfl 1 rfl ?_
    refine h_aload_n dX8_led_17 rfl 0 rfl ?_
    refine h_iload_n dX8_led_18 rfl 3 rfl ?_
    obtain ⟨g32, hf⟩ := hck_s hf
    obtain ⟨t29, S28, h27, hf⟩ := hb2_s hf
    refine h_Vi [.ref b25, .int a2] (rest := []) (m_X8_spotAhead (d := 7) (cs := cs) (Nat.le_refl _) h27) v_X8_spotAhead q_787 rfl (Nat.le_trans (by decide) hd) g32 rfl rfl (Nat.le_of_ble_eq_true rfl) dX8_led_19 (Nat.le_refl _) (Nat.le_refl _) ?_
    refine h_istore (lv2 := [(4, .int t29), (3, .ref b25), (0, .ref a0), (1, .int a1), (2, .int a2)]) dX8_led_22 (Nat.le_of_ble_eq_true rfl) rfl ?_
    refine h_iconst (v := 0) dX8_led_24 rfl ?_
    refine h_istore (lv2 := [(5, .int 0), (4, .int t29), (3, .ref b25), (0, .ref a0), (1, .int a1), (2, .int a2)]) dX8_led_25 (Nat.le_of_ble_eq_true rfl) rfl ?_
    refine h_iconst (v := 0) dX8_led_27 rfl ?_
    refine h_istore (lv2 := [(6, .int 0), (5, .int 0), (4, .int t29), (3, .ref b25), (0, .ref a0), (1, .int a1), (2, .int a2)]) dX8_led_28 (Nat.le_of_ble_eq_true rfl) rfl ?_
    refine h_sub (lv2 := [(0, .ref a0), (2, .int a2), (3, .ref b25), (4, .int t29), (5, .int 0), (6, .int 0)]) [4, 6, 3, 2, 1, 0] rfl ?_
    refine w_X8_led_L30 hd hfuel a0 a2 b25 t29 0 0 S28 _  hf ?_
    · intro u30 S31 hf
      refine h_iload dX8_led_88 0 rfl ?_
      obtain rfl := Option.some.inj hf
      exact h_iret rfl rfl rfl (Nat.le_refl _) (Nat.le_refl _) dX8_led_90
abbrev x_X8_fanned (d : Nat) (S0 : hS) (args : List Value) (r : Int32 × hS) (cs : Nat → Nat) : hX := (((some .int), 8, d, 0, 0, false), (S0, args, some (.int r.1), r.2), cs)
theorem v_X8_fanned : hVW yX8_fanned cX8_fanned 8 (some .int) RX8 5 := ⟨q_863, q_864, q_1, q_865, by decide +kernel, by decide⟩
def f_X8_fanned (a0 : Nat) (a1 : Int32) (a2 : Int32) (a3 : Int32) (a4 : Int32) (a5 : Int32) (S : hS) : Option (Int32 × hS) :=
  hck (S.K a0 = 9) <|
  hb2 (f_X8_ruleFor a0 a1 a2 0 10 S) fun t3 S2 =>
  hbd (gR S2 a0 8 3) fun t4 =>
  hbd (gR S2 t4 0 0) fun t6 =>
  hck (S2.K t6 = 7) <|
  hb2 (f_X6_seatAt t6 a3 a4 S2) fun t10 S9 =>
  hnl t3 (
    some ((-1), S9)
    ) fun b11 =>
  if t10 = (-1) then
    (some ((-1), S9))
  else
    (if a5 < 0 then
       (some ((-1), S9))
     else
       (if a5 ≤ 3 then
          (hbd (gR S9 a0 8 9) fun t16 =>
           hck (S9.K t16 = 2) <|
           hb2 (f_X1_answers t16 2 a1 a2 t10 0 S9) fun t20 S19 =>
           hj (γ := hS → Option (Int32 × hS)) (fun (S22 : hS) =>
             hbd (gR S22 a0 8 9) fun t23 =>
             hck (S22.K t23 = 2) <|
             hb2 (f_X1_part t23 a5 S22) fun t27 S26 =>
             some (t27, S26)
             ) fun J21 =>
           if t20 = 0 then
             (hbd (gR S19 a0 8 9) fun t30 =>
              hck (S19.K t30 = 2) <|
              hbd (f_X1_begin t30 2 a1 a2 t10 0 S19) fun S33 =>
              hck (S33.K a0 = 9) <|
              hbd (f_X8_seekFan a0 b11 a2 t10 S33) fun S35 =>
              J21 S35)
           else
             (J21 S19))
        else
          (some ((-1), S9))))
set_option maxRecDepth 100000 in
set_option maxHeartbeats 4000000 in
theorem m_X8_fanned {d : Nat} {cs : Nat → Nat} {a0 : Nat} {a1 : Int32} {a2 : Int32} {a3 : Int32} {a4 : Int32} {a5 : Int32} {S : hS} {r : Int32 × hS} (hd : 8 ≤ d) (hf : f_X8_fanned a0 a1 a2 a3 a4 a5 S = some r) : HM yX8_fanned cX8_fanned 8 (some .int) d 0 0 cs [.ref a0, .int a1, .int a2, .int a3, .int a4, .int a5] S (some (.int r.1)) r.2 := by
  unfold f_X8_fanned at hf
  refine HM.ofHW false (by decide) (fun h => by cases h) (Nat.le_of_ble_eq_true rfl) ?_
  show HW cX8_fanned RX8 (x_X8_fanned d S [.ref a0, .int a1, .int a2, .int a3, .int a4, .int a5] r cs) 0 0 S 0 [(0, .ref a0), (1, .int a1), (2, .int a2), (3, .int a3), (4, .int a4), (5, .int a5)] []
  refine h_aload_n dX8_fanned_0 rfl 0 rfl ?_
  refine h_iload_n dX8_fanned_1 rfl 1 rfl ?_
  refine h_iload_n dX8_fanned_2 rfl 2 rfl ?_
  refine h_iconst (v := 0) dX8_fanned_3 rfl ?_
  refine h_bipush (v := 10) dX8_fanned_4 rfl ?_
  obtain ⟨g40, hf⟩ := hck_s hf
  obtain ⟨t3, S2, h1, hf⟩ := hb2_s hf
  refine h_Vr [.int a1, .int a2, .int 0, .int 10] (rest := []) (m_X8_ruleFor (d := 1) (cs := cs) (Nat.le_refl _) h1) v_X8_ruleFor q_735 rfl (Nat.le_trans (by decide) hd) g40 rfl rfl (Nat.le_of_ble_eq_true rfl) dX8_fanned_6 (Nat.le_refl _) (Nat.le_refl _) ?_
  refine h_astoreV (lv2 := [(6, va_rf t3), (0, .ref a0), (1, .int a1), (2, .int a2), (3, .int a3), (4, .int a4), (5, .int a5)]) dX8_fanned_9 (Nat.le_of_ble_eq_true rfl) rfl ?_
  refine h_aload_n dX8_fanned_11 rfl 1 rfl ?_
  obtain ⟨t4, h5, hf⟩ := hbd_s hf
  refine h_getR h5 rfl (Nat.le_of_ble_eq_true rfl) rfl q_303 rfl dX8_fanned_12 ?_
  obtain ⟨t6, h7, hf⟩ := hbd_s hf
  refine h_getRN (host := "DeafSpot") h7 rfl (Nat.le_of_ble_eq_true rfl) rfl (List.mem_of_getElem? (i := 50) rfl) rfl dX8_fanned_15 ?_
  refine h_iload_n dX8_fanned_18 rfl 4 rfl ?_
  refine h_iload dX8_fanned_19 5 rfl ?_
  obtain ⟨g39, hf⟩ := hck_s hf
  obtain ⟨t10, S9, h8, hf⟩ := hb2_s hf
  refine h_Vi [.int a3, .int a4] (rest := []) (m_X6_seatAt (d := 1) (cs := cs) (Nat.le_refl _) h8) v_X6_seatAt q_690 rfl (Nat.le_trans (by decide) hd) g39 rfl rfl (Nat.le_of_ble_eq_true rfl) dX8_fanned_21 (Nat.le_refl _) (Nat.le_refl _) ?_
  refine h_istore (lv2 := [(7, .int t10), (6, va_rf t3), (0, .ref a0), (1, .int a1), (2, .int a2), (3, .int a3), (4, .int a4), (5, .int a5)]) dX8_fanned_24 (Nat.le_of_ble_eq_true rfl) rfl ?_
  refine h_aloadV dX8_fanned_26 1 rfl ?_
  refine h_ifnull (tgt := 48) dX8_fanned_28 (by decide) (fun c12 => ?_) (fun b11 c12 => ?_)
  · subst c12
    rw [hnl_n] at hf
    refine h_iconst (v := (-1)) dX8_fanned_48 rfl ?_
    obtain rfl := Option.some.inj hf
    exact h_iret rfl rfl rfl (Nat.le_refl _) (Nat.le_refl _) dX8_fanned_49
  · subst c12
    rw [hnl_s] at hf
    show HW cX8_fanned RX8 (x_X8_fanned d S [.ref a0, .int a1, .int a2, .int a3, .int a4, .int a5] r cs) 0 0 S9 31 [(7, .int t10), (6, .ref b11), (0, .ref a0), (1, .int a1), (2, .int a2), (3, .int a3), (4, .int a4), (5, .int a5)] []
    refine h_iload dX8_fanned_31 0 rfl ?_
    refine h_iconst (v := (-1)) dX8_fanned_33 rfl ?_
    refine h_icmp_eq (tgt := 48) dX8_fanned_34 (by decide) (fun c13 => ?_) (fun c13 => ?_)
    · rw [if_pos c13] at hf
      refine h_iconst (v := (-1)) dX8_fanned_48 rfl ?_
      obtain rfl := Option.some.inj hf
      exact h_iret rfl rfl rfl (Nat.le_refl _) (Nat.le_refl _) dX8_fanned_49
    · rw [if_neg c13] at hf
      refine h_iload dX8_fanned_37 7 rfl ?_
      refine h_if_lt (tgt := 48) dX8_fanned_39 (by decide) (fun c14 => ?_) (fun c14 => ?_)
      · rw [if_pos c14] at hf
        refine h_iconst (v := (-1)) dX8_fanned_48 rfl ?_
        obtain rfl := Option.some.inj hf
        exact h_iret rfl rfl rfl (Nat.le_refl _) (Nat.le_refl _) dX8_fanned_49
      · rw [if_neg c14] at hf
        refine h_iload dX8_fanned_42 7 rfl ?_
        refine h_iconst (v := 3) dX8_fanned_44 rfl ?_
        refine h_icmp_le (tgt := 50) dX8_fanned_45 (by decide) (fun c15 => ?_) (fun c15 => ?_)
        · rw [if_pos c15] at hf
          refine h_aload_n dX8_fanned_50 rfl 2 rfl ?_
          obtain ⟨t16, h17, hf⟩ := hbd_s hf
          refine h_getR h17 rfl (Nat.le_of_ble_eq_true rfl) rfl q_309 rfl dX8_fanned_51 ?_
          refine h_iconst (v := 2) dX8_fanned_54 rfl ?_
          refine h_iload_n dX8_fanned_55 rfl 3 rfl ?_
          refine h_iload_n dX8_fanned_56 rfl 4 rfl ?_
          refine h_iload dX8_fanned_57 0 rfl ?_
          refine h_iconst (v := 0) dX8_fanned_59 rfl ?_
          obtain ⟨g38, hf⟩ := hck_s hf
          obtain ⟨t20, S19, h18, hf⟩ := hb2_s hf
          refine h_Vi [.int 2, .int a1, .int a2, .int t10, .int 0] (rest := []) (m_X1_answers (d := 1) (cs := cs) (Nat.le_refl _) h18) v_X1_answers q_807 rfl (Nat.le_trans (by decide) hd) g38 rfl rfl (Nat.le_of_ble_eq_true rfl) dX8_fanned_60 (Nat.le_refl _) (Nat.le_refl _) ?_
          refine hj_s (fun J21 => ∀ (S22 : hS), J21 S22 = some r → HW cX8_fanned RX8 (x_X8_fanned d S [.ref a0, .int a1, .int a2, .int a3, .int a4, .int a5] r cs) 0 0 S22 88 [(0, .ref a0), (5, .int a5)] []) hf ?_ ?_
          · intro S22 hf
            refine h_aload_n dX8_fanned_88 rfl 0 rfl ?_
            obtain ⟨t23, h24, hf⟩ := hbd_s hf
            refine h_getR h24 rfl (Nat.le_of_ble_eq_true rfl) rfl q_309 rfl dX8_fanned_89 ?_
            refine h_iload dX8_fanned_92 1 rfl ?_
            obtain ⟨g28, hf⟩ := hck_s hf
            obtain ⟨t27, S26, h25, hf⟩ := hb2_s hf
            refine h_Vi [.int a5] (rest := []) (m_X1_part (d := 1) (cs := cs) (Nat.le_refl _) h25) v_X1_part q_837 rfl (Nat.le_trans (by decide) hd) g28 rfl rfl (Nat.le_of_ble_eq_true rfl) dX8_fanned_94 (Nat.le_refl _) (Nat.le_refl _) ?_
            obtain rfl := Option.some.inj hf
            exact h_iret rfl rfl rfl (Nat.le_refl _) (Nat.le_refl _) dX8_fanned_97
          · intro J21 hJ21 hf
            refine h_if_ne (tgt := 88) dX8_fanned_63 (by decide) (fun c29 => ?_) (fun c29 => ?_)
            · rw [if_neg c29] at hf
              refine h_sub (lv2 := [(0, .ref a0), (5, .int a5)]) [2, 7] rfl ?_
              exact hJ21 S19 hf
            · rw [if_pos c29] at hf
              refine h_aload_n dX8_fanned_66 rfl 2 rfl ?_
              obtain ⟨t30, h31, hf⟩ := hbd_s hf
              refine h_getR h31 rfl (Nat.le_of_ble_eq_true rfl) rfl q_309 rfl dX8_fanned_67 ?_
              refine h_iconst (v := 2) dX8_fanned_70 rfl ?_
              refine h_iload_n dX8_fanned_71 rfl 3 rfl ?_
              refine h_iload_n dX8_fanned_72 rfl 4 rfl ?_
              refine h_iload dX8_fanned_73 0 rfl ?_
              refine h_iconst (v := 0) dX8_fanned_75 rfl ?_
              obtain ⟨g37, hf⟩ := hck_s hf
              obtain ⟨S33, h32, hf⟩ := hbd_s hf
              refine h_Vv [.int 2, .int a1, .int a2, .int t10, .int 0] (rest := []) (m_X1_begin (d := 1) (cs := cs) (Nat.le_refl _) h32) v_X1_begin q_811 rfl (Nat.le_trans (by decide) hd) g37 rfl rfl (Nat.le_of_ble_eq_true rfl) dX8_fanned_76 (Nat.le_refl _) (Nat.le_refl _) ?_
              refine h_aload_n dX8_fanned_79 rfl 2 rfl ?_
              refine h_aload dX8_fanned_80 1 rfl ?_
              refine h_iload_n dX8_fanned_82 rfl 4 rfl ?_
              refine h_iload dX8_fanned_83 0 rfl ?_
              obtain ⟨g36, hf⟩ := hck_s hf
              obtain ⟨S35, h34, hf⟩ := hbd_s hf
              refine h_Vv [.ref b11, .int a2, .int t10] (rest := []) (m_X8_seekFan (d := 7) (cs := cs) (Nat.le_refl _) h34) v_X8_seekFan q_866 rfl (Nat.le_trans (by decide) hd) g36 rfl rfl (Nat.le_of_ble_eq_true rfl) dX8_fanned_85 (Nat.le_refl _) (Nat.le_refl _) ?_
              refine h_sub (lv2 := [(0, .ref a0), (5, .int a5)]) [2, 7] rfl ?_
              exact hJ21 S35 hf
        · rw [if_neg c15] at hf
          refine h_iconst (v := (-1)) dX8_fanned_48 rfl ?_
          obtain rfl := Option.some.inj hf
          exact h_iret rfl rfl rfl (Nat.le_refl _) (Nat.le_refl _) dX8_fanned_49
abbrev x_X8_span (d : Nat) (S0 : hS) (args : List Value) (r : Int32 × hS) (cs : Nat → Nat) : hX := (((some .int), 7, d, 0, 0, false), (S0, args, some (.int r.1), r.2), cs)
theorem v_X8_span : hVW yX8_span cX8_span 7 (some .int) RX8 5 := ⟨q_872, q_873, q_1, q_874, by decide +kernel, by decide⟩
def f_X8_span (a0 : Nat) (a1 : Int32) (a2 : Int32) (a3 : Int32) (a4 : Int32) (a5 : Int32) (S : hS) : Option (Int32 × hS) :=
  hck (S.K a0 = 9) <|
  hb2 (f_X8_ruleFor a0 a1 a2 0 60 S) fun t3 S2 =>
  hnl t3 (
    some ((-1), S2)
    ) fun b4 =>
  hbd (gR S2 a0 8 3) fun t6 =>
  hbd (gR S2 t6 0 1) fun t8 =>
  hck (S2.K t8 = 3) <|
  hb2 (f_X2_here t8 a3 S2) fun t12 S11 =>
  if t12 = 0 then
    (some ((-1), S11))
  else
    (if a4 < 0 then
       (some ((-1), S11))
     else
       (if 20 < a4 then
          (some ((-1), S11))
        else
          (if a5 < 0 then
             (some ((-1), S11))
           else
             (if a5 ≤ 4 then
                (hbd (gR S11 a0 8 9) fun t18 =>
                 hck (S11.K t18 = 2) <|
                 hb2 (f_X1_answers t18 3 a1 a2 a3 a4 S11) fun t22 S21 =>
                 hj (γ := hS → Option (Int32 × hS)) (fun (S24 : hS) =>
                   hbd (gR S24 a0 8 9) fun t25 =>
                   hck (S24.K t25 = 2) <|
                   hb2 (f_X1_part t25 a5 S24) fun t29 S28 =>
                   some (t29, S28)
                   ) fun J23 =>
                 if t22 = 0 then
                   (hbd (gR S21 a0 8 9) fun t32 =>
                    hck (S21.K t32 = 2) <|
                    hbd (f_X1_begin t32 3 a1 a2 a3 a4 S21) fun S35 =>
                    hck (S35.K a0 = 9) <|
                    hbd (f_X8_markSpan a0 b4 a2 a3 a4 S35) fun S37 =>
                    hbd (gR S37 a0 8 9) fun t38 =>
                    hbd (gR S37 a0 8 3) fun t40 =>
                    hbd (gR S37 t40 0 0) fun t42 =>
                    hbd (gR S37 a0 8 10) fun t44 =>
                    hck (S37.K t38 = 2) <|
                    hbd (f_X1_keepSpan t38 t42 t44 S37) fun S47 =>
                    J23 S47)
                 else
                   (J23 S21))
              else
                (some ((-1), S11))))))
set_option maxRecDepth 100000 in
set_option maxHeartbeats 4000000 in
theorem m_X8_span {d : Nat} {cs : Nat → Nat} {a0 : Nat} {a1 : Int32} {a2 : Int32} {a3 : Int32} {a4 : Int32} {a5 : Int32} {S : hS} {r : Int32 × hS} (hd : 8 ≤ d) (hf : f_X8_span a0 a1 a2 a3 a4 a5 S = some r) : HM yX8_span cX8_span 7 (some .int) d 0 0 cs [.ref a0, .int a1, .int a2, .int a3, .int a4, .int a5] S (some (.int r.1)) r.2 := by
  unfold f_X8_span at hf
  refine HM.ofHW false (by decide) (fun h => by cases h) (Nat.le_of_ble_eq_true rfl) ?_
  show HW cX8_span RX8 (x_X8_span d S [.ref a0, .int a1, .int a2, .int a3, .int a4, .int a5] r cs) 0 0 S 0 [(0, .ref a0), (1, .int a1), (2, .int a2), (3, .int a3), (4, .int a4), (5, .int a5)] []
  refine h_aload_n dX8_span_0 rfl 0 rfl ?_
  refine h_iload_n dX8_span_1 rfl 1 rfl ?_
  refine h_iload_n dX8_span_2 rfl 2 rfl ?_
  refine h_iconst (v := 0) dX8_span_3 rfl ?_
  refine h_bipush (v := 60) dX8_span_4 rfl ?_
  obtain ⟨g53, hf⟩ := hck_s hf
  obtain ⟨t3, S2, h1, hf⟩ := hb2_s hf
  refine h_Vr [.int a1, .int a2, .int 0, .int 60] (rest := []) (m_X8_ruleFor (d := 1) (cs := cs) (Nat.le_refl _) h1) v_X8_ruleFor q_735 rfl (Nat.le_trans (by decide) hd) g53 rfl rfl (Nat.le_of_ble_eq_true rfl) dX8_span_6 (Nat.le_refl _) (Nat.le_refl _) ?_
  refine h_astoreV (lv2 := [(6, va_rf t3), (0, .ref a0), (1, .int a1), (2, .int a2), (3, .int a3), (4, .int a4), (5, .int a5)]) dX8_span_9 (Nat.le_of_ble_eq_true rfl) rfl ?_
  refine h_aloadV dX8_span_11 0 rfl ?_
  refine h_ifnull (tgt := 53) dX8_span_13 (by decide) (fun c5 => ?_) (fun b4 c5 => ?_)
  · subst c5
    rw [hnl_n] at hf
    refine h_iconst (v := (-1)) dX8_span_53 rfl ?_
    obtain rfl := Option.some.inj hf
    exact h_iret rfl rfl rfl (Nat.le_refl _) (Nat.le_refl _) dX8_span_54
  · subst c5
    rw [hnl_s] at hf
    show HW cX8_span RX8 (x_X8_span d S [.ref a0, .int a1, .int a2, .int a3, .int a4, .int a5] r cs) 0 0 S2 16 [(6, .ref b4), (0, .ref a0), (1, .int a1), (2, .int a2), (3, .int a3), (4, .int a4), (5, .int a5)] []
    refine h_aload_n dX8_span_16 rfl 1 rfl ?_
    obtain ⟨t6, h7, hf⟩ := hbd_s hf
    refine h_getR h7 rfl (Nat.le_of_ble_eq_true rfl) rfl q_303 rfl dX8_span_17 ?_
    obtain ⟨t8, h9, hf⟩ := hbd_s hf
    refine h_getRN (host := "DeafSpot") h9 rfl (Nat.le_of_ble_eq_true rfl) rfl (List.mem_of_getElem? (i := 52) rfl) rfl dX8_span_20 ?_
    refine h_iload_n dX8_span_23 rfl 4 rfl ?_
    obtain ⟨g52, hf⟩ := hck_s hf
    obtain ⟨t12, S11, h10, hf⟩ := hb2_s hf
    refine h_Vi [.int a3] (rest := []) (m_X2_here (d := 1) (cs := cs) (Nat.le_refl _) h10) v_X2_here q_717 rfl (Nat.le_trans (by decide) hd) g52 rfl rfl (Nat.le_of_ble_eq_true rfl) dX8_span_24 (Nat.le_refl _) (Nat.le_refl _) ?_
    refine h_if_eq (tgt := 53) dX8_span_27 (by decide) (fun c13 => ?_) (fun c13 => ?_)
    · rw [if_pos c13] at hf
      refine h_iconst (v := (-1)) dX8_span_53 rfl ?_
      obtain rfl := Option.some.inj hf
      exact h_iret rfl rfl rfl (Nat.le_refl _) (Nat.le_refl _) dX8_span_54
    · rw [if_neg c13] at hf
      refine h_iload dX8_span_30 5 rfl ?_
      refine h_if_lt (tgt := 53) dX8_span_32 (by decide) (fun c14 => ?_) (fun c14 => ?_)
      · rw [if_pos c14] at hf
        refine h_iconst (v := (-1)) dX8_span_53 rfl ?_
        obtain rfl := Option.some.inj hf
        exact h_iret rfl rfl rfl (Nat.le_refl _) (Nat.le_refl _) dX8_span_54
      · rw [if_neg c14] at hf
        refine h_iload dX8_span_35 5 rfl ?_
        refine h_bipush (v := 20) dX8_span_37 rfl ?_
        refine h_icmp_gt (tgt := 53) dX8_span_39 (by decide) (fun c15 => ?_) (fun c15 => ?_)
        · rw [if_pos c15] at hf
          refine h_iconst (v := (-1)) dX8_span_53 rfl ?_
          obtain rfl := Option.some.inj hf
          exact h_iret rfl rfl rfl (Nat.le_refl _) (Nat.le_refl _) dX8_span_54
        · rw [if_neg c15] at hf
          refine h_iload dX8_span_42 6 rfl ?_
          refine h_if_lt (tgt := 53) dX8_span_44 (by decide) (fun c16 => ?_) (fun c16 => ?_)
          · rw [if_pos c16] at hf
            refine h_iconst (v := (-1)) dX8_span_53 rfl ?_
            obtain rfl := Option.some.inj hf
            exact h_iret rfl rfl rfl (Nat.le_refl _) (Nat.le_refl _) dX8_span_54
          · rw [if_neg c16] at hf
            refine h_iload dX8_span_47 6 rfl ?_
            refine h_iconst (v := 4) dX8_span_49 rfl ?_
            refine h_icmp_le (tgt := 55) dX8_span_50 (by decide) (fun c17 => ?_) (fun c17 => ?_)
            · rw [if_pos c17] at hf
              refine h_aload_n dX8_span_55 rfl 1 rfl ?_
              obtain ⟨t18, h19, hf⟩ := hbd_s hf
              refine h_getR h19 rfl (Nat.le_of_ble_eq_true rfl) rfl q_309 rfl dX8_span_56 ?_
              refine h_iconst (v := 3) dX8_span_59 rfl ?_
              refine h_iload_n dX8_span_60 rfl 2 rfl ?_
              refine h_iload_n dX8_span_61 rfl 3 rfl ?_
              refine h_iload_n dX8_span_62 rfl 4 rfl ?_
              refine h_iload dX8_span_63 5 rfl ?_
              obtain ⟨g51, hf⟩ := hck_s hf
              obtain ⟨t22, S21, h20, hf⟩ := hb2_s hf
              refine h_Vi [.int 3, .int a1, .int a2, .int a3, .int a4] (rest := []) (m_X1_answers (d := 1) (cs := cs) (Nat.le_refl _) h20) v_X1_answers q_807 rfl (Nat.le_trans (by decide) hd) g51 rfl rfl (Nat.le_of_ble_eq_true rfl) dX8_span_65 (Nat.le_refl _) (Nat.le_refl _) ?_
              refine hj_s (fun J23 => ∀ (S24 : hS), J23 S24 = some r → HW cX8_span RX8 (x_X8_span d S [.ref a0, .int a1, .int a2, .int a3, .int a4, .int a5] r cs) 0 0 S24 112 [(0, .ref a0), (5, .int a5)] []) hf ?_ ?_
              · intro S24 hf
                refine h_aload_n dX8_span_112 rfl 0 rfl ?_
                obtain ⟨t25, h26, hf⟩ := hbd_s hf
                refine h_getR h26 rfl (Nat.le_of_ble_eq_true rfl) rfl q_309 rfl dX8_span_113 ?_
                refine h_iload dX8_span_116 1 rfl ?_
                obtain ⟨g30, hf⟩ := hck_s hf
                obtain ⟨t29, S28, h27, hf⟩ := hb2_s hf
                refine h_Vi [.int a5] (rest := []) (m_X1_part (d := 1) (cs := cs) (Nat.le_refl _) h27) v_X1_part q_837 rfl (Nat.le_trans (by decide) hd) g30 rfl rfl (Nat.le_of_ble_eq_true rfl) dX8_span_118 (Nat.le_refl _) (Nat.le_refl _) ?_
                obtain rfl := Option.some.inj hf
                exact h_iret rfl rfl rfl (Nat.le_refl _) (Nat.le_refl _) dX8_span_121
              · intro J23 hJ23 hf
                refine h_if_ne (tgt := 112) dX8_span_68 (by decide) (fun c31 => ?_) (fun c31 => ?_)
                · rw [if_neg c31] at hf
                  refine h_sub (lv2 := [(0, .ref a0), (5, .int a5)]) [1, 6] rfl ?_
                  exact hJ23 S21 hf
                · rw [if_pos c31] at hf
                  refine h_aload_n dX8_span_71 rfl 1 rfl ?_
                  obtain ⟨t32, h33, hf⟩ := hbd_s hf
                  refine h_getR h33 rfl (Nat.le_of_ble_eq_true rfl) rfl q_309 rfl dX8_span_72 ?_
                  refine h_iconst (v := 3) dX8_span_75 rfl ?_
                  refine h_iload_n dX8_span_76 rfl 2 rfl ?_
                  refine h_iload_n dX8_span_77 rfl 3 rfl ?_
                  refine h_iload_n dX8_span_78 rfl 4 rfl ?_
                  refine h_iload dX8_span_79 5 rfl ?_
                  obtain ⟨g50, hf⟩ := hck_s hf
                  obtain ⟨S35, h34, hf⟩ := hbd_s hf
                  refine h_Vv [.int 3, .int a1, .int a2, .int a3, .int a4] (rest := []) (m_X1_begin (d := 1) (cs := cs) (Nat.le_refl _) h34) v_X1_begin q_811 rfl (Nat.le_trans (by decide) hd) g50 rfl rfl (Nat.le_of_ble_eq_true rfl) dX8_span_81 (Nat.le_refl _) (Nat.le_refl _) ?_
                  refine h_aload_n dX8_span_84 rfl 1 rfl ?_
                  refine h_aload dX8_span_85 0 rfl ?_
                  refine h_iload_n dX8_span_87 rfl 3 rfl ?_
                  refine h_iload_n dX8_span_88 rfl 4 rfl ?_
                  refine h_iload dX8_span_89 5 rfl ?_
                  obtain ⟨g49, hf⟩ := hck_s hf
                  obtain ⟨S37, h36, hf⟩ := hbd_s hf
                  refine h_Vv [.ref b4, .int a2, .int a3, .int a4] (rest := []) (m_X8_markSpan (d := 7) (cs := cs) (Nat.le_refl _) h36) v_X8_markSpan q_875 rfl (Nat.le_trans (by decide) hd) g49 rfl rfl (Nat.le_of_ble_eq_true rfl) dX8_span_91 (Nat.le_refl _) (Nat.le_refl _) ?_
                  refine h_aload_n dX8_span_94 rfl 1 rfl ?_
                  obtain ⟨t38, h39, hf⟩ := hbd_s hf
                  refine h_getR h39 rfl (Nat.le_of_ble_eq_true rfl) rfl q_309 rfl dX8_span_95 ?_
                  refine h_aload_n dX8_span_98 rfl 1 rfl ?_
                  obtain ⟨t40, h41, hf⟩ := hbd_s hf
                  refine h_getR h41 rfl (Nat.le_of_ble_eq_true rfl) rfl q_303 rfl dX8_span_99 ?_
                  obtain ⟨t42, h43, hf⟩ := hbd_s hf
                  refine h_getRN (host := "DeafSpot") h43 rfl (Nat.le_of_ble_eq_true rfl) rfl (List.mem_of_getElem? (i := 50) rfl) rfl dX8_span_102 ?_
                  refine h_aload_n dX8_span_105 rfl 1 rfl ?_
                  obtain ⟨t44, h45, hf⟩ := hbd_s hf
                  refine h_getR h45 rfl (Nat.le_of_ble_eq_true rfl) rfl q_310 rfl dX8_span_106 ?_
                  obtain ⟨g48, hf⟩ := hck_s hf
                  obtain ⟨S47, h46, hf⟩ := hbd_s hf
                  refine h_Vv [.ref t42, .ref t44] (rest := []) (m_X1_keepSpan (d := 2) (cs := cs) (Nat.le_refl _) h46) v_X1_keepSpan q_884 rfl (Nat.le_trans (by decide) hd) g48 rfl rfl (Nat.le_of_ble_eq_true rfl) dX8_span_109 (Nat.le_refl _) (Nat.le_refl _) ?_
                  refine h_sub (lv2 := [(0, .ref a0), (5, .int a5)]) [1, 6] rfl ?_
                  exact hJ23 S47 hf
            · rw [if_neg c17] at hf
              refine h_iconst (v := (-1)) dX8_span_53 rfl ?_
              obtain rfl := Option.some.inj hf
              exact h_iret rfl rfl rfl (Nat.le_refl _) (Nat.le_refl _) dX8_span_54
