abbrev x_X8_markSpan (d : Nat) (S0 : hS) (args : List Value) (r : hS) (cs : Nat → Nat) : hX := ((none, 8, d, 0, 0, false), (S0, args, none, r), cs)
theorem v_X8_markSpan : hVW yX8_markSpan cX8_markSpan 8 none RX8 4 := ⟨q_877, q_s32, q_1, q_878, by decide +kernel, by decide⟩
def f_X8_markSpan_L56 : Nat → Nat → Nat → Int32 → Int32 → Int32 → Int32 → hS → (hS → Option (hS)) → Option (hS)
  | 0, _, _, _, _, _, _, _, _ => none
  | n + 1, x0, x1, x2, x3, x6, x7, S, k0 =>
    if x6 < x7 then
      (k0 S)
    else
      (hbd (gR S x0 8 5) fun t2 =>
       hbd (gR S x0 8 3) fun t4 =>
       hck (S.K t2 = 1) <|
       hbd (f_X0_rewind t2 t4 S) fun S7 =>
       hbd (gR S7 x0 8 5) fun t8 =>
       hbd (gR S7 t8 0 1) fun t10 =>
       hbd (gR S7 t10 2 2) fun t12 =>
       hbd (sA S7 t12 x3 x7) fun S14 =>
       hbd (gR S14 x0 8 5) fun t16 =>
       hck (S14.K t16 = 1) <|
       hbd (f_X0_pass t16 x1 x2 S14) fun S19 =>
       hbd (gR S19 x0 8 10) fun t20 =>
       hbd (gR S19 x0 8 5) fun t22 =>
       hbd (gI S19 t22 0 4) fun t24 =>
       hbd (sA S19 t20 t24 1) fun S26 =>
       f_X8_markSpan_L56 n x0 x1 x2 x3 x6 (x7 + 1) S26 k0)
def f_X8_markSpan (a0 : Nat) (a1 : Nat) (a2 : Int32) (a3 : Int32) (a4 : Int32) (S : hS) : Option (hS) :=
  hbd (gR S a0 8 10) fun t30 =>
  hbd (f_J7_fill_53178 t30 0 S) fun S33 =>
  hbd (gR S33 a0 8 3) fun t34 =>
  hbd (gR S33 t34 0 1) fun t36 =>
  hbd (gR S33 t36 2 2) fun t38 =>
  hbd (gA S33 t38 12 a3) fun t40 =>
  hbd (gR S33 a0 8 5) fun t42 =>
  hbd (gR S33 a0 8 3) fun t44 =>
  hck (S33.K t42 = 1) <|
  hbd (f_X0_copy t42 t44 S33) fun S47 =>
  f_X8_markSpan_L56 hfuel a0 a1 a2 a3 (if (t40 + a4) < 99 then (t40 + a4) else 99) (if 0 < (t40 - a4) then (t40 - a4) else 0) S47
    (fun S48 =>
      some S48
    )
set_option maxRecDepth 100000 in
set_option maxHeartbeats 4000000 in
theorem w_X8_markSpan_L56 {d : Nat} {S0 : hS} {args : List Value} {cs : Nat → Nat} {r : hS} (hd : 7 ≤ d) : ∀ (n : Nat) (x0 : Nat) (x1 : Nat) (x2 : Int32) (x3 : Int32) (x6 : Int32) (x7 : Int32) (S : hS) (k0 : (hS → Option (hS))) , f_X8_markSpan_L56 n x0 x1 x2 x3 x6 x7 S k0 = some r → (∀ (T : hS), k0 T = some r → HW cX8_markSpan RX8 (x_X8_markSpan d S0 args r cs) 0 0 T 116 [] []) → HW cX8_markSpan RX8 (x_X8_markSpan d S0 args r cs) 0 0 S 56 [(0, .ref x0), (1, .ref x1), (2, .int x2), (3, .int x3), (6, .int x6), (7, .int x7)] [] := by
  intro n
  induction n with
  | zero =>
    intro x0 x1 x2 x3 x6 x7 S k0 hf
    cases hf
  | succ n ih =>
    intro x0 x1 x2 x3 x6 x7 S k0 hf hk0
    rw [f_X8_markSpan_L56] at hf
    refine h_iload dX8_markSpan_56 5 rfl ?_
    refine h_iload dX8_markSpan_58 4 rfl ?_
    refine h_icmp_gt (tgt := 116) dX8_markSpan_60 (by decide) (fun c1 => ?_) (fun c1 => ?_)
    · replace hf := hif_p c1 hf
      refine h_sub (lv2 := []) [] rfl ?_
      exact hk0 S hf
    · replace hf := hif_n c1 hf
      refine h_aload_n dX8_markSpan_63 rfl 0 rfl ?_
      obtain ⟨t2, h3, hf⟩ := hbd_s hf
      refine h_getR h3 rfl (Nat.le_of_ble_eq_true rfl) rfl q_305 rfl dX8_markSpan_64 ?_
      refine h_aload_n dX8_markSpan_67 rfl 0 rfl ?_
      obtain ⟨t4, h5, hf⟩ := hbd_s hf
      refine h_getR h5 rfl (Nat.le_of_ble_eq_true rfl) rfl q_303 rfl dX8_markSpan_68 ?_
      obtain ⟨g29, hf⟩ := hck_s hf
      obtain ⟨S7, h6, hf⟩ := hbd_s hf
      refine h_Vv [.ref t4] (rest := []) (m_X0_rewind (d := 2) (cs := cs) (Nat.le_refl _) h6) v_X0_rewind q_819 rfl (Nat.le_trans (by decide) hd) g29 rfl rfl (Nat.le_of_ble_eq_true rfl) dX8_markSpan_71 (Nat.le_refl _) (Nat.le_refl _) ?_
      refine h_aload_n dX8_markSpan_74 rfl 0 rfl ?_
      obtain ⟨t8, h9, hf⟩ := hbd_s hf
      refine h_getR h9 rfl (Nat.le_of_ble_eq_true rfl) rfl q_305 rfl dX8_markSpan_75 ?_
      obtain ⟨t10, h11, hf⟩ := hbd_s hf
      refine h_getRN (host := "DeafSpot") h11 rfl (Nat.le_of_ble_eq_true rfl) rfl (List.mem_of_getElem? (i := 52) rfl) rfl dX8_markSpan_78 ?_
      obtain ⟨t12, h13, hf⟩ := hbd_s hf
      refine h_getRN (host := "DeafSpot") h13 rfl (Nat.le_of_ble_eq_true rfl) rfl (List.mem_of_getElem? (i := 41) rfl) rfl dX8_markSpan_81 ?_
      refine h_iload_n dX8_markSpan_84 rfl 3 rfl ?_
      refine h_iload dX8_markSpan_85 5 rfl ?_
      obtain ⟨S14, h15, hf⟩ := hbd_s hf
      refine h_iast h15 dX8_markSpan_87 ?_
      refine h_aload_n dX8_markSpan_88 rfl 0 rfl ?_
      obtain ⟨t16, h17, hf⟩ := hbd_s hf
      refine h_getR h17 rfl (Nat.le_of_ble_eq_true rfl) rfl q_305 rfl dX8_markSpan_89 ?_
      refine h_aload_n dX8_markSpan_92 rfl 1 rfl ?_
      refine h_iload_n dX8_markSpan_93 rfl 2 rfl ?_
      obtain ⟨g28, hf⟩ := hck_s hf
      obtain ⟨S19, h18, hf⟩ := hbd_s hf
      refine h_Vv [.ref x1, .int x2] (rest := []) (m_X0_pass (d := 6) (cs := cs) (Nat.le_refl _) h18) v_X0_pass q_739 rfl (Nat.le_trans (by decide) hd) g28 rfl rfl (Nat.le_of_ble_eq_true rfl) dX8_markSpan_94 (Nat.le_refl _) (Nat.le_refl _) ?_
      refine h_aload_n dX8_markSpan_97 rfl 0 rfl ?_
      obtain ⟨t20, h21, hf⟩ := hbd_s hf
      refine h_getR h21 rfl (Nat.le_of_ble_eq_true rfl) rfl q_310 rfl dX8_markSpan_98 ?_
      refine h_aload_n dX8_markSpan_101 rfl 0 rfl ?_
      obtain ⟨t22, h23, hf⟩ := hbd_s hf
      refine h_getR h23 rfl (Nat.le_of_ble_eq_true rfl) rfl q_305 rfl dX8_markSpan_102 ?_
      obtain ⟨t24, h25, hf⟩ := hbd_s hf
      refine h_getIN (host := "DeafSpot") h25 rfl (Nat.le_of_ble_eq_true rfl) rfl (List.mem_of_getElem? (i := 55) rfl) rfl dX8_markSpan_105 ?_
      refine h_iconst (v := 1) dX8_markSpan_108 rfl ?_
      obtain ⟨S26, h27, hf⟩ := hbd_s hf
      refine h_iast h27 dX8_markSpan_109 ?_
      refine h_iinc (q := 5) (v := x7 + 1) (lv2 := [(7, .int (x7 + 1)), (0, .ref x0), (1, .ref x1), (2, .int x2), (3, .int x3), (6, .int x6)]) dX8_markSpan_110 rfl rfl (Nat.le_of_ble_eq_true rfl) rfl ?_
      refine h_goto (tgt := 56) dX8_markSpan_113 (by decide) ?_
      refine h_sub (lv2 := [(0, .ref x0), (1, .ref x1), (2, .int x2), (3, .int x3), (6, .int x6), (7, .int (x7 + 1))]) [1, 2, 3, 4, 5, 0] rfl ?_
      exact ih x0 x1 x2 x3 x6 (x7 + 1) S26 k0  hf hk0
set_option maxRecDepth 100000 in
set_option maxHeartbeats 4000000 in
theorem m_X8_markSpan {d : Nat} {cs : Nat → Nat} {a0 : Nat} {a1 : Nat} {a2 : Int32} {a3 : Int32} {a4 : Int32} {S : hS} {r : hS} (hd : 7 ≤ d) (hf : f_X8_markSpan a0 a1 a2 a3 a4 S = some r) : HM yX8_markSpan cX8_markSpan 8 none d 0 0 cs [.ref a0, .ref a1, .int a2, .int a3, .int a4] S (none) r := by
  unfold f_X8_markSpan at hf
  refine HM.ofHW false (by decide) (fun h => by cases h) (Nat.le_of_ble_eq_true rfl) ?_
  show HW cX8_markSpan RX8 (x_X8_markSpan d S [.ref a0, .ref a1, .int a2, .int a3, .int a4] r cs) 0 0 S 0 [(0, .ref a0), (1, .ref a1), (2, .int a2), (3, .int a3), (4, .int a4)] []
  refine h_aload_n dX8_markSpan_0 rfl 0 rfl ?_
  obtain ⟨t30, h31, hf⟩ := hbd_s hf
  refine h_getR h31 rfl (Nat.le_of_ble_eq_true rfl) rfl q_310 rfl dX8_markSpan_1 ?_
  refine h_iconst (v := 0) dX8_markSpan_4 rfl ?_
  obtain ⟨S33, h32, hf⟩ := hbd_s hf
  refine h_Sv [.ref t30, .int 0] (rest := []) (m_J7_fill_53178 (d := 1) (cs := cs) (Nat.le_refl _) h32) v_J7_fill_53178 q_879 rfl (Nat.le_trans (by decide) hd) rfl (Nat.le_of_ble_eq_true rfl) dX8_markSpan_5 (Nat.le_refl _) (Nat.le_refl _) ?_
  refine h_aload_n dX8_markSpan_8 rfl 0 rfl ?_
  obtain ⟨t34, h35, hf⟩ := hbd_s hf
  refine h_getR h35 rfl (Nat.le_of_ble_eq_true rfl) rfl q_303 rfl dX8_markSpan_9 ?_
  obtain ⟨t36, h37, hf⟩ := hbd_s hf
  refine h_getRN (host := "DeafSpot") h37 rfl (Nat.le_of_ble_eq_true rfl) rfl (List.mem_of_getElem? (i := 52) rfl) rfl dX8_markSpan_12 ?_
  obtain ⟨t38, h39, hf⟩ := hbd_s hf
  refine h_getRN (host := "DeafSpot") h39 rfl (Nat.le_of_ble_eq_true rfl) rfl (List.mem_of_getElem? (i := 41) rfl) rfl dX8_markSpan_15 ?_
  refine h_iload_n dX8_markSpan_18 rfl 3 rfl ?_
  obtain ⟨t40, h41, hf⟩ := hbd_s hf
  refine h_iald h41 dX8_markSpan_19 ?_
  refine h_istore (lv2 := [(5, .int t40), (0, .ref a0), (1, .ref a1), (2, .int a2), (3, .int a3), (4, .int a4)]) dX8_markSpan_20 (Nat.le_of_ble_eq_true rfl) rfl ?_
  refine h_bipush (v := 99) dX8_markSpan_22 rfl ?_
  refine h_iload dX8_markSpan_24 0 rfl ?_
  refine h_iload dX8_markSpan_26 5 rfl ?_
  refine h_iadd dX8_markSpan_28 ?_
  refine h_mmin q_880 q_485 q_15 qm_min (Nat.le_trans (by decide) hd) (Nat.le_of_ble_eq_true rfl) (Nat.le_refl _) (Nat.le_refl _) dX8_markSpan_29 ?_
  refine h_istore (lv2 := [(6, .int (if (t40 + a4) < 99 then (t40 + a4) else 99)), (5, .int t40), (0, .ref a0), (1, .ref a1), (2, .int a2), (3, .int a3), (4, .int a4)]) dX8_markSpan_32 (Nat.le_of_ble_eq_true rfl) rfl ?_
  refine h_aload_n dX8_markSpan_34 rfl 2 rfl ?_
  obtain ⟨t42, h43, hf⟩ := hbd_s hf
  refine h_getR h43 rfl (Nat.le_of_ble_eq_true rfl) rfl q_305 rfl dX8_markSpan_35 ?_
  refine h_aload_n dX8_markSpan_38 rfl 2 rfl ?_
  obtain ⟨t44, h45, hf⟩ := hbd_s hf
  refine h_getR h45 rfl (Nat.le_of_ble_eq_true rfl) rfl q_303 rfl dX8_markSpan_39 ?_
  obtain ⟨g49, hf⟩ := hck_s hf
  obtain ⟨S47, h46, hf⟩ := hbd_s hf
  refine h_Vv [.ref t44] (rest := []) (m_X0_copy (d := 3) (cs := cs) (Nat.le_refl _) h46) v_X0_copy q_567 rfl (Nat.le_trans (by decide) hd) g49 rfl rfl (Nat.le_of_ble_eq_true rfl) dX8_markSpan_42 (Nat.le_refl _) (Nat.le_refl _) ?_
  refine h_iconst (v := 0) dX8_markSpan_45 rfl ?_
  refine h_iload dX8_markSpan_46 1 rfl ?_
  refine h_iload dX8_markSpan_48 6 rfl ?_
  refine h_isub dX8_markSpan_50 ?_
  refine h_mmax q_881 q_882 q_15 qm_max (Nat.le_trans (by decide) hd) (Nat.le_of_ble_eq_true rfl) (Nat.le_refl _) (Nat.le_refl _) dX8_markSpan_51 ?_
  refine h_istore (lv2 := [(7, .int (if 0 < (t40 - a4) then (t40 - a4) else 0)), (6, .int (if (t40 + a4) < 99 then (t40 + a4) else 99)), (5, .int t40), (0, .ref a0), (1, .ref a1), (2, .int a2), (3, .int a3), (4, .int a4)]) dX8_markSpan_54 (Nat.le_of_ble_eq_true rfl) rfl ?_
  refine h_sub (lv2 := [(0, .ref a0), (1, .ref a1), (2, .int a2), (3, .int a3), (6, .int (if (t40 + a4) < 99 then (t40 + a4) else 99)), (7, .int (if 0 < (t40 - a4) then (t40 - a4) else 0))]) [3, 4, 5, 6, 1, 0] rfl ?_
  refine w_X8_markSpan_L56 hd hfuel a0 a1 a2 a3 (if (t40 + a4) < 99 then (t40 + a4) else 99) (if 0 < (t40 - a4) then (t40 - a4) else 0) S47 _  hf ?_
  · intro S48 hf
    obtain rfl := Option.some.inj hf
    exact h_vret rfl rfl rfl (Nat.le_refl _) (Nat.le_refl _) dX8_markSpan_116
abbrev x_X8_there (d : Nat) (S0 : hS) (args : List Value) (r : Int32 × hS) (cs : Nat → Nat) : hX := (((some .int), 6, d, 0, 0, false), (S0, args, some (.int r.1), r.2), cs)
theorem v_X8_there : hVW yX8_there cX8_there 6 (some .int) RX8 3 := ⟨q_784, q_785, q_1, q_786, by decide +kernel, by decide⟩
def f_X8_there (a0 : Nat) (a1 : Int32) (a2 : Int32) (a3 : Int32) (S : hS) : Option (Int32 × hS) :=
  hck (S.K a0 = 9) <|
  hb2 (f_X8_ruleFor a0 a1 a2 0 60 S) fun t3 S2 =>
  hnl t3 (
    some ((-1), S2)
    ) fun b4 =>
  if a3 < 0 then
    (some ((-1), S2))
  else
    (if a3 ≤ 1 then
       (hck (S2.K a0 = 9) <|
        hb2 (f_X8_spotAhead a0 b4 a2 S2) fun t10 S9 =>
        if a3 = 0 then
          (hbd (gR S9 a0 8 3) fun t20 =>
           hbd (gR S9 t20 0 0) fun t22 =>
           hck (S9.K t22 = 7) <|
           hb2 (f_X6_columnOf t22 t10 S9) fun t26 S25 =>
           some (t26, S25))
        else
          (hbd (gR S9 a0 8 3) fun t12 =>
           hbd (gR S9 t12 0 0) fun t14 =>
           hck (S9.K t14 = 7) <|
           hb2 (f_X6_rowOf t14 t10 S9) fun t18 S17 =>
           some (t18, S17)))
     else
       (some ((-1), S2)))
set_option maxRecDepth 100000 in
set_option maxHeartbeats 4000000 in
theorem m_X8_there {d : Nat} {cs : Nat → Nat} {a0 : Nat} {a1 : Int32} {a2 : Int32} {a3 : Int32} {S : hS} {r : Int32 × hS} (hd : 8 ≤ d) (hf : f_X8_there a0 a1 a2 a3 S = some r) : HM yX8_there cX8_there 6 (some .int) d 0 0 cs [.ref a0, .int a1, .int a2, .int a3] S (some (.int r.1)) r.2 := by
  unfold f_X8_there at hf
  refine HM.ofHW false (by decide) (fun h => by cases h) (Nat.le_of_ble_eq_true rfl) ?_
  show HW cX8_there RX8 (x_X8_there d S [.ref a0, .int a1, .int a2, .int a3] r cs) 0 0 S 0 [(0, .ref a0), (1, .int a1), (2, .int a2), (3, .int a3)] []
  refine h_aload_n dX8_there_0 rfl 0 rfl ?_
  refine h_iload_n dX8_there_1 rfl 1 rfl ?_
  refine h_iload_n dX8_there_2 rfl 2 rfl ?_
  refine h_iconst (v := 0) dX8_there_3 rfl ?_
  refine h_bipush (v := 60) dX8_there_4 rfl ?_
  obtain ⟨g29, hf⟩ := hck_s hf
  obtain ⟨t3, S2, h1, hf⟩ := hb2_s hf
  refine h_Vr [.int a1, .int a2, .int 0, .int 60] (rest := []) (m_X8_ruleFor (d := 1) (cs := cs) (Nat.le_refl _) h1) v_X8_ruleFor q_735 rfl (Nat.le_trans (by decide) hd) g29 rfl rfl (Nat.le_of_ble_eq_true rfl) dX8_there_6 (Nat.le_refl _) (Nat.le_refl _) ?_
  refine h_astoreV (lv2 := [(4, va_rf t3), (0, .ref a0), (1, .int a1), (2, .int a2), (3, .int a3)]) dX8_there_9 (Nat.le_of_ble_eq_true rfl) rfl ?_
  refine h_aloadV dX8_there_11 0 rfl ?_
  refine h_ifnull (tgt := 25) dX8_there_13 (by decide) (fun c5 => ?_) (fun b4 c5 => ?_)
  · subst c5
    replace hf := hnl_N hf
    refine h_iconst (v := (-1)) dX8_there_25 rfl ?_
    obtain rfl := Option.some.inj hf
    exact h_iret rfl rfl rfl (Nat.le_refl _) (Nat.le_refl _) dX8_there_26
  · subst c5
    replace hf := hnl_S hf
    show HW cX8_there RX8 (x_X8_there d S [.ref a0, .int a1, .int a2, .int a3] r cs) 0 0 S2 16 [(4, .ref b4), (0, .ref a0), (1, .int a1), (2, .int a2), (3, .int a3)] []
    refine h_iload_n dX8_there_16 rfl 4 rfl ?_
    refine h_if_lt (tgt := 25) dX8_there_17 (by decide) (fun c6 => ?_) (fun c6 => ?_)
    · replace hf := hif_p c6 hf
      refine h_iconst (v := (-1)) dX8_there_25 rfl ?_
      obtain rfl := Option.some.inj hf
      exact h_iret rfl rfl rfl (Nat.le_refl _) (Nat.le_refl _) dX8_there_26
    · replace hf := hif_n c6 hf
      refine h_iload_n dX8_there_20 rfl 4 rfl ?_
      refine h_iconst (v := 1) dX8_there_21 rfl ?_
      refine h_icmp_le (tgt := 27) dX8_there_22 (by decide) (fun c7 => ?_) (fun c7 => ?_)
      · replace hf := hif_p c7 hf
        refine h_aload_n dX8_there_27 rfl 1 rfl ?_
        refine h_aload dX8_there_28 0 rfl ?_
        refine h_iload_n dX8_there_30 rfl 3 rfl ?_
        obtain ⟨g28, hf⟩ := hck_s hf
        obtain ⟨t10, S9, h8, hf⟩ := hb2_s hf
        refine h_Vi [.ref b4, .int a2] (rest := []) (m_X8_spotAhead (d := 7) (cs := cs) (Nat.le_refl _) h8) v_X8_spotAhead q_787 rfl (Nat.le_trans (by decide) hd) g28 rfl rfl (Nat.le_of_ble_eq_true rfl) dX8_there_31 (Nat.le_refl _) (Nat.le_refl _) ?_
        refine h_istore (lv2 := [(5, .int t10), (4, .ref b4), (0, .ref a0), (1, .int a1), (2, .int a2), (3, .int a3)]) dX8_there_34 (Nat.le_of_ble_eq_true rfl) rfl ?_
        refine h_iload_n dX8_there_36 rfl 5 rfl ?_
        refine h_if_ne (tgt := 55) dX8_there_37 (by decide) (fun c11 => ?_) (fun c11 => ?_)
        · replace hf := hif_n c11 hf
          refine h_aload_n dX8_there_55 rfl 2 rfl ?_
          obtain ⟨t12, h13, hf⟩ := hbd_s hf
          refine h_getR h13 rfl (Nat.le_of_ble_eq_true rfl) rfl q_303 rfl dX8_there_56 ?_
          obtain ⟨t14, h15, hf⟩ := hbd_s hf
          refine h_getRN (host := "DeafSpot") h15 rfl (Nat.le_of_ble_eq_true rfl) rfl (List.mem_of_getElem? (i := 50) rfl) rfl dX8_there_59 ?_
          refine h_iload dX8_there_62 0 rfl ?_
          obtain ⟨g19, hf⟩ := hck_s hf
          obtain ⟨t18, S17, h16, hf⟩ := hb2_s hf
          refine h_Vi [.int t10] (rest := []) (m_X6_rowOf (d := 1) (cs := cs) (Nat.le_refl _) h16) v_X6_rowOf q_700 rfl (Nat.le_trans (by decide) hd) g19 rfl rfl (Nat.le_of_ble_eq_true rfl) dX8_there_64 (Nat.le_refl _) (Nat.le_refl _) ?_
          obtain rfl := Option.some.inj hf
          exact h_iret rfl rfl rfl (Nat.le_refl _) (Nat.le_refl _) dX8_there_67
        · replace hf := hif_p c11 hf
          refine h_aload_n dX8_there_40 rfl 2 rfl ?_
          obtain ⟨t20, h21, hf⟩ := hbd_s hf
          refine h_getR h21 rfl (Nat.le_of_ble_eq_true rfl) rfl q_303 rfl dX8_there_41 ?_
          obtain ⟨t22, h23, hf⟩ := hbd_s hf
          refine h_getRN (host := "DeafSpot") h23 rfl (Nat.le_of_ble_eq_true rfl) rfl (List.mem_of_getElem? (i := 50) rfl) rfl dX8_there_44 ?_
          refine h_iload dX8_there_47 0 rfl ?_
          obtain ⟨g27, hf⟩ := hck_s hf
          obtain ⟨t26, S25, h24, hf⟩ := hb2_s hf
          refine h_Vi [.int t10] (rest := []) (m_X6_columnOf (d := 1) (cs := cs) (Nat.le_refl _) h24) v_X6_columnOf q_696 rfl (Nat.le_trans (by decide) hd) g27 rfl rfl (Nat.le_of_ble_eq_true rfl) dX8_there_49 (Nat.le_refl _) (Nat.le_refl _) ?_
          refine h_goto (tgt := 67) dX8_there_52 (by decide) ?_
          obtain rfl := Option.some.inj hf
          exact h_iret rfl rfl rfl (Nat.le_refl _) (Nat.le_refl _) dX8_there_67
      · replace hf := hif_n c7 hf
        refine h_iconst (v := (-1)) dX8_there_25 rfl ?_
        obtain rfl := Option.some.inj hf
        exact h_iret rfl rfl rfl (Nat.le_refl _) (Nat.le_refl _) dX8_there_26
abbrev x_X8_deaf (d : Nat) (S0 : hS) (args : List Value) (r : Int32 × hS) (cs : Nat → Nat) : hX := (((some .int), 5, d, 0, 0, false), (S0, args, some (.int r.1), r.2), cs)
theorem v_X8_deaf : hVW yX8_deaf cX8_deaf 5 (some .int) RX8 3 := ⟨q_792, q_793, q_1, q_794, by decide +kernel, by decide⟩
def f_X8_deaf (a0 : Nat) (a1 : Int32) (a2 : Int32) (a3 : Int32) (S : hS) : Option (Int32 × hS) :=
  hck (S.K a0 = 9) <|
  hb2 (f_X8_ruleFor a0 a1 a2 0 60 S) fun t3 S2 =>
  hnl t3 (
    some ((-1), S2)
    ) fun b4 =>
  hbd (gR S2 a0 8 3) fun t6 =>
  hbd (gR S2 t6 0 1) fun t8 =>
  hck (S2.K t8 = 3) <|
  hb2 (f_X2_known t8 a3 S2) fun t12 S11 =>
  if t12 = 0 then
    (some ((-1), S11))
  else
    (hck (S11.K a0 = 9) <|
     hb2 (f_X8_spotAhead a0 b4 a2 S11) fun t16 S15 =>
     hck (S15.K a0 = 9) <|
     hb2 (f_X8_deafMinutes a0 a3 S15) fun t19 S18 =>
     some (t19, S18))
set_option maxRecDepth 100000 in
set_option maxHeartbeats 4000000 in
theorem m_X8_deaf {d : Nat} {cs : Nat → Nat} {a0 : Nat} {a1 : Int32} {a2 : Int32} {a3 : Int32} {S : hS} {r : Int32 × hS} (hd : 8 ≤ d) (hf : f_X8_deaf a0 a1 a2 a3 S = some r) : HM yX8_deaf cX8_deaf 5 (some .int) d 0 0 cs [.ref a0, .int a1, .int a2, .int a3] S (some (.int r.1)) r.2 := by
  unfold f_X8_deaf at hf
  refine HM.ofHW false (by decide) (fun h => by cases h) (Nat.le_of_ble_eq_true rfl) ?_
  show HW cX8_deaf RX8 (x_X8_deaf d S [.ref a0, .int a1, .int a2, .int a3] r cs) 0 0 S 0 [(0, .ref a0), (1, .int a1), (2, .int a2), (3, .int a3)] []
  refine h_aload_n dX8_deaf_0 rfl 0 rfl ?_
  refine h_iload_n dX8_deaf_1 rfl 1 rfl ?_
  refine h_iload_n dX8_deaf_2 rfl 2 rfl ?_
  refine h_iconst (v := 0) dX8_deaf_3 rfl ?_
  refine h_bipush (v := 60) dX8_deaf_4 rfl ?_
  obtain ⟨g23, hf⟩ := hck_s hf
  obtain ⟨t3, S2, h1, hf⟩ := hb2_s hf
  refine h_Vr [.int a1, .int a2, .int 0, .int 60] (rest := []) (m_X8_ruleFor (d := 1) (cs := cs) (Nat.le_refl _) h1) v_X8_ruleFor q_735 rfl (Nat.le_trans (by decide) hd) g23 rfl rfl (Nat.le_of_ble_eq_true rfl) dX8_deaf_6 (Nat.le_refl _) (Nat.le_refl _) ?_
  refine h_astoreV (lv2 := [(4, va_rf t3), (0, .ref a0), (1, .int a1), (2, .int a2), (3, .int a3)]) dX8_deaf_9 (Nat.le_of_ble_eq_true rfl) rfl ?_
  refine h_aloadV dX8_deaf_11 0 rfl ?_
  refine h_ifnull (tgt := 30) dX8_deaf_13 (by decide) (fun c5 => ?_) (fun b4 c5 => ?_)
  · subst c5
    replace hf := hnl_N hf
    refine h_iconst (v := (-1)) dX8_deaf_30 rfl ?_
    obtain rfl := Option.some.inj hf
    exact h_iret rfl rfl rfl (Nat.le_refl _) (Nat.le_refl _) dX8_deaf_31
  · subst c5
    replace hf := hnl_S hf
    show HW cX8_deaf RX8 (x_X8_deaf d S [.ref a0, .int a1, .int a2, .int a3] r cs) 0 0 S2 16 [(4, .ref b4), (0, .ref a0), (1, .int a1), (2, .int a2), (3, .int a3)] []
    refine h_aload_n dX8_deaf_16 rfl 1 rfl ?_
    obtain ⟨t6, h7, hf⟩ := hbd_s hf
    refine h_getR h7 rfl (Nat.le_of_ble_eq_true rfl) rfl q_303 rfl dX8_deaf_17 ?_
    obtain ⟨t8, h9, hf⟩ := hbd_s hf
    refine h_getRN (host := "DeafSpot") h9 rfl (Nat.le_of_ble_eq_true rfl) rfl (List.mem_of_getElem? (i := 52) rfl) rfl dX8_deaf_20 ?_
    refine h_iload_n dX8_deaf_23 rfl 4 rfl ?_
    obtain ⟨g22, hf⟩ := hck_s hf
    obtain ⟨t12, S11, h10, hf⟩ := hb2_s hf
    refine h_Vi [.int a3] (rest := []) (m_X2_known (d := 1) (cs := cs) (Nat.le_refl _) h10) v_X2_known q_695 rfl (Nat.le_trans (by decide) hd) g22 rfl rfl (Nat.le_of_ble_eq_true rfl) dX8_deaf_24 (Nat.le_refl _) (Nat.le_refl _) ?_
    refine h_if_ne (tgt := 32) dX8_deaf_27 (by decide) (fun c13 => ?_) (fun c13 => ?_)
    · replace hf := hif_n c13 hf
      refine h_aload_n dX8_deaf_32 rfl 1 rfl ?_
      refine h_aload dX8_deaf_33 0 rfl ?_
      refine h_iload_n dX8_deaf_35 rfl 3 rfl ?_
      obtain ⟨g21, hf⟩ := hck_s hf
      obtain ⟨t16, S15, h14, hf⟩ := hb2_s hf
      refine h_Vi [.ref b4, .int a2] (rest := []) (m_X8_spotAhead (d := 7) (cs := cs) (Nat.le_refl _) h14) v_X8_spotAhead q_787 rfl (Nat.le_trans (by decide) hd) g21 rfl rfl (Nat.le_of_ble_eq_true rfl) dX8_deaf_36 (Nat.le_refl _) (Nat.le_refl _) ?_
      refine h_pop dX8_deaf_39 rfl ?_
      refine h_aload_n dX8_deaf_40 rfl 1 rfl ?_
      refine h_iload_n dX8_deaf_41 rfl 4 rfl ?_
      obtain ⟨g20, hf⟩ := hck_s hf
      obtain ⟨t19, S18, h17, hf⟩ := hb2_s hf
      refine h_Vi [.int a3] (rest := []) (m_X8_deafMinutes (d := 1) (cs := cs) (Nat.le_refl _) h17) v_X8_deafMinutes q_795 rfl (Nat.le_trans (by decide) hd) g20 rfl rfl (Nat.le_of_ble_eq_true rfl) dX8_deaf_42 (Nat.le_refl _) (Nat.le_refl _) ?_
      obtain rfl := Option.some.inj hf
      exact h_iret rfl rfl rfl (Nat.le_refl _) (Nat.le_refl _) dX8_deaf_45
    · replace hf := hif_p c13 hf
      refine h_iconst (v := (-1)) dX8_deaf_30 rfl ?_
      obtain rfl := Option.some.inj hf
      exact h_iret rfl rfl rfl (Nat.le_refl _) (Nat.le_refl _) dX8_deaf_31
abbrev x_X8_critic (d : Nat) (S0 : hS) (args : List Value) (r : Int32 × hS) (cs : Nat → Nat) : hX := (((some .int), 7, d, 0, 0, false), (S0, args, some (.int r.1), r.2), cs)
theorem v_X8_critic : hVW yX8_critic cX8_critic 7 (some .int) RX8 3 := ⟨q_800, q_801, q_1, q_802, by decide +kernel, by decide⟩
def f_X8_critic_L57 : Nat → Nat → Int32 → Int32 → hS → (Int32 → hS → Option (Int32 × hS)) → Option (Int32 × hS)
  | 0, _, _, _, _, _ => none
  | n + 1, x0, x5, x6, S, k0 =>
    hbd (gR S x0 8 3) fun t1 =>
    hbd (gR S t1 0 1) fun t3 =>
    hbd (gI S t3 2 0) fun t5 =>
    if t5 ≤ x6 then
      (k0 x5 S)
    else
      (hck (S.K x0 = 9) <|
       hb2 (f_X8_deafMinutes x0 x6 S) fun t10 S9 =>
       hck (S9.K x0 = 9) <|
       hb2 (f_X8_deafMinutes x0 x5 S9) fun t13 S12 =>
       if t10 ≤ t13 then
         (f_X8_critic_L57 n x0 x5 (x6 + 1) S12 k0)
       else
         (f_X8_critic_L57 n x0 x6 (x6 + 1) S12 k0))
def f_X8_critic (a0 : Nat) (a1 : Int32) (a2 : Int32) (a3 : Int32) (S : hS) : Option (Int32 × hS) :=
  hck (S.K a0 = 9) <|
  hb2 (f_X8_ruleFor a0 a1 a2 0 60 S) fun t19 S18 =>
  hnl t19 (
    some ((-1), S18)
    ) fun b20 =>
  if a3 < 0 then
    (some ((-1), S18))
  else
    (if a3 ≤ 1 then
       (hbd (gR S18 a0 8 3) fun t24 =>
        hbd (gR S18 t24 0 1) fun t26 =>
        hbd (gI S18 t26 2 0) fun t28 =>
        if t28 = 0 then
          (some ((-2), S18))
        else
          (hck (S18.K a0 = 9) <|
           hb2 (f_X8_spotAhead a0 b20 a2 S18) fun t33 S32 =>
           f_X8_critic_L57 hfuel a0 0 1 S32
             (fun u34 S35 =>
               if a3 = 0 then
                 (some (u34, S35))
               else
                 (hck (S35.K a0 = 9) <|
                  hb2 (f_X8_deafMinutes a0 u34 S35) fun t39 S38 =>
                  some (t39, S38))
             )))
     else
       (some ((-1), S18)))
set_option maxRecDepth 100000 in
set_option maxHeartbeats 4000000 in
theorem w_X8_critic_L57 {d : Nat} {S0 : hS} {args : List Value} {cs : Nat → Nat} {r : Int32 × hS} (hd : 8 ≤ d) : ∀ (n : Nat) (x0 : Nat) (x5 : Int32) (x6 : Int32) (S : hS) (k0 : (Int32 → hS → Option (Int32 × hS))) (z3 : Int32), f_X8_critic_L57 n x0 x5 x6 S k0 = some r → (∀ (y5 : Int32) (T : hS), k0 y5 T = some r → HW cX8_critic RX8 (x_X8_critic d S0 args r cs) 0 0 T 97 [(0, .ref x0), (3, .int z3), (5, .int y5)] []) → HW cX8_critic RX8 (x_X8_critic d S0 args r cs) 0 0 S 57 [(0, .ref x0), (3, .int z3), (5, .int x5), (6, .int x6)] [] := by
  intro n
  induction n with
  | zero =>
    intro x0 x5 x6 S k0 z3 hf
    cases hf
  | succ n ih =>
    intro x0 x5 x6 S k0 z3 hf hk0
    rw [f_X8_critic_L57] at hf
    refine h_iload dX8_critic_57 3 rfl ?_
    refine h_aload_n dX8_critic_59 rfl 0 rfl ?_
    obtain ⟨t1, h2, hf⟩ := hbd_s hf
    refine h_getR h2 rfl (Nat.le_of_ble_eq_true rfl) rfl q_303 rfl dX8_critic_60 ?_
    obtain ⟨t3, h4, hf⟩ := hbd_s hf
    refine h_getRN (host := "DeafSpot") h4 rfl (Nat.le_of_ble_eq_true rfl) rfl (List.mem_of_getElem? (i := 52) rfl) rfl dX8_critic_63 ?_
    obtain ⟨t5, h6, hf⟩ := hbd_s hf
    refine h_getIN (host := "DeafSpot") h6 rfl (Nat.le_of_ble_eq_true rfl) rfl (List.mem_of_getElem? (i := 37) rfl) rfl dX8_critic_66 ?_
    refine h_icmp_ge (tgt := 97) dX8_critic_69 (by decide) (fun c7 => ?_) (fun c7 => ?_)
    · replace hf := hif_p c7 hf
      refine h_sub (lv2 := [(0, .ref x0), (3, .int z3), (5, .int x5)]) [0, 1, 2] rfl ?_
      exact hk0 x5 S hf
    · replace hf := hif_n c7 hf
      refine h_aload_n dX8_critic_72 rfl 0 rfl ?_
      refine h_iload dX8_critic_73 3 rfl ?_
      obtain ⟨g16, hf⟩ := hck_s hf
      obtain ⟨t10, S9, h8, hf⟩ := hb2_s hf
      refine h_Vi [.int x6] (rest := []) (m_X8_deafMinutes (d := 1) (cs := cs) (Nat.le_refl _) h8) v_X8_deafMinutes q_795 rfl (Nat.le_trans (by decide) hd) g16 rfl rfl (Nat.le_of_ble_eq_true rfl) dX8_critic_75 (Nat.le_refl _) (Nat.le_refl _) ?_
      refine h_aload_n dX8_critic_78 rfl 0 rfl ?_
      refine h_iload dX8_critic_79 2 rfl ?_
      obtain ⟨g15, hf⟩ := hck_s hf
      obtain ⟨t13, S12, h11, hf⟩ := hb2_s hf
      refine h_Vi [.int x5] (rest := [.int t10]) (m_X8_deafMinutes (d := 1) (cs := cs) (Nat.le_refl _) h11) v_X8_deafMinutes q_795 rfl (Nat.le_trans (by decide) hd) g15 rfl rfl (Nat.le_of_ble_eq_true rfl) dX8_critic_81 (Nat.le_refl _) (Nat.le_refl _) ?_
      refine h_icmp_le (tgt := 91) dX8_critic_84 (by decide) (fun c14 => ?_) (fun c14 => ?_)
      · replace hf := hif_p c14 hf
        refine h_iinc (q := 3) (v := x6 + 1) (lv2 := [(6, .int (x6 + 1)), (0, .ref x0), (3, .int z3), (5, .int x5)]) dX8_critic_91 rfl rfl (Nat.le_of_ble_eq_true rfl) rfl ?_
        refine h_goto (tgt := 57) dX8_critic_94 (by decide) ?_
        refine h_sub (lv2 := [(0, .ref x0), (3, .int z3), (5, .int x5), (6, .int (x6 + 1))]) [1, 2, 3, 0] rfl ?_
        exact ih x0 x5 (x6 + 1) S12 k0 z3 hf hk0
      · replace hf := hif_n c14 hf
        refine h_iload dX8_critic_87 3 rfl ?_
        refine h_istore (lv2 := [(5, .int x6), (0, .ref x0), (3, .int z3), (6, .int x6)]) dX8_critic_89 (Nat.le_of_ble_eq_true rfl) rfl ?_
        refine h_iinc (q := 3) (v := x6 + 1) (lv2 := [(6, .int (x6 + 1)), (5, .int x6), (0, .ref x0), (3, .int z3)]) dX8_critic_91 rfl rfl (Nat.le_of_ble_eq_true rfl) rfl ?_
        refine h_goto (tgt := 57) dX8_critic_94 (by decide) ?_
        refine h_sub (lv2 := [(0, .ref x0), (3, .int z3), (5, .int x6), (6, .int (x6 + 1))]) [2, 3, 1, 0] rfl ?_
        exact ih x0 x6 (x6 + 1) S12 k0 z3 hf hk0
set_option maxRecDepth 100000 in
set_option maxHeartbeats 4000000 in
theorem m_X8_critic {d : Nat} {cs : Nat → Nat} {a0 : Nat} {a1 : Int32} {a2 : Int32} {a3 : Int32} {S : hS} {r : Int32 × hS} (hd : 8 ≤ d) (hf : f_X8_critic a0 a1 a2 a3 S = some r) : HM yX8_critic cX8_critic 7 (some .int) d 0 0 cs [.ref a0, .int a1, .int a2, .int a3] S (some (.int r.1)) r.2 := by
  unfold f_X8_critic at hf
  refine HM.ofHW false (by decide) (fun h => by cases h) (Nat.le_of_ble_eq_true rfl) ?_
  show HW cX8_critic RX8 (x_X8_critic d S [.ref a0, .int a1, .int a2, .int a3] r cs) 0 0 S 0 [(0, .ref a0), (1, .int a1), (2, .int a2), (3, .int a3)] []
  refine h_aload_n dX8_critic_0 rfl 0 rfl ?_
  refine h_iload_n dX8_critic_1 rfl 1 rfl ?_
  refine h_iload_n dX8_critic_2 rfl 2 rfl ?_
  refine h_iconst (v := 0) dX8_critic_3 rfl ?_
  refine h_bipush (v := 60) dX8_critic_4 rfl ?_
  obtain ⟨g42, hf⟩ := hck_s hf
  obtain ⟨t19, S18, h17, hf⟩ := hb2_s hf
  refine h_Vr [.int a1, .int a2, .int 0, .int 60] (rest := []) (m_X8_ruleFor (d := 1) (cs := cs) (Nat.le_refl _) h17) v_X8_ruleFor q_735 rfl (Nat.le_trans (by decide) hd) g42 rfl rfl (Nat.le_of_ble_eq_true rfl) dX8_critic_6 (Nat.le_refl _) (Nat.le_refl _) ?_
  refine h_astoreV (lv2 := [(4, va_rf t19), (0, .ref a0), (1, .int a1), (2, .int a2), (3, .int a3)]) dX8_critic_9 (Nat.le_of_ble_eq_true rfl) rfl ?_
  refine h_aloadV dX8_critic_11 0 rfl ?_
  refine h_ifnull (tgt := 25) dX8_critic_13 (by decide) (fun c21 => ?_) (fun b20 c21 => ?_)
  · subst c21
    replace hf := hnl_N hf
    refine h_iconst (v := (-1)) dX8_critic_25 rfl ?_
    obtain rfl := Option.some.inj hf
    exact h_iret rfl rfl rfl (Nat.le_refl _) (Nat.le_refl _) dX8_critic_26
  · subst c21
    replace hf := hnl_S hf
    show HW cX8_critic RX8 (x_X8_critic d S [.ref a0, .int a1, .int a2, .int a3] r cs) 0 0 S18 16 [(4, .ref b20), (0, .ref a0), (1, .int a1), (2, .int a2), (3, .int a3)] []
    refine h_iload_n dX8_critic_16 rfl 4 rfl ?_
    refine h_if_lt (tgt := 25) dX8_critic_17 (by decide) (fun c22 => ?_) (fun c22 => ?_)
    · replace hf := hif_p c22 hf
      refine h_iconst (v := (-1)) dX8_critic_25 rfl ?_
      obtain rfl := Option.some.inj hf
      exact h_iret rfl rfl rfl (Nat.le_refl _) (Nat.le_refl _) dX8_critic_26
    · replace hf := hif_n c22 hf
      refine h_iload_n dX8_critic_20 rfl 4 rfl ?_
      refine h_iconst (v := 1) dX8_critic_21 rfl ?_
      refine h_icmp_le (tgt := 27) dX8_critic_22 (by decide) (fun c23 => ?_) (fun c23 => ?_)
      · replace hf := hif_p c23 hf
        refine h_aload_n dX8_critic_27 rfl 1 rfl ?_
        obtain ⟨t24, h25, hf⟩ := hbd_s hf
        refine h_getR h25 rfl (Nat.le_of_ble_eq_true rfl) rfl q_303 rfl dX8_critic_28 ?_
        obtain ⟨t26, h27, hf⟩ := hbd_s hf
        refine h_getRN (host := "DeafSpot") h27 rfl (Nat.le_of_ble_eq_true rfl) rfl (List.mem_of_getElem? (i := 52) rfl) rfl dX8_critic_31 ?_
        obtain ⟨t28, h29, hf⟩ := hbd_s hf
        refine h_getIN (host := "DeafSpot") h29 rfl (Nat.le_of_ble_eq_true rfl) rfl (List.mem_of_getElem? (i := 37) rfl) rfl dX8_critic_34 ?_
        refine h_if_ne (tgt := 43) dX8_critic_37 (by decide) (fun c30 => ?_) (fun c30 => ?_)
        · replace hf := hif_n c30 hf
          refine h_aload_n dX8_critic_43 rfl 1 rfl ?_
          refine h_aload dX8_critic_44 0 rfl ?_
          refine h_iload_n dX8_critic_46 rfl 3 rfl ?_
          obtain ⟨g41, hf⟩ := hck_s hf
          obtain ⟨t33, S32, h31, hf⟩ := hb2_s hf
          refine h_Vi [.ref b20, .int a2] (rest := []) (m_X8_spotAhead (d := 7) (cs := cs) (Nat.le_refl _) h31) v_X8_spotAhead q_787 rfl (Nat.le_trans (by decide) hd) g41 rfl rfl (Nat.le_of_ble_eq_true rfl) dX8_critic_47 (Nat.le_refl _) (Nat.le_refl _) ?_
          refine h_pop dX8_critic_50 rfl ?_
          refine h_iconst (v := 0) dX8_critic_51 rfl ?_
          refine h_istore (lv2 := [(5, .int 0), (4, .ref b20), (0, .ref a0), (1, .int a1), (2, .int a2), (3, .int a3)]) dX8_critic_52 (Nat.le_of_ble_eq_true rfl) rfl ?_
          refine h_iconst (v := 1) dX8_critic_54 rfl ?_
          refine h_istore (lv2 := [(6, .int 1), (5, .int 0), (4, .ref b20), (0, .ref a0), (1, .int a1), (2, .int a2), (3, .int a3)]) dX8_critic_55 (Nat.le_of_ble_eq_true rfl) rfl ?_
          refine h_sub (lv2 := [(0, .ref a0), (3, .int a3), (5, .int 0), (6, .int 1)]) [3, 6, 1, 0] rfl ?_
          refine w_X8_critic_L57 hd hfuel a0 0 1 S32 _ a3 hf ?_
          · intro u34 S35 hf
            refine h_iload_n dX8_critic_97 rfl 1 rfl ?_
            refine h_if_ne (tgt := 106) dX8_critic_98 (by decide) (fun c36 => ?_) (fun c36 => ?_)
            · replace hf := hif_n c36 hf
              refine h_aload_n dX8_critic_106 rfl 0 rfl ?_
              refine h_iload dX8_critic_107 2 rfl ?_
              obtain ⟨g40, hf⟩ := hck_s hf
              obtain ⟨t39, S38, h37, hf⟩ := hb2_s hf
              refine h_Vi [.int u34] (rest := []) (m_X8_deafMinutes (d := 1) (cs := cs) (Nat.le_refl _) h37) v_X8_deafMinutes q_795 rfl (Nat.le_trans (by decide) hd) g40 rfl rfl (Nat.le_of_ble_eq_true rfl) dX8_critic_109 (Nat.le_refl _) (Nat.le_refl _) ?_
              obtain rfl := Option.some.inj hf
              exact h_iret rfl rfl rfl (Nat.le_refl _) (Nat.le_refl _) dX8_critic_112
            · replace hf := hif_p c36 hf
              refine h_iload dX8_critic_101 2 rfl ?_
              refine h_goto (tgt := 112) dX8_critic_103 (by decide) ?_
              obtain rfl := Option.some.inj hf
              exact h_iret rfl rfl rfl (Nat.le_refl _) (Nat.le_refl _) dX8_critic_112
        · replace hf := hif_p c30 hf
          refine h_bipush (v := (-2)) dX8_critic_40 rfl ?_
          obtain rfl := Option.some.inj hf
          exact h_iret rfl rfl rfl (Nat.le_refl _) (Nat.le_refl _) dX8_critic_42
      · replace hf := hif_n c23 hf
        refine h_iconst (v := (-1)) dX8_critic_25 rfl ?_
        obtain rfl := Option.some.inj hf
        exact h_iret rfl rfl rfl (Nat.le_refl _) (Nat.le_refl _) dX8_critic_26
abbrev x_X8_seated (d : Nat) (S0 : hS) (args : List Value) (r : Int32 × hS) (cs : Nat → Nat) : hX := (((some .int), 6, d, 0, 0, false), (S0, args, some (.int r.1), r.2), cs)
theorem v_X8_seated : hVW yX8_seated cX8_seated 6 (some .int) RX8 4 := ⟨q_804, q_805, q_1, q_806, by decide +kernel, by decide⟩
def f_X8_seated (a0 : Nat) (a1 : Int32) (a2 : Int32) (a3 : Int32) (a4 : Int32) (S : hS) : Option (Int32 × hS) :=
  hck (S.K a0 = 9) <|
  hb2 (f_X8_ruleFor a0 a1 a2 0 30 S) fun t3 S2 =>
  hnl t3 (
    some ((-1), S2)
    ) fun b4 =>
  hbd (gR S2 a0 8 3) fun t6 =>
  hbd (gR S2 t6 0 1) fun t8 =>
  hck (S2.K t8 = 3) <|
  hb2 (f_X2_here t8 a3 S2) fun t12 S11 =>
  if t12 = 0 then
    (some ((-1), S11))
  else
    (if a4 < 0 then
       (some ((-1), S11))
     else
       (if a4 ≤ 2 then
          (hbd (gR S11 a0 8 9) fun t16 =>
           hck (S11.K t16 = 2) <|
           hb2 (f_X1_answers t16 1 a1 a2 a3 0 S11) fun t20 S19 =>
           hj (γ := hS → Option (Int32 × hS)) (fun (S22 : hS) =>
             hbd (gR S22 a0 8 9) fun t23 =>
             hck (S22.K t23 = 2) <|
             hb2 (f_X1_part t23 a4 S22) fun t27 S26 =>
             some (t27, S26)
             ) fun J21 =>
           if t20 = 0 then
             (hbd (gR S19 a0 8 9) fun t30 =>
              hck (S19.K t30 = 2) <|
              hbd (f_X1_begin t30 1 a1 a2 a3 0 S19) fun S33 =>
              hck (S33.K a0 = 9) <|
              hbd (f_X8_seekSeat a0 b4 a2 a3 S33) fun S35 =>
              J21 S35)
           else
             (J21 S19))
        else
          (some ((-1), S11))))
set_option maxRecDepth 100000 in
set_option maxHeartbeats 4000000 in
theorem m_X8_seated {d : Nat} {cs : Nat → Nat} {a0 : Nat} {a1 : Int32} {a2 : Int32} {a3 : Int32} {a4 : Int32} {S : hS} {r : Int32 × hS} (hd : 8 ≤ d) (hf : f_X8_seated a0 a1 a2 a3 a4 S = some r) : HM yX8_seated cX8_seated 6 (some .int) d 0 0 cs [.ref a0, .int a1, .int a2, .int a3, .int a4] S (some (.int r.1)) r.2 := by
  unfold f_X8_seated at hf
  refine HM.ofHW false (by decide) (fun h => by cases h) (Nat.le_of_ble_eq_true rfl) ?_
  show HW cX8_seated RX8 (x_X8_seated d S [.ref a0, .int a1, .int a2, .int a3, .int a4] r cs) 0 0 S 0 [(0, .ref a0), (1, .int a1), (2, .int a2), (3, .int a3), (4, .int a4)] []
  refine h_aload_n dX8_seated_0 rfl 0 rfl ?_
  refine h_iload_n dX8_seated_1 rfl 1 rfl ?_
  refine h_iload_n dX8_seated_2 rfl 2 rfl ?_
  refine h_iconst (v := 0) dX8_seated_3 rfl ?_
  refine h_bipush (v := 30) dX8_seated_4 rfl ?_
  obtain ⟨g40, hf⟩ := hck_s hf
  obtain ⟨t3, S2, h1, hf⟩ := hb2_s hf
  refine h_Vr [.int a1, .int a2, .int 0, .int 30] (rest := []) (m_X8_ruleFor (d := 1) (cs := cs) (Nat.le_refl _) h1) v_X8_ruleFor q_735 rfl (Nat.le_trans (by decide) hd) g40 rfl rfl (Nat.le_of_ble_eq_true rfl) dX8_seated_6 (Nat.le_refl _) (Nat.le_refl _) ?_
  refine h_astoreV (lv2 := [(5, va_rf t3), (0, .ref a0), (1, .int a1), (2, .int a2), (3, .int a3), (4, .int a4)]) dX8_seated_9 (Nat.le_of_ble_eq_true rfl) rfl ?_
  refine h_aloadV dX8_seated_11 0 rfl ?_
  refine h_ifnull (tgt := 41) dX8_seated_13 (by decide) (fun c5 => ?_) (fun b4 c5 => ?_)
  · subst c5
    replace hf := hnl_N hf
    refine h_iconst (v := (-1)) dX8_seated_41 rfl ?_
    obtain rfl := Option.some.inj hf
    exact h_iret rfl rfl rfl (Nat.le_refl _) (Nat.le_refl _) dX8_seated_42
  · subst c5
    replace hf := hnl_S hf
    show HW cX8_seated RX8 (x_X8_seated d S [.ref a0, .int a1, .int a2, .int a3, .int a4] r cs) 0 0 S2 16 [(5, .ref b4), (0, .ref a0), (1, .int a1), (2, .int a2), (3, .int a3), (4, .int a4)] []
    refine h_aload_n dX8_seated_16 rfl 1 rfl ?_
    obtain ⟨t6, h7, hf⟩ := hbd_s hf
    refine h_getR h7 rfl (Nat.le_of_ble_eq_true rfl) rfl q_303 rfl dX8_seated_17 ?_
    obtain ⟨t8, h9, hf⟩ := hbd_s hf
    refine h_getRN (host := "DeafSpot") h9 rfl (Nat.le_of_ble_eq_true rfl) rfl (List.mem_of_getElem? (i := 52) rfl) rfl dX8_seated_20 ?_
    refine h_iload_n dX8_seated_23 rfl 4 rfl ?_
    obtain ⟨g39, hf⟩ := hck_s hf
    obtain ⟨t12, S11, h10, hf⟩ := hb2_s hf
    refine h_Vi [.int a3] (rest := []) (m_X2_here (d := 1) (cs := cs) (Nat.le_refl _) h10) v_X2_here q_717 rfl (Nat.le_trans (by decide) hd) g39 rfl rfl (Nat.le_of_ble_eq_true rfl) dX8_seated_24 (Nat.le_refl _) (Nat.le_refl _) ?_
    refine h_if_eq (tgt := 41) dX8_seated_27 (by decide) (fun c13 => ?_) (fun c13 => ?_)
    · replace hf := hif_p c13 hf
      refine h_iconst (v := (-1)) dX8_seated_41 rfl ?_
      obtain rfl := Option.some.inj hf
      exact h_iret rfl rfl rfl (Nat.le_refl _) (Nat.le_refl _) dX8_seated_42
    · replace hf := hif_n c13 hf
      refine h_iload dX8_seated_30 5 rfl ?_
      refine h_if_lt (tgt := 41) dX8_seated_32 (by decide) (fun c14 => ?_) (fun c14 => ?_)
      · replace hf := hif_p c14 hf
        refine h_iconst (v := (-1)) dX8_seated_41 rfl ?_
        obtain rfl := Option.some.inj hf
        exact h_iret rfl rfl rfl (Nat.le_refl _) (Nat.le_refl _) dX8_seated_42
      · replace hf := hif_n c14 hf
        refine h_iload dX8_seated_35 5 rfl ?_
        refine h_iconst (v := 2) dX8_seated_37 rfl ?_
        refine h_icmp_le (tgt := 43) dX8_seated_38 (by decide) (fun c15 => ?_) (fun c15 => ?_)
        · replace hf := hif_p c15 hf
          refine h_aload_n dX8_seated_43 rfl 1 rfl ?_
          obtain ⟨t16, h17, hf⟩ := hbd_s hf
          refine h_getR h17 rfl (Nat.le_of_ble_eq_true rfl) rfl q_309 rfl dX8_seated_44 ?_
          refine h_iconst (v := 1) dX8_seated_47 rfl ?_
          refine h_iload_n dX8_seated_48 rfl 2 rfl ?_
          refine h_iload_n dX8_seated_49 rfl 3 rfl ?_
          refine h_iload_n dX8_seated_50 rfl 4 rfl ?_
          refine h_iconst (v := 0) dX8_seated_51 rfl ?_
          obtain ⟨g38, hf⟩ := hck_s hf
          obtain ⟨t20, S19, h18, hf⟩ := hb2_s hf
          refine h_Vi [.int 1, .int a1, .int a2, .int a3, .int 0] (rest := []) (m_X1_answers (d := 1) (cs := cs) (Nat.le_refl _) h18) v_X1_answers q_807 rfl (Nat.le_trans (by decide) hd) g38 rfl rfl (Nat.le_of_ble_eq_true rfl) dX8_seated_52 (Nat.le_refl _) (Nat.le_refl _) ?_
          refine hj_s (fun J21 => ∀ (S22 : hS), J21 S22 = some r → HW cX8_seated RX8 (x_X8_seated d S [.ref a0, .int a1, .int a2, .int a3, .int a4] r cs) 0 0 S22 78 [(0, .ref a0), (4, .int a4)] []) hf ?_ ?_
          · intro S22 hf
            refine h_aload_n dX8_seated_78 rfl 0 rfl ?_
            obtain ⟨t23, h24, hf⟩ := hbd_s hf
            refine h_getR h24 rfl (Nat.le_of_ble_eq_true rfl) rfl q_309 rfl dX8_seated_79 ?_
            refine h_iload dX8_seated_82 1 rfl ?_
            obtain ⟨g28, hf⟩ := hck_s hf
            obtain ⟨t27, S26, h25, hf⟩ := hb2_s hf
            refine h_Vi [.int a4] (rest := []) (m_X1_part (d := 1) (cs := cs) (Nat.le_refl _) h25) v_X1_part q_837 rfl (Nat.le_trans (by decide) hd) g28 rfl rfl (Nat.le_of_ble_eq_true rfl) dX8_seated_84 (Nat.le_refl _) (Nat.le_refl _) ?_
            obtain rfl := Option.some.inj hf
            exact h_iret rfl rfl rfl (Nat.le_refl _) (Nat.le_refl _) dX8_seated_87
          · intro J21 hJ21 hf
            refine h_if_ne (tgt := 78) dX8_seated_55 (by decide) (fun c29 => ?_) (fun c29 => ?_)
            · replace hf := hif_n c29 hf
              refine h_sub (lv2 := [(0, .ref a0), (4, .int a4)]) [1, 5] rfl ?_
              exact hJ21 S19 hf
            · replace hf := hif_p c29 hf
              refine h_aload_n dX8_seated_58 rfl 1 rfl ?_
              obtain ⟨t30, h31, hf⟩ := hbd_s hf
              refine h_getR h31 rfl (Nat.le_of_ble_eq_true rfl) rfl q_309 rfl dX8_seated_59 ?_
              refine h_iconst (v := 1) dX8_seated_62 rfl ?_
              refine h_iload_n dX8_seated_63 rfl 2 rfl ?_
              refine h_iload_n dX8_seated_64 rfl 3 rfl ?_
              refine h_iload_n dX8_seated_65 rfl 4 rfl ?_
              refine h_iconst (v := 0) dX8_seated_66 rfl ?_
              obtain ⟨g37, hf⟩ := hck_s hf
              obtain ⟨S33, h32, hf⟩ := hbd_s hf
              refine h_Vv [.int 1, .int a1, .int a2, .int a3, .int 0] (rest := []) (m_X1_begin (d := 1) (cs := cs) (Nat.le_refl _) h32) v_X1_begin q_811 rfl (Nat.le_trans (by decide) hd) g37 rfl rfl (Nat.le_of_ble_eq_true rfl) dX8_seated_67 (Nat.le_refl _) (Nat.le_refl _) ?_
              refine h_aload_n dX8_seated_70 rfl 1 rfl ?_
              refine h_aload dX8_seated_71 0 rfl ?_
              refine h_iload_n dX8_seated_73 rfl 3 rfl ?_
              refine h_iload_n dX8_seated_74 rfl 4 rfl ?_
              obtain ⟨g36, hf⟩ := hck_s hf
              obtain ⟨S35, h34, hf⟩ := hbd_s hf
              refine h_Vv [.ref b4, .int a2, .int a3] (rest := []) (m_X8_seekSeat (d := 7) (cs := cs) (Nat.le_refl _) h34) v_X8_seekSeat q_815 rfl (Nat.le_trans (by decide) hd) g36 rfl rfl (Nat.le_of_ble_eq_true rfl) dX8_seated_75 (Nat.le_refl _) (Nat.le_refl _) ?_
              refine h_sub (lv2 := [(0, .ref a0), (4, .int a4)]) [1, 5] rfl ?_
              exact hJ21 S35 hf
        · replace hf := hif_n c15 hf
          refine h_iconst (v := (-1)) dX8_seated_41 rfl ?_
          obtain rfl := Option.some.inj hf
          exact h_iret rfl rfl rfl (Nat.le_refl _) (Nat.le_refl _) dX8_seated_42
abbrev x_X8_without (d : Nat) (S0 : hS) (args : List Value) (r : Int32 × hS) (cs : Nat → Nat) : hX := (((some .int), 5, d, 0, 0, false), (S0, args, some (.int r.1), r.2), cs)
theorem v_X8_without : hVW yX8_without cX8_without 5 (some .int) RX8 3 := ⟨q_846, q_847, q_1, q_848, by decide +kernel, by decide⟩
def f_X8_without (a0 : Nat) (a1 : Int32) (a2 : Int32) (a3 : Int32) (S : hS) : Option (Int32 × hS) :=
  hck (S.K a0 = 9) <|
  hb2 (f_X8_ruleFor a0 a1 a2 0 60 S) fun t3 S2 =>
  hnl t3 (
    some ((-1), S2)
    ) fun b4 =>
  hbd (gR S2 a0 8 3) fun t6 =>
  hbd (gR S2 t6 0 1) fun t8 =>
  hck (S2.K t8 = 3) <|
  hb2 (f_X2_here t8 a3 S2) fun t12 S11 =>
  if t12 = 0 then
    (some ((-1), S11))
  else
    (hck (S11.K a0 = 9) <|
     hb2 (f_X8_spotAhead a0 b4 a2 S11) fun t16 S15 =>
     hck (S15.K a0 = 9) <|
     hb2 (f_X8_stepsWithout a0 b4 a2 a3 t16 S15) fun t19 S18 =>
     some (t19, S18))
set_option maxRecDepth 100000 in
set_option maxHeartbeats 4000000 in
theorem m_X8_without {d : Nat} {cs : Nat → Nat} {a0 : Nat} {a1 : Int32} {a2 : Int32} {a3 : Int32} {S : hS} {r : Int32 × hS} (hd : 8 ≤ d) (hf : f_X8_without a0 a1 a2 a3 S = some r) : HM yX8_without cX8_without 5 (some .int) d 0 0 cs [.ref a0, .int a1, .int a2, .int a3] S (some (.int r.1)) r.2 := by
  unfold f_X8_without at hf
  refine HM.ofHW false (by decide) (fun h => by cases h) (Nat.le_of_ble_eq_true rfl) ?_
  show HW cX8_without RX8 (x_X8_without d S [.ref a0, .int a1, .int a2, .int a3] r cs) 0 0 S 0 [(0, .ref a0), (1, .int a1), (2, .int a2), (3, .int a3)] []
  refine h_aload_n dX8_without_0 rfl 0 rfl ?_
  refine h_iload_n dX8_without_1 rfl 1 rfl ?_
  refine h_iload_n dX8_without_2 rfl 2 rfl ?_
  refine h_iconst (v := 0) dX8_without_3 rfl ?_
  refine h_bipush (v := 60) dX8_without_4 rfl ?_
  obtain ⟨g23, hf⟩ := hck_s hf
  obtain ⟨t3, S2, h1, hf⟩ := hb2_s hf
  refine h_Vr [.int a1, .int a2, .int 0, .int 60] (rest := []) (m_X8_ruleFor (d := 1) (cs := cs) (Nat.le_refl _) h1) v_X8_ruleFor q_735 rfl (Nat.le_trans (by decide) hd) g23 rfl rfl (Nat.le_of_ble_eq_true rfl) dX8_without_6 (Nat.le_refl _) (Nat.le_refl _) ?_
  refine h_astoreV (lv2 := [(4, va_rf t3), (0, .ref a0), (1, .int a1), (2, .int a2), (3, .int a3)]) dX8_without_9 (Nat.le_of_ble_eq_true rfl) rfl ?_
  refine h_aloadV dX8_without_11 0 rfl ?_
  refine h_ifnull (tgt := 30) dX8_without_13 (by decide) (fun c5 => ?_) (fun b4 c5 => ?_)
  · subst c5
    replace hf := hnl_N hf
    refine h_iconst (v := (-1)) dX8_without_30 rfl ?_
    obtain rfl := Option.some.inj hf
    exact h_iret rfl rfl rfl (Nat.le_refl _) (Nat.le_refl _) dX8_without_31
  · subst c5
    replace hf := hnl_S hf
    show HW cX8_without RX8 (x_X8_without d S [.ref a0, .int a1, .int a2, .int a3] r cs) 0 0 S2 16 [(4, .ref b4), (0, .ref a0), (1, .int a1), (2, .int a2), (3, .int a3)] []
    refine h_aload_n dX8_without_16 rfl 1 rfl ?_
    obtain ⟨t6, h7, hf⟩ := hbd_s hf
    refine h_getR h7 rfl (Nat.le_of_ble_eq_true rfl) rfl q_303 rfl dX8_without_17 ?_
    obtain ⟨t8, h9, hf⟩ := hbd_s hf
    refine h_getRN (host := "DeafSpot") h9 rfl (Nat.le_of_ble_eq_true rfl) rfl (List.mem_of_getElem? (i := 52) rfl) rfl dX8_without_20 ?_
    refine h_iload_n dX8_without_23 rfl 4 rfl ?_
    obtain ⟨g22, hf⟩ := hck_s hf
    obtain ⟨t12, S11, h10, hf⟩ := hb2_s hf
    refine h_Vi [.int a3] (rest := []) (m_X2_here (d := 1) (cs := cs) (Nat.le_refl _) h10) v_X2_here q_717 rfl (Nat.le_trans (by decide) hd) g22 rfl rfl (Nat.le_of_ble_eq_true rfl) dX8_without_24 (Nat.le_refl _) (Nat.le_refl _) ?_
    refine h_if_ne (tgt := 32) dX8_without_27 (by decide) (fun c13 => ?_) (fun c13 => ?_)
    · replace hf := hif_n c13 hf
      refine h_aload_n dX8_without_32 rfl 1 rfl ?_
      refine h_aload dX8_without_33 0 rfl ?_
      refine h_iload_n dX8_without_35 rfl 3 rfl ?_
      refine h_iload_n dX8_without_36 rfl 4 rfl ?_
      refine h_aload_n dX8_without_37 rfl 1 rfl ?_
      refine h_aload dX8_without_38 0 rfl ?_
      refine h_iload_n dX8_without_40 rfl 3 rfl ?_
      obtain ⟨g21, hf⟩ := hck_s hf
      obtain ⟨t16, S15, h14, hf⟩ := hb2_s hf
      refine h_Vi [.ref b4, .int a2] (rest := [.int a3, .int a2, .ref b4, .ref a0]) (m_X8_spotAhead (d := 7) (cs := cs) (Nat.le_refl _) h14) v_X8_spotAhead q_787 rfl (Nat.le_trans (by decide) hd) g21 rfl rfl (Nat.le_of_ble_eq_true rfl) dX8_without_41 (Nat.le_refl _) (Nat.le_refl _) ?_
      obtain ⟨g20, hf⟩ := hck_s hf
      obtain ⟨t19, S18, h17, hf⟩ := hb2_s hf
      refine h_Vi [.ref b4, .int a2, .int a3, .int t16] (rest := []) (m_X8_stepsWithout (d := 7) (cs := cs) (Nat.le_refl _) h17) v_X8_stepsWithout q_849 rfl (Nat.le_trans (by decide) hd) g20 rfl rfl (Nat.le_of_ble_eq_true rfl) dX8_without_44 (Nat.le_refl _) (Nat.le_refl _) ?_
      obtain rfl := Option.some.inj hf
      exact h_iret rfl rfl rfl (Nat.le_refl _) (Nat.le_refl _) dX8_without_47
    · replace hf := hif_p c13 hf
      refine h_iconst (v := (-1)) dX8_without_30 rfl ?_
      obtain rfl := Option.some.inj hf
      exact h_iret rfl rfl rfl (Nat.le_refl _) (Nat.le_refl _) dX8_without_31
abbrev x_X8_baron (d : Nat) (S0 : hS) (args : List Value) (r : Int32 × hS) (cs : Nat → Nat) : hX := (((some .int), 10, d, 0, 0, false), (S0, args, some (.int r.1), r.2), cs)
theorem v_X8_baron : hVW yX8_baron cX8_baron 10 (some .int) RX8 3 := ⟨q_855, q_856, q_1, q_857, by decide +kernel, by decide⟩
def f_X8_baron_L47 : Nat → Nat → Int32 → Nat → Int32 → Int32 → Int32 → Int32 → hS → (Int32 → Int32 → hS → Option (Int32 × hS)) → Option (Int32 × hS)
  | 0, _, _, _, _, _, _, _, _, _ => none
  | n + 1, x0, x2, x4, x5, x6, x7, x8, S, k0 =>
    hbd (gR S x0 8 3) fun t1 =>
    hbd (gR S t1 0 1) fun t3 =>
    hbd (gI S t3 2 0) fun t5 =>
    if t5 ≤ x8 then
      (k0 x6 x7 S)
    else
      (hbd (gR S x0 8 3) fun t8 =>
       hbd (gR S t8 0 1) fun t10 =>
       hck (S.K t10 = 3) <|
       hb2 (f_X2_here t10 x8 S) fun t14 S13 =>
       if t14 = 0 then
         (f_X8_baron_L47 n x0 x2 x4 x5 x6 x7 (x8 + 1) S13 k0)
       else
         (hck (S13.K x0 = 9) <|
          hb2 (f_X8_stepsWithout x0 x4 x2 x8 x5 S13) fun t18 S17 =>
          if t18 ≤ x7 then
            (f_X8_baron_L47 n x0 x2 x4 x5 x6 x7 (x8 + 1) S17 k0)
          else
            (f_X8_baron_L47 n x0 x2 x4 x5 x8 t18 (x8 + 1) S17 k0)))
def f_X8_baron (a0 : Nat) (a1 : Int32) (a2 : Int32) (a3 : Int32) (S : hS) : Option (Int32 × hS) :=
  hck (S.K a0 = 9) <|
  hb2 (f_X8_ruleFor a0 a1 a2 0 60 S) fun t24 S23 =>
  hnl t24 (
    some ((-1), S23)
    ) fun b25 =>
  if a3 < 0 then
    (some ((-1), S23))
  else
    (if a3 ≤ 1 then
       (hck (S23.K a0 = 9) <|
        hb2 (f_X8_spotAhead a0 b25 a2 S23) fun t31 S30 =>
        f_X8_baron_L47 hfuel a0 a2 b25 t31 (-2) (-2) 0 S30
          (fun u32 u33 S34 =>
            if a3 = 0 then
              (some (u32, S34))
            else
              (some (u33, S34))
          ))
     else
       (some ((-1), S23)))
set_option maxRecDepth 100000 in
set_option maxHeartbeats 4000000 in
theorem w_X8_baron_L47 {d : Nat} {S0 : hS} {args : List Value} {cs : Nat → Nat} {r : Int32 × hS} (hd : 8 ≤ d) : ∀ (n : Nat) (x0 : Nat) (x2 : Int32) (x4 : Nat) (x5 : Int32) (x6 : Int32) (x7 : Int32) (x8 : Int32) (S : hS) (k0 : (Int32 → Int32 → hS → Option (Int32 × hS))) (z3 : Int32), f_X8_baron_L47 n x0 x2 x4 x5 x6 x7 x8 S k0 = some r → (∀ (y6 : Int32) (y7 : Int32) (T : hS), k0 y6 y7 T = some r → HW cX8_baron RX8 (x_X8_baron d S0 args r cs) 0 0 T 111 [(3, .int z3), (6, .int y6), (7, .int y7)] []) → HW cX8_baron RX8 (x_X8_baron d S0 args r cs) 0 0 S 47 [(0, .ref x0), (2, .int x2), (3, .int z3), (4, .ref x4), (5, .int x5), (6, .int x6), (7, .int x7), (8, .int x8)] [] := by
  intro n
  induction n with
  | zero =>
    intro x0 x2 x4 x5 x6 x7 x8 S k0 z3 hf
    cases hf
  | succ n ih =>
    intro x0 x2 x4 x5 x6 x7 x8 S k0 z3 hf hk0
    rw [f_X8_baron_L47] at hf
    refine h_iload dX8_baron_47 7 rfl ?_
    refine h_aload_n dX8_baron_49 rfl 0 rfl ?_
    obtain ⟨t1, h2, hf⟩ := hbd_s hf
    refine h_getR h2 rfl (Nat.le_of_ble_eq_true rfl) rfl q_303 rfl dX8_baron_50 ?_
    obtain ⟨t3, h4, hf⟩ := hbd_s hf
    refine h_getRN (host := "DeafSpot") h4 rfl (Nat.le_of_ble_eq_true rfl) rfl (List.mem_of_getElem? (i := 52) rfl) rfl dX8_baron_53 ?_
    obtain ⟨t5, h6, hf⟩ := hbd_s hf
    refine h_getIN (host := "DeafSpot") h6 rfl (Nat.le_of_ble_eq_true rfl) rfl (List.mem_of_getElem? (i := 37) rfl) rfl dX8_baron_56 ?_
    refine h_icmp_ge (tgt := 111) dX8_baron_59 (by decide) (fun c7 => ?_) (fun c7 => ?_)
    · replace hf := hif_p c7 hf
      refine h_sub (lv2 := [(3, .int z3), (6, .int x6), (7, .int x7)]) [2, 5, 6] rfl ?_
      exact hk0 x6 x7 S hf
    · replace hf := hif_n c7 hf
      refine h_aload_n dX8_baron_62 rfl 0 rfl ?_
      obtain ⟨t8, h9, hf⟩ := hbd_s hf
      refine h_getR h9 rfl (Nat.le_of_ble_eq_true rfl) rfl q_303 rfl dX8_baron_63 ?_
      obtain ⟨t10, h11, hf⟩ := hbd_s hf
      refine h_getRN (host := "DeafSpot") h11 rfl (Nat.le_of_ble_eq_true rfl) rfl (List.mem_of_getElem? (i := 52) rfl) rfl dX8_baron_66 ?_
      refine h_iload dX8_baron_69 7 rfl ?_
      obtain ⟨g21, hf⟩ := hck_s hf
      obtain ⟨t14, S13, h12, hf⟩ := hb2_s hf
      refine h_Vi [.int x8] (rest := []) (m_X2_here (d := 1) (cs := cs) (Nat.le_refl _) h12) v_X2_here q_717 rfl (Nat.le_trans (by decide) hd) g21 rfl rfl (Nat.le_of_ble_eq_true rfl) dX8_baron_71 (Nat.le_refl _) (Nat.le_refl _) ?_
      refine h_if_eq (tgt := 105) dX8_baron_74 (by decide) (fun c15 => ?_) (fun c15 => ?_)
      · replace hf := hif_p c15 hf
        refine h_iinc (q := 7) (v := x8 + 1) (lv2 := [(8, .int (x8 + 1)), (0, .ref x0), (2, .int x2), (3, .int z3), (4, .ref x4), (5, .int x5), (6, .int x6), (7, .int x7)]) dX8_baron_105 rfl rfl (Nat.le_of_ble_eq_true rfl) rfl ?_
        refine h_goto (tgt := 47) dX8_baron_108 (by decide) ?_
        refine h_sub (lv2 := [(0, .ref x0), (2, .int x2), (3, .int z3), (4, .ref x4), (5, .int x5), (6, .int x6), (7, .int x7), (8, .int (x8 + 1))]) [1, 2, 3, 4, 5, 6, 7, 0] rfl ?_
        exact ih x0 x2 x4 x5 x6 x7 (x8 + 1) S13 k0 z3 hf hk0
      · replace hf := hif_n c15 hf
        refine h_aload_n dX8_baron_77 rfl 0 rfl ?_
        refine h_aload dX8_baron_78 3 rfl ?_
        refine h_iload_n dX8_baron_80 rfl 1 rfl ?_
        refine h_iload dX8_baron_81 7 rfl ?_
        refine h_iload dX8_baron_83 4 rfl ?_
        obtain ⟨g20, hf⟩ := hck_s hf
        obtain ⟨t18, S17, h16, hf⟩ := hb2_s hf
        refine h_Vi [.ref x4, .int x2, .int x8, .int x5] (rest := []) (m_X8_stepsWithout (d := 7) (cs := cs) (Nat.le_refl _) h16) v_X8_stepsWithout q_849 rfl (Nat.le_trans (by decide) hd) g20 rfl rfl (Nat.le_of_ble_eq_true rfl) dX8_baron_85 (Nat.le_refl _) (Nat.le_refl _) ?_
        refine h_istore (lv2 := [(9, .int t18), (0, .ref x0), (2, .int x2), (3, .int z3), (4, .ref x4), (5, .int x5), (6, .int x6), (7, .int x7), (8, .int x8)]) dX8_baron_88 (Nat.le_of_ble_eq_true rfl) rfl ?_
        refine h_iload dX8_baron_90 0 rfl ?_
        refine h_iload dX8_baron_92 7 rfl ?_
        refine h_icmp_le (tgt := 105) dX8_baron_94 (by decide) (fun c19 => ?_) (fun c19 => ?_)
        · replace hf := hif_p c19 hf
          refine h_iinc (q := 8) (v := x8 + 1) (lv2 := [(8, .int (x8 + 1)), (9, .int t18), (0, .ref x0), (2, .int x2), (3, .int z3), (4, .ref x4), (5, .int x5), (6, .int x6), (7, .int x7)]) dX8_baron_105 rfl rfl (Nat.le_of_ble_eq_true rfl) rfl ?_
          refine h_goto (tgt := 47) dX8_baron_108 (by decide) ?_
          refine h_sub (lv2 := [(0, .ref x0), (2, .int x2), (3, .int z3), (4, .ref x4), (5, .int x5), (6, .int x6), (7, .int x7), (8, .int (x8 + 1))]) [2, 3, 4, 5, 6, 7, 8, 0] rfl ?_
          exact ih x0 x2 x4 x5 x6 x7 (x8 + 1) S17 k0 z3 hf hk0
        · replace hf := hif_n c19 hf
          refine h_iload dX8_baron_97 0 rfl ?_
          refine h_istore (lv2 := [(7, .int t18), (9, .int t18), (0, .ref x0), (2, .int x2), (3, .int z3), (4, .ref x4), (5, .int x5), (6, .int x6), (8, .int x8)]) dX8_baron_99 (Nat.le_of_ble_eq_true rfl) rfl ?_
          refine h_iload dX8_baron_101 8 rfl ?_
          refine h_istore (lv2 := [(6, .int x8), (7, .int t18), (9, .int t18), (0, .ref x0), (2, .int x2), (3, .int z3), (4, .ref x4), (5, .int x5), (8, .int x8)]) dX8_baron_103 (Nat.le_of_ble_eq_true rfl) rfl ?_
          refine h_iinc (q := 8) (v := x8 + 1) (lv2 := [(8, .int (x8 + 1)), (6, .int x8), (7, .int t18), (9, .int t18), (0, .ref x0), (2, .int x2), (3, .int z3), (4, .ref x4), (5, .int x5)]) dX8_baron_105 rfl rfl (Nat.le_of_ble_eq_true rfl) rfl ?_
          refine h_goto (tgt := 47) dX8_baron_108 (by decide) ?_
          refine h_sub (lv2 := [(0, .ref x0), (2, .int x2), (3, .int z3), (4, .ref x4), (5, .int x5), (6, .int x8), (7, .int t18), (8, .int (x8 + 1))]) [4, 5, 6, 7, 8, 1, 2, 0] rfl ?_
          exact ih x0 x2 x4 x5 x8 t18 (x8 + 1) S17 k0 z3 hf hk0
set_option maxRecDepth 100000 in
set_option maxHeartbeats 4000000 in
theorem m_X8_baron {d : Nat} {cs : Nat → Nat} {a0 : Nat} {a1 : Int32} {a2 : Int32} {a3 : Int32} {S : hS} {r : Int32 × hS} (hd : 8 ≤ d) (hf : f_X8_baron a0 a1 a2 a3 S = some r) : HM yX8_baron cX8_baron 10 (some .int) d 0 0 cs [.ref a0, .int a1, .int a2, .int a3] S (some (.int r.1)) r.2 := by
  unfold f_X8_baron at hf
  refine HM.ofHW false (by decide) (fun h => by cases h) (Nat.le_of_ble_eq_true rfl) ?_
  show HW cX8_baron RX8 (x_X8_baron d S [.ref a0, .int a1, .int a2, .int a3] r cs) 0 0 S 0 [(0, .ref a0), (1, .int a1), (2, .int a2), (3, .int a3)] []
  refine h_aload_n dX8_baron_0 rfl 0 rfl ?_
  refine h_iload_n dX8_baron_1 rfl 1 rfl ?_
  refine h_iload_n dX8_baron_2 rfl 2 rfl ?_
  refine h_iconst (v := 0) dX8_baron_3 rfl ?_
  refine h_bipush (v := 60) dX8_baron_4 rfl ?_
  obtain ⟨g37, hf⟩ := hck_s hf
  obtain ⟨t24, S23, h22, hf⟩ := hb2_s hf
  refine h_Vr [.int a1, .int a2, .int 0, .int 60] (rest := []) (m_X8_ruleFor (d := 1) (cs := cs) (Nat.le_refl _) h22) v_X8_ruleFor q_735 rfl (Nat.le_trans (by decide) hd) g37 rfl rfl (Nat.le_of_ble_eq_true rfl) dX8_baron_6 (Nat.le_refl _) (Nat.le_refl _) ?_
  refine h_astoreV (lv2 := [(4, va_rf t24), (0, .ref a0), (1, .int a1), (2, .int a2), (3, .int a3)]) dX8_baron_9 (Nat.le_of_ble_eq_true rfl) rfl ?_
  refine h_aloadV dX8_baron_11 0 rfl ?_
  refine h_ifnull (tgt := 25) dX8_baron_13 (by decide) (fun c26 => ?_) (fun b25 c26 => ?_)
  · subst c26
    replace hf := hnl_N hf
    refine h_iconst (v := (-1)) dX8_baron_25 rfl ?_
    obtain rfl := Option.some.inj hf
    exact h_iret rfl rfl rfl (Nat.le_refl _) (Nat.le_refl _) dX8_baron_26
  · subst c26
    replace hf := hnl_S hf
    show HW cX8_baron RX8 (x_X8_baron d S [.ref a0, .int a1, .int a2, .int a3] r cs) 0 0 S23 16 [(4, .ref b25), (0, .ref a0), (1, .int a1), (2, .int a2), (3, .int a3)] []
    refine h_iload_n dX8_baron_16 rfl 4 rfl ?_
    refine h_if_lt (tgt := 25) dX8_baron_17 (by decide) (fun c27 => ?_) (fun c27 => ?_)
    · replace hf := hif_p c27 hf
      refine h_iconst (v := (-1)) dX8_baron_25 rfl ?_
      obtain rfl := Option.some.inj hf
      exact h_iret rfl rfl rfl (Nat.le_refl _) (Nat.le_refl _) dX8_baron_26
    · replace hf := hif_n c27 hf
      refine h_iload_n dX8_baron_20 rfl 4 rfl ?_
      refine h_iconst (v := 1) dX8_baron_21 rfl ?_
      refine h_icmp_le (tgt := 27) dX8_baron_22 (by decide) (fun c28 => ?_) (fun c28 => ?_)
      · replace hf := hif_p c28 hf
        refine h_aload_n dX8_baron_27 rfl 1 rfl ?_
        refine h_aload dX8_baron_28 0 rfl ?_
        refine h_iload_n dX8_baron_30 rfl 3 rfl ?_
        obtain ⟨g36, hf⟩ := hck_s hf
        obtain ⟨t31, S30, h29, hf⟩ := hb2_s hf
        refine h_Vi [.ref b25, .int a2] (rest := []) (m_X8_spotAhead (d := 7) (cs := cs) (Nat.le_refl _) h29) v_X8_spotAhead q_787 rfl (Nat.le_trans (by decide) hd) g36 rfl rfl (Nat.le_of_ble_eq_true rfl) dX8_baron_31 (Nat.le_refl _) (Nat.le_refl _) ?_
        refine h_istore (lv2 := [(5, .int t31), (4, .ref b25), (0, .ref a0), (1, .int a1), (2, .int a2), (3, .int a3)]) dX8_baron_34 (Nat.le_of_ble_eq_true rfl) rfl ?_
        refine h_bipush (v := (-2)) dX8_baron_36 rfl ?_
        refine h_istore (lv2 := [(6, .int (-2)), (5, .int t31), (4, .ref b25), (0, .ref a0), (1, .int a1), (2, .int a2), (3, .int a3)]) dX8_baron_38 (Nat.le_of_ble_eq_true rfl) rfl ?_
        refine h_bipush (v := (-2)) dX8_baron_40 rfl ?_
        refine h_istore (lv2 := [(7, .int (-2)), (6, .int (-2)), (5, .int t31), (4, .ref b25), (0, .ref a0), (1, .int a1), (2, .int a2), (3, .int a3)]) dX8_baron_42 (Nat.le_of_ble_eq_true rfl) rfl ?_
        refine h_iconst (v := 0) dX8_baron_44 rfl ?_
        refine h_istore (lv2 := [(8, .int 0), (7, .int (-2)), (6, .int (-2)), (5, .int t31), (4, .ref b25), (0, .ref a0), (1, .int a1), (2, .int a2), (3, .int a3)]) dX8_baron_45 (Nat.le_of_ble_eq_true rfl) rfl ?_
        refine h_sub (lv2 := [(0, .ref a0), (2, .int a2), (3, .int a3), (4, .ref b25), (5, .int t31), (6, .int (-2)), (7, .int (-2)), (8, .int 0)]) [5, 7, 8, 4, 3, 2, 1, 0] rfl ?_
        refine w_X8_baron_L47 hd hfuel a0 a2 b25 t31 (-2) (-2) 0 S30 _ a3 hf ?_
        · intro u32 u33 S34 hf
          refine h_iload_n dX8_baron_111 rfl 0 rfl ?_
          refine h_if_ne (tgt := 120) dX8_baron_112 (by decide) (fun c35 => ?_) (fun c35 => ?_)
          · replace hf := hif_n c35 hf
            refine h_iload dX8_baron_120 2 rfl ?_
            obtain rfl := Option.some.inj hf
            exact h_iret rfl rfl rfl (Nat.le_refl _) (Nat.le_refl _) dX8_baron_122
          · replace hf := hif_p c35 hf
            refine h_iload dX8_baron_115 1 rfl ?_
            refine h_goto (tgt := 122) dX8_baron_117 (by decide) ?_
            obtain rfl := Option.some.inj hf
            exact h_iret rfl rfl rfl (Nat.le_refl _) (Nat.le_refl _) dX8_baron_122
      · replace hf := hif_n c28 hf
        refine h_iconst (v := (-1)) dX8_baron_25 rfl ?_
        obtain rfl := Option.some.inj hf
        exact h_iret rfl rfl rfl (Nat.le_refl _) (Nat.le_refl _) dX8_baron_26
abbrev x_X8_led (d : Nat) (S0 : hS) (args : List Value) (r : Int32 × hS) (cs : Nat → Nat) : hX := (((some .int), 7, d, 0, 0, false), (S0, args, some (.int r.1), r.2), cs)
theorem v_X8_led : hVW yX8_led cX8_led 7 (some .int) RX8 2 := ⟨q_859, q_860, q_1, q_861, by decide +kernel, by decide⟩
def f_X8_led_L30 : Nat → Nat → Int32 → Nat → Int32 → Int32 → Int32 → hS → (Int32 → hS → Option (Int32 × hS)) → Option (Int32 × hS)
  | 0, _, _, _, _, _, _, _, _ => none
  | n + 1, x0, x2, x3, x4, x5, x6, S, k0 =>
    hbd (gR S x0 8 3) fun t1 =>
    hbd (gR S t1 0 1) fun t3 =>
    hbd (gI S t3 2 0) fun t5 =>
    if t5 ≤ x6 then
      (k0 x5 S)
    else
      (hbd (gR S x0 8 3) fun t8 =>
       hbd (gR S t8 0 1) fun t10 =>
       hck (S.K t10 = 3) <|
       hb2 (f_X2_here t10 x6 S) fun t14 S13 =>
       if t14 = 0 then
         (f_X8_led_L30 n x0 x2 x3 x4 x5 (x6 + 1) S13 k0)
       else
         (hck (S13.K x0 = 9) <|
          hb2 (f_X8_stepsWithout x0 x3 x2 x6 x4 S13) fun t18 S17 =>
          if t18 ≤ 0 then
            (f_X8_led_L30 n x0 x2 x3 x4 x5 (x6 + 1) S17 k0)
          else
            (f_X8_led_L30 n x0 x2 x3 x4 (x5 ||| (1 <<< (x6 &&& 31))) (x6 + 1) S17 k0)))
def f_X8_led (a0 : Nat) (a1 : Int32) (a2 : Int32) (S : hS) : Option (Int32 × hS) :=
  hck (S.K a0 = 9) <|
  hb2 (f_X8_ruleFor a0 a1 a2 0 60 S) fun t24 S23 =>
  hnl t24 (
    some ((-1), S23)
    ) fun b25 =>
  hck (S23.K a0 = 9) <|
  hb2 (f_X8_spotAhead a0 b25 a2 S23) fun t29 S28 =>
  f_X8_led_L30 hfuel a0 a2 b25 t29 0 0 S28
    (fun u30 S31 =>
      some (u30, S31)
    )
set_option maxRecDepth 100000 in
set_option maxHeartbeats 4000000 in
theorem w_X8_led_L30 {d : Nat} {S0 : hS} {args : List Value} {cs : Nat → Nat} {r : Int32 × hS} (hd : 8 ≤ d) : ∀ (n : Nat) (x0 : Nat) (x2 : Int32) (x3 : Nat) (x4 : Int32) (x5 : Int32) (x6 : Int32) (S : hS) (k0 : (Int32 → hS → Option (Int32 × hS))) , f_X8_led_L30 n x0 x2 x3 x4 x5 x6 S k0 = some r → (∀ (y5 : Int32) (T : hS), k0 y5 T = some r → HW cX8_led RX8 (x_X8_led d S0 args r cs) 0 0 T 88 [(5, .int y5)] []) → HW cX8_led RX8 (x_X8_led d S0 args r cs) 0 0 S 30 [(0, .ref x0), (2, .int x2), (3, .ref x3), (4, .int x4), (5, .int x5), (6, .int x6)] [] := by
  intro n
  induction n with
  | zero =>
    intro x0 x2 x3 x4 x5 x6 S k0 hf
    cases hf
  | succ n ih =>
    intro x0 x2 x3 x4 x5 x6 S k0 hf hk0
    rw [f_X8_led_L30] at hf
    refine h_iload dX8_led_30 5 rfl ?_
    refine h_aload_n dX8_led_32 rfl 0 rfl ?_
    obtain ⟨t1, h2, hf⟩ := hbd_s hf
    refine h_getR h2 rfl (Nat.le_of_ble_eq_true rfl) rfl q_303 rfl dX8_led_33 ?_
    obtain ⟨t3, h4, hf⟩ := hbd_s hf
    refine h_getRN (host := "DeafSpot") h4 rfl (Nat.le_of_ble_eq_true rfl) rfl (List.mem_of_getElem? (i := 52) rfl) rfl dX8_led_36 ?_
    obtain ⟨t5, h6, hf⟩ := hbd_s hf
    refine h_getIN (host := "DeafSpot") h6 rfl (Nat.le_of_ble_eq_true rfl) rfl (List.mem_of_getElem? (i := 37) rfl) rfl dX8_led_39 ?_
    refine h_icmp_ge (tgt := 88) dX8_led_42 (by decide) (fun c7 => ?_) (fun c7 => ?_)
    · replace hf := hif_p c7 hf
      refine h_sub (lv2 := [(5, .int x5)]) [4] rfl ?_
      exact hk0 x5 S hf
    · replace hf := hif_n c7 hf
      refine h_aload_n dX8_led_45 rfl 0 rfl ?_
      obtain ⟨t8, h9, hf⟩ := hbd_s hf
      refine h_getR h9 rfl (Nat.le_of_ble_eq_true rfl) rfl q_303 rfl dX8_led_46 ?_
      obtain ⟨t10, h11, hf⟩ := hbd_s hf
      refine h_getRN (host := "DeafSpot") h11 rfl (Nat.le_of_ble_eq_true rfl) rfl (List.mem_of_getElem? (i := 52) rfl) rfl dX8_led_49 ?_
      refine h_iload dX8_led_52 5 rfl ?_
      obtain ⟨g21, hf⟩ := hck_s hf
      obtain ⟨t14, S13, h12, hf⟩ := hb2_s hf
      refine h_Vi [.int x6] (rest := []) (m_X2_here (d := 1) (cs := cs) (Nat.le_refl _) h12) v_X2_here q_717 rfl (Nat.le_trans (by decide) hd) g21 rfl rfl (Nat.le_of_ble_eq_true rfl) dX8_led_54 (Nat.le_refl _) (Nat.le_refl _) ?_
      refine h_if_eq (tgt := 82) dX8_led_57 (by decide) (fun c15 => ?_) (fun c15 => ?_)
      · replace hf := hif_p c15 hf
        refine h_iinc (q := 5) (v := x6 + 1) (lv2 := [(6, .int (x6 + 1)), (0, .ref x0), (2, .int x2), (3, .ref x3), (4, .int x4), (5, .int x5)]) dX8_led_82 rfl rfl (Nat.le_of_ble_eq_true rfl) rfl ?_
        refine h_goto (tgt := 30) dX8_led_85 (by decide) ?_
        refine h_sub (lv2 := [(0, .ref x0), (2, .int x2), (3, .ref x3), (4, .int x4), (5, .int x5), (6, .int (x6 + 1))]) [1, 2, 3, 4, 5, 0] rfl ?_
        exact ih x0 x2 x3 x4 x5 (x6 + 1) S13 k0  hf hk0
      · replace hf := hif_n c15 hf
        refine h_aload_n dX8_led_60 rfl 0 rfl ?_
        refine h_aload_n dX8_led_61 rfl 2 rfl ?_
        refine h_iload_n dX8_led_62 rfl 1 rfl ?_
        refine h_iload dX8_led_63 5 rfl ?_
        refine h_iload dX8_led_65 3 rfl ?_
        obtain ⟨g20, hf⟩ := hck_s hf
        obtain ⟨t18, S17, h16, hf⟩ := hb2_s hf
        refine h_Vi [.ref x3, .int x2, .int x6, .int x4] (rest := []) (m_X8_stepsWithout (d := 7) (cs := cs) (Nat.le_refl _) h16) v_X8_stepsWithout q_849 rfl (Nat.le_trans (by decide) hd) g20 rfl rfl (Nat.le_of_ble_eq_true rfl) dX8_led_67 (Nat.le_refl _) (Nat.le_refl _) ?_
        refine h_if_le (tgt := 82) dX8_led_70 (by decide) (fun c19 => ?_) (fun c19 => ?_)
        · replace hf := hif_p c19 hf
          refine h_iinc (q := 5) (v := x6 + 1) (lv2 := [(6, .int (x6 + 1)), (0, .ref x0), (2, .int x2), (3, .ref x3), (4, .int x4), (5, .int x5)]) dX8_led_82 rfl rfl (Nat.le_of_ble_eq_true rfl) rfl ?_
          refine h_goto (tgt := 30) dX8_led_85 (by decide) ?_
          refine h_sub (lv2 := [(0, .ref x0), (2, .int x2), (3, .ref x3), (4, .int x4), (5, .int x5), (6, .int (x6 + 1))]) [1, 2, 3, 4, 5, 0] rfl ?_
          exact ih x0 x2 x3 x4 x5 (x6 + 1) S17 k0  hf hk0
        · replace hf := hif_n c19 hf
          refine h_iload dX8_led_73 4 rfl ?_
          refine h_iconst (v := 1) dX8_led_75 rfl ?_
          refine h_iload dX8_led_76 5 rfl ?_
          refine h_ishl dX8_led_78 ?_
          refine h_ior dX8_led_79 ?_
          refine h_istore (lv2 := [(5, .int (x5 ||| (1 <<< (x6 &&& 31)))), (0, .ref x0), (2, .int x2), (3, .ref x3), (4, .int x4), (6, .int x6)]) dX8_led_80 (Nat.le_of_ble_eq_true rfl) rfl ?_
          refine h_iinc (q := 5) (v := x6 + 1) (lv2 := [(6, .int (x6 + 1)), (5, .int (x5 ||| (1 <<< (x6 &&& 31)))), (0, .ref x0), (2, .int x2), (3, .ref x3), (4, .int x4)]) dX8_led_82 rfl rfl (Nat.le_of_ble_eq_true rfl) rfl ?_
          refine h_goto (tgt := 30) dX8_led_85 (by decide) ?_
          refine h_sub (lv2 := [(0, .ref x0), (2, .int x2), (3, .ref x3), (4, .int x4), (5, .int (x5 ||| (1 <<< (x6 &&& 31)))), (6, .int (x6 + 1))]) [2, 3, 4, 5, 1, 0] rfl ?_
          exact ih x0 x2 x3 x4 (x5 ||| (1 <<< (x6 &&& 31))) (x6 + 1) S17 k0  hf hk0
set_option maxRecDepth 100000 in
set_option maxHeartbeats 4000000 in
theorem m_X8_led {d : Nat} {cs : Nat → Nat} {a0 : Nat} {a1 : Int32} {a2 : Int32} {S : hS} {r : Int32 × hS} (hd : 8 ≤ d) (hf : f_X8_led a0 a1 a2 S = some r) : HM yX8_led cX8_led 7 (some .int) d 0 0 cs [.ref a0, .int a1, .int a2] S (some (.int r.1)) r.2 := by
  unfold f_X8_led at hf
  refine HM.ofHW false (by decide) (fun h => by cases h) (Nat.le_of_ble_eq_true rfl) ?_
  show HW cX8_led RX8 (x_X8_led d S [.ref a0, .int a1, .int a2] r cs) 0 0 S 0 [(0, .ref a0), (1, .int a1), (2, .int a2)] []
  refine h_aload_n dX8_led_0 rfl 0 rfl ?_
  refine h_iload_n dX8_led_1 rfl 1 rfl ?_
  refine h_iload_n dX8_led_2 rfl 2 rfl ?_
  refine h_iconst (v := 0) dX8_led_3 rfl ?_
  refine h_bipush (v := 60) dX8_led_4 rfl ?_
  obtain ⟨g33, hf⟩ := hck_s hf
  obtain ⟨t24, S23, h22, hf⟩ := hb2_s hf
  refine h_Vr [.int a1, .int a2, .int 0, .int 60] (rest := []) (m_X8_ruleFor (d := 1) (cs := cs) (Nat.le_refl _) h22) v_X8_ruleFor q_735 rfl (Nat.le_trans (by decide) hd) g33 rfl rfl (Nat.le_of_ble_eq_true rfl) dX8_led_6 (Nat.le_refl _) (Nat.le_refl _) ?_
  refine h_astore_nV (lv2 := [(3, va_rf t24), (0, .ref a0), (1, .int a1), (2, .int a2)]) dX8_led_9 rfl (Nat.le_of_ble_eq_true rfl) rfl ?_
  refine h_aload_nV dX8_led_10 rfl 0 rfl ?_
  refine h_ifnonnull (tgt := 16) dX8_led_11 (by decide) (fun c26 => ?_) (fun b25 c26 => ?_)
  · subst c26
    replace hf := hnl_N hf
    refine h_iconst (v := (-1)) dX8_led_14 rfl ?_
    obtain rfl := Option.some.inj hf
    exact h_iret rfl rfl rfl (Nat.le_refl _) (Nat.le_refl _) dX8_led_15
  · subst c26
    replace hf := hnl_S hf
    show HW cX8_led RX8 (x_X8_led d S [.ref a0, .int a1, .int a2] r cs) 0 0 S23 16 [(3, .ref b25), (0, .ref a0), (1, .int a1), (2, .int a2)] []
    refine h_aload_n dX8_led_16 rfl 1 rfl ?_
    refine h_aload_n dX8_led_17 rfl 0 rfl ?_
    refine h_iload_n dX8_led_18 rfl 3 rfl ?_
    obtain ⟨g32, hf⟩ := hck_s hf
    obtain ⟨t29, S28, h27, hf⟩ := hb2_s hf
    refine h_Vi [.ref b25, .int a2] (rest := []) (m_X8_spotAhead (d := 7) (cs := cs) (Nat.le_refl _) h27) v_X8_spotAhead q_787 rfl (Nat.le_trans (by decide) hd) g32 rfl rfl (Nat.le_of_ble_eq_true rfl) dX8_led_19 (Nat.le_refl _) (Nat.le_refl _) ?_
    refine h_istore (lv2 := [(4, .int t29), (3, .ref b25), (0, .ref a0), (1, .int a1), (2, .int a2)]) dX8_led_22 (Nat.le_of_ble_eq_true rfl) rfl ?_
    refine h_iconst (v := 0) dX8_led_24 rfl ?_
    refine h_istore (lv2 := [(5, .int 0), (4, .int t29), (3, .ref b25), (0, .ref a0), (1, .int a1), (2, .int a2)]) dX8_led_25 (Nat.le_of_ble_eq_true rfl) rfl ?_
    refine h_iconst (v := 0) dX8_led_27 rfl ?_
    refine h_istore (lv2 := [(6, .int 0), (5, .int 0), (4, .int t29), (3, .ref b25), (0, .ref a0), (1, .int a1), (2, .int a2)]) dX8_led_28 (Nat.le_of_ble_eq_true rfl) rfl ?_
    refine h_sub (lv2 := [(0, .ref a0), (2, .int a2), (3, .ref b25), (4, .int t29), (5, .int 0), (6, .int 0)]) [4, 6, 3, 2, 1, 0] rfl ?_
    refine w_X8_led_L30 hd hfuel a0 a2 b25 t29 0 0 S28 _  hf ?_
    · intro u30 S31 hf
      refine h_iload dX8_led_88 0 rfl ?_
      obtain rfl := Option.some.inj hf
      exact h_iret rfl rfl rfl (Nat.le_refl _) (Nat.le_refl _) dX8_led_90
abbrev x_X8_fanned (d : Nat) (S0 : hS) (args : List Value) (r : Int32 × hS) (cs : Nat → Nat) : hX := (((some .int), 8, d, 0, 0, false), (S0, args, some (.int r.1), r.2), cs)
theorem v_X8_fanned : hVW yX8_fanned cX8_fanned 8 (some .int) RX8 5 := ⟨q_863, q_864, q_1, q_865, by decide +kernel, by decide⟩
def f_X8_fanned (a0 : Nat) (a1 : Int32) (a2 : Int32) (a3 : Int32) (a4 : Int32) (a5 : Int32) (S : hS) : Option (Int32 × hS) :=
  hck (S.K a0 = 9) <|
  hb2 (f_X8_ruleFor a0 a1 a2 0 10 S) fun t3 S2 =>
  hbd (gR S2 a0 8 3) fun t4 =>
  hbd (gR S2 t4 0 0) fun t6 =>
  hck (S2.K t6 = 7) <|
  hb2 (f_X6_seatAt t6 a3 a4 S2) fun t10 S9 =>
  hnl t3 (
    some ((-1), S9)
    ) fun b11 =>
  if t10 = (-1) then
    (some ((-1), S9))
  else
    (if a5 < 0 then
       (some ((-1), S9))
     else
       (if a5 ≤ 3 then
          (hbd (gR S9 a0 8 9) fun t16 =>
           hck (S9.K t16 = 2) <|
           hb2 (f_X1_answers t16 2 a1 a2 t10 0 S9) fun t20 S19 =>
           hj (γ := hS → Option (Int32 × hS)) (fun (S22 : hS) =>
             hbd (gR S22 a0 8 9) fun t23 =>
             hck (S22.K t23 = 2) <|
             hb2 (f_X1_part t23 a5 S22) fun t27 S26 =>
             some (t27, S26)
             ) fun J21 =>
           if t20 = 0 then
             (hbd (gR S19 a0 8 9) fun t30 =>
              hck (S19.K t30 = 2) <|
              hbd (f_X1_begin t30 2 a1 a2 t10 0 S19) fun S33 =>
              hck (S33.K a0 = 9) <|
              hbd (f_X8_seekFan a0 b11 a2 t10 S33) fun S35 =>
              J21 S35)
           else
             (J21 S19))
        else
          (some ((-1), S9))))
set_option maxRecDepth 100000 in
set_option maxHeartbeats 4000000 in
theorem m_X8_fanned {d : Nat} {cs : Nat → Nat} {a0 : Nat} {a1 : Int32} {a2 : Int32} {a3 : Int32} {a4 : Int32} {a5 : Int32} {S : hS} {r : Int32 × hS} (hd : 8 ≤ d) (hf : f_X8_fanned a0 a1 a2 a3 a4 a5 S = some r) : HM yX8_fanned cX8_fanned 8 (some .int) d 0 0 cs [.ref a0, .int a1, .int a2, .int a3, .int a4, .int a5] S (some (.int r.1)) r.2 := by
  unfold f_X8_fanned at hf
  refine HM.ofHW false (by decide) (fun h => by cases h) (Nat.le_of_ble_eq_true rfl) ?_
  show HW cX8_fanned RX8 (x_X8_fanned d S [.ref a0, .int a1, .int a2, .int a3, .int a4, .int a5] r cs) 0 0 S 0 [(0, .ref a0), (1, .int a1), (2, .int a2), (3, .int a3), (4, .int a4), (5, .int a5)] []
  refine h_aload_n dX8_fanned_0 rfl 0 rfl ?_
  refine h_iload_n dX8_fanned_1 rfl 1 rfl ?_
  refine h_iload_n dX8_fanned_2 rfl 2 rfl ?_
  refine h_iconst (v := 0) dX8_fanned_3 rfl ?_
  refine h_bipush (v := 10) dX8_fanned_4 rfl ?_
  obtain ⟨g40, hf⟩ := hck_s hf
  obtain ⟨t3, S2, h1, hf⟩ := hb2_s hf
  refine h_Vr [.int a1, .int a2, .int 0, .int 10] (rest := []) (m_X8_ruleFor (d := 1) (cs := cs) (Nat.le_refl _) h1) v_X8_ruleFor q_735 rfl (Nat.le_trans (by decide) hd) g40 rfl rfl (Nat.le_of_ble_eq_true rfl) dX8_fanned_6 (Nat.le_refl _) (Nat.le_refl _) ?_
  refine h_astoreV (lv2 := [(6, va_rf t3), (0, .ref a0), (1, .int a1), (2, .int a2), (3, .int a3), (4, .int a4), (5, .int a5)]) dX8_fanned_9 (Nat.le_of_ble_eq_true rfl) rfl ?_
  refine h_aload_n dX8_fanned_11 rfl 1 rfl ?_
  obtain ⟨t4, h5, hf⟩ := hbd_s hf
  refine h_getR h5 rfl (Nat.le_of_ble_eq_true rfl) rfl q_303 rfl dX8_fanned_12 ?_
  obtain ⟨t6, h7, hf⟩ := hbd_s hf
  refine h_getRN (host := "DeafSpot") h7 rfl (Nat.le_of_ble_eq_true rfl) rfl (List.mem_of_getElem? (i := 50) rfl) rfl dX8_fanned_15 ?_
  refine h_iload_n dX8_fanned_18 rfl 4 rfl ?_
  refine h_iload dX8_fanned_19 5 rfl ?_
  obtain ⟨g39, hf⟩ := hck_s hf
  obtain ⟨t10, S9, h8, hf⟩ := hb2_s hf
  refine h_Vi [.int a3, .int a4] (rest := []) (m_X6_seatAt (d := 1) (cs := cs) (Nat.le_refl _) h8) v_X6_seatAt q_690 rfl (Nat.le_trans (by decide) hd) g39 rfl rfl (Nat.le_of_ble_eq_true rfl) dX8_fanned_21 (Nat.le_refl _) (Nat.le_refl _) ?_
  refine h_istore (lv2 := [(7, .int t10), (6, va_rf t3), (0, .ref a0), (1, .int a1), (2, .int a2), (3, .int a3), (4, .int a4), (5, .int a5)]) dX8_fanned_24 (Nat.le_of_ble_eq_true rfl) (by cases t3 <;> rfl) ?_
  refine h_aloadV dX8_fanned_26 1 rfl ?_
  refine h_ifnull (tgt := 48) dX8_fanned_28 (by decide) (fun c12 => ?_) (fun b11 c12 => ?_)
  · subst c12
    replace hf := hnl_N hf
    refine h_iconst (v := (-1)) dX8_fanned_48 rfl ?_
    obtain rfl := Option.some.inj hf
    exact h_iret rfl rfl rfl (Nat.le_refl _) (Nat.le_refl _) dX8_fanned_49
  · subst c12
    replace hf := hnl_S hf
    show HW cX8_fanned RX8 (x_X8_fanned d S [.ref a0, .int a1, .int a2, .int a3, .int a4, .int a5] r cs) 0 0 S9 31 [(7, .int t10), (6, .ref b11), (0, .ref a0), (1, .int a1), (2, .int a2), (3, .int a3), (4, .int a4), (5, .int a5)] []
    refine h_iload dX8_fanned_31 0 rfl ?_
    refine h_iconst (v := (-1)) dX8_fanned_33 rfl ?_
    refine h_icmp_eq (tgt := 48) dX8_fanned_34 (by decide) (fun c13 => ?_) (fun c13 => ?_)
    · replace hf := hif_p c13 hf
      refine h_iconst (v := (-1)) dX8_fanned_48 rfl ?_
      obtain rfl := Option.some.inj hf
      exact h_iret rfl rfl rfl (Nat.le_refl _) (Nat.le_refl _) dX8_fanned_49
    · replace hf := hif_n c13 hf
      refine h_iload dX8_fanned_37 7 rfl ?_
      refine h_if_lt (tgt := 48) dX8_fanned_39 (by decide) (fun c14 => ?_) (fun c14 => ?_)
      · replace hf := hif_p c14 hf
        refine h_iconst (v := (-1)) dX8_fanned_48 rfl ?_
        obtain rfl := Option.some.inj hf
        exact h_iret rfl rfl rfl (Nat.le_refl _) (Nat.le_refl _) dX8_fanned_49
      · replace hf := hif_n c14 hf
        refine h_iload dX8_fanned_42 7 rfl ?_
        refine h_iconst (v := 3) dX8_fanned_44 rfl ?_
        refine h_icmp_le (tgt := 50) dX8_fanned_45 (by decide) (fun c15 => ?_) (fun c15 => ?_)
        · replace hf := hif_p c15 hf
          refine h_aload_n dX8_fanned_50 rfl 2 rfl ?_
          obtain ⟨t16, h17, hf⟩ := hbd_s hf
          refine h_getR h17 rfl (Nat.le_of_ble_eq_true rfl) rfl q_309 rfl dX8_fanned_51 ?_
          refine h_iconst (v := 2) dX8_fanned_54 rfl ?_
          refine h_iload_n dX8_fanned_55 rfl 3 rfl ?_
          refine h_iload_n dX8_fanned_56 rfl 4 rfl ?_
          refine h_iload dX8_fanned_57 0 rfl ?_
          refine h_iconst (v := 0) dX8_fanned_59 rfl ?_
          obtain ⟨g38, hf⟩ := hck_s hf
          obtain ⟨t20, S19, h18, hf⟩ := hb2_s hf
          refine h_Vi [.int 2, .int a1, .int a2, .int t10, .int 0] (rest := []) (m_X1_answers (d := 1) (cs := cs) (Nat.le_refl _) h18) v_X1_answers q_807 rfl (Nat.le_trans (by decide) hd) g38 rfl rfl (Nat.le_of_ble_eq_true rfl) dX8_fanned_60 (Nat.le_refl _) (Nat.le_refl _) ?_
          refine hj_s (fun J21 => ∀ (S22 : hS), J21 S22 = some r → HW cX8_fanned RX8 (x_X8_fanned d S [.ref a0, .int a1, .int a2, .int a3, .int a4, .int a5] r cs) 0 0 S22 88 [(0, .ref a0), (5, .int a5)] []) hf ?_ ?_
          · intro S22 hf
            refine h_aload_n dX8_fanned_88 rfl 0 rfl ?_
            obtain ⟨t23, h24, hf⟩ := hbd_s hf
            refine h_getR h24 rfl (Nat.le_of_ble_eq_true rfl) rfl q_309 rfl dX8_fanned_89 ?_
            refine h_iload dX8_fanned_92 1 rfl ?_
            obtain ⟨g28, hf⟩ := hck_s hf
            obtain ⟨t27, S26, h25, hf⟩ := hb2_s hf
            refine h_Vi [.int a5] (rest := []) (m_X1_part (d := 1) (cs := cs) (Nat.le_refl _) h25) v_X1_part q_837 rfl (Nat.le_trans (by decide) hd) g28 rfl rfl (Nat.le_of_ble_eq_true rfl) dX8_fanned_94 (Nat.le_refl _) (Nat.le_refl _) ?_
            obtain rfl := Option.some.inj hf
            exact h_iret rfl rfl rfl (Nat.le_refl _) (Nat.le_refl _) dX8_fanned_97
          · intro J21 hJ21 hf
            refine h_if_ne (tgt := 88) dX8_fanned_63 (by decide) (fun c29 => ?_) (fun c29 => ?_)
            · replace hf := hif_n c29 hf
              refine h_sub (lv2 := [(0, .ref a0), (5, .int a5)]) [2, 7] rfl ?_
              exact hJ21 S19 hf
            · replace hf := hif_p c29 hf
              refine h_aload_n dX8_fanned_66 rfl 2 rfl ?_
              obtain ⟨t30, h31, hf⟩ := hbd_s hf
              refine h_getR h31 rfl (Nat.le_of_ble_eq_true rfl) rfl q_309 rfl dX8_fanned_67 ?_
              refine h_iconst (v := 2) dX8_fanned_70 rfl ?_
              refine h_iload_n dX8_fanned_71 rfl 3 rfl ?_
              refine h_iload_n dX8_fanned_72 rfl 4 rfl ?_
              refine h_iload dX8_fanned_73 0 rfl ?_
              refine h_iconst (v := 0) dX8_fanned_75 rfl ?_
              obtain ⟨g37, hf⟩ := hck_s hf
              obtain ⟨S33, h32, hf⟩ := hbd_s hf
              refine h_Vv [.int 2, .int a1, .int a2, .int t10, .int 0] (rest := []) (m_X1_begin (d := 1) (cs := cs) (Nat.le_refl _) h32) v_X1_begin q_811 rfl (Nat.le_trans (by decide) hd) g37 rfl rfl (Nat.le_of_ble_eq_true rfl) dX8_fanned_76 (Nat.le_refl _) (Nat.le_refl _) ?_
              refine h_aload_n dX8_fanned_79 rfl 2 rfl ?_
              refine h_aload dX8_fanned_80 1 rfl ?_
              refine h_iload_n dX8_fanned_82 rfl 4 rfl ?_
              refine h_iload dX8_fanned_83 0 rfl ?_
              obtain ⟨g36, hf⟩ := hck_s hf
              obtain ⟨S35, h34, hf⟩ := hbd_s hf
              refine h_Vv [.ref b11, .int a2, .int t10] (rest := []) (m_X8_seekFan (d := 7) (cs := cs) (Nat.le_refl _) h34) v_X8_seekFan q_866 rfl (Nat.le_trans (by decide) hd) g36 rfl rfl (Nat.le_of_ble_eq_true rfl) dX8_fanned_85 (Nat.le_refl _) (Nat.le_refl _) ?_
              refine h_sub (lv2 := [(0, .ref a0), (5, .int a5)]) [2, 7] rfl ?_
              exact hJ21 S35 hf
        · replace hf := hif_n c15 hf
          refine h_iconst (v := (-1)) dX8_fanned_48 rfl ?_
          obtain rfl := Option.some.inj hf
          exact h_iret rfl rfl rfl (Nat.le_refl _) (Nat.le_refl _) dX8_fanned_49
