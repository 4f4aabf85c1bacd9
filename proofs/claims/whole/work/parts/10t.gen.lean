abbrev x_X8_span (d : Nat) (S0 : hS) (args : List Value) (r : Int32 × hS) (cs : Nat → Nat) : hX := (((some .int), 7, d, 0, 0, false), (S0, args, some (.int r.1), r.2), cs)
theorem v_X8_span : hVW yX8_span cX8_span 7 (some .int) RX8 5 := ⟨q_872, q_873, q_1, q_874, by decide +kernel, by decide⟩
def f_X8_span (a0 : Nat) (a1 : Int32) (a2 : Int32) (a3 : Int32) (a4 : Int32) (a5 : Int32) (S : hS) : Option (Int32 × hS) :=
  hck (S.K a0 = 9) <|
  hb2 (f_X8_ruleFor a0 a1 a2 0 60 S) fun t3 S2 =>
  hnl t3 (
    some ((-1), S2)
    ) fun b4 =>
  hbd (gR S2 a0 8 3) fun t6 =>
  hbd (gR S2 t6 0 1) fun t8 =>
  hck (S2.K t8 = 3) <|
  hb2 (f_X2_here t8 a3 S2) fun t12 S11 =>
  if t12 = 0 then
    (some ((-1), S11))
  else
    (if a4 < 0 then
       (some ((-1), S11))
     else
       (if 20 < a4 then
          (some ((-1), S11))
        else
          (if a5 < 0 then
             (some ((-1), S11))
           else
             (if a5 ≤ 4 then
                (hbd (gR S11 a0 8 9) fun t18 =>
                 hck (S11.K t18 = 2) <|
                 hb2 (f_X1_answers t18 3 a1 a2 a3 a4 S11) fun t22 S21 =>
                 hj (γ := hS → Option (Int32 × hS)) (fun (S24 : hS) =>
                   hbd (gR S24 a0 8 9) fun t25 =>
                   hck (S24.K t25 = 2) <|
                   hb2 (f_X1_part t25 a5 S24) fun t29 S28 =>
                   some (t29, S28)
                   ) fun J23 =>
                 if t22 = 0 then
                   (hbd (gR S21 a0 8 9) fun t32 =>
                    hck (S21.K t32 = 2) <|
                    hbd (f_X1_begin t32 3 a1 a2 a3 a4 S21) fun S35 =>
                    hck (S35.K a0 = 9) <|
                    hbd (f_X8_markSpan a0 b4 a2 a3 a4 S35) fun S37 =>
                    hbd (gR S37 a0 8 9) fun t38 =>
                    hbd (gR S37 a0 8 3) fun t40 =>
                    hbd (gR S37 t40 0 0) fun t42 =>
                    hbd (gR S37 a0 8 10) fun t44 =>
                    hck (S37.K t38 = 2) <|
                    hbd (f_X1_keepSpan t38 t42 t44 S37) fun S47 =>
                    J23 S47)
                 else
                   (J23 S21))
              else
                (some ((-1), S11))))))
set_option maxRecDepth 100000 in
set_option maxHeartbeats 4000000 in
theorem m_X8_span {d : Nat} {cs : Nat → Nat} {a0 : Nat} {a1 : Int32} {a2 : Int32} {a3 : Int32} {a4 : Int32} {a5 : Int32} {S : hS} {r : Int32 × hS} (hd : 8 ≤ d) (hf : f_X8_span a0 a1 a2 a3 a4 a5 S = some r) : HM yX8_span cX8_span 7 (some .int) d 0 0 cs [.ref a0, .int a1, .int a2, .int a3, .int a4, .int a5] S (some (.int r.1)) r.2 := by
  unfold f_X8_span at hf
  refine HM.ofHW false (by decide) (fun h => by cases h) (Nat.le_of_ble_eq_true rfl) ?_
  show HW cX8_span RX8 (x_X8_span d S [.ref a0, .int a1, .int a2, .int a3, .int a4, .int a5] r cs) 0 0 S 0 [(0, .ref a0), (1, .int a1), (2, .int a2), (3, .int a3), (4, .int a4), (5, .int a5)] []
  refine h_aload_n dX8_span_0 rfl 0 rfl ?_
  refine h_iload_n dX8_span_1 rfl 1 rfl ?_
  refine h_iload_n dX8_span_2 rfl 2 rfl ?_
  refine h_iconst (v := 0) dX8_span_3 rfl ?_
  refine h_bipush (v := 60) dX8_span_4 rfl ?_
  obtain ⟨g53, hf⟩ := hck_s hf
  obtain ⟨t3, S2, h1, hf⟩ := hb2_s hf
  refine h_Vr [.int a1, .int a2, .int 0, .int 60] (rest := []) (m_X8_ruleFor (d := 1) (cs := cs) (Nat.le_refl _) h1) v_X8_ruleFor q_735 rfl (Nat.le_trans (by decide) hd) g53 rfl rfl (Nat.le_of_ble_eq_true rfl) dX8_span_6 (Nat.le_refl _) (Nat.le_refl _) ?_
  refine h_astoreV (lv2 := [(6, va_rf t3), (0, .ref a0), (1, .int a1), (2, .int a2), (3, .int a3), (4, .int a4), (5, .int a5)]) dX8_span_9 (Nat.le_of_ble_eq_true rfl) rfl ?_
  refine h_aloadV dX8_span_11 0 rfl ?_
  refine h_ifnull (tgt := 53) dX8_span_13 (by decide) (fun c5 => ?_) (fun b4 c5 => ?_)
  · subst c5
    replace hf := hnl_N hf
    refine h_iconst (v := (-1)) dX8_span_53 rfl ?_
    obtain rfl := Option.some.inj hf
    exact h_iret rfl rfl rfl (Nat.le_refl _) (Nat.le_refl _) dX8_span_54
  · subst c5
    replace hf := hnl_S hf
    show HW cX8_span RX8 (x_X8_span d S [.ref a0, .int a1, .int a2, .int a3, .int a4, .int a5] r cs) 0 0 S2 16 [(6, .ref b4), (0, .ref a0), (1, .int a1), (2, .int a2), (3, .int a3), (4, .int a4), (5, .int a5)] []
    refine h_aload_n dX8_span_16 rfl 1 rfl ?_
    obtain ⟨t6, h7, hf⟩ := hbd_s hf
    refine h_getR h7 rfl (Nat.le_of_ble_eq_true rfl) rfl q_303 rfl dX8_span_17 ?_
    obtain ⟨t8, h9, hf⟩ := hbd_s hf
    refine h_getRN (host := "DeafSpot") h9 rfl (Nat.le_of_ble_eq_true rfl) rfl (List.mem_of_getElem? (i := 52) rfl) rfl dX8_span_20 ?_
    refine h_iload_n dX8_span_23 rfl 4 rfl ?_
    obtain ⟨g52, hf⟩ := hck_s hf
    obtain ⟨t12, S11, h10, hf⟩ := hb2_s hf
    refine h_Vi [.int a3] (rest := []) (m_X2_here (d := 1) (cs := cs) (Nat.le_refl _) h10) v_X2_here q_717 rfl (Nat.le_trans (by decide) hd) g52 rfl rfl (Nat.le_of_ble_eq_true rfl) dX8_span_24 (Nat.le_refl _) (Nat.le_refl _) ?_
    refine h_if_eq (tgt := 53) dX8_span_27 (by decide) (fun c13 => ?_) (fun c13 => ?_)
    · replace hf := hif_p c13 hf
      refine h_iconst (v := (-1)) dX8_span_53 rfl ?_
      obtain rfl := Option.some.inj hf
      exact h_iret rfl rfl rfl (Nat.le_refl _) (Nat.le_refl _) dX8_span_54
    · replace hf := hif_n c13 hf
      refine h_iload dX8_span_30 5 rfl ?_
      refine h_if_lt (tgt := 53) dX8_span_32 (by decide) (fun c14 => ?_) (fun c14 => ?_)
      · replace hf := hif_p c14 hf
        refine h_iconst (v := (-1)) dX8_span_53 rfl ?_
        obtain rfl := Option.some.inj hf
        exact h_iret rfl rfl rfl (Nat.le_refl _) (Nat.le_refl _) dX8_span_54
      · replace hf := hif_n c14 hf
        refine h_iload dX8_span_35 5 rfl ?_
        refine h_bipush (v := 20) dX8_span_37 rfl ?_
        refine h_icmp_gt (tgt := 53) dX8_span_39 (by decide) (fun c15 => ?_) (fun c15 => ?_)
        · replace hf := hif_p c15 hf
          refine h_iconst (v := (-1)) dX8_span_53 rfl ?_
          obtain rfl := Option.some.inj hf
          exact h_iret rfl rfl rfl (Nat.le_refl _) (Nat.le_refl _) dX8_span_54
        · replace hf := hif_n c15 hf
          refine h_iload dX8_span_42 6 rfl ?_
          refine h_if_lt (tgt := 53) dX8_span_44 (by decide) (fun c16 => ?_) (fun c16 => ?_)
          · replace hf := hif_p c16 hf
            refine h_iconst (v := (-1)) dX8_span_53 rfl ?_
            obtain rfl := Option.some.inj hf
            exact h_iret rfl rfl rfl (Nat.le_refl _) (Nat.le_refl _) dX8_span_54
          · replace hf := hif_n c16 hf
            refine h_iload dX8_span_47 6 rfl ?_
            refine h_iconst (v := 4) dX8_span_49 rfl ?_
            refine h_icmp_le (tgt := 55) dX8_span_50 (by decide) (fun c17 => ?_) (fun c17 => ?_)
            · replace hf := hif_p c17 hf
              refine h_aload_n dX8_span_55 rfl 1 rfl ?_
              obtain ⟨t18, h19, hf⟩ := hbd_s hf
              refine h_getR h19 rfl (Nat.le_of_ble_eq_true rfl) rfl q_309 rfl dX8_span_56 ?_
              refine h_iconst (v := 3) dX8_span_59 rfl ?_
              refine h_iload_n dX8_span_60 rfl 2 rfl ?_
              refine h_iload_n dX8_span_61 rfl 3 rfl ?_
              refine h_iload_n dX8_span_62 rfl 4 rfl ?_
              refine h_iload dX8_span_63 5 rfl ?_
              obtain ⟨g51, hf⟩ := hck_s hf
              obtain ⟨t22, S21, h20, hf⟩ := hb2_s hf
              refine h_Vi [.int 3, .int a1, .int a2, .int a3, .int a4] (rest := []) (m_X1_answers (d := 1) (cs := cs) (Nat.le_refl _) h20) v_X1_answers q_807 rfl (Nat.le_trans (by decide) hd) g51 rfl rfl (Nat.le_of_ble_eq_true rfl) dX8_span_65 (Nat.le_refl _) (Nat.le_refl _) ?_
              refine hj_s (fun J23 => ∀ (S24 : hS), J23 S24 = some r → HW cX8_span RX8 (x_X8_span d S [.ref a0, .int a1, .int a2, .int a3, .int a4, .int a5] r cs) 0 0 S24 112 [(0, .ref a0), (5, .int a5)] []) hf ?_ ?_
              · intro S24 hf
                refine h_aload_n dX8_span_112 rfl 0 rfl ?_
                obtain ⟨t25, h26, hf⟩ := hbd_s hf
                refine h_getR h26 rfl (Nat.le_of_ble_eq_true rfl) rfl q_309 rfl dX8_span_113 ?_
                refine h_iload dX8_span_116 1 rfl ?_
                obtain ⟨g30, hf⟩ := hck_s hf
                obtain ⟨t29, S28, h27, hf⟩ := hb2_s hf
                refine h_Vi [.int a5] (rest := []) (m_X1_part (d := 1) (cs := cs) (Nat.le_refl _) h27) v_X1_part q_837 rfl (Nat.le_trans (by decide) hd) g30 rfl rfl (Nat.le_of_ble_eq_true rfl) dX8_span_118 (Nat.le_refl _) (Nat.le_refl _) ?_
                obtain rfl := Option.some.inj hf
                exact h_iret rfl rfl rfl (Nat.le_refl _) (Nat.le_refl _) dX8_span_121
              · intro J23 hJ23 hf
                refine h_if_ne (tgt := 112) dX8_span_68 (by decide) (fun c31 => ?_) (fun c31 => ?_)
                · replace hf := hif_n c31 hf
                  refine h_sub (lv2 := [(0, .ref a0), (5, .int a5)]) [1, 6] rfl ?_
                  exact hJ23 S21 hf
                · replace hf := hif_p c31 hf
                  refine h_aload_n dX8_span_71 rfl 1 rfl ?_
                  obtain ⟨t32, h33, hf⟩ := hbd_s hf
                  refine h_getR h33 rfl (Nat.le_of_ble_eq_true rfl) rfl q_309 rfl dX8_span_72 ?_
                  refine h_iconst (v := 3) dX8_span_75 rfl ?_
                  refine h_iload_n dX8_span_76 rfl 2 rfl ?_
                  refine h_iload_n dX8_span_77 rfl 3 rfl ?_
                  refine h_iload_n dX8_span_78 rfl 4 rfl ?_
                  refine h_iload dX8_span_79 5 rfl ?_
                  obtain ⟨g50, hf⟩ := hck_s hf
                  obtain ⟨S35, h34, hf⟩ := hbd_s hf
                  refine h_Vv [.int 3, .int a1, .int a2, .int a3, .int a4] (rest := []) (m_X1_begin (d := 1) (cs := cs) (Nat.le_refl _) h34) v_X1_begin q_811 rfl (Nat.le_trans (by decide) hd) g50 rfl rfl (Nat.le_of_ble_eq_true rfl) dX8_span_81 (Nat.le_refl _) (Nat.le_refl _) ?_
                  refine h_aload_n dX8_span_84 rfl 1 rfl ?_
                  refine h_aload dX8_span_85 0 rfl ?_
                  refine h_iload_n dX8_span_87 rfl 3 rfl ?_
                  refine h_iload_n dX8_span_88 rfl 4 rfl ?_
                  refine h_iload dX8_span_89 5 rfl ?_
                  obtain ⟨g49, hf⟩ := hck_s hf
                  obtain ⟨S37, h36, hf⟩ := hbd_s hf
                  refine h_Vv [.ref b4, .int a2, .int a3, .int a4] (rest := []) (m_X8_markSpan (d := 7) (cs := cs) (Nat.le_refl _) h36) v_X8_markSpan q_875 rfl (Nat.le_trans (by decide) hd) g49 rfl rfl (Nat.le_of_ble_eq_true rfl) dX8_span_91 (Nat.le_refl _) (Nat.le_refl _) ?_
                  refine h_aload_n dX8_span_94 rfl 1 rfl ?_
                  obtain ⟨t38, h39, hf⟩ := hbd_s hf
                  refine h_getR h39 rfl (Nat.le_of_ble_eq_true rfl) rfl q_309 rfl dX8_span_95 ?_
                  refine h_aload_n dX8_span_98 rfl 1 rfl ?_
                  obtain ⟨t40, h41, hf⟩ := hbd_s hf
                  refine h_getR h41 rfl (Nat.le_of_ble_eq_true rfl) rfl q_303 rfl dX8_span_99 ?_
                  obtain ⟨t42, h43, hf⟩ := hbd_s hf
                  refine h_getRN (host := "DeafSpot") h43 rfl (Nat.le_of_ble_eq_true rfl) rfl (List.mem_of_getElem? (i := 50) rfl) rfl dX8_span_102 ?_
                  refine h_aload_n dX8_span_105 rfl 1 rfl ?_
                  obtain ⟨t44, h45, hf⟩ := hbd_s hf
                  refine h_getR h45 rfl (Nat.le_of_ble_eq_true rfl) rfl q_310 rfl dX8_span_106 ?_
                  obtain ⟨g48, hf⟩ := hck_s hf
                  obtain ⟨S47, h46, hf⟩ := hbd_s hf
                  refine h_Vv [.ref t42, .ref t44] (rest := []) (m_X1_keepSpan (d := 2) (cs := cs) (Nat.le_refl _) h46) v_X1_keepSpan q_884 rfl (Nat.le_trans (by decide) hd) g48 rfl rfl (Nat.le_of_ble_eq_true rfl) dX8_span_109 (Nat.le_refl _) (Nat.le_refl _) ?_
                  refine h_sub (lv2 := [(0, .ref a0), (5, .int a5)]) [1, 6] rfl ?_
                  exact hJ23 S47 hf
            · replace hf := hif_n c17 hf
              refine h_iconst (v := (-1)) dX8_span_53 rfl ?_
              obtain rfl := Option.some.inj hf
              exact h_iret rfl rfl rfl (Nat.le_refl _) (Nat.le_refl _) dX8_span_54
theorem v_X5_readTest : hVW yX5_readTest cX5_readTest 4 none RX5 1 := ⟨q_637, q_s17, q_7, q_638, by decide +kernel, by decide⟩
theorem v_X5_readFact : hVW yX5_readFact cX5_readFact 5 none RX5 1 := ⟨q_641, q_s18, q_7, q_642, by decide +kernel, by decide⟩
abbrev x_X5_readTest (d : Nat) (S0 : hS) (args : List Value) (r : hS) (cs : Nat → Nat) : hX := ((none, 4, d, 0, 0, false), (S0, args, none, r), cs)

def f_X5_readTest_L9 (rf rt : Nat → Int32 → hS → Option hS) : Nat → Nat → Int32 → Int32 → Int32 → hS → (Int32 → hS → Option (hS)) → Option (hS)
  | 0, _, _, _, _, _, _ => none
  | n + 1, x0, x1, x2, x3, S, k0 =>
    if 400 ≤ x3 then
      (k0 x2 S)
    else
      (hbd (gR S x0 5 0) fun t2 =>
       hck (S.K t2 = 8) <|
       hb2 (f_X7_failed t2 S) fun t6 S5 =>
       if t6 = 0 then
         (hbd (gR S5 x0 5 0) fun t8 =>
          hck (S5.K t8 = 8) <|
          hb2 (f_X7_takesWord t8 8 S5) fun t12 S11 =>
          if t12 = 0 then
            (hbd (gR S11 x0 5 0) fun t14 =>
             hck (S11.K t14 = 8) <|
             hb2 (f_X7_takesWord t14 9 S11) fun t18 S17 =>
             if t18 = 0 then
               (k0 x2 S17)
             else
               (hj (γ := hS → Option (hS)) (fun (S21 : hS) =>
                  hck (S21.K x0 = 6) <|
                  hbd (rf x0 x1 S21) fun S23 =>
                  f_X5_readTest_L9 rf rt n x0 x1 1 (x3 + 1) S23 k0
                  ) fun J20 =>
                if x2 = 0 then
                  (J20 S17)
                else
                  (hck (S17.K x0 = 6) <|
                   hbd (f_X5_emit x0 (-21) S17) fun S27 =>
                   J20 S27)))
          else
            (hck (S11.K x0 = 6) <|
             hbd (rf x0 x1 S11) fun S31 =>
             hck (S31.K x0 = 6) <|
             hbd (f_X5_emit x0 (-20) S31) fun S33 =>
             f_X5_readTest_L9 rf rt n x0 x1 x2 (x3 + 1) S33 k0))
       else
         (k0 x2 S5))
def f_X5_readTest_o (rf rt : Nat → Int32 → hS → Option hS) (a0 : Nat) (a1 : Int32) (S : hS) : Option (hS) :=
  hck (S.K a0 = 6) <|
  hbd (rf a0 a1 S) fun S39 =>
  f_X5_readTest_L9 rf rt hfuel a0 a1 0 0 S39
    (fun u40 S41 =>
      if u40 = 0 then
        (some S41)
      else
        (hck (S41.K a0 = 6) <|
         hbd (f_X5_emit a0 (-21) S41) fun S44 =>
         some S44)
    )
set_option maxRecDepth 100000 in
set_option maxHeartbeats 4000000 in
theorem w_X5_readTest_L9 {d df : Nat} {rf rt : Nat → Int32 → hS → Option hS} {S0 : hS} {args : List Value} {cs : Nat → Nat} {r : hS} (hd : 9 ≤ d) (hdf : df + 1 ≤ d) (hrf : ∀ (a : Nat) (x : Int32) (S r : hS), rf a x S = some r → HM yX5_readFact cX5_readFact 5 none df 0 0 cs [.ref a, .int x] S none r) (hrt : ∀ (a : Nat) (x : Int32) (S r : hS), rt a x S = some r → HM yX5_readTest cX5_readTest 4 none df 0 0 cs [.ref a, .int x] S none r) : ∀ (n : Nat) (x0 : Nat) (x1 : Int32) (x2 : Int32) (x3 : Int32) (S : hS) (k0 : (Int32 → hS → Option (hS))) , f_X5_readTest_L9 rf rt n x0 x1 x2 x3 S k0 = some r → (∀ (y2 : Int32) (T : hS), k0 y2 T = some r → HW cX5_readTest RX5 (x_X5_readTest d S0 args r cs) 0 0 T 87 [(0, .ref x0), (2, .int y2)] []) → HW cX5_readTest RX5 (x_X5_readTest d S0 args r cs) 0 0 S 9 [(0, .ref x0), (1, .int x1), (2, .int x2), (3, .int x3)] [] := by
  intro n
  induction n with
  | zero =>
    intro x0 x1 x2 x3 S k0 hf
    cases hf
  | succ n ih =>
    intro x0 x1 x2 x3 S k0 hf hk0
    rw [f_X5_readTest_L9] at hf
    refine h_iload_n dX5_readTest_9 rfl 3 rfl ?_
    refine h_sipush (v := 400) dX5_readTest_10 rfl ?_
    refine h_icmp_ge (tgt := 87) dX5_readTest_13 (by decide) (fun c1 => ?_) (fun c1 => ?_)
    · replace hf := hif_p c1 hf
      refine h_sub (lv2 := [(0, .ref x0), (2, .int x2)]) [0, 2] rfl ?_
      exact hk0 x2 S hf
    · replace hf := hif_n c1 hf
      refine h_aload_n dX5_readTest_16 rfl 0 rfl ?_
      obtain ⟨t2, h3, hf⟩ := hbd_s hf
      refine h_getR h3 rfl (Nat.le_of_ble_eq_true rfl) rfl q_253 rfl dX5_readTest_17 ?_
      obtain ⟨g37, hf⟩ := hck_s hf
      obtain ⟨t6, S5, h4, hf⟩ := hb2_s hf
      refine h_Vi [] (rest := []) (m_X7_failed (d := 1) (cs := cs) (Nat.le_refl _) h4) v_X7_failed q_606 rfl (Nat.le_trans (by decide) hd) g37 rfl rfl (Nat.le_of_ble_eq_true rfl) dX5_readTest_20 (Nat.le_refl _) (Nat.le_refl _) ?_
      refine h_if_ne (tgt := 87) dX5_readTest_23 (by decide) (fun c7 => ?_) (fun c7 => ?_)
      · replace hf := hif_n c7 hf
        refine h_sub (lv2 := [(0, .ref x0), (2, .int x2)]) [0, 2] rfl ?_
        exact hk0 x2 S5 hf
      · replace hf := hif_p c7 hf
        refine h_aload_n dX5_readTest_26 rfl 0 rfl ?_
        obtain ⟨t8, h9, hf⟩ := hbd_s hf
        refine h_getR h9 rfl (Nat.le_of_ble_eq_true rfl) rfl q_253 rfl dX5_readTest_27 ?_
        refine h_ldcS dX5_readTest_30 (List.mem_of_getElem? (i := 8) rfl) ?_
        obtain ⟨g36, hf⟩ := hck_s hf
        obtain ⟨t12, S11, h10, hf⟩ := hb2_s hf
        refine h_Vi [.ref (cs 8)] (rest := []) (m_X7_takesWord (d := 7) (cs := cs) (Nat.le_refl _) h10) v_X7_takesWord q_629 rfl (Nat.le_trans (by decide) hd) g36 rfl rfl (Nat.le_of_ble_eq_true rfl) dX5_readTest_32 (Nat.le_refl _) (Nat.le_refl _) ?_
        refine h_if_eq (tgt := 52) dX5_readTest_35 (by decide) (fun c13 => ?_) (fun c13 => ?_)
        · replace hf := hif_p c13 hf
          refine h_aload_n dX5_readTest_52 rfl 0 rfl ?_
          obtain ⟨t14, h15, hf⟩ := hbd_s hf
          refine h_getR h15 rfl (Nat.le_of_ble_eq_true rfl) rfl q_253 rfl dX5_readTest_53 ?_
          refine h_ldcS dX5_readTest_56 (List.mem_of_getElem? (i := 9) rfl) ?_
          obtain ⟨g29, hf⟩ := hck_s hf
          obtain ⟨t18, S17, h16, hf⟩ := hb2_s hf
          refine h_Vi [.ref (cs 9)] (rest := []) (m_X7_takesWord (d := 7) (cs := cs) (Nat.le_refl _) h16) v_X7_takesWord q_629 rfl (Nat.le_trans (by decide) hd) g29 rfl rfl (Nat.le_of_ble_eq_true rfl) dX5_readTest_58 (Nat.le_refl _) (Nat.le_refl _) ?_
          refine h_if_eq (tgt := 87) dX5_readTest_61 (by decide) (fun c19 => ?_) (fun c19 => ?_)
          · replace hf := hif_p c19 hf
            refine h_sub (lv2 := [(0, .ref x0), (2, .int x2)]) [0, 2] rfl ?_
            exact hk0 x2 S17 hf
          · replace hf := hif_n c19 hf
            refine h_iload_n dX5_readTest_64 rfl 2 rfl ?_
            refine hj_s (fun J20 => ∀ (S21 : hS), J20 S21 = some r → HW cX5_readTest RX5 (x_X5_readTest d S0 args r cs) 0 0 S21 74 [(0, .ref x0), (1, .int x1), (3, .int x3)] []) hf ?_ ?_
            · intro S21 hf
              refine h_iconst (v := 1) dX5_readTest_74 rfl ?_
              refine h_istore_n (lv2 := [(2, .int 1), (0, .ref x0), (1, .int x1), (3, .int x3)]) dX5_readTest_75 rfl (Nat.le_of_ble_eq_true rfl) rfl ?_
              refine h_aload_n dX5_readTest_76 rfl 1 rfl ?_
              refine h_iload_n dX5_readTest_77 rfl 2 rfl ?_
              obtain ⟨g24, hf⟩ := hck_s hf
              obtain ⟨S23, h22, hf⟩ := hbd_s hf
              refine h_Vv [.int x1] (rest := []) (hrf _ _ _ _ h22) v_X5_readFact q_639 rfl hdf g24 rfl rfl (Nat.le_of_ble_eq_true rfl) dX5_readTest_78 (Nat.le_refl _) (Nat.le_refl _) ?_
              refine h_iinc (q := 3) (v := x3 + 1) (lv2 := [(3, .int (x3 + 1)), (2, .int 1), (0, .ref x0), (1, .int x1)]) dX5_readTest_81 rfl rfl (Nat.le_of_ble_eq_true rfl) rfl ?_
              refine h_goto (tgt := 9) dX5_readTest_84 (by decide) ?_
              refine h_sub (lv2 := [(0, .ref x0), (1, .int x1), (2, .int 1), (3, .int (x3 + 1))]) [2, 3, 1, 0] rfl ?_
              exact ih x0 x1 1 (x3 + 1) S23 k0  hf hk0
            · intro J20 hJ20 hf
              refine h_if_eq (tgt := 74) dX5_readTest_65 (by decide) (fun c25 => ?_) (fun c25 => ?_)
              · replace hf := hif_p c25 hf
                refine h_sub (lv2 := [(0, .ref x0), (1, .int x1), (3, .int x3)]) [0, 1, 3] rfl ?_
                exact hJ20 S17 hf
              · replace hf := hif_n c25 hf
                refine h_aload_n dX5_readTest_68 rfl 0 rfl ?_
                refine h_bipush (v := (-21)) dX5_readTest_69 rfl ?_
                obtain ⟨g28, hf⟩ := hck_s hf
                obtain ⟨S27, h26, hf⟩ := hbd_s hf
                refine h_Vv [.int (-21)] (rest := []) (m_X5_emit (d := 1) (cs := cs) (Nat.le_refl _) h26) v_X5_emit q_619 rfl (Nat.le_trans (by decide) hd) g28 rfl rfl (Nat.le_of_ble_eq_true rfl) dX5_readTest_71 (Nat.le_refl _) (Nat.le_refl _) ?_
                refine h_sub (lv2 := [(0, .ref x0), (1, .int x1), (3, .int x3)]) [0, 1, 3] rfl ?_
                exact hJ20 S27 hf
        · replace hf := hif_n c13 hf
          refine h_aload_n dX5_readTest_38 rfl 0 rfl ?_
          refine h_iload_n dX5_readTest_39 rfl 1 rfl ?_
          obtain ⟨g35, hf⟩ := hck_s hf
          obtain ⟨S31, h30, hf⟩ := hbd_s hf
          refine h_Vv [.int x1] (rest := []) (hrf _ _ _ _ h30) v_X5_readFact q_639 rfl hdf g35 rfl rfl (Nat.le_of_ble_eq_true rfl) dX5_readTest_40 (Nat.le_refl _) (Nat.le_refl _) ?_
          refine h_aload_n dX5_readTest_43 rfl 0 rfl ?_
          refine h_bipush (v := (-20)) dX5_readTest_44 rfl ?_
          obtain ⟨g34, hf⟩ := hck_s hf
          obtain ⟨S33, h32, hf⟩ := hbd_s hf
          refine h_Vv [.int (-20)] (rest := []) (m_X5_emit (d := 1) (cs := cs) (Nat.le_refl _) h32) v_X5_emit q_619 rfl (Nat.le_trans (by decide) hd) g34 rfl rfl (Nat.le_of_ble_eq_true rfl) dX5_readTest_46 (Nat.le_refl _) (Nat.le_refl _) ?_
          refine h_goto (tgt := 81) dX5_readTest_49 (by decide) ?_
          refine h_iinc (q := 3) (v := x3 + 1) (lv2 := [(3, .int (x3 + 1)), (0, .ref x0), (1, .int x1), (2, .int x2)]) dX5_readTest_81 rfl rfl (Nat.le_of_ble_eq_true rfl) rfl ?_
          refine h_goto (tgt := 9) dX5_readTest_84 (by decide) ?_
          refine h_sub (lv2 := [(0, .ref x0), (1, .int x1), (2, .int x2), (3, .int (x3 + 1))]) [1, 2, 3, 0] rfl ?_
          exact ih x0 x1 x2 (x3 + 1) S33 k0  hf hk0
set_option maxRecDepth 100000 in
set_option maxHeartbeats 4000000 in
theorem m_X5_readTest_o {d df : Nat} {rf rt : Nat → Int32 → hS → Option hS} {cs : Nat → Nat} {a0 : Nat} {a1 : Int32} {S : hS} {r : hS} (hd : 9 ≤ d) (hdf : df + 1 ≤ d) (hrf : ∀ (a : Nat) (x : Int32) (S r : hS), rf a x S = some r → HM yX5_readFact cX5_readFact 5 none df 0 0 cs [.ref a, .int x] S none r) (hrt : ∀ (a : Nat) (x : Int32) (S r : hS), rt a x S = some r → HM yX5_readTest cX5_readTest 4 none df 0 0 cs [.ref a, .int x] S none r) (hf : f_X5_readTest_o rf rt a0 a1 S = some r) : HM yX5_readTest cX5_readTest 4 none d 0 0 cs [.ref a0, .int a1] S (none) r := by
  unfold f_X5_readTest_o at hf
  refine HM.ofHW false (by decide) (fun h => by cases h) (Nat.le_of_ble_eq_true rfl) ?_
  show HW cX5_readTest RX5 (x_X5_readTest d S [.ref a0, .int a1] r cs) 0 0 S 0 [(0, .ref a0), (1, .int a1)] []
  refine h_iconst (v := 0) dX5_readTest_0 rfl ?_
  refine h_istore_n (lv2 := [(2, .int 0), (0, .ref a0), (1, .int a1)]) dX5_readTest_1 rfl (Nat.le_of_ble_eq_true rfl) rfl ?_
  refine h_aload_n dX5_readTest_2 rfl 1 rfl ?_
  refine h_iload_n dX5_readTest_3 rfl 2 rfl ?_
  obtain ⟨g46, hf⟩ := hck_s hf
  obtain ⟨S39, h38, hf⟩ := hbd_s hf
  refine h_Vv [.int a1] (rest := []) (hrf _ _ _ _ h38) v_X5_readFact q_639 rfl hdf g46 rfl rfl (Nat.le_of_ble_eq_true rfl) dX5_readTest_4 (Nat.le_refl _) (Nat.le_refl _) ?_
  refine h_iconst (v := 0) dX5_readTest_7 rfl ?_
  refine h_istore_n (lv2 := [(3, .int 0), (2, .int 0), (0, .ref a0), (1, .int a1)]) dX5_readTest_8 rfl (Nat.le_of_ble_eq_true rfl) rfl ?_
  refine h_sub (lv2 := [(0, .ref a0), (1, .int a1), (2, .int 0), (3, .int 0)]) [2, 3, 1, 0] rfl ?_
  refine w_X5_readTest_L9 hd hdf hrf hrt hfuel a0 a1 0 0 S39 _  hf ?_
  · intro u40 S41 hf
    refine h_iload_n dX5_readTest_87 rfl 1 rfl ?_
    refine h_if_eq (tgt := 97) dX5_readTest_88 (by decide) (fun c42 => ?_) (fun c42 => ?_)
    · replace hf := hif_p c42 hf
      obtain rfl := Option.some.inj hf
      exact h_vret rfl rfl rfl (Nat.le_refl _) (Nat.le_refl _) dX5_readTest_97
    · replace hf := hif_n c42 hf
      refine h_aload_n dX5_readTest_91 rfl 0 rfl ?_
      refine h_bipush (v := (-21)) dX5_readTest_92 rfl ?_
      obtain ⟨g45, hf⟩ := hck_s hf
      obtain ⟨S44, h43, hf⟩ := hbd_s hf
      refine h_Vv [.int (-21)] (rest := []) (m_X5_emit (d := 1) (cs := cs) (Nat.le_refl _) h43) v_X5_emit q_619 rfl (Nat.le_trans (by decide) hd) g45 rfl rfl (Nat.le_of_ble_eq_true rfl) dX5_readTest_94 (Nat.le_refl _) (Nat.le_refl _) ?_
      obtain rfl := Option.some.inj hf
      exact h_vret rfl rfl rfl (Nat.le_refl _) (Nat.le_refl _) dX5_readTest_97

abbrev x_X5_readFact (d : Nat) (S0 : hS) (args : List Value) (r : hS) (cs : Nat → Nat) : hX := ((none, 5, d, 0, 0, false), (S0, args, none, r), cs)

def f_X5_readFact_o (rf rt : Nat → Int32 → hS → Option hS) (a0 : Nat) (a1 : Int32) (S : hS) : Option (hS) :=
  hbd (gR S a0 5 0) fun t1 =>
  hck (S.K t1 = 8) <|
  hb2 (f_X7_next t1 S) fun t5 S4 =>
  hj (γ := Int32 → Option (hS)) (fun (v7 : Int32) =>
    hbd (gR S4 a0 5 0) fun t8 =>
    hck (S4.K t8 = 8) <|
    hb2 (f_X7_wordOf t8 5 S4) fun t12 S11 =>
    hj (γ := Int32 → Option (hS)) (fun (v14 : Int32) =>
      hj (γ := Unit → Option (hS)) (fun (_ : Unit) =>
        if a1 < 10 then
          (if v14 = 0 then
             (hbd (gR S11 a0 5 0) fun t18 =>
              hck (S11.K t18 = 8) <|
              hb2 (f_X7_takes t18 91 S11) fun t22 S21 =>
              hck (S21.K a0 = 6) <|
              hbd (rt a0 (a1 + 1) S21) fun S24 =>
              hbd (gR S24 a0 5 0) fun t25 =>
              hck (S24.K t25 = 8) <|
              hb2 (f_X7_failed t25 S24) fun t29 S28 =>
              if t29 = 0 then
                (hbd (gR S28 a0 5 0) fun t31 =>
                 hck (S28.K t31 = 8) <|
                 hb2 (f_X7_takesOneOf t31 7 S28) fun t35 S34 =>
                 if t35 = (-1) then
                   (hbd (gR S34 a0 5 0) fun t37 =>
                    hbd (gR S34 a0 5 0) fun t39 =>
                    hbd (gI S34 t39 7 2) fun t41 =>
                    hck (S34.K t37 = 8) <|
                    hbd (f_X7_fail t37 0 t41 S34) fun S44 =>
                    some S44)
                 else
                   (some S34))
              else
                (some S28))
           else
             (hbd (gR S11 a0 5 0) fun t50 =>
              hck (S11.K t50 = 8) <|
              hbd (f_X7_skipWord t50 S11) fun S53 =>
              hck (S53.K a0 = 6) <|
              hbd (rf a0 (a1 + 1) S53) fun S55 =>
              hck (S55.K a0 = 6) <|
              hbd (f_X5_emit a0 (-22) S55) fun S57 =>
              some S57))
        else
          (hbd (gR S11 a0 5 0) fun t61 =>
           hbd (gR S11 a0 5 0) fun t63 =>
           hbd (gI S11 t63 7 2) fun t65 =>
           hck (S11.K t61 = 8) <|
           hbd (f_X7_fail t61 2 t65 S11) fun S68 =>
           some S68)
        ) fun J15 =>
      if v7 = 0 then
        (if v14 = 0 then
           (hck (S11.K a0 = 6) <|
            hbd (f_X5_readSum a0 S11) fun S73 =>
            hck (S73.K a0 = 6) <|
            hb2 (f_X5_readSign a0 S73) fun t76 S75 =>
            hck (S75.K a0 = 6) <|
            hbd (f_X5_readSum a0 S75) fun S78 =>
            hck (S78.K a0 = 6) <|
            hbd (f_X5_emit a0 t76 S78) fun S80 =>
            some S80)
         else
           (J15 ()))
      else
        (J15 ())
      ) fun J13 =>
    if t12 = (-1) then
      (J13 0)
    else
      (J13 1)
    ) fun J6 =>
  if t5 = 91 then
    (J6 1)
  else
    (J6 0)
set_option maxRecDepth 100000 in
set_option maxHeartbeats 4000000 in
theorem m_X5_readFact_o {d df : Nat} {rf rt : Nat → Int32 → hS → Option hS} {cs : Nat → Nat} {a0 : Nat} {a1 : Int32} {S : hS} {r : hS} (hd : 9 ≤ d) (hdf : df + 1 ≤ d) (hrf : ∀ (a : Nat) (x : Int32) (S r : hS), rf a x S = some r → HM yX5_readFact cX5_readFact 5 none df 0 0 cs [.ref a, .int x] S none r) (hrt : ∀ (a : Nat) (x : Int32) (S r : hS), rt a x S = some r → HM yX5_readTest cX5_readTest 4 none df 0 0 cs [.ref a, .int x] S none r) (hf : f_X5_readFact_o rf rt a0 a1 S = some r) : HM yX5_readFact cX5_readFact 5 none d 0 0 cs [.ref a0, .int a1] S (none) r := by
  unfold f_X5_readFact_o at hf
  refine HM.ofHW false (by decide) (fun h => by cases h) (Nat.le_of_ble_eq_true rfl) ?_
  show HW cX5_readFact RX5 (x_X5_readFact d S [.ref a0, .int a1] r cs) 0 0 S 0 [(0, .ref a0), (1, .int a1)] []
  refine h_aload_n dX5_readFact_0 rfl 0 rfl ?_
  obtain ⟨t1, h2, hf⟩ := hbd_s hf
  refine h_getR h2 rfl (Nat.le_of_ble_eq_true rfl) rfl q_253 rfl dX5_readFact_1 ?_
  obtain ⟨g88, hf⟩ := hck_s hf
  obtain ⟨t5, S4, h3, hf⟩ := hb2_s hf
  refine h_Vi [] (rest := []) (m_X7_next (d := 1) (cs := cs) (Nat.le_refl _) h3) v_X7_next q_611 rfl (Nat.le_trans (by decide) hd) g88 rfl rfl (Nat.le_of_ble_eq_true rfl) dX5_readFact_4 (Nat.le_refl _) (Nat.le_refl _) ?_
  refine h_bipush (v := 91) dX5_readFact_7 rfl ?_
  refine hj_s (fun J6 => ∀ (v7 : Int32), J6 v7 = some r → HW cX5_readFact RX5 (x_X5_readFact d S [.ref a0, .int a1] r cs) 0 0 S4 17 [(0, .ref a0), (1, .int a1)] [.int v7]) hf ?_ ?_
  · intro v7 hf
    refine h_istore_n (lv2 := [(2, .int v7), (0, .ref a0), (1, .int a1)]) dX5_readFact_17 rfl (Nat.le_of_ble_eq_true rfl) rfl ?_
    refine h_aload_n dX5_readFact_18 rfl 1 rfl ?_
    obtain ⟨t8, h9, hf⟩ := hbd_s hf
    refine h_getR h9 rfl (Nat.le_of_ble_eq_true rfl) rfl q_253 rfl dX5_readFact_19 ?_
    refine h_ldcS dX5_readFact_22 (List.mem_of_getElem? (i := 5) rfl) ?_
    obtain ⟨g86, hf⟩ := hck_s hf
    obtain ⟨t12, S11, h10, hf⟩ := hb2_s hf
    refine h_Vi [.ref (cs 5)] (rest := []) (m_X7_wordOf (d := 6) (cs := cs) (Nat.le_refl _) h10) v_X7_wordOf q_599 rfl (Nat.le_trans (by decide) hd) g86 rfl rfl (Nat.le_of_ble_eq_true rfl) dX5_readFact_24 (Nat.le_refl _) (Nat.le_refl _) ?_
    refine h_iconst (v := (-1)) dX5_readFact_27 rfl ?_
    refine hj_s (fun J13 => ∀ (v14 : Int32), J13 v14 = some r → HW cX5_readFact RX5 (x_X5_readFact d S [.ref a0, .int a1] r cs) 0 0 S11 36 [(0, .ref a0), (1, .int a1), (2, .int v7)] [.int v14]) hf ?_ ?_
    · intro v14 hf
      refine h_istore_n (lv2 := [(3, .int v14), (0, .ref a0), (1, .int a1), (2, .int v7)]) dX5_readFact_36 rfl (Nat.le_of_ble_eq_true rfl) rfl ?_
      refine h_iload_n dX5_readFact_37 rfl 3 rfl ?_
      refine hj_s (fun J15 => ∀ (w : Unit), J15 w = some r → HW cX5_readFact RX5 (x_X5_readFact d S [.ref a0, .int a1] r cs) 0 0 S11 68 [(0, .ref a0), (1, .int a1), (3, .int v14)] []) hf ?_ ?_
      · intro w hf
        refine h_iload_n dX5_readFact_68 rfl 1 rfl ?_
        refine h_bipush (v := 10) dX5_readFact_69 rfl ?_
        refine h_icmp_lt (tgt := 92) dX5_readFact_71 (by decide) (fun c16 => ?_) (fun c16 => ?_)
        · replace hf := hif_p c16 hf
          refine h_iload_n dX5_readFact_92 rfl 2 rfl ?_
          refine h_if_eq (tgt := 119) dX5_readFact_93 (by decide) (fun c17 => ?_) (fun c17 => ?_)
          · replace hf := hif_p c17 hf
            refine h_aload_n dX5_readFact_119 rfl 0 rfl ?_
            obtain ⟨t18, h19, hf⟩ := hbd_s hf
            refine h_getR h19 rfl (Nat.le_of_ble_eq_true rfl) rfl q_253 rfl dX5_readFact_120 ?_
            refine h_bipush (v := 91) dX5_readFact_123 rfl ?_
            obtain ⟨g49, hf⟩ := hck_s hf
            obtain ⟨t22, S21, h20, hf⟩ := hb2_s hf
            refine h_Vi [.int 91] (rest := []) (m_X7_takes (d := 1) (cs := cs) (Nat.le_refl _) h20) v_X7_takes q_649 rfl (Nat.le_trans (by decide) hd) g49 rfl rfl (Nat.le_of_ble_eq_true rfl) dX5_readFact_125 (Nat.le_refl _) (Nat.le_refl _) ?_
            refine h_pop dX5_readFact_128 rfl ?_
            refine h_aload_n dX5_readFact_129 rfl 0 rfl ?_
            refine h_iload_n dX5_readFact_130 rfl 1 rfl ?_
            refine h_iconst (v := 1) dX5_readFact_131 rfl ?_
            refine h_iadd dX5_readFact_132 ?_
            obtain ⟨g48, hf⟩ := hck_s hf
            obtain ⟨S24, h23, hf⟩ := hbd_s hf
            refine h_Vv [.int (a1 + 1)] (rest := []) (hrt _ _ _ _ h23) v_X5_readTest q_635 rfl hdf g48 rfl rfl (Nat.le_of_ble_eq_true rfl) dX5_readFact_133 (Nat.le_refl _) (Nat.le_refl _) ?_
            refine h_aload_n dX5_readFact_136 rfl 0 rfl ?_
            obtain ⟨t25, h26, hf⟩ := hbd_s hf
            refine h_getR h26 rfl (Nat.le_of_ble_eq_true rfl) rfl q_253 rfl dX5_readFact_137 ?_
            obtain ⟨g47, hf⟩ := hck_s hf
            obtain ⟨t29, S28, h27, hf⟩ := hb2_s hf
            refine h_Vi [] (rest := []) (m_X7_failed (d := 1) (cs := cs) (Nat.le_refl _) h27) v_X7_failed q_606 rfl (Nat.le_trans (by decide) hd) g47 rfl rfl (Nat.le_of_ble_eq_true rfl) dX5_readFact_140 (Nat.le_refl _) (Nat.le_refl _) ?_
            refine h_if_ne (tgt := 174) dX5_readFact_143 (by decide) (fun c30 => ?_) (fun c30 => ?_)
            · replace hf := hif_n c30 hf
              obtain rfl := Option.some.inj hf
              exact h_vret rfl rfl rfl (Nat.le_refl _) (Nat.le_refl _) dX5_readFact_174
            · replace hf := hif_p c30 hf
              refine h_aload_n dX5_readFact_146 rfl 0 rfl ?_
              obtain ⟨t31, h32, hf⟩ := hbd_s hf
              refine h_getR h32 rfl (Nat.le_of_ble_eq_true rfl) rfl q_253 rfl dX5_readFact_147 ?_
              refine h_ldcS dX5_readFact_150 (List.mem_of_getElem? (i := 7) rfl) ?_
              obtain ⟨g46, hf⟩ := hck_s hf
              obtain ⟨t35, S34, h33, hf⟩ := hb2_s hf
              refine h_Vi [.ref (cs 7)] (rest := []) (m_X7_takesOneOf (d := 5) (cs := cs) (Nat.le_refl _) h33) v_X7_takesOneOf q_624 rfl (Nat.le_trans (by decide) hd) g46 rfl rfl (Nat.le_of_ble_eq_true rfl) dX5_readFact_152 (Nat.le_refl _) (Nat.le_refl _) ?_
              refine h_iconst (v := (-1)) dX5_readFact_155 rfl ?_
              refine h_icmp_ne (tgt := 174) dX5_readFact_156 (by decide) (fun c36 => ?_) (fun c36 => ?_)
              · replace hf := hif_n c36 hf
                obtain rfl := Option.some.inj hf
                exact h_vret rfl rfl rfl (Nat.le_refl _) (Nat.le_refl _) dX5_readFact_174
              · replace hf := hif_p c36 hf
                refine h_aload_n dX5_readFact_159 rfl 0 rfl ?_
                obtain ⟨t37, h38, hf⟩ := hbd_s hf
                refine h_getR h38 rfl (Nat.le_of_ble_eq_true rfl) rfl q_253 rfl dX5_readFact_160 ?_
                refine h_iconst (v := 0) dX5_readFact_163 rfl ?_
                refine h_aload_n dX5_readFact_164 rfl 0 rfl ?_
                obtain ⟨t39, h40, hf⟩ := hbd_s hf
                refine h_getR h40 rfl (Nat.le_of_ble_eq_true rfl) rfl q_253 rfl dX5_readFact_165 ?_
                obtain ⟨t41, h42, hf⟩ := hbd_s hf
                refine h_getIN (host := "DeafSpot") h42 rfl (Nat.le_of_ble_eq_true rfl) rfl (List.mem_of_getElem? (i := 1) rfl) rfl dX5_readFact_168 ?_
                obtain ⟨g45, hf⟩ := hck_s hf
                obtain ⟨S44, h43, hf⟩ := hbd_s hf
                refine h_Vv [.int 0, .int t41] (rest := []) (m_X7_fail (d := 1) (cs := cs) (Nat.le_refl _) h43) v_X7_fail q_600 rfl (Nat.le_trans (by decide) hd) g45 rfl rfl (Nat.le_of_ble_eq_true rfl) dX5_readFact_171 (Nat.le_refl _) (Nat.le_refl _) ?_
                obtain rfl := Option.some.inj hf
                exact h_vret rfl rfl rfl (Nat.le_refl _) (Nat.le_refl _) dX5_readFact_174
          · replace hf := hif_n c17 hf
            refine h_aload_n dX5_readFact_96 rfl 0 rfl ?_
            obtain ⟨t50, h51, hf⟩ := hbd_s hf
            refine h_getR h51 rfl (Nat.le_of_ble_eq_true rfl) rfl q_253 rfl dX5_readFact_97 ?_
            obtain ⟨g60, hf⟩ := hck_s hf
            obtain ⟨S53, h52, hf⟩ := hbd_s hf
            refine h_Vv [] (rest := []) (m_X7_skipWord (d := 2) (cs := cs) (Nat.le_refl _) h52) v_X7_skipWord q_601 rfl (Nat.le_trans (by decide) hd) g60 rfl rfl (Nat.le_of_ble_eq_true rfl) dX5_readFact_100 (Nat.le_refl _) (Nat.le_refl _) ?_
            refine h_aload_n dX5_readFact_103 rfl 0 rfl ?_
            refine h_iload_n dX5_readFact_104 rfl 1 rfl ?_
            refine h_iconst (v := 1) dX5_readFact_105 rfl ?_
            refine h_iadd dX5_readFact_106 ?_
            obtain ⟨g59, hf⟩ := hck_s hf
            obtain ⟨S55, h54, hf⟩ := hbd_s hf
            refine h_Vv [.int (a1 + 1)] (rest := []) (hrf _ _ _ _ h54) v_X5_readFact q_639 rfl hdf g59 rfl rfl (Nat.le_of_ble_eq_true rfl) dX5_readFact_107 (Nat.le_refl _) (Nat.le_refl _) ?_
            refine h_aload_n dX5_readFact_110 rfl 0 rfl ?_
            refine h_bipush (v := (-22)) dX5_readFact_111 rfl ?_
            obtain ⟨g58, hf⟩ := hck_s hf
            obtain ⟨S57, h56, hf⟩ := hbd_s hf
            refine h_Vv [.int (-22)] (rest := []) (m_X5_emit (d := 1) (cs := cs) (Nat.le_refl _) h56) v_X5_emit q_619 rfl (Nat.le_trans (by decide) hd) g58 rfl rfl (Nat.le_of_ble_eq_true rfl) dX5_readFact_113 (Nat.le_refl _) (Nat.le_refl _) ?_
            refine h_goto (tgt := 174) dX5_readFact_116 (by decide) ?_
            obtain rfl := Option.some.inj hf
            exact h_vret rfl rfl rfl (Nat.le_refl _) (Nat.le_refl _) dX5_readFact_174
        · replace hf := hif_n c16 hf
          refine h_aload_n dX5_readFact_74 rfl 0 rfl ?_
          obtain ⟨t61, h62, hf⟩ := hbd_s hf
          refine h_getR h62 rfl (Nat.le_of_ble_eq_true rfl) rfl q_253 rfl dX5_readFact_75 ?_
          refine h_iconst (v := 2) dX5_readFact_78 rfl ?_
          refine h_aload_n dX5_readFact_79 rfl 0 rfl ?_
          obtain ⟨t63, h64, hf⟩ := hbd_s hf
          refine h_getR h64 rfl (Nat.le_of_ble_eq_true rfl) rfl q_253 rfl dX5_readFact_80 ?_
          obtain ⟨t65, h66, hf⟩ := hbd_s hf
          refine h_getIN (host := "DeafSpot") h66 rfl (Nat.le_of_ble_eq_true rfl) rfl (List.mem_of_getElem? (i := 1) rfl) rfl dX5_readFact_83 ?_
          obtain ⟨g69, hf⟩ := hck_s hf
          obtain ⟨S68, h67, hf⟩ := hbd_s hf
          refine h_Vv [.int 2, .int t65] (rest := []) (m_X7_fail (d := 1) (cs := cs) (Nat.le_refl _) h67) v_X7_fail q_600 rfl (Nat.le_trans (by decide) hd) g69 rfl rfl (Nat.le_of_ble_eq_true rfl) dX5_readFact_86 (Nat.le_refl _) (Nat.le_refl _) ?_
          refine h_goto (tgt := 174) dX5_readFact_89 (by decide) ?_
          obtain rfl := Option.some.inj hf
          exact h_vret rfl rfl rfl (Nat.le_refl _) (Nat.le_refl _) dX5_readFact_174
      · intro J15 hJ15 hf
        refine h_if_ne (tgt := 68) dX5_readFact_38 (by decide) (fun c70 => ?_) (fun c70 => ?_)
        · replace hf := hif_n c70 hf
          refine h_sub (lv2 := [(0, .ref a0), (1, .int a1), (3, .int v14)]) [1, 2, 0] rfl ?_
          exact hJ15 () hf
        · replace hf := hif_p c70 hf
          refine h_iload_n dX5_readFact_41 rfl 0 rfl ?_
          refine h_if_ne (tgt := 68) dX5_readFact_42 (by decide) (fun c71 => ?_) (fun c71 => ?_)
          · replace hf := hif_n c71 hf
            refine h_sub (lv2 := [(0, .ref a0), (1, .int a1), (3, .int v14)]) [1, 2, 0] rfl ?_
            exact hJ15 () hf
          · replace hf := hif_p c71 hf
            refine h_aload_n dX5_readFact_45 rfl 1 rfl ?_
            obtain ⟨g84, hf⟩ := hck_s hf
            obtain ⟨S73, h72, hf⟩ := hbd_s hf
            refine h_Vv [] (rest := []) (m_X5_readSum (d := 8) (cs := cs) (Nat.le_refl _) h72) v_X5_readSum q_602 rfl (Nat.le_trans (by decide) hd) g84 rfl rfl (Nat.le_of_ble_eq_true rfl) dX5_readFact_46 (Nat.le_refl _) (Nat.le_refl _) ?_
            refine h_aload_n dX5_readFact_49 rfl 1 rfl ?_
            obtain ⟨g83, hf⟩ := hck_s hf
            obtain ⟨t76, S75, h74, hf⟩ := hb2_s hf
            refine h_Vi [] (rest := []) (m_X5_readSign (d := 6) (cs := cs) (Nat.le_refl _) h74) v_X5_readSign q_644 rfl (Nat.le_trans (by decide) hd) g83 rfl rfl (Nat.le_of_ble_eq_true rfl) dX5_readFact_50 (Nat.le_refl _) (Nat.le_refl _) ?_
            refine h_istore (lv2 := [(4, .int t76), (3, .int v14), (0, .ref a0), (1, .int a1), (2, .int v7)]) dX5_readFact_53 (Nat.le_of_ble_eq_true rfl) rfl ?_
            refine h_aload_n dX5_readFact_55 rfl 2 rfl ?_
            obtain ⟨g82, hf⟩ := hck_s hf
            obtain ⟨S78, h77, hf⟩ := hbd_s hf
            refine h_Vv [] (rest := []) (m_X5_readSum (d := 8) (cs := cs) (Nat.le_refl _) h77) v_X5_readSum q_602 rfl (Nat.le_trans (by decide) hd) g82 rfl rfl (Nat.le_of_ble_eq_true rfl) dX5_readFact_56 (Nat.le_refl _) (Nat.le_refl _) ?_
            refine h_aload_n dX5_readFact_59 rfl 2 rfl ?_
            refine h_iload dX5_readFact_60 0 rfl ?_
            obtain ⟨g81, hf⟩ := hck_s hf
            obtain ⟨S80, h79, hf⟩ := hbd_s hf
            refine h_Vv [.int t76] (rest := []) (m_X5_emit (d := 1) (cs := cs) (Nat.le_refl _) h79) v_X5_emit q_619 rfl (Nat.le_trans (by decide) hd) g81 rfl rfl (Nat.le_of_ble_eq_true rfl) dX5_readFact_62 (Nat.le_refl _) (Nat.le_refl _) ?_
            refine h_goto (tgt := 174) dX5_readFact_65 (by decide) ?_
            obtain rfl := Option.some.inj hf
            exact h_vret rfl rfl rfl (Nat.le_refl _) (Nat.le_refl _) dX5_readFact_174
    · intro J13 hJ13 hf
      refine h_icmp_eq (tgt := 35) dX5_readFact_28 (by decide) (fun c85 => ?_) (fun c85 => ?_)
      · replace hf := hif_p c85 hf
        refine h_iconst (v := 0) dX5_readFact_35 rfl ?_
        refine h_sub (lv2 := [(0, .ref a0), (1, .int a1), (2, .int v7)]) [1, 2, 0] rfl ?_
        exact hJ13 0 hf
      · replace hf := hif_n c85 hf
        refine h_iconst (v := 1) dX5_readFact_31 rfl ?_
        refine h_goto (tgt := 36) dX5_readFact_32 (by decide) ?_
        refine h_sub (lv2 := [(0, .ref a0), (1, .int a1), (2, .int v7)]) [1, 2, 0] rfl ?_
        exact hJ13 1 hf
  · intro J6 hJ6 hf
    refine h_icmp_ne (tgt := 16) dX5_readFact_9 (by decide) (fun c87 => ?_) (fun c87 => ?_)
    · replace hf := hif_n c87 hf
      refine h_iconst (v := 0) dX5_readFact_16 rfl ?_
      exact hJ6 0 hf
    · replace hf := hif_p c87 hf
      refine h_iconst (v := 1) dX5_readFact_12 rfl ?_
      refine h_goto (tgt := 17) dX5_readFact_13 (by decide) ?_
      exact hJ6 1 hf
def f_RF : Nat → Bool → Nat → Int32 → hS → Option hS
  | 0, _, _, _, _ => none
  | n + 1, false, a, x, S => f_X5_readFact_o (f_RF n false) (f_RF n true) a x S
  | n + 1, true, a, x, S => f_X5_readTest_o (f_RF n false) (f_RF n true) a x S
theorem m_RF {cs : Nat → Nat} : ∀ n : Nat, (∀ (a : Nat) (x : Int32) (S r : hS), f_RF n false a x S = some r → HM yX5_readFact cX5_readFact 5 none (9 + n) 0 0 cs [.ref a, .int x] S none r) ∧ (∀ (a : Nat) (x : Int32) (S r : hS), f_RF n true a x S = some r → HM yX5_readTest cX5_readTest 4 none (9 + n) 0 0 cs [.ref a, .int x] S none r) := by
  intro n
  induction n with
  | zero => exact ⟨fun a x S r h => (by cases h), fun a x S r h => (by cases h)⟩
  | succ n ih =>
    refine ⟨fun a x S r h => ?_, fun a x S r h => ?_⟩
    · exact m_X5_readFact_o (d := 9 + (n + 1)) (df := 9 + n) (by omega) (by omega) ih.1 ih.2 h
    · exact m_X5_readTest_o (d := 9 + (n + 1)) (df := 9 + n) (by omega) (by omega) ih.1 ih.2 h
def f_X5_readTest (a0 : Nat) (a1 : Int32) (S : hS) : Option hS := f_RF 40 true a0 a1 S
theorem m_X5_readTest {d : Nat} {cs : Nat → Nat} {a0 : Nat} {a1 : Int32} {S : hS} {r : hS} (hd : 49 ≤ d) (hf : f_X5_readTest a0 a1 S = some r) : HM yX5_readTest cX5_readTest 4 none 49 0 0 cs [.ref a0, .int a1] S none r := (m_RF 40).2 a0 a1 S r hf
abbrev x_X5_read (d : Nat) (S0 : hS) (args : List Value) (r : Option Nat × hS) (cs : Nat → Nat) : hX := (((Option.some (.object "DeafSpot$Law")), 4, d, 5, 1268, false), (S0, args, some (va_rf r.1), r.2), cs)
theorem v_X5_read : hVW yX5_read cX5_read 4 (Option.some (.object "DeafSpot$Law")) RX5 0 := ⟨q_594, q_595, q_7, q_596, by decide +kernel, by decide⟩
def f_X5_read_L23 : Nat → Nat → Int32 → Int32 → Int32 → hS → (Int32 → hS → Option (Option Nat × hS)) → Option (Option Nat × hS)
  | 0, _, _, _, _, _, _ => none
  | n + 1, x0, x1, x2, x3, S, k0 =>
    if x2 = 0 then
      (k0 x1 S)
    else
      (if 12 < x3 then
         (k0 x1 S)
       else
         (hbd (gR S x0 5 0) fun t3 =>
          hck (S.K t3 = 8) <|
          hb2 (f_X7_wordOf t3 1 S) fun t7 S6 =>
          hj (γ := Int32 → hS → Option (Option Nat × hS)) (fun (u9 : Int32) (S10 : hS) =>
            hbd (gR S10 x0 5 0) fun t11 =>
            hck (S10.K t11 = 8) <|
            hb2 (f_X7_goesOn t11 S10) fun t15 S14 =>
            f_X5_read_L23 n x0 u9 t15 (x3 + 1) S14 k0
            ) fun J8 =>
          if t7 = (-1) then
            (hbd (gR S6 x0 5 0) fun t67 =>
             hbd (gR S6 x0 5 0) fun t69 =>
             hbd (gI S6 t69 7 2) fun t71 =>
             hck (S6.K t67 = 8) <|
             hbd (f_X7_fail t67 0 t71 S6) fun S74 =>
             J8 x1 S74)
          else
            (if x3 < 12 then
               (hbd (gR S6 x0 5 0) fun t19 =>
                hck (S6.K t19 = 8) <|
                hbd (f_X7_skipWord t19 S6) fun S22 =>
                hck (S22.K x0 = 6) <|
                hbd (f_X5_readSum x0 S22) fun S24 =>
                hbd (gR S24 x0 5 4) fun t25 =>
                hbd (gI S24 x0 5 2) fun t27 =>
                hbd (sA S24 t25 x3 t27) fun S29 =>
                hbd (gR S29 x0 5 0) fun t31 =>
                hck (S29.K t31 = 8) <|
                hb2 (f_X7_failed t31 S29) fun t35 S34 =>
                hj (γ := hS → Option (Option Nat × hS)) (fun (S37 : hS) =>
                  hbd (gR S37 x0 5 5) fun t38 =>
                  hbd (gI S37 x0 5 2) fun t40 =>
                  hbd (sA S37 t38 x3 t40) fun S42 =>
                  J8 (x3 + 1) S42
                  ) fun J36 =>
                if t35 = 0 then
                  (hbd (gR S34 x0 5 0) fun t45 =>
                   hck (S34.K t45 = 8) <|
                   hb2 (f_X7_takesWord t45 4 S34) fun t49 S48 =>
                   if t49 = 0 then
                     (J36 S48)
                   else
                     (hck (S48.K x0 = 6) <|
                      hbd (f_X5_readTest x0 0 S48) fun S52 =>
                      J36 S52))
                else
                  (J36 S34))
             else
               (hbd (gR S6 x0 5 0) fun t58 =>
                hbd (gR S6 x0 5 0) fun t60 =>
                hbd (gI S6 t60 7 2) fun t62 =>
                hck (S6.K t58 = 8) <|
                hbd (f_X7_fail t58 4 t62 S6) fun S65 =>
                J8 x1 S65))))
def f_X5_read (a0 : Nat) (S : hS) : Option (Option Nat × hS) :=
  hbd (gR S a0 5 0) fun t77 =>
  hck (S.K t77 = 8) <|
  hbd (f_X7_start t77 S) fun S80 =>
  hbd (sI S80 a0 5 2 0) fun S81 =>
  hbd (sI S81 a0 5 3 0) fun S83 =>
  f_X5_read_L23 hfuel a0 0 1 0 S83
    (fun u85 S86 =>
      hbd (gR S86 a0 5 0) fun t87 =>
      hck (S86.K t87 = 8) <|
      hb2 (f_X7_failed t87 S86) fun t91 S90 =>
      if t91 = 0 then
        (hnw S90 5 0 fun q93 S94 =>
         hbd (gR S94 a0 5 1) fun t97 =>
         hbd (gI S94 a0 5 2) fun t99 =>
         hb2 (fcO t97 t99 S94) fun q101 S102 =>
         hbd (gR S102 a0 5 4) fun t104 =>
         hb2 (fcO t104 u85 S102) fun q106 S107 =>
         hbd (gR S107 a0 5 5) fun t109 =>
         hb2 (fcO t109 u85 S107) fun q111 S112 =>
         hbd (f_X4_init q93 q101 q106 q111 S112) fun S114 =>
         some (some q93, S114))
      else
        (some (none, S90))
    )
set_option maxRecDepth 100000 in
set_option maxHeartbeats 4000000 in
theorem w_X5_read_L23 {d : Nat} {S0 : hS} {args : List Value} {cs : Nat → Nat} {r : Option Nat × hS} (hd : 50 ≤ d) : ∀ (n : Nat) (x0 : Nat) (x1 : Int32) (x2 : Int32) (x3 : Int32) (S : hS) (k0 : (Int32 → hS → Option (Option Nat × hS))) , f_X5_read_L23 n x0 x1 x2 x3 S k0 = some r → (∀ (y1 : Int32) (T : hS), k0 y1 T = some r → HW cX5_read RX5 (x_X5_read d S0 args r cs) 0 0 T 164 [(0, .ref x0), (1, .int y1)] []) → HW cX5_read RX5 (x_X5_read d S0 args r cs) 0 0 S 23 [(0, .ref x0), (1, .int x1), (2, .int x2), (3, .int x3)] [] := by
  intro n
  induction n with
  | zero =>
    intro x0 x1 x2 x3 S k0 hf
    cases hf
  | succ n ih =>
    intro x0 x1 x2 x3 S k0 hf hk0
    rw [f_X5_read_L23] at hf
    refine h_iload_n dX5_read_23 rfl 2 rfl ?_
    refine h_if_eq (tgt := 164) dX5_read_24 (by decide) (fun c1 => ?_) (fun c1 => ?_)
    · replace hf := hif_p c1 hf
      refine h_sub (lv2 := [(0, .ref x0), (1, .int x1)]) [0, 1] rfl ?_
      exact hk0 x1 S hf
    · replace hf := hif_n c1 hf
      refine h_iload_n dX5_read_27 rfl 3 rfl ?_
      refine h_bipush (v := 12) dX5_read_28 rfl ?_
      refine h_icmp_gt (tgt := 164) dX5_read_30 (by decide) (fun c2 => ?_) (fun c2 => ?_)
      · replace hf := hif_p c2 hf
        refine h_sub (lv2 := [(0, .ref x0), (1, .int x1)]) [0, 1] rfl ?_
        exact hk0 x1 S hf
      · replace hf := hif_n c2 hf
        refine h_aload_n dX5_read_33 rfl 0 rfl ?_
        obtain ⟨t3, h4, hf⟩ := hbd_s hf
        refine h_getR h4 rfl (Nat.le_of_ble_eq_true rfl) rfl q_253 rfl dX5_read_34 ?_
        refine h_ldcS dX5_read_37 (List.mem_of_getElem? (i := 1) rfl) ?_
        obtain ⟨g76, hf⟩ := hck_s hf
        obtain ⟨t7, S6, h5, hf⟩ := hb2_s hf
        refine h_Vi [.ref (cs 1)] (rest := []) (m_X7_wordOf (d := 6) (cs := cs) (Nat.le_refl _) h5) v_X7_wordOf q_599 rfl (Nat.le_trans (by decide) hd) g76 rfl rfl (Nat.le_of_ble_eq_true rfl) dX5_read_39 (Nat.le_of_ble_eq_true rfl) (Nat.le_of_ble_eq_true rfl) ?_
        refine h_iconst (v := (-1)) dX5_read_42 rfl ?_
        refine hj_s (fun J8 => ∀ (u9 : Int32) (S10 : hS), J8 u9 S10 = some r → HW cX5_read RX5 (x_X5_read d S0 args r cs) 0 0 S10 150 [(0, .ref x0), (1, .int u9), (3, .int x3)] []) hf ?_ ?_
        · intro u9 S10 hf
          refine h_aload_n dX5_read_150 rfl 0 rfl ?_
          obtain ⟨t11, h12, hf⟩ := hbd_s hf
          refine h_getR h12 rfl (Nat.le_of_ble_eq_true rfl) rfl q_253 rfl dX5_read_151 ?_
          obtain ⟨g16, hf⟩ := hck_s hf
          obtain ⟨t15, S14, h13, hf⟩ := hb2_s hf
          refine h_Vi [] (rest := []) (m_X7_goesOn (d := 2) (cs := cs) (Nat.le_refl _) h13) v_X7_goesOn q_653 rfl (Nat.le_trans (by decide) hd) g16 rfl rfl (Nat.le_of_ble_eq_true rfl) dX5_read_154 (Nat.le_of_ble_eq_true rfl) (Nat.le_of_ble_eq_true rfl) ?_
          refine h_istore_n (lv2 := [(2, .int t15), (0, .ref x0), (1, .int u9), (3, .int x3)]) dX5_read_157 rfl (Nat.le_of_ble_eq_true rfl) rfl ?_
          refine h_iinc (q := 3) (v := x3 + 1) (lv2 := [(3, .int (x3 + 1)), (2, .int t15), (0, .ref x0), (1, .int u9)]) dX5_read_158 rfl rfl (Nat.le_of_ble_eq_true rfl) rfl ?_
          refine h_goto (tgt := 23) dX5_read_161 (by decide) ?_
          refine h_sub (lv2 := [(0, .ref x0), (1, .int u9), (2, .int t15), (3, .int (x3 + 1))]) [2, 3, 1, 0] rfl ?_
          exact ih x0 u9 t15 (x3 + 1) S14 k0  hf hk0
        · intro J8 hJ8 hf
          refine h_icmp_ne (tgt := 64) dX5_read_43 (by decide) (fun c17 => ?_) (fun c17 => ?_)
          · replace hf := hif_n c17 hf
            refine h_iload_n dX5_read_64 rfl 3 rfl ?_
            refine h_bipush (v := 12) dX5_read_65 rfl ?_
            refine h_icmp_lt (tgt := 88) dX5_read_67 (by decide) (fun c18 => ?_) (fun c18 => ?_)
            · replace hf := hif_p c18 hf
              refine h_aload_n dX5_read_88 rfl 0 rfl ?_
              obtain ⟨t19, h20, hf⟩ := hbd_s hf
              refine h_getR h20 rfl (Nat.le_of_ble_eq_true rfl) rfl q_253 rfl dX5_read_89 ?_
              obtain ⟨g57, hf⟩ := hck_s hf
              obtain ⟨S22, h21, hf⟩ := hbd_s hf
              refine h_Vv [] (rest := []) (m_X7_skipWord (d := 2) (cs := cs) (Nat.le_refl _) h21) v_X7_skipWord q_601 rfl (Nat.le_trans (by decide) hd) g57 rfl rfl (Nat.le_of_ble_eq_true rfl) dX5_read_92 (Nat.le_of_ble_eq_true rfl) (Nat.le_of_ble_eq_true rfl) ?_
              refine h_aload_n dX5_read_95 rfl 0 rfl ?_
              obtain ⟨g56, hf⟩ := hck_s hf
              obtain ⟨S24, h23, hf⟩ := hbd_s hf
              refine h_Vv [] (rest := []) (m_X5_readSum (d := 8) (cs := cs) (Nat.le_refl _) h23) v_X5_readSum q_602 rfl (Nat.le_trans (by decide) hd) g56 rfl rfl (Nat.le_of_ble_eq_true rfl) dX5_read_96 (Nat.le_of_ble_eq_true rfl) (Nat.le_of_ble_eq_true rfl) ?_
              refine h_aload_n dX5_read_99 rfl 0 rfl ?_
              obtain ⟨t25, h26, hf⟩ := hbd_s hf
              refine h_getR h26 rfl (Nat.le_of_ble_eq_true rfl) rfl q_257 rfl dX5_read_100 ?_
              refine h_iload_n dX5_read_103 rfl 3 rfl ?_
              refine h_aload_n dX5_read_104 rfl 0 rfl ?_
              obtain ⟨t27, h28, hf⟩ := hbd_s hf
              refine h_getI h28 rfl (Nat.le_of_ble_eq_true rfl) rfl q_255 rfl dX5_read_105 ?_
              obtain ⟨S29, h30, hf⟩ := hbd_s hf
              refine h_iast h30 dX5_read_108 ?_
              refine h_aload_n dX5_read_109 rfl 0 rfl ?_
              obtain ⟨t31, h32, hf⟩ := hbd_s hf
              refine h_getR h32 rfl (Nat.le_of_ble_eq_true rfl) rfl q_253 rfl dX5_read_110 ?_
              obtain ⟨g55, hf⟩ := hck_s hf
              obtain ⟨t35, S34, h33, hf⟩ := hb2_s hf
              refine h_Vi [] (rest := []) (m_X7_failed (d := 1) (cs := cs) (Nat.le_refl _) h33) v_X7_failed q_606 rfl (Nat.le_trans (by decide) hd) g55 rfl rfl (Nat.le_of_ble_eq_true rfl) dX5_read_113 (Nat.le_of_ble_eq_true rfl) (Nat.le_of_ble_eq_true rfl) ?_
              refine hj_s (fun J36 => ∀ (S37 : hS), J36 S37 = some r → HW cX5_read RX5 (x_X5_read d S0 args r cs) 0 0 S37 136 [(0, .ref x0), (3, .int x3)] []) hf ?_ ?_
              · intro S37 hf
                refine h_aload_n dX5_read_136 rfl 0 rfl ?_
                obtain ⟨t38, h39, hf⟩ := hbd_s hf
                refine h_getR h39 rfl (Nat.le_of_ble_eq_true rfl) rfl q_258 rfl dX5_read_137 ?_
                refine h_iload_n dX5_read_140 rfl 1 rfl ?_
                refine h_aload_n dX5_read_141 rfl 0 rfl ?_
                obtain ⟨t40, h41, hf⟩ := hbd_s hf
                refine h_getI h41 rfl (Nat.le_of_ble_eq_true rfl) rfl q_255 rfl dX5_read_142 ?_
                obtain ⟨S42, h43, hf⟩ := hbd_s hf
                refine h_iast h43 dX5_read_145 ?_
                refine h_iload_n dX5_read_146 rfl 1 rfl ?_
                refine h_iconst (v := 1) dX5_read_147 rfl ?_
                refine h_iadd dX5_read_148 ?_
                refine h_istore_n (lv2 := [(1, .int (x3 + 1)), (0, .ref x0), (3, .int x3)]) dX5_read_149 rfl (Nat.le_of_ble_eq_true rfl) rfl ?_
                refine h_sub (lv2 := [(0, .ref x0), (1, .int (x3 + 1)), (3, .int x3)]) [1, 0, 2] rfl ?_
                exact hJ8 (x3 + 1) S42 hf
              · intro J36 hJ36 hf
                refine h_if_ne (tgt := 136) dX5_read_116 (by decide) (fun c44 => ?_) (fun c44 => ?_)
                · replace hf := hif_n c44 hf
                  refine h_sub (lv2 := [(0, .ref x0), (3, .int x3)]) [0, 3] rfl ?_
                  exact hJ36 S34 hf
                · replace hf := hif_p c44 hf
                  refine h_aload_n dX5_read_119 rfl 0 rfl ?_
                  obtain ⟨t45, h46, hf⟩ := hbd_s hf
                  refine h_getR h46 rfl (Nat.le_of_ble_eq_true rfl) rfl q_253 rfl dX5_read_120 ?_
                  refine h_ldcS dX5_read_123 (List.mem_of_getElem? (i := 4) rfl) ?_
                  obtain ⟨g54, hf⟩ := hck_s hf
                  obtain ⟨t49, S48, h47, hf⟩ := hb2_s hf
                  refine h_Vi [.ref (cs 4)] (rest := []) (m_X7_takesWord (d := 7) (cs := cs) (Nat.le_refl _) h47) v_X7_takesWord q_629 rfl (Nat.le_trans (by decide) hd) g54 rfl rfl (Nat.le_of_ble_eq_true rfl) dX5_read_125 (Nat.le_of_ble_eq_true rfl) (Nat.le_of_ble_eq_true rfl) ?_
                  refine h_if_eq (tgt := 136) dX5_read_128 (by decide) (fun c50 => ?_) (fun c50 => ?_)
                  · replace hf := hif_p c50 hf
                    refine h_sub (lv2 := [(0, .ref x0), (3, .int x3)]) [0, 3] rfl ?_
                    exact hJ36 S48 hf
                  · replace hf := hif_n c50 hf
                    refine h_aload_n dX5_read_131 rfl 0 rfl ?_
                    refine h_iconst (v := 0) dX5_read_132 rfl ?_
                    obtain ⟨g53, hf⟩ := hck_s hf
                    obtain ⟨S52, h51, hf⟩ := hbd_s hf
                    refine h_Vv [.int 0] (rest := []) (m_X5_readTest (d := 49) (cs := cs) (Nat.le_refl _) h51) v_X5_readTest q_635 rfl (Nat.le_trans (by decide) hd) g53 rfl rfl (Nat.le_of_ble_eq_true rfl) dX5_read_133 (Nat.le_of_ble_eq_true rfl) (Nat.le_of_ble_eq_true rfl) ?_
                    refine h_sub (lv2 := [(0, .ref x0), (3, .int x3)]) [0, 3] rfl ?_
                    exact hJ36 S52 hf
            · replace hf := hif_n c18 hf
              refine h_aload_n dX5_read_70 rfl 0 rfl ?_
              obtain ⟨t58, h59, hf⟩ := hbd_s hf
              refine h_getR h59 rfl (Nat.le_of_ble_eq_true rfl) rfl q_253 rfl dX5_read_71 ?_
              refine h_iconst (v := 4) dX5_read_74 rfl ?_
              refine h_aload_n dX5_read_75 rfl 0 rfl ?_
              obtain ⟨t60, h61, hf⟩ := hbd_s hf
              refine h_getR h61 rfl (Nat.le_of_ble_eq_true rfl) rfl q_253 rfl dX5_read_76 ?_
              obtain ⟨t62, h63, hf⟩ := hbd_s hf
              refine h_getIN (host := "DeafSpot") h63 rfl (Nat.le_of_ble_eq_true rfl) rfl (List.mem_of_getElem? (i := 1) rfl) rfl dX5_read_79 ?_
              obtain ⟨g66, hf⟩ := hck_s hf
              obtain ⟨S65, h64, hf⟩ := hbd_s hf
              refine h_Vv [.int 4, .int t62] (rest := []) (m_X7_fail (d := 1) (cs := cs) (Nat.le_refl _) h64) v_X7_fail q_600 rfl (Nat.le_trans (by decide) hd) g66 rfl rfl (Nat.le_of_ble_eq_true rfl) dX5_read_82 (Nat.le_of_ble_eq_true rfl) (Nat.le_of_ble_eq_true rfl) ?_
              refine h_goto (tgt := 150) dX5_read_85 (by decide) ?_
              refine h_sub (lv2 := [(0, .ref x0), (1, .int x1), (3, .int x3)]) [0, 1, 3] rfl ?_
              exact hJ8 x1 S65 hf
          · replace hf := hif_p c17 hf
            refine h_aload_n dX5_read_46 rfl 0 rfl ?_
            obtain ⟨t67, h68, hf⟩ := hbd_s hf
            refine h_getR h68 rfl (Nat.le_of_ble_eq_true rfl) rfl q_253 rfl dX5_read_47 ?_
            refine h_iconst (v := 0) dX5_read_50 rfl ?_
            refine h_aload_n dX5_read_51 rfl 0 rfl ?_
            obtain ⟨t69, h70, hf⟩ := hbd_s hf
            refine h_getR h70 rfl (Nat.le_of_ble_eq_true rfl) rfl q_253 rfl dX5_read_52 ?_
            obtain ⟨t71, h72, hf⟩ := hbd_s hf
            refine h_getIN (host := "DeafSpot") h72 rfl (Nat.le_of_ble_eq_true rfl) rfl (List.mem_of_getElem? (i := 1) rfl) rfl dX5_read_55 ?_
            obtain ⟨g75, hf⟩ := hck_s hf
            obtain ⟨S74, h73, hf⟩ := hbd_s hf
            refine h_Vv [.int 0, .int t71] (rest := []) (m_X7_fail (d := 1) (cs := cs) (Nat.le_refl _) h73) v_X7_fail q_600 rfl (Nat.le_trans (by decide) hd) g75 rfl rfl (Nat.le_of_ble_eq_true rfl) dX5_read_58 (Nat.le_of_ble_eq_true rfl) (Nat.le_of_ble_eq_true rfl) ?_
            refine h_goto (tgt := 150) dX5_read_61 (by decide) ?_
            refine h_sub (lv2 := [(0, .ref x0), (1, .int x1), (3, .int x3)]) [0, 1, 3] rfl ?_
            exact hJ8 x1 S74 hf
set_option maxRecDepth 100000 in
set_option maxHeartbeats 4000000 in
theorem m_X5_read {d : Nat} {cs : Nat → Nat} {a0 : Nat} {S : hS} {r : Option Nat × hS} (hd : 50 ≤ d) (hf : f_X5_read a0 S = some r) : HM yX5_read cX5_read 4 (Option.some (.object "DeafSpot$Law")) d 5 1268 cs [.ref a0] S (some (va_rf r.1)) r.2 := by
  unfold f_X5_read at hf
  refine HM.ofHW false (by decide) (fun h => by cases h) (Nat.le_of_ble_eq_true rfl) ?_
  show HW cX5_read RX5 (x_X5_read d S [.ref a0] r cs) 0 0 S 0 [(0, .ref a0)] []
  refine h_aload_n dX5_read_0 rfl 0 rfl ?_
  obtain ⟨t77, h78, hf⟩ := hbd_s hf
  refine h_getR h78 rfl (Nat.le_of_ble_eq_true rfl) rfl q_253 rfl dX5_read_1 ?_
  obtain ⟨g117, hf⟩ := hck_s hf
  obtain ⟨S80, h79, hf⟩ := hbd_s hf
  refine h_Vv [] (rest := []) (m_X7_start (d := 1) (cs := cs) (Nat.le_refl _) h79) v_X7_start q_597 rfl (Nat.le_trans (by decide) hd) g117 rfl rfl (Nat.le_of_ble_eq_true rfl) dX5_read_4 (Nat.le_of_ble_eq_true rfl) (Nat.le_of_ble_eq_true rfl) ?_
  refine h_aload_n dX5_read_7 rfl 0 rfl ?_
  refine h_iconst (v := 0) dX5_read_8 rfl ?_
  obtain ⟨S81, h82, hf⟩ := hbd_s hf
  refine h_putI h82 rfl (Nat.le_of_ble_eq_true rfl) rfl q_255 rfl rfl (by decide +kernel) dX5_read_9 ?_
  refine h_aload_n dX5_read_12 rfl 0 rfl ?_
  refine h_iconst (v := 0) dX5_read_13 rfl ?_
  obtain ⟨S83, h84, hf⟩ := hbd_s hf
  refine h_putI h84 rfl (Nat.le_of_ble_eq_true rfl) rfl q_256 rfl rfl (by decide +kernel) dX5_read_14 ?_
  refine h_iconst (v := 0) dX5_read_17 rfl ?_
  refine h_istore_n (lv2 := [(1, .int 0), (0, .ref a0)]) dX5_read_18 rfl (Nat.le_of_ble_eq_true rfl) rfl ?_
  refine h_iconst (v := 1) dX5_read_19 rfl ?_
  refine h_istore_n (lv2 := [(2, .int 1), (1, .int 0), (0, .ref a0)]) dX5_read_20 rfl (Nat.le_of_ble_eq_true rfl) rfl ?_
  refine h_iconst (v := 0) dX5_read_21 rfl ?_
  refine h_istore_n (lv2 := [(3, .int 0), (2, .int 1), (1, .int 0), (0, .ref a0)]) dX5_read_22 rfl (Nat.le_of_ble_eq_true rfl) rfl ?_
  refine h_sub (lv2 := [(0, .ref a0), (1, .int 0), (2, .int 1), (3, .int 0)]) [3, 2, 1, 0] rfl ?_
  refine w_X5_read_L23 hd hfuel a0 0 1 0 S83 _  hf ?_
  · intro u85 S86 hf
    refine h_aload_n dX5_read_164 rfl 0 rfl ?_
    obtain ⟨t87, h88, hf⟩ := hbd_s hf
    refine h_getR h88 rfl (Nat.le_of_ble_eq_true rfl) rfl q_253 rfl dX5_read_165 ?_
    obtain ⟨g116, hf⟩ := hck_s hf
    obtain ⟨t91, S90, h89, hf⟩ := hb2_s hf
    refine h_Vi [] (rest := []) (m_X7_failed (d := 1) (cs := cs) (Nat.le_refl _) h89) v_X7_failed q_606 rfl (Nat.le_trans (by decide) hd) g116 rfl rfl (Nat.le_of_ble_eq_true rfl) dX5_read_168 (Nat.le_of_ble_eq_true rfl) (Nat.le_of_ble_eq_true rfl) ?_
    refine h_if_eq (tgt := 176) dX5_read_171 (by decide) (fun c92 => ?_) (fun c92 => ?_)
    · replace hf := hif_p c92 hf
      obtain ⟨q93, S94, h95, h96, hf⟩ := hnw_s hf
      refine h_new h95 h96 rfl q_654 q_655 q_17 dX5_read_176 (Nat.le_of_ble_eq_true rfl) (Nat.le_of_ble_eq_true rfl) ?_
      refine h_dup dX5_read_179 rfl ?_
      refine h_aload_n dX5_read_180 rfl 0 rfl ?_
      obtain ⟨t97, h98, hf⟩ := hbd_s hf
      refine h_getR h98 rfl (Nat.le_of_ble_eq_true rfl) rfl q_254 rfl dX5_read_181 ?_
      refine h_aload_n dX5_read_184 rfl 0 rfl ?_
      obtain ⟨t99, h100, hf⟩ := hbd_s hf
      refine h_getI h100 rfl (Nat.le_of_ble_eq_true rfl) rfl q_255 rfl dX5_read_185 ?_
      obtain ⟨q101, S102, h103, hf⟩ := hb2_s hf
      refine h_SaA [.ref t97, .int t99] (rest := [.ref q93, .ref q93]) (m_J7_copyOf_59c91 (d := 1) (cs := cs) (Nat.le_refl _) h103) v_J7_copyOf_59c91 q_656 rfl (Nat.le_trans (by decide) hd) rfl (Nat.le_of_ble_eq_true rfl) dX5_read_188 (Nat.le_of_ble_eq_true rfl) (Nat.le_of_ble_eq_true rfl) ?_
      refine h_aload_n dX5_read_191 rfl 0 rfl ?_
      obtain ⟨t104, h105, hf⟩ := hbd_s hf
      refine h_getR h105 rfl (Nat.le_of_ble_eq_true rfl) rfl q_257 rfl dX5_read_192 ?_
      refine h_iload_n dX5_read_195 rfl 1 rfl ?_
      obtain ⟨q106, S107, h108, hf⟩ := hb2_s hf
      refine h_SaA [.ref t104, .int u85] (rest := [.ref q101, .ref q93, .ref q93]) (m_J7_copyOf_59c91 (d := 1) (cs := cs) (Nat.le_refl _) h108) v_J7_copyOf_59c91 q_656 rfl (Nat.le_trans (by decide) hd) rfl (Nat.le_of_ble_eq_true rfl) dX5_read_196 (Nat.le_of_ble_eq_true rfl) (Nat.le_of_ble_eq_true rfl) ?_
      refine h_aload_n dX5_read_199 rfl 0 rfl ?_
      obtain ⟨t109, h110, hf⟩ := hbd_s hf
      refine h_getR h110 rfl (Nat.le_of_ble_eq_true rfl) rfl q_258 rfl dX5_read_200 ?_
      refine h_iload_n dX5_read_203 rfl 1 rfl ?_
      obtain ⟨q111, S112, h113, hf⟩ := hb2_s hf
      refine h_SaA [.ref t109, .int u85] (rest := [.ref q106, .ref q101, .ref q93, .ref q93]) (m_J7_copyOf_59c91 (d := 1) (cs := cs) (Nat.le_refl _) h113) v_J7_copyOf_59c91 q_656 rfl (Nat.le_trans (by decide) hd) rfl (Nat.le_of_ble_eq_true rfl) dX5_read_204 (Nat.le_of_ble_eq_true rfl) (Nat.le_of_ble_eq_true rfl) ?_
      obtain ⟨S114, h115, hf⟩ := hbd_s hf
      refine h_callI [.ref q101, .ref q106, .ref q111] (rest := [.ref q93]) (m_X4_init (d := 1) (cs := cs) (Nat.le_refl _) h115) q_668 v_X4_init.1 v_X4_init.2.1 v_X4_init.2.2.1 v_X4_init.2.2.2.1 v_X4_init.2.2.2.2.1 rfl (Nat.le_trans (by decide) hd) v_X4_init.2.2.2.2.2 rfl (Nat.le_of_ble_eq_true rfl) dX5_read_207 (Nat.le_of_ble_eq_true rfl) (Nat.le_of_ble_eq_true rfl) ?_
      obtain rfl := Option.some.inj hf
      exact h_aret (v := some q93) rfl (Or.inl ⟨_, rfl⟩) rfl rfl (Nat.le_of_ble_eq_true rfl) (Nat.le_of_ble_eq_true rfl) dX5_read_210
    · replace hf := hif_n c92 hf
      refine h_null dX5_read_174 ?_
      obtain rfl := Option.some.inj hf
      exact h_aret (v := none) rfl (Or.inl ⟨_, rfl⟩) rfl rfl (Nat.le_of_ble_eq_true rfl) (Nat.le_of_ble_eq_true rfl) dX5_read_175
abbrev x_X8_law (d : Nat) (S0 : hS) (args : List Value) (r : Int32 × hS) (cs : Nat → Nat) : hX := (((some .int), 2, d, 5, 1268, false), (S0, args, some (.int r.1), r.2), cs)
theorem v_X8_law : hVW yX8_law cX8_law 2 (some .int) RX8 0 := ⟨q_590, q_591, q_1, q_592, by decide +kernel, by decide⟩
def f_X8_law (a0 : Nat) (S : hS) : Option (Int32 × hS) :=
  hbd (gI S a0 8 2) fun t1 =>
  if t1 < 6 then
    (hbd (gR S a0 8 8) fun t4 =>
     hck (S.K t4 = 6) <|
     hb2 (f_X5_read t4 S) fun t8 S7 =>
     hbd (gR S7 a0 8 0) fun t9 =>
     hck (S7.K t9 = 8) <|
     hbd (f_X7_empty t9 S7) fun S12 =>
     hnl t8 (
       hbd (gR S12 a0 8 0) fun t15 =>
       hbd (gI S12 t15 7 3) fun t17 =>
       some ((-2) - t17, S12)
       ) fun b13 =>
     hbd (gR S12 a0 8 1) fun t19 =>
     hbd (gI S12 a0 8 2) fun t21 =>
     hbd (sAR S12 t19 16 5 t21 b13) fun S23 =>
     hbd (gI S23 a0 8 2) fun t25 =>
     hbd (sI S23 a0 8 2 (t25 + 1)) fun S27 =>
     hbd (gI S27 a0 8 2) fun t29 =>
     some (t29 - 1, S27))
  else
    (some ((-1), S))
set_option maxRecDepth 100000 in
set_option maxHeartbeats 4000000 in
theorem m_X8_law {d : Nat} {cs : Nat → Nat} {a0 : Nat} {S : hS} {r : Int32 × hS} (hd : 51 ≤ d) (hf : f_X8_law a0 S = some r) : HM yX8_law cX8_law 2 (some .int) d 5 1268 cs [.ref a0] S (some (.int r.1)) r.2 := by
  unfold f_X8_law at hf
  refine HM.ofHW false (by decide) (fun h => by cases h) (Nat.le_of_ble_eq_true rfl) ?_
  show HW cX8_law RX8 (x_X8_law d S [.ref a0] r cs) 0 0 S 0 [(0, .ref a0)] []
  refine h_aload_n dX8_law_0 rfl 0 rfl ?_
  obtain ⟨t1, h2, hf⟩ := hbd_s hf
  refine h_getI h2 rfl (Nat.le_of_ble_eq_true rfl) rfl q_302 rfl dX8_law_1 ?_
  refine h_bipush (v := 6) dX8_law_4 rfl ?_
  refine h_icmp_lt (tgt := 11) dX8_law_6 (by decide) (fun c3 => ?_) (fun c3 => ?_)
  · replace hf := hif_p c3 hf
    refine h_aload_n dX8_law_11 rfl 0 rfl ?_
    obtain ⟨t4, h5, hf⟩ := hbd_s hf
    refine h_getR h5 rfl (Nat.le_of_ble_eq_true rfl) rfl q_308 rfl dX8_law_12 ?_
    obtain ⟨g32, hf⟩ := hck_s hf
    obtain ⟨t8, S7, h6, hf⟩ := hb2_s hf
    refine h_VrA [] (rest := []) (m_X5_read (d := 50) (cs := cs) (Nat.le_refl _) h6) v_X5_read q_593 rfl (Nat.le_trans (by decide) hd) g32 rfl rfl (Nat.le_of_ble_eq_true rfl) dX8_law_15 (Nat.le_of_ble_eq_true rfl) (Nat.le_of_ble_eq_true rfl) ?_
    show HW cX8_law RX8 (x_X8_law d S [.ref a0] r cs) 5 1268 S7 18 [(0, .ref a0)] [va_rf t8]
    refine h_astore_nV (lv2 := [(1, va_rf t8), (0, .ref a0)]) dX8_law_18 rfl (Nat.le_of_ble_eq_true rfl) rfl ?_
    refine h_aload_n dX8_law_19 rfl 1 rfl ?_
    obtain ⟨t9, h10, hf⟩ := hbd_s hf
    refine h_getR h10 rfl (Nat.le_of_ble_eq_true rfl) rfl q_300 rfl dX8_law_20 ?_
    obtain ⟨g31, hf⟩ := hck_s hf
    obtain ⟨S12, h11, hf⟩ := hbd_s hf
    refine h_Vv [] (rest := []) (m_X7_empty (d := 1) (cs := cs) (Nat.le_refl _) h11) v_X7_empty q_558 rfl (Nat.le_trans (by decide) hd) g31 rfl rfl (Nat.le_of_ble_eq_true rfl) dX8_law_23 (Nat.le_of_ble_eq_true rfl) (Nat.le_of_ble_eq_true rfl) ?_
    refine h_aload_nV dX8_law_26 rfl 0 rfl ?_
    refine h_ifnonnull (tgt := 41) dX8_law_27 (by decide) (fun c14 => ?_) (fun b13 c14 => ?_)
    · subst c14
      replace hf := hnl_N hf
      refine h_bipush (v := (-2)) dX8_law_30 rfl ?_
      refine h_aload_n dX8_law_32 rfl 1 rfl ?_
      obtain ⟨t15, h16, hf⟩ := hbd_s hf
      refine h_getR h16 rfl (Nat.le_of_ble_eq_true rfl) rfl q_300 rfl dX8_law_33 ?_
      obtain ⟨t17, h18, hf⟩ := hbd_s hf
      refine h_getIN (host := "DeafSpot") h18 rfl (Nat.le_of_ble_eq_true rfl) rfl (List.mem_of_getElem? (i := 3) rfl) rfl dX8_law_36 ?_
      refine h_isub dX8_law_39 ?_
      obtain rfl := Option.some.inj hf
      exact h_iret rfl rfl rfl (Nat.le_of_ble_eq_true rfl) (Nat.le_of_ble_eq_true rfl) dX8_law_40
    · subst c14
      replace hf := hnl_S hf
      show HW cX8_law RX8 (x_X8_law d S [.ref a0] r cs) 5 1268 S12 41 [(1, .ref b13), (0, .ref a0)] []
      refine h_aload_n dX8_law_41 rfl 1 rfl ?_
      obtain ⟨t19, h20, hf⟩ := hbd_s hf
      refine h_getR h20 rfl (Nat.le_of_ble_eq_true rfl) rfl q_301 rfl dX8_law_42 ?_
      refine h_aload_n dX8_law_45 rfl 1 rfl ?_
      obtain ⟨t21, h22, hf⟩ := hbd_s hf
      refine h_getI h22 rfl (Nat.le_of_ble_eq_true rfl) rfl q_302 rfl dX8_law_46 ?_
      refine h_aload_n dX8_law_49 rfl 0 rfl ?_
      obtain ⟨S23, h24, hf⟩ := hbd_s hf
      refine h_aast16 h24 dX8_law_50 ?_
      refine h_aload_n dX8_law_51 rfl 1 rfl ?_
      refine h_dup dX8_law_52 rfl ?_
      obtain ⟨t25, h26, hf⟩ := hbd_s hf
      refine h_getI h26 rfl (Nat.le_of_ble_eq_true rfl) rfl q_302 rfl dX8_law_53 ?_
      refine h_iconst (v := 1) dX8_law_56 rfl ?_
      refine h_iadd dX8_law_57 ?_
      obtain ⟨S27, h28, hf⟩ := hbd_s hf
      refine h_putI h28 rfl (Nat.le_of_ble_eq_true rfl) rfl q_302 rfl rfl (by decide +kernel) dX8_law_58 ?_
      refine h_aload_n dX8_law_61 rfl 1 rfl ?_
      obtain ⟨t29, h30, hf⟩ := hbd_s hf
      refine h_getI h30 rfl (Nat.le_of_ble_eq_true rfl) rfl q_302 rfl dX8_law_62 ?_
      refine h_iconst (v := 1) dX8_law_65 rfl ?_
      refine h_isub dX8_law_66 ?_
      obtain rfl := Option.some.inj hf
      exact h_iret rfl rfl rfl (Nat.le_of_ble_eq_true rfl) (Nat.le_of_ble_eq_true rfl) dX8_law_67
  · replace hf := hif_n c3 hf
    refine h_iconst (v := (-1)) dX8_law_9 rfl ?_
    obtain rfl := Option.some.inj hf
    exact h_iret rfl rfl rfl (Nat.le_of_ble_eq_true rfl) (Nat.le_of_ble_eq_true rfl) dX8_law_10
