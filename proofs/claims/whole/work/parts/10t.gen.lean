abbrev x_X8_span (d : Nat) (S0 : hS) (args : List Value) (r : Int32 × hS) (cs : Nat → Nat) : hX := (((some .int), 7, d, 0, 0, false), (S0, args, some (.int r.1), r.2), cs)
theorem v_X8_span : hVW yX8_span cX8_span 7 (some .int) RX8 5 := ⟨q_872, q_873, q_1, q_874, by decide +kernel, by decide⟩
def f_X8_span (a0 : Nat) (a1 : Int32) (a2 : Int32) (a3 : Int32) (a4 : Int32) (a5 : Int32) (S : hS) : Option (Int32 × hS) :=
  hck (S.K a0 = 9) <|
  hb2 (f_X8_ruleFor a0 a1 a2 0 60 S) fun t3 S2 =>
  hnl t3 (
    some ((-1), S2)
    ) fun b4 =>
  hbd (gR S2 a0 8 3) fun t6 =>
  hbd (gR S2 t6 0 1) fun t8 =>
  hck (S2.K t8 = 3) <|
  hb2 (f_X2_here t8 a3 S2) fun t12 S11 =>
  if t12 = 0 then
    (some ((-1), S11))
  else
    (if a4 < 0 then
       (some ((-1), S11))
     else
       (if 20 < a4 then
          (some ((-1), S11))
        else
          (if a5 < 0 then
             (some ((-1), S11))
           else
             (if a5 ≤ 4 then
                (hbd (gR S11 a0 8 9) fun t18 =>
                 hck (S11.K t18 = 2) <|
                 hb2 (f_X1_answers t18 3 a1 a2 a3 a4 S11) fun t22 S21 =>
                 hj (γ := hS → Option (Int32 × hS)) (fun (S24 : hS) =>
                   hbd (gR S24 a0 8 9) fun t25 =>
                   hck (S24.K t25 = 2) <|
                   hb2 (f_X1_part t25 a5 S24) fun t29 S28 =>
                   some (t29, S28)
                   ) fun J23 =>
                 if t22 = 0 then
                   (hbd (gR S21 a0 8 9) fun t32 =>
                    hck (S21.K t32 = 2) <|
                    hbd (f_X1_begin t32 3 a1 a2 a3 a4 S21) fun S35 =>
                    hck (S35.K a0 = 9) <|
                    hbd (f_X8_markSpan a0 b4 a2 a3 a4 S35) fun S37 =>
                    hbd (gR S37 a0 8 9) fun t38 =>
                    hbd (gR S37 a0 8 3) fun t40 =>
                    hbd (gR S37 t40 0 0) fun t42 =>
                    hbd (gR S37 a0 8 10) fun t44 =>
                    hck (S37.K t38 = 2) <|
                    hbd (f_X1_keepSpan t38 t42 t44 S37) fun S47 =>
                    J23 S47)
                 else
                   (J23 S21))
              else
                (some ((-1), S11))))))
set_option maxRecDepth 100000 in
set_option maxHeartbeats 4000000 in
theorem m_X8_span {d : Nat} {cs : Nat → Nat} {a0 : Nat} {a1 : Int32} {a2 : Int32} {a3 : Int32} {a4 : Int32} {a5 : Int32} {S : hS} {r : Int32 × hS} (hd : 8 ≤ d) (hf : f_X8_span a0 a1 a2 a3 a4 a5 S = some r) : HM yX8_span cX8_span 7 (some .int) d 0 0 cs [.ref a0, .int a1, .int a2, .int a3, .int a4, .int a5] S (some (.int r.1)) r.2 := by
  unfold f_X8_span at hf
  refine HM.ofHW false (by decide) (fun h => by cases h) (Nat.le_of_ble_eq_true rfl) ?_
  show HW cX8_span RX8 (x_X8_span d S [.ref a0, .int a1, .int a2, .int a3, .int a4, .int a5] r cs) 0 0 S 0 [(0, .ref a0), (1, .int a1), (2, .int a2), (3, .int a3), (4, .int a4), (5, .int a5)] []
  refine h_aload_n dX8_span_0 rfl 0 rfl ?_
  refine h_iload_n dX8_span_1 rfl 1 rfl ?_
  refine h_iload_n dX8_span_2 rfl 2 rfl ?_
  refine h_iconst (v := 0) dX8_span_3 rfl ?_
  refine h_bipush (v := 60) dX8_span_4 rfl ?_
  obtain ⟨g53, hf⟩ := hck_s hf
  obtain ⟨t3, S2, h1, hf⟩ := hb2_s hf
  refine h_Vr [.int a1, .int a2, .int 0, .int 60] (rest := []) (m_X8_ruleFor (d := 1) (cs := cs) (Nat.le_refl _) h1) v_X8_ruleFor q_735 rfl (Nat.le_trans (by decide) hd) g53 rfl rfl (Nat.le_of_ble_eq_true rfl) dX8_span_6 (Nat.le_refl _) (Nat.le_refl _) ?_
  refine h_astoreV (lv2 := [(6, va_rf t3), (0, .ref a0), (1, .int a1), (2, .int a2), (3, .int a3), (4, .int a4), (5, .int a5)]) dX8_span_9 (Nat.le_of_ble_eq_true rfl) rfl ?_
  refine h_aloadV dX8_span_11 0 rfl ?_
  refine h_ifnull (tgt := 53) dX8_span_13 (by decide) (fun c5 => ?_) (fun b4 c5 => ?_)
  · subst c5
    rw [hnl_n] at hf
    refine h_iconst (v := (-1)) dX8_span_53 rfl ?_
    obtain rfl := Option.some.inj hf
    exact h_iret rfl rfl rfl (Nat.le_refl _) (Nat.le_refl _) dX8_span_54
  · subst c5
    rw [hnl_s] at hf
    show HW cX8_span RX8 (x_X8_span d S [.ref a0, .int a1, .int a2, .int a3, .int a4, .int a5] r cs) 0 0 S2 16 [(6, .ref b4), (0, .ref a0), (1, .int a1), (2, .int a2), (3, .int a3), (4, .int a4), (5, .int a5)] []
    refine h_aload_n dX8_span_16 rfl 1 rfl ?_
    obtain ⟨t6, h7, hf⟩ := hbd_s hf
    refine h_getR h7 rfl (Nat.le_of_ble_eq_true rfl) rfl q_303 rfl dX8_span_17 ?_
    obtain ⟨t8, h9, hf⟩ := hbd_s hf
    refine h_getRN (host := "DeafSpot") h9 rfl (Nat.le_of_ble_eq_true rfl) rfl (List.mem_of_getElem? (i := 52) rfl) rfl dX8_span_20 ?_
    refine h_iload_n dX8_span_23 rfl 4 rfl ?_
    obtain ⟨g52, hf⟩ := hck_s hf
    obtain ⟨t12, S11, h10, hf⟩ := hb2_s hf
    refine h_Vi [.int a3] (rest := []) (m_X2_here (d := 1) (cs := cs) (Nat.le_refl _) h10) v_X2_here q_717 rfl (Nat.le_trans (by decide) hd) g52 rfl rfl (Nat.le_of_ble_eq_true rfl) dX8_span_24 (Nat.le_refl _) (Nat.le_refl _) ?_
    refine h_if_eq (tgt := 53) dX8_span_27 (by decide) (fun c13 => ?_) (fun c13 => ?_)
    · rw [if_pos c13] at hf
      refine h_iconst (v := (-1)) dX8_span_53 rfl ?_
      obtain rfl := Option.some.inj hf
      exact h_iret rfl rfl rfl (Nat.le_refl _) (Nat.le_refl _) dX8_span_54
    · rw [if_neg c13] at hf
      refine h_iload dX8_span_30 5 rfl ?_
      refine h_if_lt (tgt := 53) dX8_span_32 (by decide) (fun c14 => ?_) (fun c14 => ?_)
      · rw [if_pos c14] at hf
        refine h_iconst (v := (-1)) dX8_span_53 rfl ?_
        obtain rfl := Option.some.inj hf
        exact h_iret rfl rfl rfl (Nat.le_refl _) (Nat.le_refl _) dX8_span_54
      · rw [if_neg c14] at hf
        refine h_iload dX8_span_35 5 rfl ?_
        refine h_bipush (v := 20) dX8_span_37 rfl ?_
        refine h_icmp_gt (tgt := 53) dX8_span_39 (by decide) (fun c15 => ?_) (fun c15 => ?_)
        · rw [if_pos c15] at hf
          refine h_iconst (v := (-1)) dX8_span_53 rfl ?_
          obtain rfl := Option.some.inj hf
          exact h_iret rfl rfl rfl (Nat.le_refl _) (Nat.le_refl _) dX8_span_54
        · rw [if_neg c15] at hf
          refine h_iload dX8_span_42 6 rfl ?_
          refine h_if_lt (tgt := 53) dX8_span_44 (by decide) (fun c16 => ?_) (fun c16 => ?_)
          · rw [if_pos c16] at hf
            refine h_iconst (v := (-1)) dX8_span_53 rfl ?_
            obtain rfl := Option.some.inj hf
            exact h_iret rfl rfl rfl (Nat.le_refl _) (Nat.le_refl _) dX8_span_54
          · rw [if_neg c16] at hf
            refine h_iload dX8_span_47 6 rfl ?_
            refine h_iconst (v := 4) dX8_span_49 rfl ?_
            refine h_icmp_le (tgt := 55) dX8_span_50 (by decide) (fun c17 => ?_) (fun c17 => ?_)
            · rw [if_pos c17] at hf
              refine h_aload_n dX8_span_55 rfl 1 rfl ?_
              obtain ⟨t18, h19, hf⟩ := hbd_s hf
              refine h_getR h19 rfl (Nat.le_of_ble_eq_true rfl) rfl q_309 rfl dX8_span_56 ?_
              refine h_iconst (v := 3) dX8_span_59 rfl ?_
              refine h_iload_n dX8_span_60 rfl 2 rfl ?_
              refine h_iload_n dX8_span_61 rfl 3 rfl ?_
              refine h_iload_n dX8_span_62 rfl 4 rfl ?_
              refine h_iload dX8_span_63 5 rfl ?_
              obtain ⟨g51, hf⟩ := hck_s hf
              obtain ⟨t22, S21, h20, hf⟩ := hb2_s hf
              refine h_Vi [.int 3, .int a1, .int a2, .int a3, .int a4] (rest := []) (m_X1_answers (d := 1) (cs := cs) (Nat.le_refl _) h20) v_X1_answers q_807 rfl (Nat.le_trans (by decide) hd) g51 rfl rfl (Nat.le_of_ble_eq_true rfl) dX8_span_65 (Nat.le_refl _) (Nat.le_refl _) ?_
              refine hj_s (fun J23 => ∀ (S24 : hS), J23 S24 = some r → HW cX8_span RX8 (x_X8_span d S [.ref a0, .int a1, .int a2, .int a3, .int a4, .int a5] r cs) 0 0 S24 112 [(0, .ref a0), (5, .int a5)] []) hf ?_ ?_
              · intro S24 hf
                beta_reduce at hf
                refine h_aload_n dX8_span_112 rfl 0 rfl ?_
                obtain ⟨t25, h26, hf⟩ := hbd_s hf
                refine h_getR h26 rfl (Nat.le_of_ble_eq_true rfl) rfl q_309 rfl dX8_span_113 ?_
                refine h_iload dX8_span_116 1 rfl ?_
                obtain ⟨g30, hf⟩ := hck_s hf
                obtain ⟨t29, S28, h27, hf⟩ := hb2_s hf
                refine h_Vi [.int a5] (rest := []) (m_X1_part (d := 1) (cs := cs) (Nat.le_refl _) h27) v_X1_part q_837 rfl (Nat.le_trans (by decide) hd) g30 rfl rfl (Nat.le_of_ble_eq_true rfl) dX8_span_118 (Nat.le_refl _) (Nat.le_refl _) ?_
                obtain rfl := Option.some.inj hf
                exact h_iret rfl rfl rfl (Nat.le_refl _) (Nat.le_refl _) dX8_span_121
              · intro J23 hJ23 hf
                beta_reduce at hf
                refine h_if_ne (tgt := 112) dX8_span_68 (by decide) (fun c31 => ?_) (fun c31 => ?_)
                · rw [if_neg c31] at hf
                  refine h_sub (lv2 := [(0, .ref a0), (5, .int a5)]) [1, 6] rfl ?_
                  exact hJ23 S21 hf
                · rw [if_pos c31] at hf
                  refine h_aload_n dX8_span_71 rfl 1 rfl ?_
                  obtain ⟨t32, h33, hf⟩ := hbd_s hf
                  refine h_getR h33 rfl (Nat.le_of_ble_eq_true rfl) rfl q_309 rfl dX8_span_72 ?_
                  refine h_iconst (v := 3) dX8_span_75 rfl ?_
                  refine h_iload_n dX8_span_76 rfl 2 rfl ?_
                  refine h_iload_n dX8_span_77 rfl 3 rfl ?_
                  refine h_iload_n dX8_span_78 rfl 4 rfl ?_
                  refine h_iload dX8_span_79 5 rfl ?_
                  obtain ⟨g50, hf⟩ := hck_s hf
                  obtain ⟨S35, h34, hf⟩ := hbd_s hf
                  refine h_Vv [.int 3, .int a1, .int a2, .int a3, .int a4] (rest := []) (m_X1_begin (d := 1) (cs := cs) (Nat.le_refl _) h34) v_X1_begin q_811 rfl (Nat.le_trans (by decide) hd) g50 rfl rfl (Nat.le_of_ble_eq_true rfl) dX8_span_81 (Nat.le_refl _) (Nat.le_refl _) ?_
                  refine h_aload_n dX8_span_84 rfl 1 rfl ?_
                  refine h_aload dX8_span_85 0 rfl ?_
                  refine h_iload_n dX8_span_87 rfl 3 rfl ?_
                  refine h_iload_n dX8_span_88 rfl 4 rfl ?_
                  refine h_iload dX8_span_89 5 rfl ?_
                  obtain ⟨g49, hf⟩ := hck_s hf
                  obtain ⟨S37, h36, hf⟩ := hbd_s hf
                  refine h_Vv [.ref b4, .int a2, .int a3, .int a4] (rest := []) (m_X8_markSpan (d := 7) (cs := cs) (Nat.le_refl _) h36) v_X8_markSpan q_875 rfl (Nat.le_trans (by decide) hd) g49 rfl rfl (Nat.le_of_ble_eq_true rfl) dX8_span_91 (Nat.le_refl _) (Nat.le_refl _) ?_
                  refine h_aload_n dX8_span_94 rfl 1 rfl ?_
                  obtain ⟨t38, h39, hf⟩ := hbd_s hf
                  refine h_getR h39 rfl (Nat.le_of_ble_eq_true rfl) rfl q_309 rfl dX8_span_95 ?_
                  refine h_aload_n dX8_span_98 rfl 1 rfl ?_
                  obtain ⟨t40, h41, hf⟩ := hbd_s hf
                  refine h_getR h41 rfl (Nat.le_of_ble_eq_true rfl) rfl q_303 rfl dX8_span_99 ?_
                  obtain ⟨t42, h43, hf⟩ := hbd_s hf
                  refine h_getRN (host := "DeafSpot") h43 rfl (Nat.le_of_ble_eq_true rfl) rfl (List.mem_of_getElem? (i := 50) rfl) rfl dX8_span_102 ?_
                  refine h_aload_n dX8_span_105 rfl 1 rfl ?_
                  obtain ⟨t44, h45, hf⟩ := hbd_s hf
                  refine h_getR h45 rfl (Nat.le_of_ble_eq_true rfl) rfl q_310 rfl dX8_span_106 ?_
                  obtain ⟨g48, hf⟩ := hck_s hf
                  obtain ⟨S47, h46, hf⟩ := hbd_s hf
                  refine h_Vv [.ref t42, .ref t44] (rest := []) (m_X1_keepSpan (d := 2) (cs := cs) (Nat.le_refl _) h46) v_X1_keepSpan q_884 rfl (Nat.le_trans (by decide) hd) g48 rfl rfl (Nat.le_of_ble_eq_true rfl) dX8_span_109 (Nat.le_refl _) (Nat.le_refl _) ?_
                  refine h_sub (lv2 := [(0, .ref a0), (5, .int a5)]) [1, 6] rfl ?_
                  exact hJ23 S47 hf
            · rw [if_neg c17] at hf
              refine h_iconst (v := (-1)) dX8_span_53 rfl ?_
              obtain rfl := Option.some.inj hf
              exact h_iret rfl rfl rfl (Nat.le_refl _) (Nat.le_refl _) dX8_span_54
