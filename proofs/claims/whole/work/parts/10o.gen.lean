abbrev x_X5_readSign (d : Nat) (S0 : hS) (args : List Value) (r : Int32 × hS) (cs : Nat → Nat) : hX := (((some .int), 4, d, 0, 0, false), (S0, args, some (.int r.1), r.2), cs)
theorem v_X5_readSign : hVW yX5_readSign cX5_readSign 4 (some .int) RX5 0 := ⟨q_646, q_s19, q_7, q_647, by decide +kernel, by decide⟩
def f_X5_readSign (a0 : Nat) (S : hS) : Option (Int32 × hS) :=
  hbd (gR S a0 5 0) fun t1 =>
  hck (S.K t1 = 8) <|
  hb2 (f_X7_failed t1 S) fun t5 S4 =>
  if t5 = 0 then
    (hbd (gR S4 a0 5 0) fun t7 =>
     hck (S4.K t7 = 8) <|
     hb2 (f_X7_next t7 S4) fun t11 S10 =>
     hbd (gR S10 a0 5 0) fun t12 =>
     hbd (gI S10 t12 7 2) fun t14 =>
     hbd (gR S10 a0 5 0) fun t16 =>
     hck (S10.K t16 = 8) <|
     hb2 (f_X7_takesOneOf t16 6 S10) fun t20 S19 =>
     hj (γ := hS → Option (Int32 × hS)) (fun (S22 : hS) =>
       hck (S22.K a0 = 6) <|
       hbd (f_X5_countAt a0 t14 S22) fun S24 =>
       if t20 = 1 then
         (some ((-17), S24))
       else
         (hbd (gR S24 a0 5 0) fun t26 =>
          hck (S24.K t26 = 8) <|
          hb2 (f_X7_takes t26 61 S24) fun t30 S29 =>
          if t20 = 0 then
            (if t30 = 0 then
               (some ((-15), S29))
             else
               (some ((-16), S29)))
          else
            (if t30 = 0 then
               (some ((-19), S29))
             else
               (some ((-18), S29))))
       ) fun J21 =>
     if t20 = (-1) then
       (hbd (gR S19 a0 5 0) fun t37 =>
        hck (S19.K t37 = 8) <|
        hbd (f_X7_fail t37 0 t14 S19) fun S40 =>
        J21 S40)
     else
       (J21 S19))
  else
    (some ((-1), S4))
set_option maxRecDepth 100000 in
set_option maxHeartbeats 4000000 in
theorem m_X5_readSign {d : Nat} {cs : Nat → Nat} {a0 : Nat} {S : hS} {r : Int32 × hS} (hd : 6 ≤ d) (hf : f_X5_readSign a0 S = some r) : HM yX5_readSign cX5_readSign 4 (some .int) d 0 0 cs [.ref a0] S (some (.int r.1)) r.2 := by
  unfold f_X5_readSign at hf
  refine HM.ofHW false (by decide) (fun h => by cases h) (Nat.le_of_ble_eq_true rfl) ?_
  show HW cX5_readSign RX5 (x_X5_readSign d S [.ref a0] r cs) 0 0 S 0 [(0, .ref a0)] []
  refine h_aload_n dX5_readSign_0 rfl 0 rfl ?_
  obtain ⟨t1, h2, hf⟩ := hbd_s hf
  refine h_getR h2 rfl (Nat.le_of_ble_eq_true rfl) rfl q_253 rfl dX5_readSign_1 ?_
  obtain ⟨g44, hf⟩ := hck_s hf
  obtain ⟨t5, S4, h3, hf⟩ := hb2_s hf
  refine h_Vi [] (rest := []) (m_X7_failed (d := 1) (cs := cs) (Nat.le_refl _) h3) v_X7_failed q_606 rfl (Nat.le_trans (by decide) hd) g44 rfl rfl (Nat.le_of_ble_eq_true rfl) dX5_readSign_4 (Nat.le_refl _) (Nat.le_refl _) ?_
  refine h_if_eq (tgt := 12) dX5_readSign_7 (by decide) (fun c6 => ?_) (fun c6 => ?_)
  · rw [if_pos c6] at hf
    refine h_aload_n dX5_readSign_12 rfl 0 rfl ?_
    obtain ⟨t7, h8, hf⟩ := hbd_s hf
    refine h_getR h8 rfl (Nat.le_of_ble_eq_true rfl) rfl q_253 rfl dX5_readSign_13 ?_
    obtain ⟨g43, hf⟩ := hck_s hf
    obtain ⟨t11, S10, h9, hf⟩ := hb2_s hf
    refine h_Vi [] (rest := []) (m_X7_next (d := 1) (cs := cs) (Nat.le_refl _) h9) v_X7_next q_611 rfl (Nat.le_trans (by decide) hd) g43 rfl rfl (Nat.le_of_ble_eq_true rfl) dX5_readSign_16 (Nat.le_refl _) (Nat.le_refl _) ?_
    refine h_pop dX5_readSign_19 rfl ?_
    refine h_aload_n dX5_readSign_20 rfl 0 rfl ?_
    obtain ⟨t12, h13, hf⟩ := hbd_s hf
    refine h_getR h13 rfl (Nat.le_of_ble_eq_true rfl) rfl q_253 rfl dX5_readSign_21 ?_
    obtain ⟨t14, h15, hf⟩ := hbd_s hf
    refine h_getIN (host := "DeafSpot") h15 rfl (Nat.le_of_ble_eq_true rfl) rfl (List.mem_of_getElem? (i := 1) rfl) rfl dX5_readSign_24 ?_
    refine h_istore_n (lv2 := [(1, .int t14), (0, .ref a0)]) dX5_readSign_27 rfl (Nat.le_of_ble_eq_true rfl) rfl ?_
    refine h_aload_n dX5_readSign_28 rfl 1 rfl ?_
    obtain ⟨t16, h17, hf⟩ := hbd_s hf
    refine h_getR h17 rfl (Nat.le_of_ble_eq_true rfl) rfl q_253 rfl dX5_readSign_29 ?_
    refine h_ldcS dX5_readSign_32 (List.mem_of_getElem? (i := 6) rfl) ?_
    obtain ⟨g42, hf⟩ := hck_s hf
    obtain ⟨t20, S19, h18, hf⟩ := hb2_s hf
    refine h_Vi [.ref (cs 6)] (rest := []) (m_X7_takesOneOf (d := 5) (cs := cs) (Nat.le_refl _) h18) v_X7_takesOneOf q_624 rfl (Nat.le_trans (by decide) hd) g42 rfl rfl (Nat.le_of_ble_eq_true rfl) dX5_readSign_34 (Nat.le_refl _) (Nat.le_refl _) ?_
    refine h_istore_n (lv2 := [(2, .int t20), (1, .int t14), (0, .ref a0)]) dX5_readSign_37 rfl (Nat.le_of_ble_eq_true rfl) rfl ?_
    refine h_iload_n dX5_readSign_38 rfl 0 rfl ?_
    refine h_iconst (v := (-1)) dX5_readSign_39 rfl ?_
    refine hj_s (fun J21 => ∀ (S22 : hS), J21 S22 = some r → HW cX5_readSign RX5 (x_X5_readSign d S [.ref a0] r cs) 0 0 S22 52 [(0, .ref a0), (1, .int t14), (2, .int t20)] []) hf ?_ ?_
    · intro S22 hf
      refine h_aload_n dX5_readSign_52 rfl 0 rfl ?_
      refine h_iload_n dX5_readSign_53 rfl 1 rfl ?_
      obtain ⟨g35, hf⟩ := hck_s hf
      obtain ⟨S24, h23, hf⟩ := hbd_s hf
      refine h_Vv [.int t14] (rest := []) (m_X5_countAt (d := 2) (cs := cs) (Nat.le_refl _) h23) v_X5_countAt q_615 rfl (Nat.le_trans (by decide) hd) g35 rfl rfl (Nat.le_of_ble_eq_true rfl) dX5_readSign_54 (Nat.le_refl _) (Nat.le_refl _) ?_
      refine h_iload_n dX5_readSign_57 rfl 2 rfl ?_
      refine h_iconst (v := 1) dX5_readSign_58 rfl ?_
      refine h_icmp_ne (tgt := 65) dX5_readSign_59 (by decide) (fun c25 => ?_) (fun c25 => ?_)
      · rw [if_neg c25] at hf
        refine h_aload_n dX5_readSign_65 rfl 0 rfl ?_
        obtain ⟨t26, h27, hf⟩ := hbd_s hf
        refine h_getR h27 rfl (Nat.le_of_ble_eq_true rfl) rfl q_253 rfl dX5_readSign_66 ?_
        refine h_bipush (v := 61) dX5_readSign_69 rfl ?_
        obtain ⟨g34, hf⟩ := hck_s hf
        obtain ⟨t30, S29, h28, hf⟩ := hb2_s hf
        refine h_Vi [.int 61] (rest := []) (m_X7_takes (d := 1) (cs := cs) (Nat.le_refl _) h28) v_X7_takes q_649 rfl (Nat.le_trans (by decide) hd) g34 rfl rfl (Nat.le_of_ble_eq_true rfl) dX5_readSign_71 (Nat.le_refl _) (Nat.le_refl _) ?_
        refine h_istore_n (lv2 := [(3, .int t30), (0, .ref a0), (1, .int t14), (2, .int t20)]) dX5_readSign_74 rfl (Nat.le_of_ble_eq_true rfl) rfl ?_
        refine h_iload_n dX5_readSign_75 rfl 3 rfl ?_
        refine h_if_ne (tgt := 91) dX5_readSign_76 (by decide) (fun c31 => ?_) (fun c31 => ?_)
        · rw [if_neg c31] at hf
          refine h_iload_n dX5_readSign_91 rfl 0 rfl ?_
          refine h_if_eq (tgt := 100) dX5_readSign_92 (by decide) (fun c32 => ?_) (fun c32 => ?_)
          · rw [if_pos c32] at hf
            refine h_bipush (v := (-19)) dX5_readSign_100 rfl ?_
            obtain rfl := Option.some.inj hf
            exact h_iret rfl rfl rfl (Nat.le_refl _) (Nat.le_refl _) dX5_readSign_102
          · rw [if_neg c32] at hf
            refine h_bipush (v := (-18)) dX5_readSign_95 rfl ?_
            refine h_goto (tgt := 102) dX5_readSign_97 (by decide) ?_
            obtain rfl := Option.some.inj hf
            exact h_iret rfl rfl rfl (Nat.le_refl _) (Nat.le_refl _) dX5_readSign_102
        · rw [if_pos c31] at hf
          refine h_iload_n dX5_readSign_79 rfl 0 rfl ?_
          refine h_if_eq (tgt := 88) dX5_readSign_80 (by decide) (fun c33 => ?_) (fun c33 => ?_)
          · rw [if_pos c33] at hf
            refine h_bipush (v := (-15)) dX5_readSign_88 rfl ?_
            obtain rfl := Option.some.inj hf
            exact h_iret rfl rfl rfl (Nat.le_refl _) (Nat.le_refl _) dX5_readSign_90
          · rw [if_neg c33] at hf
            refine h_bipush (v := (-16)) dX5_readSign_83 rfl ?_
            refine h_goto (tgt := 90) dX5_readSign_85 (by decide) ?_
            obtain rfl := Option.some.inj hf
            exact h_iret rfl rfl rfl (Nat.le_refl _) (Nat.le_refl _) dX5_readSign_90
      · rw [if_pos c25] at hf
        refine h_bipush (v := (-17)) dX5_readSign_62 rfl ?_
        obtain rfl := Option.some.inj hf
        exact h_iret rfl rfl rfl (Nat.le_refl _) (Nat.le_refl _) dX5_readSign_64
    · intro J21 hJ21 hf
      refine h_icmp_ne (tgt := 52) dX5_readSign_40 (by decide) (fun c36 => ?_) (fun c36 => ?_)
      · rw [if_neg c36] at hf
        refine h_sub (lv2 := [(0, .ref a0), (1, .int t14), (2, .int t20)]) [2, 1, 0] rfl ?_
        exact hJ21 S19 hf
      · rw [if_pos c36] at hf
        refine h_aload_n dX5_readSign_43 rfl 2 rfl ?_
        obtain ⟨t37, h38, hf⟩ := hbd_s hf
        refine h_getR h38 rfl (Nat.le_of_ble_eq_true rfl) rfl q_253 rfl dX5_readSign_44 ?_
        refine h_iconst (v := 0) dX5_readSign_47 rfl ?_
        refine h_iload_n dX5_readSign_48 rfl 1 rfl ?_
        obtain ⟨g41, hf⟩ := hck_s hf
        obtain ⟨S40, h39, hf⟩ := hbd_s hf
        refine h_Vv [.int 0, .int t14] (rest := []) (m_X7_fail (d := 1) (cs := cs) (Nat.le_refl _) h39) v_X7_fail q_600 rfl (Nat.le_trans (by decide) hd) g41 rfl rfl (Nat.le_of_ble_eq_true rfl) dX5_readSign_49 (Nat.le_refl _) (Nat.le_refl _) ?_
        refine h_sub (lv2 := [(0, .ref a0), (1, .int t14), (2, .int t20)]) [2, 1, 0] rfl ?_
        exact hJ21 S40 hf
  · rw [if_neg c6] at hf
    refine h_iconst (v := (-1)) dX5_readSign_10 rfl ?_
    obtain rfl := Option.some.inj hf
    exact h_iret rfl rfl rfl (Nat.le_refl _) (Nat.le_refl _) dX5_readSign_11
abbrev x_X5_readValue (d : Nat) (S0 : hS) (args : List Value) (r : hS) (cs : Nat → Nat) : hX := ((none, 5, d, 0, 0, false), (S0, args, none, r), cs)
theorem v_X5_readValue : hVW yX5_readValue cX5_readValue 5 none RX5 0 := ⟨q_609, q_s14, q_7, q_610, by decide +kernel, by decide⟩
def f_X5_readValue (a0 : Nat) (S : hS) : Option (hS) :=
  hbd (gR S a0 5 0) fun t1 =>
  hck (S.K t1 = 8) <|
  hb2 (f_X7_next t1 S) fun t5 S4 =>
  hbd (gR S4 a0 5 0) fun t6 =>
  hbd (gI S4 t6 7 2) fun t8 =>
  hj (γ := Int32 → hS → Option (hS)) (fun (u11 : Int32) (S12 : hS) =>
    hck (S12.K a0 = 6) <|
    hbd (f_X5_countAt a0 t8 S12) fun S14 =>
    hck (S14.K a0 = 6) <|
    hbd (f_X5_emit a0 u11 S14) fun S16 =>
    some S16
    ) fun J10 =>
  hj (γ := Unit → Option (hS)) (fun (_ : Unit) =>
    hbd (gR S4 a0 5 0) fun t20 =>
    hck (S4.K t20 = 8) <|
    hb2 (f_X7_number t20 0 99999 S4) fun t24 S23 =>
    J10 t24 S23
    ) fun J19 =>
  if t5 < 97 then
    (J19 ())
  else
    (if 122 < t5 then
       (J19 ())
     else
       (hbd (gR S4 a0 5 0) fun t28 =>
        hck (S4.K t28 = 8) <|
        hb2 (f_X7_wordOf t28 2 S4) fun t32 S31 =>
        hj (γ := hS → Option (hS)) (fun (S34 : hS) =>
          hbd (gR S34 a0 5 0) fun t35 =>
          hck (S34.K t35 = 8) <|
          hbd (f_X7_skipWord t35 S34) fun S38 =>
          J10 ((-1) - t32) S38
          ) fun J33 =>
        if t32 = (-1) then
          (hbd (gR S31 a0 5 0) fun t41 =>
           hck (S31.K t41 = 8) <|
           hbd (f_X7_fail t41 0 t8 S31) fun S44 =>
           J33 S44)
        else
          (J33 S31)))
set_option maxRecDepth 100000 in
set_option maxHeartbeats 4000000 in
theorem m_X5_readValue {d : Nat} {cs : Nat → Nat} {a0 : Nat} {S : hS} {r : hS} (hd : 7 ≤ d) (hf : f_X5_readValue a0 S = some r) : HM yX5_readValue cX5_readValue 5 none d 0 0 cs [.ref a0] S (none) r := by
  unfold f_X5_readValue at hf
  refine HM.ofHW false (by decide) (fun h => by cases h) (Nat.le_of_ble_eq_true rfl) ?_
  show HW cX5_readValue RX5 (x_X5_readValue d S [.ref a0] r cs) 0 0 S 0 [(0, .ref a0)] []
  refine h_aload_n dX5_readValue_0 rfl 0 rfl ?_
  obtain ⟨t1, h2, hf⟩ := hbd_s hf
  refine h_getR h2 rfl (Nat.le_of_ble_eq_true rfl) rfl q_253 rfl dX5_readValue_1 ?_
  obtain ⟨g47, hf⟩ := hck_s hf
  obtain ⟨t5, S4, h3, hf⟩ := hb2_s hf
  refine h_Vi [] (rest := []) (m_X7_next (d := 1) (cs := cs) (Nat.le_refl _) h3) v_X7_next q_611 rfl (Nat.le_trans (by decide) hd) g47 rfl rfl (Nat.le_of_ble_eq_true rfl) dX5_readValue_4 (Nat.le_refl _) (Nat.le_refl _) ?_
  refine h_istore_n (lv2 := [(1, .int t5), (0, .ref a0)]) dX5_readValue_7 rfl (Nat.le_of_ble_eq_true rfl) rfl ?_
  refine h_aload_n dX5_readValue_8 rfl 1 rfl ?_
  obtain ⟨t6, h7, hf⟩ := hbd_s hf
  refine h_getR h7 rfl (Nat.le_of_ble_eq_true rfl) rfl q_253 rfl dX5_readValue_9 ?_
  obtain ⟨t8, h9, hf⟩ := hbd_s hf
  refine h_getIN (host := "DeafSpot") h9 rfl (Nat.le_of_ble_eq_true rfl) rfl (List.mem_of_getElem? (i := 1) rfl) rfl dX5_readValue_12 ?_
  refine h_istore_n (lv2 := [(2, .int t8), (1, .int t5), (0, .ref a0)]) dX5_readValue_15 rfl (Nat.le_of_ble_eq_true rfl) rfl ?_
  refine h_iconst (v := 0) dX5_readValue_16 rfl ?_
  refine h_istore_n (lv2 := [(3, .int 0), (2, .int t8), (1, .int t5), (0, .ref a0)]) dX5_readValue_17 rfl (Nat.le_of_ble_eq_true rfl) rfl ?_
  refine h_iload_n dX5_readValue_18 rfl 2 rfl ?_
  refine h_bipush (v := 97) dX5_readValue_19 rfl ?_
  refine hj_s (fun J10 => ∀ (u11 : Int32) (S12 : hS), J10 u11 S12 = some r → HW cX5_readValue RX5 (x_X5_readValue d S [.ref a0] r cs) 0 0 S12 82 [(0, .ref a0), (2, .int t8), (3, .int u11)] []) hf ?_ ?_
  · intro u11 S12 hf
    refine h_aload_n dX5_readValue_82 rfl 0 rfl ?_
    refine h_iload_n dX5_readValue_83 rfl 1 rfl ?_
    obtain ⟨g18, hf⟩ := hck_s hf
    obtain ⟨S14, h13, hf⟩ := hbd_s hf
    refine h_Vv [.int t8] (rest := []) (m_X5_countAt (d := 2) (cs := cs) (Nat.le_refl _) h13) v_X5_countAt q_615 rfl (Nat.le_trans (by decide) hd) g18 rfl rfl (Nat.le_of_ble_eq_true rfl) dX5_readValue_84 (Nat.le_refl _) (Nat.le_refl _) ?_
    refine h_aload_n dX5_readValue_87 rfl 0 rfl ?_
    refine h_iload_n dX5_readValue_88 rfl 2 rfl ?_
    obtain ⟨g17, hf⟩ := hck_s hf
    obtain ⟨S16, h15, hf⟩ := hbd_s hf
    refine h_Vv [.int u11] (rest := []) (m_X5_emit (d := 1) (cs := cs) (Nat.le_refl _) h15) v_X5_emit q_619 rfl (Nat.le_trans (by decide) hd) g17 rfl rfl (Nat.le_of_ble_eq_true rfl) dX5_readValue_89 (Nat.le_refl _) (Nat.le_refl _) ?_
    obtain rfl := Option.some.inj hf
    exact h_vret rfl rfl rfl (Nat.le_refl _) (Nat.le_refl _) dX5_readValue_92
  · intro J10 hJ10 hf
    refine hj_s (fun J19 => ∀ (w : Unit), J19 w = some r → HW cX5_readValue RX5 (x_X5_readValue d S [.ref a0] r cs) 0 0 S4 71 [(0, .ref a0), (2, .int t8)] []) hf ?_ ?_
    · intro w hf
      refine h_aload_n dX5_readValue_71 rfl 0 rfl ?_
      obtain ⟨t20, h21, hf⟩ := hbd_s hf
      refine h_getR h21 rfl (Nat.le_of_ble_eq_true rfl) rfl q_253 rfl dX5_readValue_72 ?_
      refine h_iconst (v := 0) dX5_readValue_75 rfl ?_
      refine h_ldc (v := 99999) dX5_readValue_76 q_613 ?_
      obtain ⟨g25, hf⟩ := hck_s hf
      obtain ⟨t24, S23, h22, hf⟩ := hb2_s hf
      refine h_Vi [.int 0, .int 99999] (rest := []) (m_X7_number (d := 2) (cs := cs) (Nat.le_refl _) h22) v_X7_number q_614 rfl (Nat.le_trans (by decide) hd) g25 rfl rfl (Nat.le_of_ble_eq_true rfl) dX5_readValue_78 (Nat.le_refl _) (Nat.le_refl _) ?_
      refine h_istore_n (lv2 := [(3, .int t24), (0, .ref a0), (2, .int t8)]) dX5_readValue_81 rfl (Nat.le_of_ble_eq_true rfl) rfl ?_
      refine h_sub (lv2 := [(0, .ref a0), (2, .int t8), (3, .int t24)]) [1, 2, 0] rfl ?_
      exact hJ10 t24 S23 hf
    · intro J19 hJ19 hf
      refine h_icmp_lt (tgt := 71) dX5_readValue_21 (by decide) (fun c26 => ?_) (fun c26 => ?_)
      · rw [if_pos c26] at hf
        refine h_sub (lv2 := [(0, .ref a0), (2, .int t8)]) [3, 1] rfl ?_
        exact hJ19 () hf
      · rw [if_neg c26] at hf
        refine h_iload_n dX5_readValue_24 rfl 2 rfl ?_
        refine h_bipush (v := 122) dX5_readValue_25 rfl ?_
        refine h_icmp_gt (tgt := 71) dX5_readValue_27 (by decide) (fun c27 => ?_) (fun c27 => ?_)
        · rw [if_pos c27] at hf
          refine h_sub (lv2 := [(0, .ref a0), (2, .int t8)]) [3, 1] rfl ?_
          exact hJ19 () hf
        · rw [if_neg c27] at hf
          refine h_aload_n dX5_readValue_30 rfl 3 rfl ?_
          obtain ⟨t28, h29, hf⟩ := hbd_s hf
          refine h_getR h29 rfl (Nat.le_of_ble_eq_true rfl) rfl q_253 rfl dX5_readValue_31 ?_
          refine h_ldcS dX5_readValue_34 (List.mem_of_getElem? (i := 2) rfl) ?_
          obtain ⟨g46, hf⟩ := hck_s hf
          obtain ⟨t32, S31, h30, hf⟩ := hb2_s hf
          refine h_Vi [.ref (cs 2)] (rest := []) (m_X7_wordOf (d := 6) (cs := cs) (Nat.le_refl _) h30) v_X7_wordOf q_599 rfl (Nat.le_trans (by decide) hd) g46 rfl rfl (Nat.le_of_ble_eq_true rfl) dX5_readValue_36 (Nat.le_refl _) (Nat.le_refl _) ?_
          refine h_istore (lv2 := [(4, .int t32), (3, .int 0), (2, .int t8), (1, .int t5), (0, .ref a0)]) dX5_readValue_39 (Nat.le_of_ble_eq_true rfl) rfl ?_
          refine h_iload dX5_readValue_41 0 rfl ?_
          refine h_iconst (v := (-1)) dX5_readValue_43 rfl ?_
          refine hj_s (fun J33 => ∀ (S34 : hS), J33 S34 = some r → HW cX5_readValue RX5 (x_X5_readValue d S [.ref a0] r cs) 0 0 S34 56 [(0, .ref a0), (2, .int t8), (4, .int t32)] []) hf ?_ ?_
          · intro S34 hf
            refine h_aload_n dX5_readValue_56 rfl 0 rfl ?_
            obtain ⟨t35, h36, hf⟩ := hbd_s hf
            refine h_getR h36 rfl (Nat.le_of_ble_eq_true rfl) rfl q_253 rfl dX5_readValue_57 ?_
            obtain ⟨g39, hf⟩ := hck_s hf
            obtain ⟨S38, h37, hf⟩ := hbd_s hf
            refine h_Vv [] (rest := []) (m_X7_skipWord (d := 2) (cs := cs) (Nat.le_refl _) h37) v_X7_skipWord q_601 rfl (Nat.le_trans (by decide) hd) g39 rfl rfl (Nat.le_of_ble_eq_true rfl) dX5_readValue_60 (Nat.le_refl _) (Nat.le_refl _) ?_
            refine h_iconst (v := (-1)) dX5_readValue_63 rfl ?_
            refine h_iload dX5_readValue_64 2 rfl ?_
            refine h_isub dX5_readValue_66 ?_
            refine h_istore_n (lv2 := [(3, .int ((-1) - t32)), (0, .ref a0), (2, .int t8), (4, .int t32)]) dX5_readValue_67 rfl (Nat.le_of_ble_eq_true rfl) rfl ?_
            refine h_goto (tgt := 82) dX5_readValue_68 (by decide) ?_
            refine h_sub (lv2 := [(0, .ref a0), (2, .int t8), (3, .int ((-1) - t32))]) [1, 2, 0] rfl ?_
            exact hJ10 ((-1) - t32) S38 hf
          · intro J33 hJ33 hf
            refine h_icmp_ne (tgt := 56) dX5_readValue_44 (by decide) (fun c40 => ?_) (fun c40 => ?_)
            · rw [if_neg c40] at hf
              refine h_sub (lv2 := [(0, .ref a0), (2, .int t8), (4, .int t32)]) [4, 2, 0] rfl ?_
              exact hJ33 S31 hf
            · rw [if_pos c40] at hf
              refine h_aload_n dX5_readValue_47 rfl 4 rfl ?_
              obtain ⟨t41, h42, hf⟩ := hbd_s hf
              refine h_getR h42 rfl (Nat.le_of_ble_eq_true rfl) rfl q_253 rfl dX5_readValue_48 ?_
              refine h_iconst (v := 0) dX5_readValue_51 rfl ?_
              refine h_iload_n dX5_readValue_52 rfl 2 rfl ?_
              obtain ⟨g45, hf⟩ := hck_s hf
              obtain ⟨S44, h43, hf⟩ := hbd_s hf
              refine h_Vv [.int 0, .int t8] (rest := []) (m_X7_fail (d := 1) (cs := cs) (Nat.le_refl _) h43) v_X7_fail q_600 rfl (Nat.le_trans (by decide) hd) g45 rfl rfl (Nat.le_of_ble_eq_true rfl) dX5_readValue_53 (Nat.le_refl _) (Nat.le_refl _) ?_
              refine h_sub (lv2 := [(0, .ref a0), (2, .int t8), (4, .int t32)]) [4, 2, 0] rfl ?_
              exact hJ33 S44 hf
abbrev x_X7_takesWord (d : Nat) (S0 : hS) (args : List Value) (r : Int32 × hS) (cs : Nat → Nat) : hX := (((some .boolean), 2, d, 0, 0, false), (S0, args, some (.int r.1), r.2), cs)
theorem v_X7_takesWord : hVW yX7_takesWord cX7_takesWord 2 (some .boolean) RX7 1 := ⟨q_630, q_631, q_2, q_632, by decide +kernel, by decide⟩
def f_X7_takesWord (a0 : Nat) (a1 : Nat) (S : hS) : Option (Int32 × hS) :=
  hck (S.K a0 = 8) <|
  hb2 (f_X7_wordOf a0 a1 S) fun t3 S2 =>
  if t3 = (-1) then
    (some (0, S2))
  else
    (hck (S2.K a0 = 8) <|
     hbd (f_X7_skipWord a0 S2) fun S6 =>
     some (1, S6))
set_option maxRecDepth 100000 in
set_option maxHeartbeats 4000000 in
theorem m_X7_takesWord {d : Nat} {cs : Nat → Nat} {a0 : Nat} {a1 : Nat} {S : hS} {r : Int32 × hS} (hd : 7 ≤ d) (hf : f_X7_takesWord a0 a1 S = some r) : HM yX7_takesWord cX7_takesWord 2 (some .boolean) d 0 0 cs [.ref a0, .ref (cs a1)] S (some (.int r.1)) r.2 := by
  unfold f_X7_takesWord at hf
  refine HM.ofHW false (by decide) (fun h => by cases h) (Nat.le_of_ble_eq_true rfl) ?_
  show HW cX7_takesWord RX7 (x_X7_takesWord d S [.ref a0, .ref (cs a1)] r cs) 0 0 S 0 [(0, .ref a0), (1, .ref (cs a1))] []
  refine h_aload_n dX7_takesWord_0 rfl 0 rfl ?_
  refine h_aload_n dX7_takesWord_1 rfl 1 rfl ?_
  obtain ⟨g8, hf⟩ := hck_s hf
  obtain ⟨t3, S2, h1, hf⟩ := hb2_s hf
  refine h_Vi [.ref (cs a1)] (rest := []) (m_X7_wordOf (d := 6) (cs := cs) (Nat.le_refl _) h1) v_X7_wordOf q_633 rfl (Nat.le_trans (by decide) hd) g8 rfl rfl (Nat.le_of_ble_eq_true rfl) dX7_takesWord_2 (Nat.le_refl _) (Nat.le_refl _) ?_
  refine h_iconst (v := (-1)) dX7_takesWord_5 rfl ?_
  refine h_icmp_ne (tgt := 11) dX7_takesWord_6 (by decide) (fun c4 => ?_) (fun c4 => ?_)
  · rw [if_neg c4] at hf
    refine h_aload_n dX7_takesWord_11 rfl 0 rfl ?_
    obtain ⟨g7, hf⟩ := hck_s hf
    obtain ⟨S6, h5, hf⟩ := hbd_s hf
    refine h_Vv [] (rest := []) (m_X7_skipWord (d := 2) (cs := cs) (Nat.le_refl _) h5) v_X7_skipWord q_634 rfl (Nat.le_trans (by decide) hd) g7 rfl rfl (Nat.le_of_ble_eq_true rfl) dX7_takesWord_12 (Nat.le_refl _) (Nat.le_refl _) ?_
    refine h_iconst (v := 1) dX7_takesWord_15 rfl ?_
    obtain rfl := Option.some.inj hf
    exact h_zret rfl (by decide) rfl rfl (Nat.le_refl _) (Nat.le_refl _) dX7_takesWord_16
  · rw [if_pos c4] at hf
    refine h_iconst (v := 0) dX7_takesWord_9 rfl ?_
    obtain rfl := Option.some.inj hf
    exact h_zret rfl (by decide) rfl rfl (Nat.le_refl _) (Nat.le_refl _) dX7_takesWord_10
abbrev x_X8_back (d : Nat) (S0 : hS) (args : List Value) (r : Int32 × hS) (cs : Nat → Nat) : hX := (((some .int), 3, d, 0, 0, false), (S0, args, some (.int r.1), r.2), cs)
theorem v_X8_back : hVW yX8_back cX8_back 3 (some .int) RX8 1 := ⟨q_952, q_953, q_1, q_954, by decide +kernel, by decide⟩
def f_X8_back (a0 : Nat) (a1 : Int32) (S : hS) : Option (Int32 × hS) :=
  if a1 < 0 then
    (some ((-1), S))
  else
    (if a1 < 4 then
       (hbd (gR S a0 8 6) fun t3 =>
        hbd (gAR S t3 15 a1) fun t5 =>
        hnl t5 (
          some ((-1), S)
          ) fun b7 =>
        hbd (gR S a0 8 9) fun t9 =>
        hck (S.K t9 = 2) <|
        hbd (f_X1_forget t9 S) fun S12 =>
        hbd (gR S12 a0 8 3) fun t13 =>
        hck (S12.K t13 = 1) <|
        hbd (f_X0_copy t13 b7 S12) fun S16 =>
        hbd (gR S16 a0 8 3) fun t17 =>
        hbd (gI S16 t17 0 6) fun t19 =>
        some (t19, S16))
     else
       (some ((-1), S)))
set_option maxRecDepth 100000 in
set_option maxHeartbeats 4000000 in
theorem m_X8_back {d : Nat} {cs : Nat → Nat} {a0 : Nat} {a1 : Int32} {S : hS} {r : Int32 × hS} (hd : 4 ≤ d) (hf : f_X8_back a0 a1 S = some r) : HM yX8_back cX8_back 3 (some .int) d 0 0 cs [.ref a0, .int a1] S (some (.int r.1)) r.2 := by
  unfold f_X8_back at hf
  refine HM.ofHW false (by decide) (fun h => by cases h) (Nat.le_of_ble_eq_true rfl) ?_
  show HW cX8_back RX8 (x_X8_back d S [.ref a0, .int a1] r cs) 0 0 S 0 [(0, .ref a0), (1, .int a1)] []
  refine h_iload_n dX8_back_0 rfl 1 rfl ?_
  refine h_if_lt (tgt := 9) dX8_back_1 (by decide) (fun c1 => ?_) (fun c1 => ?_)
  · rw [if_pos c1] at hf
    refine h_iconst (v := (-1)) dX8_back_9 rfl ?_
    obtain rfl := Option.some.inj hf
    exact h_iret rfl rfl rfl (Nat.le_refl _) (Nat.le_refl _) dX8_back_10
  · rw [if_neg c1] at hf
    refine h_iload_n dX8_back_4 rfl 1 rfl ?_
    refine h_iconst (v := 4) dX8_back_5 rfl ?_
    refine h_icmp_lt (tgt := 11) dX8_back_6 (by decide) (fun c2 => ?_) (fun c2 => ?_)
    · rw [if_pos c2] at hf
      refine h_aload_n dX8_back_11 rfl 0 rfl ?_
      obtain ⟨t3, h4, hf⟩ := hbd_s hf
      refine h_getR h4 rfl (Nat.le_of_ble_eq_true rfl) rfl q_306 rfl dX8_back_12 ?_
      refine h_iload_n dX8_back_15 rfl 1 rfl ?_
      obtain ⟨t5, h6, hf⟩ := hbd_s hf
      refine h_aald15 h6 dX8_back_16 ?_
      refine h_astore_nV (lv2 := [(2, va_rf t5), (0, .ref a0), (1, .int a1)]) dX8_back_17 rfl (Nat.le_of_ble_eq_true rfl) rfl ?_
      refine h_aload_nV dX8_back_18 rfl 0 rfl ?_
      refine h_ifnonnull (tgt := 24) dX8_back_19 (by decide) (fun c8 => ?_) (fun b7 c8 => ?_)
      · subst c8
        rw [hnl_n] at hf
        refine h_iconst (v := (-1)) dX8_back_22 rfl ?_
        obtain rfl := Option.some.inj hf
        exact h_iret rfl rfl rfl (Nat.le_refl _) (Nat.le_refl _) dX8_back_23
      · subst c8
        rw [hnl_s] at hf
        show HW cX8_back RX8 (x_X8_back d S [.ref a0, .int a1] r cs) 0 0 S 24 [(2, .ref b7), (0, .ref a0), (1, .int a1)] []
        refine h_aload_n dX8_back_24 rfl 1 rfl ?_
        obtain ⟨t9, h10, hf⟩ := hbd_s hf
        refine h_getR h10 rfl (Nat.le_of_ble_eq_true rfl) rfl q_309 rfl dX8_back_25 ?_
        obtain ⟨g22, hf⟩ := hck_s hf
        obtain ⟨S12, h11, hf⟩ := hbd_s hf
        refine h_Vv [] (rest := []) (m_X1_forget (d := 1) (cs := cs) (Nat.le_refl _) h11) v_X1_forget q_563 rfl (Nat.le_trans (by decide) hd) g22 rfl rfl (Nat.le_of_ble_eq_true rfl) dX8_back_28 (Nat.le_refl _) (Nat.le_refl _) ?_
        refine h_aload_n dX8_back_31 rfl 1 rfl ?_
        obtain ⟨t13, h14, hf⟩ := hbd_s hf
        refine h_getR h14 rfl (Nat.le_of_ble_eq_true rfl) rfl q_303 rfl dX8_back_32 ?_
        refine h_aload_n dX8_back_35 rfl 0 rfl ?_
        obtain ⟨g21, hf⟩ := hck_s hf
        obtain ⟨S16, h15, hf⟩ := hbd_s hf
        refine h_Vv [.ref b7] (rest := []) (m_X0_copy (d := 3) (cs := cs) (Nat.le_refl _) h15) v_X0_copy q_567 rfl (Nat.le_trans (by decide) hd) g21 rfl rfl (Nat.le_of_ble_eq_true rfl) dX8_back_36 (Nat.le_refl _) (Nat.le_refl _) ?_
        refine h_aload_n dX8_back_39 rfl 1 rfl ?_
        obtain ⟨t17, h18, hf⟩ := hbd_s hf
        refine h_getR h18 rfl (Nat.le_of_ble_eq_true rfl) rfl q_303 rfl dX8_back_40 ?_
        obtain ⟨t19, h20, hf⟩ := hbd_s hf
        refine h_getIN (host := "DeafSpot") h20 rfl (Nat.le_of_ble_eq_true rfl) rfl (List.mem_of_getElem? (i := 57) rfl) rfl dX8_back_43 ?_
        obtain rfl := Option.some.inj hf
        exact h_iret rfl rfl rfl (Nat.le_refl _) (Nat.le_refl _) dX8_back_46
    · rw [if_neg c2] at hf
      refine h_iconst (v := (-1)) dX8_back_9 rfl ?_
      obtain rfl := Option.some.inj hf
      exact h_iret rfl rfl rfl (Nat.le_refl _) (Nat.le_refl _) dX8_back_10
abbrev x_X0_wander (d : Nat) (S0 : hS) (args : List Value) (r : hS) (cs : Nat → Nat) : hX := ((none, 9, d, 0, 0, false), (S0, args, none, r), cs)
theorem v_X0_wander : hVW yX0_wander cX0_wander 9 none RX0 1 := ⟨q_766, q_s25, q_3, q_767, by decide +kernel, by decide⟩
def f_X0_wander_L19 : Nat → Nat → Nat → Int32 → Int64 → Int32 → hS → (Int32 → hS → Option (hS)) → Option (hS)
  | 0, _, _, _, _, _, _, _ => none
  | n + 1, x0, x1, x2, x3, x5, S, k0 =>
    if 5 ≤ x5 then
      (k0 x2 S)
    else
      (hbd (gR S x0 0 0) fun t2 =>
       hbd (gR S t2 6 7) fun t4 =>
       hbd (gI S x0 0 4) fun t6 =>
       hbd (gA S t4 12 ((t6 * 5) + x5)) fun t8 =>
       if t8 < 0 then
         (f_X0_wander_L19 n x0 x1 x2 x3 (x5 + 1) S k0)
       else
         (hck (S.K x1 = 5) <|
          hb2 (f_X4_worth x1 x0 t8 x5 S) fun t13 S12 =>
          if (lg_cmp t13 x3) ≤ 0 then
            (f_X0_wander_L19 n x0 x1 x2 x3 (x5 + 1) S12 k0)
          else
            (f_X0_wander_L19 n x0 x1 t8 t13 (x5 + 1) S12 k0)))
def f_X0_wander (a0 : Nat) (a1 : Nat) (S : hS) : Option (hS) :=
  hbd (gI S a0 0 4) fun t16 =>
  hbd (gI S a0 0 4) fun t18 =>
  hck (S.K a1 = 5) <|
  hb2 (f_X4_worth a1 a0 t18 0 S) fun t22 S21 =>
  f_X0_wander_L19 hfuel a0 a1 t16 t22 1 S21
    (fun u23 S24 =>
      hbd (gI S24 a0 0 4) fun t25 =>
      hbd (sI S24 a0 0 5 t25) fun S27 =>
      hbd (sI S27 a0 0 4 u23) fun S29 =>
      some S29
    )
set_option maxRecDepth 100000 in
set_option maxHeartbeats 4000000 in
theorem w_X0_wander_L19 {d : Nat} {S0 : hS} {args : List Value} {cs : Nat → Nat} {r : hS} (hd : 4 ≤ d) : ∀ (n : Nat) (x0 : Nat) (x1 : Nat) (x2 : Int32) (x3 : Int64) (x5 : Int32) (S : hS) (k0 : (Int32 → hS → Option (hS))) , f_X0_wander_L19 n x0 x1 x2 x3 x5 S k0 = some r → (∀ (y2 : Int32) (T : hS), k0 y2 T = some r → HW cX0_wander RX0 (x_X0_wander d S0 args r cs) 0 0 T 79 [(0, .ref x0), (2, .int y2)] []) → HW cX0_wander RX0 (x_X0_wander d S0 args r cs) 0 0 S 19 [(0, .ref x0), (1, .ref x1), (2, .int x2), (3, .long x3), (5, .int x5)] [] := by
  intro n
  induction n with
  | zero =>
    intro x0 x1 x2 x3 x5 S k0 hf
    cases hf
  | succ n ih =>
    intro x0 x1 x2 x3 x5 S k0 hf hk0
    rw [f_X0_wander_L19] at hf
    refine h_iload dX0_wander_19 4 rfl ?_
    refine h_iconst (v := 5) dX0_wander_21 rfl ?_
    refine h_icmp_ge (tgt := 79) dX0_wander_22 (by decide) (fun c1 => ?_) (fun c1 => ?_)
    · rw [if_pos c1] at hf
      refine h_sub (lv2 := [(0, .ref x0), (2, .int x2)]) [0, 2] rfl ?_
      exact hk0 x2 S hf
    · rw [if_neg c1] at hf
      refine h_aload_n dX0_wander_25 rfl 0 rfl ?_
      obtain ⟨t2, h3, hf⟩ := hbd_s hf
      refine h_getR h3 rfl (Nat.le_of_ble_eq_true rfl) rfl q_180 rfl dX0_wander_26 ?_
      obtain ⟨t4, h5, hf⟩ := hbd_s hf
      refine h_getRN (host := "DeafSpot") h5 rfl (Nat.le_of_ble_eq_true rfl) rfl (List.mem_of_getElem? (i := 21) rfl) rfl dX0_wander_29 ?_
      refine h_aload_n dX0_wander_32 rfl 0 rfl ?_
      obtain ⟨t6, h7, hf⟩ := hbd_s hf
      refine h_getI h7 rfl (Nat.le_of_ble_eq_true rfl) rfl q_190 rfl dX0_wander_33 ?_
      refine h_iconst (v := 5) dX0_wander_36 rfl ?_
      refine h_imul dX0_wander_37 ?_
      refine h_iload dX0_wander_38 4 rfl ?_
      refine h_iadd dX0_wander_40 ?_
      obtain ⟨t8, h9, hf⟩ := hbd_s hf
      refine h_iald h9 dX0_wander_41 ?_
      refine h_istore (lv2 := [(6, .int t8), (0, .ref x0), (1, .ref x1), (2, .int x2), (3, .long x3), (5, .int x5)]) dX0_wander_42 (Nat.le_of_ble_eq_true rfl) rfl ?_
      refine h_iload dX0_wander_44 0 rfl ?_
      refine h_if_lt (tgt := 73) dX0_wander_46 (by decide) (fun c10 => ?_) (fun c10 => ?_)
      · rw [if_pos c10] at hf
        refine h_iinc (q := 5) (v := x5 + 1) (lv2 := [(5, .int (x5 + 1)), (6, .int t8), (0, .ref x0), (1, .ref x1), (2, .int x2), (3, .long x3)]) dX0_wander_73 rfl rfl (Nat.le_of_ble_eq_true rfl) rfl ?_
        refine h_goto (tgt := 19) dX0_wander_76 (by decide) ?_
        refine h_sub (lv2 := [(0, .ref x0), (1, .ref x1), (2, .int x2), (3, .long x3), (5, .int (x5 + 1))]) [2, 3, 4, 5, 0] rfl ?_
        exact ih x0 x1 x2 x3 (x5 + 1) S k0  hf hk0
      · rw [if_neg c10] at hf
        refine h_aload_n dX0_wander_49 rfl 2 rfl ?_
        refine h_aload_n dX0_wander_50 rfl 1 rfl ?_
        refine h_iload dX0_wander_51 0 rfl ?_
        refine h_iload dX0_wander_53 5 rfl ?_
        obtain ⟨g15, hf⟩ := hck_s hf
        obtain ⟨t13, S12, h11, hf⟩ := hb2_s hf
        refine h_Vl [.ref x0, .int t8, .int x5] (rest := []) (m_X4_worth (d := 3) (cs := cs) (Nat.le_refl _) h11) v_X4_worth q_768 rfl (Nat.le_trans (by decide) hd) g15 rfl rfl (Nat.le_of_ble_eq_true rfl) dX0_wander_55 (Nat.le_refl _) (Nat.le_refl _) ?_
        refine h_lstore (lv2 := [(7, .long t13), (6, .int t8), (0, .ref x0), (1, .ref x1), (2, .int x2), (3, .long x3), (5, .int x5)]) dX0_wander_58 (Nat.le_of_ble_eq_true rfl) rfl ?_
        refine h_lload dX0_wander_60 0 rfl ?_
        refine h_lload_n dX0_wander_62 rfl 5 rfl ?_
        refine h_lcmp dX0_wander_63 ?_
        refine h_if_le (tgt := 73) dX0_wander_64 (by decide) (fun c14 => ?_) (fun c14 => ?_)
        · rw [if_pos c14] at hf
          refine h_iinc (q := 6) (v := x5 + 1) (lv2 := [(5, .int (x5 + 1)), (7, .long t13), (6, .int t8), (0, .ref x0), (1, .ref x1), (2, .int x2), (3, .long x3)]) dX0_wander_73 rfl rfl (Nat.le_of_ble_eq_true rfl) rfl ?_
          refine h_goto (tgt := 19) dX0_wander_76 (by decide) ?_
          refine h_sub (lv2 := [(0, .ref x0), (1, .ref x1), (2, .int x2), (3, .long x3), (5, .int (x5 + 1))]) [3, 4, 5, 6, 0] rfl ?_
          exact ih x0 x1 x2 x3 (x5 + 1) S12 k0  hf hk0
        · rw [if_neg c14] at hf
          refine h_lload dX0_wander_67 0 rfl ?_
          refine h_lstore_n (lv2 := [(3, .long t13), (7, .long t13), (6, .int t8), (0, .ref x0), (1, .ref x1), (2, .int x2), (5, .int x5)]) dX0_wander_69 rfl (Nat.le_of_ble_eq_true rfl) rfl ?_
          refine h_iload dX0_wander_70 2 rfl ?_
          refine h_istore_n (lv2 := [(2, .int t8), (3, .long t13), (7, .long t13), (6, .int t8), (0, .ref x0), (1, .ref x1), (5, .int x5)]) dX0_wander_72 rfl (Nat.le_of_ble_eq_true rfl) rfl ?_
          refine h_iinc (q := 6) (v := x5 + 1) (lv2 := [(5, .int (x5 + 1)), (2, .int t8), (3, .long t13), (7, .long t13), (6, .int t8), (0, .ref x0), (1, .ref x1)]) dX0_wander_73 rfl rfl (Nat.le_of_ble_eq_true rfl) rfl ?_
          refine h_goto (tgt := 19) dX0_wander_76 (by decide) ?_
          refine h_sub (lv2 := [(0, .ref x0), (1, .ref x1), (2, .int t8), (3, .long t13), (5, .int (x5 + 1))]) [5, 6, 1, 2, 0] rfl ?_
          exact ih x0 x1 t8 t13 (x5 + 1) S12 k0  hf hk0
set_option maxRecDepth 100000 in
set_option maxHeartbeats 4000000 in
theorem m_X0_wander {d : Nat} {cs : Nat → Nat} {a0 : Nat} {a1 : Nat} {S : hS} {r : hS} (hd : 4 ≤ d) (hf : f_X0_wander a0 a1 S = some r) : HM yX0_wander cX0_wander 9 none d 0 0 cs [.ref a0, .ref a1] S (none) r := by
  unfold f_X0_wander at hf
  refine HM.ofHW false (by decide) (fun h => by cases h) (Nat.le_of_ble_eq_true rfl) ?_
  show HW cX0_wander RX0 (x_X0_wander d S [.ref a0, .ref a1] r cs) 0 0 S 0 [(0, .ref a0), (1, .ref a1)] []
  refine h_aload_n dX0_wander_0 rfl 0 rfl ?_
  obtain ⟨t16, h17, hf⟩ := hbd_s hf
  refine h_getI h17 rfl (Nat.le_of_ble_eq_true rfl) rfl q_190 rfl dX0_wander_1 ?_
  refine h_istore_n (lv2 := [(2, .int t16), (0, .ref a0), (1, .ref a1)]) dX0_wander_4 rfl (Nat.le_of_ble_eq_true rfl) rfl ?_
  refine h_aload_n dX0_wander_5 rfl 2 rfl ?_
  refine h_aload_n dX0_wander_6 rfl 1 rfl ?_
  refine h_aload_n dX0_wander_7 rfl 1 rfl ?_
  obtain ⟨t18, h19, hf⟩ := hbd_s hf
  refine h_getI h19 rfl (Nat.le_of_ble_eq_true rfl) rfl q_190 rfl dX0_wander_8 ?_
  refine h_iconst (v := 0) dX0_wander_11 rfl ?_
  obtain ⟨g31, hf⟩ := hck_s hf
  obtain ⟨t22, S21, h20, hf⟩ := hb2_s hf
  refine h_Vl [.ref a0, .int t18, .int 0] (rest := []) (m_X4_worth (d := 3) (cs := cs) (Nat.le_refl _) h20) v_X4_worth q_768 rfl (Nat.le_trans (by decide) hd) g31 rfl rfl (Nat.le_of_ble_eq_true rfl) dX0_wander_12 (Nat.le_refl _) (Nat.le_refl _) ?_
  refine h_lstore_n (lv2 := [(3, .long t22), (2, .int t16), (0, .ref a0), (1, .ref a1)]) dX0_wander_15 rfl (Nat.le_of_ble_eq_true rfl) rfl ?_
  refine h_iconst (v := 1) dX0_wander_16 rfl ?_
  refine h_istore (lv2 := [(5, .int 1), (3, .long t22), (2, .int t16), (0, .ref a0), (1, .ref a1)]) dX0_wander_17 (Nat.le_of_ble_eq_true rfl) rfl ?_
  refine h_sub (lv2 := [(0, .ref a0), (1, .ref a1), (2, .int t16), (3, .long t22), (5, .int 1)]) [3, 4, 2, 1, 0] rfl ?_
  refine w_X0_wander_L19 hd hfuel a0 a1 t16 t22 1 S21 _  hf ?_
  · intro u23 S24 hf
    refine h_aload_n dX0_wander_79 rfl 0 rfl ?_
    refine h_aload_n dX0_wander_80 rfl 0 rfl ?_
    obtain ⟨t25, h26, hf⟩ := hbd_s hf
    refine h_getI h26 rfl (Nat.le_of_ble_eq_true rfl) rfl q_190 rfl dX0_wander_81 ?_
    obtain ⟨S27, h28, hf⟩ := hbd_s hf
    refine h_putI h28 rfl (Nat.le_of_ble_eq_true rfl) rfl q_193 rfl rfl (by decide +kernel) dX0_wander_84 ?_
    refine h_aload_n dX0_wander_87 rfl 0 rfl ?_
    refine h_iload_n dX0_wander_88 rfl 1 rfl ?_
    obtain ⟨S29, h30, hf⟩ := hbd_s hf
    refine h_putI h30 rfl (Nat.le_of_ble_eq_true rfl) rfl q_190 rfl rfl (by decide +kernel) dX0_wander_89 ?_
    obtain rfl := Option.some.inj hf
    exact h_vret rfl rfl rfl (Nat.le_refl _) (Nat.le_refl _) dX0_wander_92
abbrev x_X3_readGuest (d : Nat) (S0 : hS) (args : List Value) (r : hS) (cs : Nat → Nat) : hX := ((none, 5, d, 0, 0, false), (S0, args, none, r), cs)
theorem v_X3_readGuest : hVW yX3_readGuest cX3_readGuest 5 none RX3 0 := ⟨q_493, q_s7, q_6, q_494, by decide +kernel, by decide⟩
def f_X3_readGuest (a0 : Nat) (S : hS) : Option (hS) :=
  hbd (gR S a0 3 0) fun t1 =>
  hck (S.K t1 = 8) <|
  hb2 (f_X7_next t1 S) fun t5 S4 =>
  hbd (gR S4 a0 3 0) fun t6 =>
  hbd (gI S4 t6 7 2) fun t8 =>
  hck (S4.K a0 = 4) <|
  hb2 (f_X3_readSeat a0 S4) fun t12 S11 =>
  hj (γ := hS → Option (hS)) (fun (S14 : hS) =>
    hck (S14.K a0 = 4) <|
    hb2 (f_X3_readNumber a0 0 99 S14) fun t17 S16 =>
    hck (S16.K a0 = 4) <|
    hb2 (f_X3_readNumber a0 0 9 S16) fun t20 S19 =>
    hbd (gR S19 a0 3 0) fun t21 =>
    hck (S19.K t21 = 8) <|
    hb2 (f_X7_failed t21 S19) fun t25 S24 =>
    if t25 = 0 then
      (hbd (gR S24 a0 3 1) fun t27 =>
       hbd (gR S24 t27 0 1) fun t29 =>
       hck (S24.K t29 = 3) <|
       hbd (f_X2_add t29 t12 t17 t20 S24) fun S32 =>
       some S32)
    else
      (some S24)
    ) fun J13 =>
  if t12 = (-1) then
    (J13 S11)
  else
    (hbd (gR S11 a0 3 1) fun t38 =>
     hbd (gR S11 t38 0 1) fun t40 =>
     hbd (gR S11 t40 2 5) fun t42 =>
     hbd (gA S11 t42 12 t12) fun t44 =>
     if t44 = (-1) then
       (J13 S11)
     else
       (hbd (gR S11 a0 3 0) fun t47 =>
        hck (S11.K t47 = 8) <|
        hbd (f_X7_fail t47 5 t8 S11) fun S50 =>
        J13 S50))
set_option maxRecDepth 100000 in
set_option maxHeartbeats 4000000 in
theorem m_X3_readGuest {d : Nat} {cs : Nat → Nat} {a0 : Nat} {S : hS} {r : hS} (hd : 5 ≤ d) (hf : f_X3_readGuest a0 S = some r) : HM yX3_readGuest cX3_readGuest 5 none d 0 0 cs [.ref a0] S (none) r := by
  unfold f_X3_readGuest at hf
  refine HM.ofHW false (by decide) (fun h => by cases h) (Nat.le_of_ble_eq_true rfl) ?_
  show HW cX3_readGuest RX3 (x_X3_readGuest d S [.ref a0] r cs) 0 0 S 0 [(0, .ref a0)] []
  refine h_aload_n dX3_readGuest_0 rfl 0 rfl ?_
  obtain ⟨t1, h2, hf⟩ := hbd_s hf
  refine h_getR h2 rfl (Nat.le_of_ble_eq_true rfl) rfl q_237 rfl dX3_readGuest_1 ?_
  obtain ⟨g53, hf⟩ := hck_s hf
  obtain ⟨t5, S4, h3, hf⟩ := hb2_s hf
  refine h_Vi [] (rest := []) (m_X7_next (d := 1) (cs := cs) (Nat.le_refl _) h3) v_X7_next q_495 rfl (Nat.le_trans (by decide) hd) g53 rfl rfl (Nat.le_of_ble_eq_true rfl) dX3_readGuest_4 (Nat.le_refl _) (Nat.le_refl _) ?_
  refine h_pop dX3_readGuest_7 rfl ?_
  refine h_aload_n dX3_readGuest_8 rfl 0 rfl ?_
  obtain ⟨t6, h7, hf⟩ := hbd_s hf
  refine h_getR h7 rfl (Nat.le_of_ble_eq_true rfl) rfl q_237 rfl dX3_readGuest_9 ?_
  obtain ⟨t8, h9, hf⟩ := hbd_s hf
  refine h_getIN (host := "DeafSpot") h9 rfl (Nat.le_of_ble_eq_true rfl) rfl (List.mem_of_getElem? (i := 2) rfl) rfl dX3_readGuest_12 ?_
  refine h_istore_n (lv2 := [(1, .int t8), (0, .ref a0)]) dX3_readGuest_15 rfl (Nat.le_of_ble_eq_true rfl) rfl ?_
  refine h_aload_n dX3_readGuest_16 rfl 1 rfl ?_
  obtain ⟨g52, hf⟩ := hck_s hf
  obtain ⟨t12, S11, h10, hf⟩ := hb2_s hf
  refine h_Vi [] (rest := []) (m_X3_readSeat (d := 4) (cs := cs) (Nat.le_refl _) h10) v_X3_readSeat q_496 rfl (Nat.le_trans (by decide) hd) g52 rfl rfl (Nat.le_of_ble_eq_true rfl) dX3_readGuest_17 (Nat.le_refl _) (Nat.le_refl _) ?_
  refine h_istore_n (lv2 := [(2, .int t12), (1, .int t8), (0, .ref a0)]) dX3_readGuest_20 rfl (Nat.le_of_ble_eq_true rfl) rfl ?_
  refine h_iload_n dX3_readGuest_21 rfl 0 rfl ?_
  refine h_iconst (v := (-1)) dX3_readGuest_22 rfl ?_
  refine hj_s (fun J13 => ∀ (S14 : hS), J13 S14 = some r → HW cX3_readGuest RX3 (x_X3_readGuest d S [.ref a0] r cs) 0 0 S14 51 [(0, .ref a0), (2, .int t12)] []) hf ?_ ?_
  · intro S14 hf
    refine h_aload_n dX3_readGuest_51 rfl 0 rfl ?_
    refine h_iconst (v := 0) dX3_readGuest_52 rfl ?_
    refine h_bipush (v := 99) dX3_readGuest_53 rfl ?_
    obtain ⟨g36, hf⟩ := hck_s hf
    obtain ⟨t17, S16, h15, hf⟩ := hb2_s hf
    refine h_Vi [.int 0, .int 99] (rest := []) (m_X3_readNumber (d := 3) (cs := cs) (Nat.le_refl _) h15) v_X3_readNumber q_472 rfl (Nat.le_trans (by decide) hd) g36 rfl rfl (Nat.le_of_ble_eq_true rfl) dX3_readGuest_55 (Nat.le_refl _) (Nat.le_refl _) ?_
    refine h_istore_n (lv2 := [(3, .int t17), (0, .ref a0), (2, .int t12)]) dX3_readGuest_58 rfl (Nat.le_of_ble_eq_true rfl) rfl ?_
    refine h_aload_n dX3_readGuest_59 rfl 1 rfl ?_
    refine h_iconst (v := 0) dX3_readGuest_60 rfl ?_
    refine h_bipush (v := 9) dX3_readGuest_61 rfl ?_
    obtain ⟨g35, hf⟩ := hck_s hf
    obtain ⟨t20, S19, h18, hf⟩ := hb2_s hf
    refine h_Vi [.int 0, .int 9] (rest := []) (m_X3_readNumber (d := 3) (cs := cs) (Nat.le_refl _) h18) v_X3_readNumber q_472 rfl (Nat.le_trans (by decide) hd) g35 rfl rfl (Nat.le_of_ble_eq_true rfl) dX3_readGuest_63 (Nat.le_refl _) (Nat.le_refl _) ?_
    refine h_istore (lv2 := [(4, .int t20), (3, .int t17), (0, .ref a0), (2, .int t12)]) dX3_readGuest_66 (Nat.le_of_ble_eq_true rfl) rfl ?_
    refine h_aload_n dX3_readGuest_68 rfl 2 rfl ?_
    obtain ⟨t21, h22, hf⟩ := hbd_s hf
    refine h_getR h22 rfl (Nat.le_of_ble_eq_true rfl) rfl q_237 rfl dX3_readGuest_69 ?_
    obtain ⟨g34, hf⟩ := hck_s hf
    obtain ⟨t25, S24, h23, hf⟩ := hb2_s hf
    refine h_Vi [] (rest := []) (m_X7_failed (d := 1) (cs := cs) (Nat.le_refl _) h23) v_X7_failed q_476 rfl (Nat.le_trans (by decide) hd) g34 rfl rfl (Nat.le_of_ble_eq_true rfl) dX3_readGuest_72 (Nat.le_refl _) (Nat.le_refl _) ?_
    refine h_if_ne (tgt := 92) dX3_readGuest_75 (by decide) (fun c26 => ?_) (fun c26 => ?_)
    · rw [if_neg c26] at hf
      obtain rfl := Option.some.inj hf
      exact h_vret rfl rfl rfl (Nat.le_refl _) (Nat.le_refl _) dX3_readGuest_92
    · rw [if_pos c26] at hf
      refine h_aload_n dX3_readGuest_78 rfl 2 rfl ?_
      obtain ⟨t27, h28, hf⟩ := hbd_s hf
      refine h_getR h28 rfl (Nat.le_of_ble_eq_true rfl) rfl q_238 rfl dX3_readGuest_79 ?_
      obtain ⟨t29, h30, hf⟩ := hbd_s hf
      refine h_getRN (host := "DeafSpot") h30 rfl (Nat.le_of_ble_eq_true rfl) rfl (List.mem_of_getElem? (i := 51) rfl) rfl dX3_readGuest_82 ?_
      refine h_iload_n dX3_readGuest_85 rfl 3 rfl ?_
      refine h_iload_n dX3_readGuest_86 rfl 1 rfl ?_
      refine h_iload dX3_readGuest_87 0 rfl ?_
      obtain ⟨g33, hf⟩ := hck_s hf
      obtain ⟨S32, h31, hf⟩ := hbd_s hf
      refine h_Vv [.int t12, .int t17, .int t20] (rest := []) (m_X2_add (d := 4) (cs := cs) (Nat.le_refl _) h31) v_X2_add q_501 rfl (Nat.le_trans (by decide) hd) g33 rfl rfl (Nat.le_of_ble_eq_true rfl) dX3_readGuest_89 (Nat.le_refl _) (Nat.le_refl _) ?_
      obtain rfl := Option.some.inj hf
      exact h_vret rfl rfl rfl (Nat.le_refl _) (Nat.le_refl _) dX3_readGuest_92
  · intro J13 hJ13 hf
    refine h_icmp_eq (tgt := 51) dX3_readGuest_23 (by decide) (fun c37 => ?_) (fun c37 => ?_)
    · rw [if_pos c37] at hf
      refine h_sub (lv2 := [(0, .ref a0), (2, .int t12)]) [2, 0] rfl ?_
      exact hJ13 S11 hf
    · rw [if_neg c37] at hf
      refine h_aload_n dX3_readGuest_26 rfl 2 rfl ?_
      obtain ⟨t38, h39, hf⟩ := hbd_s hf
      refine h_getR h39 rfl (Nat.le_of_ble_eq_true rfl) rfl q_238 rfl dX3_readGuest_27 ?_
      obtain ⟨t40, h41, hf⟩ := hbd_s hf
      refine h_getRN (host := "DeafSpot") h41 rfl (Nat.le_of_ble_eq_true rfl) rfl (List.mem_of_getElem? (i := 51) rfl) rfl dX3_readGuest_30 ?_
      obtain ⟨t42, h43, hf⟩ := hbd_s hf
      refine h_getRN (host := "DeafSpot") h43 rfl (Nat.le_of_ble_eq_true rfl) rfl (List.mem_of_getElem? (i := 46) rfl) rfl dX3_readGuest_33 ?_
      refine h_iload_n dX3_readGuest_36 rfl 0 rfl ?_
      obtain ⟨t44, h45, hf⟩ := hbd_s hf
      refine h_iald h45 dX3_readGuest_37 ?_
      refine h_iconst (v := (-1)) dX3_readGuest_38 rfl ?_
      refine h_icmp_eq (tgt := 51) dX3_readGuest_39 (by decide) (fun c46 => ?_) (fun c46 => ?_)
      · rw [if_pos c46] at hf
        refine h_sub (lv2 := [(0, .ref a0), (2, .int t12)]) [2, 0] rfl ?_
        exact hJ13 S11 hf
      · rw [if_neg c46] at hf
        refine h_aload_n dX3_readGuest_42 rfl 2 rfl ?_
        obtain ⟨t47, h48, hf⟩ := hbd_s hf
        refine h_getR h48 rfl (Nat.le_of_ble_eq_true rfl) rfl q_237 rfl dX3_readGuest_43 ?_
        refine h_iconst (v := 5) dX3_readGuest_46 rfl ?_
        refine h_iload_n dX3_readGuest_47 rfl 1 rfl ?_
        obtain ⟨g51, hf⟩ := hck_s hf
        obtain ⟨S50, h49, hf⟩ := hbd_s hf
        refine h_Vv [.int 5, .int t8] (rest := []) (m_X7_fail (d := 1) (cs := cs) (Nat.le_refl _) h49) v_X7_fail q_451 rfl (Nat.le_trans (by decide) hd) g51 rfl rfl (Nat.le_of_ble_eq_true rfl) dX3_readGuest_48 (Nat.le_refl _) (Nat.le_refl _) ?_
        refine h_sub (lv2 := [(0, .ref a0), (2, .int t12)]) [2, 0] rfl ?_
        exact hJ13 S50 hf
abbrev x_X3_readFan (d : Nat) (S0 : hS) (args : List Value) (r : hS) (cs : Nat → Nat) : hX := ((none, 4, d, 0, 0, false), (S0, args, none, r), cs)
theorem v_X3_readFan : hVW yX3_readFan cX3_readFan 4 none RX3 0 := ⟨q_523, q_s9, q_6, q_524, by decide +kernel, by decide⟩
def f_X3_readFan (a0 : Nat) (S : hS) : Option (hS) :=
  hck (S.K a0 = 4) <|
  hb2 (f_X3_readSeat a0 S) fun t3 S2 =>
  hck (S2.K a0 = 4) <|
  hb2 (f_X3_readNumber a0 1 4 S2) fun t6 S5 =>
  hck (S5.K a0 = 4) <|
  hb2 (f_X3_readNumber a0 1 99 S5) fun t9 S8 =>
  hbd (gR S8 a0 3 0) fun t10 =>
  hck (S8.K t10 = 8) <|
  hb2 (f_X7_failed t10 S8) fun t14 S13 =>
  if t14 = 0 then
    (hbd (gR S13 a0 3 1) fun t16 =>
     hbd (gR S13 t16 0 0) fun t18 =>
     hck (S13.K t18 = 7) <|
     hbd (f_X6_addFan t18 t3 t6 t9 S13) fun S21 =>
     some S21)
  else
    (some S13)
set_option maxRecDepth 100000 in
set_option maxHeartbeats 4000000 in
theorem m_X3_readFan {d : Nat} {cs : Nat → Nat} {a0 : Nat} {S : hS} {r : hS} (hd : 5 ≤ d) (hf : f_X3_readFan a0 S = some r) : HM yX3_readFan cX3_readFan 4 none d 0 0 cs [.ref a0] S (none) r := by
  unfold f_X3_readFan at hf
  refine HM.ofHW false (by decide) (fun h => by cases h) (Nat.le_of_ble_eq_true rfl) ?_
  show HW cX3_readFan RX3 (x_X3_readFan d S [.ref a0] r cs) 0 0 S 0 [(0, .ref a0)] []
  refine h_aload_n dX3_readFan_0 rfl 0 rfl ?_
  obtain ⟨g26, hf⟩ := hck_s hf
  obtain ⟨t3, S2, h1, hf⟩ := hb2_s hf
  refine h_Vi [] (rest := []) (m_X3_readSeat (d := 4) (cs := cs) (Nat.le_refl _) h1) v_X3_readSeat q_496 rfl (Nat.le_trans (by decide) hd) g26 rfl rfl (Nat.le_of_ble_eq_true rfl) dX3_readFan_1 (Nat.le_refl _) (Nat.le_refl _) ?_
  refine h_istore_n (lv2 := [(1, .int t3), (0, .ref a0)]) dX3_readFan_4 rfl (Nat.le_of_ble_eq_true rfl) rfl ?_
  refine h_aload_n dX3_readFan_5 rfl 1 rfl ?_
  refine h_iconst (v := 1) dX3_readFan_6 rfl ?_
  refine h_iconst (v := 4) dX3_readFan_7 rfl ?_
  obtain ⟨g25, hf⟩ := hck_s hf
  obtain ⟨t6, S5, h4, hf⟩ := hb2_s hf
  refine h_Vi [.int 1, .int 4] (rest := []) (m_X3_readNumber (d := 3) (cs := cs) (Nat.le_refl _) h4) v_X3_readNumber q_472 rfl (Nat.le_trans (by decide) hd) g25 rfl rfl (Nat.le_of_ble_eq_true rfl) dX3_readFan_8 (Nat.le_refl _) (Nat.le_refl _) ?_
  refine h_istore_n (lv2 := [(2, .int t6), (1, .int t3), (0, .ref a0)]) dX3_readFan_11 rfl (Nat.le_of_ble_eq_true rfl) rfl ?_
  refine h_aload_n dX3_readFan_12 rfl 2 rfl ?_
  refine h_iconst (v := 1) dX3_readFan_13 rfl ?_
  refine h_bipush (v := 99) dX3_readFan_14 rfl ?_
  obtain ⟨g24, hf⟩ := hck_s hf
  obtain ⟨t9, S8, h7, hf⟩ := hb2_s hf
  refine h_Vi [.int 1, .int 99] (rest := []) (m_X3_readNumber (d := 3) (cs := cs) (Nat.le_refl _) h7) v_X3_readNumber q_472 rfl (Nat.le_trans (by decide) hd) g24 rfl rfl (Nat.le_of_ble_eq_true rfl) dX3_readFan_16 (Nat.le_refl _) (Nat.le_refl _) ?_
  refine h_istore_n (lv2 := [(3, .int t9), (2, .int t6), (1, .int t3), (0, .ref a0)]) dX3_readFan_19 rfl (Nat.le_of_ble_eq_true rfl) rfl ?_
  refine h_aload_n dX3_readFan_20 rfl 3 rfl ?_
  obtain ⟨t10, h11, hf⟩ := hbd_s hf
  refine h_getR h11 rfl (Nat.le_of_ble_eq_true rfl) rfl q_237 rfl dX3_readFan_21 ?_
  obtain ⟨g23, hf⟩ := hck_s hf
  obtain ⟨t14, S13, h12, hf⟩ := hb2_s hf
  refine h_Vi [] (rest := []) (m_X7_failed (d := 1) (cs := cs) (Nat.le_refl _) h12) v_X7_failed q_476 rfl (Nat.le_trans (by decide) hd) g23 rfl rfl (Nat.le_of_ble_eq_true rfl) dX3_readFan_24 (Nat.le_refl _) (Nat.le_refl _) ?_
  refine h_if_ne (tgt := 43) dX3_readFan_27 (by decide) (fun c15 => ?_) (fun c15 => ?_)
  · rw [if_neg c15] at hf
    obtain rfl := Option.some.inj hf
    exact h_vret rfl rfl rfl (Nat.le_refl _) (Nat.le_refl _) dX3_readFan_43
  · rw [if_pos c15] at hf
    refine h_aload_n dX3_readFan_30 rfl 3 rfl ?_
    obtain ⟨t16, h17, hf⟩ := hbd_s hf
    refine h_getR h17 rfl (Nat.le_of_ble_eq_true rfl) rfl q_238 rfl dX3_readFan_31 ?_
    obtain ⟨t18, h19, hf⟩ := hbd_s hf
    refine h_getRN (host := "DeafSpot") h19 rfl (Nat.le_of_ble_eq_true rfl) rfl (List.mem_of_getElem? (i := 49) rfl) rfl dX3_readFan_34 ?_
    refine h_iload_n dX3_readFan_37 rfl 2 rfl ?_
    refine h_iload_n dX3_readFan_38 rfl 1 rfl ?_
    refine h_iload_n dX3_readFan_39 rfl 0 rfl ?_
    obtain ⟨g22, hf⟩ := hck_s hf
    obtain ⟨S21, h20, hf⟩ := hbd_s hf
    refine h_Vv [.int t3, .int t6, .int t9] (rest := []) (m_X6_addFan (d := 1) (cs := cs) (Nat.le_refl _) h20) v_X6_addFan q_525 rfl (Nat.le_trans (by decide) hd) g22 rfl rfl (Nat.le_of_ble_eq_true rfl) dX3_readFan_40 (Nat.le_refl _) (Nat.le_refl _) ?_
    obtain rfl := Option.some.inj hf
    exact h_vret rfl rfl rfl (Nat.le_refl _) (Nat.le_refl _) dX3_readFan_43
abbrev x_X3_readSnow (d : Nat) (S0 : hS) (args : List Value) (r : hS) (cs : Nat → Nat) : hX := ((none, 3, d, 0, 0, false), (S0, args, none, r), cs)
theorem v_X3_readSnow : hVW yX3_readSnow cX3_readSnow 3 none RX3 0 := ⟨q_531, q_s10, q_6, q_532, by decide +kernel, by decide⟩
def f_X3_readSnow (a0 : Nat) (S : hS) : Option (hS) :=
  hck (S.K a0 = 4) <|
  hb2 (f_X3_readSeat a0 S) fun t3 S2 =>
  hck (S2.K a0 = 4) <|
  hb2 (f_X3_readNumber a0 1 99 S2) fun t6 S5 =>
  hbd (gR S5 a0 3 0) fun t7 =>
  hck (S5.K t7 = 8) <|
  hb2 (f_X7_failed t7 S5) fun t11 S10 =>
  if t11 = 0 then
    (hbd (gR S10 a0 3 1) fun t13 =>
     hbd (gR S10 t13 0 0) fun t15 =>
     hck (S10.K t15 = 7) <|
     hbd (f_X6_addSnow t15 t3 t6 S10) fun S18 =>
     some S18)
  else
    (some S10)
set_option maxRecDepth 100000 in
set_option maxHeartbeats 4000000 in
theorem m_X3_readSnow {d : Nat} {cs : Nat → Nat} {a0 : Nat} {S : hS} {r : hS} (hd : 5 ≤ d) (hf : f_X3_readSnow a0 S = some r) : HM yX3_readSnow cX3_readSnow 3 none d 0 0 cs [.ref a0] S (none) r := by
  unfold f_X3_readSnow at hf
  refine HM.ofHW false (by decide) (fun h => by cases h) (Nat.le_of_ble_eq_true rfl) ?_
  show HW cX3_readSnow RX3 (x_X3_readSnow d S [.ref a0] r cs) 0 0 S 0 [(0, .ref a0)] []
  refine h_aload_n dX3_readSnow_0 rfl 0 rfl ?_
  obtain ⟨g22, hf⟩ := hck_s hf
  obtain ⟨t3, S2, h1, hf⟩ := hb2_s hf
  refine h_Vi [] (rest := []) (m_X3_readSeat (d := 4) (cs := cs) (Nat.le_refl _) h1) v_X3_readSeat q_496 rfl (Nat.le_trans (by decide) hd) g22 rfl rfl (Nat.le_of_ble_eq_true rfl) dX3_readSnow_1 (Nat.le_refl _) (Nat.le_refl _) ?_
  refine h_istore_n (lv2 := [(1, .int t3), (0, .ref a0)]) dX3_readSnow_4 rfl (Nat.le_of_ble_eq_true rfl) rfl ?_
  refine h_aload_n dX3_readSnow_5 rfl 1 rfl ?_
  refine h_iconst (v := 1) dX3_readSnow_6 rfl ?_
  refine h_bipush (v := 99) dX3_readSnow_7 rfl ?_
  obtain ⟨g21, hf⟩ := hck_s hf
  obtain ⟨t6, S5, h4, hf⟩ := hb2_s hf
  refine h_Vi [.int 1, .int 99] (rest := []) (m_X3_readNumber (d := 3) (cs := cs) (Nat.le_refl _) h4) v_X3_readNumber q_472 rfl (Nat.le_trans (by decide) hd) g21 rfl rfl (Nat.le_of_ble_eq_true rfl) dX3_readSnow_9 (Nat.le_refl _) (Nat.le_refl _) ?_
  refine h_istore_n (lv2 := [(2, .int t6), (1, .int t3), (0, .ref a0)]) dX3_readSnow_12 rfl (Nat.le_of_ble_eq_true rfl) rfl ?_
  refine h_aload_n dX3_readSnow_13 rfl 2 rfl ?_
  obtain ⟨t7, h8, hf⟩ := hbd_s hf
  refine h_getR h8 rfl (Nat.le_of_ble_eq_true rfl) rfl q_237 rfl dX3_readSnow_14 ?_
  obtain ⟨g20, hf⟩ := hck_s hf
  obtain ⟨t11, S10, h9, hf⟩ := hb2_s hf
  refine h_Vi [] (rest := []) (m_X7_failed (d := 1) (cs := cs) (Nat.le_refl _) h9) v_X7_failed q_476 rfl (Nat.le_trans (by decide) hd) g20 rfl rfl (Nat.le_of_ble_eq_true rfl) dX3_readSnow_17 (Nat.le_refl _) (Nat.le_refl _) ?_
  refine h_if_ne (tgt := 35) dX3_readSnow_20 (by decide) (fun c12 => ?_) (fun c12 => ?_)
  · rw [if_neg c12] at hf
    obtain rfl := Option.some.inj hf
    exact h_vret rfl rfl rfl (Nat.le_refl _) (Nat.le_refl _) dX3_readSnow_35
  · rw [if_pos c12] at hf
    refine h_aload_n dX3_readSnow_23 rfl 2 rfl ?_
    obtain ⟨t13, h14, hf⟩ := hbd_s hf
    refine h_getR h14 rfl (Nat.le_of_ble_eq_true rfl) rfl q_238 rfl dX3_readSnow_24 ?_
    obtain ⟨t15, h16, hf⟩ := hbd_s hf
    refine h_getRN (host := "DeafSpot") h16 rfl (Nat.le_of_ble_eq_true rfl) rfl (List.mem_of_getElem? (i := 49) rfl) rfl dX3_readSnow_27 ?_
    refine h_iload_n dX3_readSnow_30 rfl 1 rfl ?_
    refine h_iload_n dX3_readSnow_31 rfl 0 rfl ?_
    obtain ⟨g19, hf⟩ := hck_s hf
    obtain ⟨S18, h17, hf⟩ := hbd_s hf
    refine h_Vv [.int t3, .int t6] (rest := []) (m_X6_addSnow (d := 1) (cs := cs) (Nat.le_refl _) h17) v_X6_addSnow q_533 rfl (Nat.le_trans (by decide) hd) g19 rfl rfl (Nat.le_of_ble_eq_true rfl) dX3_readSnow_32 (Nat.le_refl _) (Nat.le_refl _) ?_
    obtain rfl := Option.some.inj hf
    exact h_vret rfl rfl rfl (Nat.le_refl _) (Nat.le_refl _) dX3_readSnow_35
abbrev x_X3_readSpot (d : Nat) (S0 : hS) (args : List Value) (r : hS) (cs : Nat → Nat) : hX := ((none, 2, d, 0, 0, false), (S0, args, none, r), cs)
theorem v_X3_readSpot : hVW yX3_readSpot cX3_readSpot 2 none RX3 0 := ⟨q_539, q_s11, q_6, q_540, by decide +kernel, by decide⟩
def f_X3_readSpot (a0 : Nat) (S : hS) : Option (hS) :=
  hck (S.K a0 = 4) <|
  hb2 (f_X3_readSeat a0 S) fun t3 S2 =>
  hj (γ := hS → Option (hS)) (fun (S5 : hS) =>
    hbd (sZ S5 a0 3 2 1) fun S6 =>
    some S6
    ) fun J4 =>
  if t3 = (-1) then
    (J4 S2)
  else
    (hbd (gR S2 a0 3 1) fun t9 =>
     hbd (sI S2 t9 0 4 t3) fun S11 =>
     J4 S11)
set_option maxRecDepth 100000 in
set_option maxHeartbeats 4000000 in
theorem m_X3_readSpot {d : Nat} {cs : Nat → Nat} {a0 : Nat} {S : hS} {r : hS} (hd : 5 ≤ d) (hf : f_X3_readSpot a0 S = some r) : HM yX3_readSpot cX3_readSpot 2 none d 0 0 cs [.ref a0] S (none) r := by
  unfold f_X3_readSpot at hf
  refine HM.ofHW false (by decide) (fun h => by cases h) (Nat.le_of_ble_eq_true rfl) ?_
  show HW cX3_readSpot RX3 (x_X3_readSpot d S [.ref a0] r cs) 0 0 S 0 [(0, .ref a0)] []
  refine h_aload_n dX3_readSpot_0 rfl 0 rfl ?_
  obtain ⟨g13, hf⟩ := hck_s hf
  obtain ⟨t3, S2, h1, hf⟩ := hb2_s hf
  refine h_Vi [] (rest := []) (m_X3_readSeat (d := 4) (cs := cs) (Nat.le_refl _) h1) v_X3_readSeat q_496 rfl (Nat.le_trans (by decide) hd) g13 rfl rfl (Nat.le_of_ble_eq_true rfl) dX3_readSpot_1 (Nat.le_refl _) (Nat.le_refl _) ?_
  refine h_istore_n (lv2 := [(1, .int t3), (0, .ref a0)]) dX3_readSpot_4 rfl (Nat.le_of_ble_eq_true rfl) rfl ?_
  refine h_iload_n dX3_readSpot_5 rfl 0 rfl ?_
  refine h_iconst (v := (-1)) dX3_readSpot_6 rfl ?_
  refine hj_s (fun J4 => ∀ (S5 : hS), J4 S5 = some r → HW cX3_readSpot RX3 (x_X3_readSpot d S [.ref a0] r cs) 0 0 S5 18 [(0, .ref a0)] []) hf ?_ ?_
  · intro S5 hf
    refine h_aload_n dX3_readSpot_18 rfl 0 rfl ?_
    refine h_iconst (v := 1) dX3_readSpot_19 rfl ?_
    obtain ⟨S6, h7, hf⟩ := hbd_s hf
    refine h_putZ h7 rfl (Nat.le_of_ble_eq_true rfl) rfl q_239 rfl rfl (by decide +kernel) dX3_readSpot_20 ?_
    obtain rfl := Option.some.inj hf
    exact h_vret rfl rfl rfl (Nat.le_refl _) (Nat.le_refl _) dX3_readSpot_23
  · intro J4 hJ4 hf
    refine h_icmp_eq (tgt := 18) dX3_readSpot_7 (by decide) (fun c8 => ?_) (fun c8 => ?_)
    · rw [if_pos c8] at hf
      refine h_sub (lv2 := [(0, .ref a0)]) [1] rfl ?_
      exact hJ4 S2 hf
    · rw [if_neg c8] at hf
      refine h_aload_n dX3_readSpot_10 rfl 1 rfl ?_
      obtain ⟨t9, h10, hf⟩ := hbd_s hf
      refine h_getR h10 rfl (Nat.le_of_ble_eq_true rfl) rfl q_238 rfl dX3_readSpot_11 ?_
      refine h_iload_n dX3_readSpot_14 rfl 0 rfl ?_
      obtain ⟨S11, h12, hf⟩ := hbd_s hf
      refine h_putIN (host := "DeafSpot") h12 rfl (Nat.le_of_ble_eq_true rfl) rfl (List.mem_of_getElem? (i := 56) rfl) rfl rfl (by decide +kernel) dX3_readSpot_15 ?_
      refine h_sub (lv2 := [(0, .ref a0)]) [1] rfl ?_
      exact hJ4 S11 hf
abbrev x_X3_readHeat (d : Nat) (S0 : hS) (args : List Value) (r : hS) (cs : Nat → Nat) : hX := ((none, 3, d, 0, 0, false), (S0, args, none, r), cs)
theorem v_X3_readHeat : hVW yX3_readHeat cX3_readHeat 3 none RX3 0 := ⟨q_543, q_s12, q_6, q_544, by decide +kernel, by decide⟩
def f_X3_readHeat (a0 : Nat) (S : hS) : Option (hS) :=
  hck (S.K a0 = 4) <|
  hb2 (f_X3_readSeat a0 S) fun t3 S2 =>
  hck (S2.K a0 = 4) <|
  hb2 (f_X3_readNumber a0 0 9999 S2) fun t6 S5 =>
  hbd (gR S5 a0 3 0) fun t7 =>
  hck (S5.K t7 = 8) <|
  hb2 (f_X7_failed t7 S5) fun t11 S10 =>
  if t11 = 0 then
    (if t3 = (-1) then
       (some S10)
     else
       (hbd (gR S10 a0 3 1) fun t14 =>
        hbd (gR S10 t14 0 2) fun t16 =>
        hbd (sA S10 t16 t3 t6) fun S18 =>
        some S18))
  else
    (some S10)
set_option maxRecDepth 100000 in
set_option maxHeartbeats 4000000 in
theorem m_X3_readHeat {d : Nat} {cs : Nat → Nat} {a0 : Nat} {S : hS} {r : hS} (hd : 5 ≤ d) (hf : f_X3_readHeat a0 S = some r) : HM yX3_readHeat cX3_readHeat 3 none d 0 0 cs [.ref a0] S (none) r := by
  unfold f_X3_readHeat at hf
  refine HM.ofHW false (by decide) (fun h => by cases h) (Nat.le_of_ble_eq_true rfl) ?_
  show HW cX3_readHeat RX3 (x_X3_readHeat d S [.ref a0] r cs) 0 0 S 0 [(0, .ref a0)] []
  refine h_aload_n dX3_readHeat_0 rfl 0 rfl ?_
  obtain ⟨g22, hf⟩ := hck_s hf
  obtain ⟨t3, S2, h1, hf⟩ := hb2_s hf
  refine h_Vi [] (rest := []) (m_X3_readSeat (d := 4) (cs := cs) (Nat.le_refl _) h1) v_X3_readSeat q_496 rfl (Nat.le_trans (by decide) hd) g22 rfl rfl (Nat.le_of_ble_eq_true rfl) dX3_readHeat_1 (Nat.le_refl _) (Nat.le_refl _) ?_
  refine h_istore_n (lv2 := [(1, .int t3), (0, .ref a0)]) dX3_readHeat_4 rfl (Nat.le_of_ble_eq_true rfl) rfl ?_
  refine h_aload_n dX3_readHeat_5 rfl 1 rfl ?_
  refine h_iconst (v := 0) dX3_readHeat_6 rfl ?_
  refine h_sipush (v := 9999) dX3_readHeat_7 rfl ?_
  obtain ⟨g21, hf⟩ := hck_s hf
  obtain ⟨t6, S5, h4, hf⟩ := hb2_s hf
  refine h_Vi [.int 0, .int 9999] (rest := []) (m_X3_readNumber (d := 3) (cs := cs) (Nat.le_refl _) h4) v_X3_readNumber q_472 rfl (Nat.le_trans (by decide) hd) g21 rfl rfl (Nat.le_of_ble_eq_true rfl) dX3_readHeat_10 (Nat.le_refl _) (Nat.le_refl _) ?_
  refine h_istore_n (lv2 := [(2, .int t6), (1, .int t3), (0, .ref a0)]) dX3_readHeat_13 rfl (Nat.le_of_ble_eq_true rfl) rfl ?_
  refine h_aload_n dX3_readHeat_14 rfl 2 rfl ?_
  obtain ⟨t7, h8, hf⟩ := hbd_s hf
  refine h_getR h8 rfl (Nat.le_of_ble_eq_true rfl) rfl q_237 rfl dX3_readHeat_15 ?_
  obtain ⟨g20, hf⟩ := hck_s hf
  obtain ⟨t11, S10, h9, hf⟩ := hb2_s hf
  refine h_Vi [] (rest := []) (m_X7_failed (d := 1) (cs := cs) (Nat.le_refl _) h9) v_X7_failed q_476 rfl (Nat.le_trans (by decide) hd) g20 rfl rfl (Nat.le_of_ble_eq_true rfl) dX3_readHeat_18 (Nat.le_refl _) (Nat.le_refl _) ?_
  refine h_if_ne (tgt := 39) dX3_readHeat_21 (by decide) (fun c12 => ?_) (fun c12 => ?_)
  · rw [if_neg c12] at hf
    obtain rfl := Option.some.inj hf
    exact h_vret rfl rfl rfl (Nat.le_refl _) (Nat.le_refl _) dX3_readHeat_39
  · rw [if_pos c12] at hf
    refine h_iload_n dX3_readHeat_24 rfl 1 rfl ?_
    refine h_iconst (v := (-1)) dX3_readHeat_25 rfl ?_
    refine h_icmp_eq (tgt := 39) dX3_readHeat_26 (by decide) (fun c13 => ?_) (fun c13 => ?_)
    · rw [if_pos c13] at hf
      obtain rfl := Option.some.inj hf
      exact h_vret rfl rfl rfl (Nat.le_refl _) (Nat.le_refl _) dX3_readHeat_39
    · rw [if_neg c13] at hf
      refine h_aload_n dX3_readHeat_29 rfl 2 rfl ?_
      obtain ⟨t14, h15, hf⟩ := hbd_s hf
      refine h_getR h15 rfl (Nat.le_of_ble_eq_true rfl) rfl q_238 rfl dX3_readHeat_30 ?_
      obtain ⟨t16, h17, hf⟩ := hbd_s hf
      refine h_getRN (host := "DeafSpot") h17 rfl (Nat.le_of_ble_eq_true rfl) rfl (List.mem_of_getElem? (i := 54) rfl) rfl dX3_readHeat_33 ?_
      refine h_iload_n dX3_readHeat_36 rfl 1 rfl ?_
      refine h_iload_n dX3_readHeat_37 rfl 0 rfl ?_
      obtain ⟨S18, h19, hf⟩ := hbd_s hf
      refine h_iast h19 dX3_readHeat_38 ?_
      obtain rfl := Option.some.inj hf
      exact h_vret rfl rfl rfl (Nat.le_refl _) (Nat.le_refl _) dX3_readHeat_39
abbrev x_X5_readSum (d : Nat) (S0 : hS) (args : List Value) (r : hS) (cs : Nat → Nat) : hX := ((none, 4, d, 0, 0, false), (S0, args, none, r), cs)
theorem v_X5_readSum : hVW yX5_readSum cX5_readSum 4 none RX5 0 := ⟨q_604, q_s13, q_7, q_605, by decide +kernel, by decide⟩
def f_X5_readSum_L19 : Nat → Nat → Int32 → Int32 → hS → (Int32 → hS → Option (hS)) → (Int32 → hS → Option (hS)) → Option (hS)
  | 0, _, _, _, _, _, _ => none
  | n + 1, x0, x1, x2, S, k0, k1 =>
    if 400 ≤ x2 then
      (k0 x1 S)
    else
      (hbd (gR S x0 5 0) fun t2 =>
       hck (S.K t2 = 8) <|
       hb2 (f_X7_failed t2 S) fun t6 S5 =>
       if t6 = 0 then
         (hbd (gR S5 x0 5 0) fun t8 =>
          hck (S5.K t8 = 8) <|
          hb2 (f_X7_takesOneOf t8 3 S5) fun t12 S11 =>
          if t12 = (-1) then
            (k1 x1 S11)
          else
            (if t12 ≤ 1 then
               (hj (γ := hS → Option (hS)) (fun (S16 : hS) =>
                  hck (S16.K x0 = 6) <|
                  hbd (f_X5_readValue x0 S16) fun S18 =>
                  f_X5_readSum_L19 n x0 t12 (x2 + 1) S18 k0 k1
                  ) fun J15 =>
                if x1 = (-1) then
                  (J15 S11)
                else
                  (hck (S11.K x0 = 6) <|
                   hbd (f_X5_emit x0 ((-10) - x1) S11) fun S22 =>
                   J15 S22))
             else
               (hck (S11.K x0 = 6) <|
                hbd (f_X5_readValue x0 S11) fun S25 =>
                hck (S25.K x0 = 6) <|
                hbd (f_X5_emit x0 ((-10) - t12) S25) fun S27 =>
                f_X5_readSum_L19 n x0 x1 (x2 + 1) S27 k0 k1)))
       else
         (k0 x1 S5))
def f_X5_readSum (a0 : Nat) (S : hS) : Option (hS) :=
  hbd (gR S a0 5 0) fun t32 =>
  hck (S.K t32 = 8) <|
  hb2 (f_X7_failed t32 S) fun t36 S35 =>
  if t36 = 0 then
    (hck (S35.K a0 = 6) <|
     hbd (f_X5_readValue a0 S35) fun S39 =>
     hj (γ := Int32 → hS → Option (hS)) (fun (u41 : Int32) (S42 : hS) =>
       if u41 = (-1) then
         (some S42)
       else
         (hck (S42.K a0 = 6) <|
          hbd (f_X5_emit a0 ((-10) - u41) S42) fun S45 =>
          some S45)
       ) fun J40 =>
     f_X5_readSum_L19 hfuel a0 (-1) 0 S39
       (fun u47 S48 =>
         J40 u47 S48
       )
       (fun u49 S50 =>
         J40 u49 S50
       ))
  else
    (some S35)
set_option maxRecDepth 100000 in
set_option maxHeartbeats 4000000 in
theorem w_X5_readSum_L19 {d : Nat} {S0 : hS} {args : List Value} {cs : Nat → Nat} {r : hS} (hd : 8 ≤ d) : ∀ (n : Nat) (x0 : Nat) (x1 : Int32) (x2 : Int32) (S : hS) (k0 : (Int32 → hS → Option (hS))) (k1 : (Int32 → hS → Option (hS))) , f_X5_readSum_L19 n x0 x1 x2 S k0 k1 = some r → (∀ (y1 : Int32) (T : hS), k0 y1 T = some r → HW cX5_readSum RX5 (x_X5_readSum d S0 args r cs) 0 0 T 99 [(0, .ref x0), (1, .int y1)] []) → (∀ (y1 : Int32) (T : hS), k1 y1 T = some r → HW cX5_readSum RX5 (x_X5_readSum d S0 args r cs) 0 0 T 51 [(0, .ref x0), (1, .int y1)] []) → HW cX5_readSum RX5 (x_X5_readSum d S0 args r cs) 0 0 S 19 [(0, .ref x0), (1, .int x1), (2, .int x2)] [] := by
  intro n
  induction n with
  | zero =>
    intro x0 x1 x2 S k0 k1 hf
    cases hf
  | succ n ih =>
    intro x0 x1 x2 S k0 k1 hf hk0 hk1
    rw [f_X5_readSum_L19] at hf
    refine h_iload_n dX5_readSum_19 rfl 2 rfl ?_
    refine h_sipush (v := 400) dX5_readSum_20 rfl ?_
    refine h_icmp_ge (tgt := 99) dX5_readSum_23 (by decide) (fun c1 => ?_) (fun c1 => ?_)
    · rw [if_pos c1] at hf
      refine h_sub (lv2 := [(0, .ref x0), (1, .int x1)]) [0, 1] rfl ?_
      exact hk0 x1 S hf
    · rw [if_neg c1] at hf
      refine h_aload_n dX5_readSum_26 rfl 0 rfl ?_
      obtain ⟨t2, h3, hf⟩ := hbd_s hf
      refine h_getR h3 rfl (Nat.le_of_ble_eq_true rfl) rfl q_253 rfl dX5_readSum_27 ?_
      obtain ⟨g31, hf⟩ := hck_s hf
      obtain ⟨t6, S5, h4, hf⟩ := hb2_s hf
      refine h_Vi [] (rest := []) (m_X7_failed (d := 1) (cs := cs) (Nat.le_refl _) h4) v_X7_failed q_606 rfl (Nat.le_trans (by decide) hd) g31 rfl rfl (Nat.le_of_ble_eq_true rfl) dX5_readSum_30 (Nat.le_refl _) (Nat.le_refl _) ?_
      refine h_if_ne (tgt := 99) dX5_readSum_33 (by decide) (fun c7 => ?_) (fun c7 => ?_)
      · rw [if_neg c7] at hf
        refine h_sub (lv2 := [(0, .ref x0), (1, .int x1)]) [0, 1] rfl ?_
        exact hk0 x1 S5 hf
      · rw [if_pos c7] at hf
        refine h_aload_n dX5_readSum_36 rfl 0 rfl ?_
        obtain ⟨t8, h9, hf⟩ := hbd_s hf
        refine h_getR h9 rfl (Nat.le_of_ble_eq_true rfl) rfl q_253 rfl dX5_readSum_37 ?_
        refine h_ldcS dX5_readSum_40 (List.mem_of_getElem? (i := 3) rfl) ?_
        obtain ⟨g30, hf⟩ := hck_s hf
        obtain ⟨t12, S11, h10, hf⟩ := hb2_s hf
        refine h_Vi [.ref (cs 3)] (rest := []) (m_X7_takesOneOf (d := 5) (cs := cs) (Nat.le_refl _) h10) v_X7_takesOneOf q_624 rfl (Nat.le_trans (by decide) hd) g30 rfl rfl (Nat.le_of_ble_eq_true rfl) dX5_readSum_42 (Nat.le_refl _) (Nat.le_refl _) ?_
        refine h_istore_n (lv2 := [(3, .int t12), (0, .ref x0), (1, .int x1), (2, .int x2)]) dX5_readSum_45 rfl (Nat.le_of_ble_eq_true rfl) rfl ?_
        refine h_iload_n dX5_readSum_46 rfl 0 rfl ?_
        refine h_iconst (v := (-1)) dX5_readSum_47 rfl ?_
        refine h_icmp_ne (tgt := 54) dX5_readSum_48 (by decide) (fun c13 => ?_) (fun c13 => ?_)
        · rw [if_neg c13] at hf
          refine h_iload_n dX5_readSum_54 rfl 0 rfl ?_
          refine h_iconst (v := 1) dX5_readSum_55 rfl ?_
          refine h_icmp_le (tgt := 74) dX5_readSum_56 (by decide) (fun c14 => ?_) (fun c14 => ?_)
          · rw [if_pos c14] at hf
            refine h_iload_n dX5_readSum_74 rfl 2 rfl ?_
            refine h_iconst (v := (-1)) dX5_readSum_75 rfl ?_
            refine hj_s (fun J15 => ∀ (S16 : hS), J15 S16 = some r → HW cX5_readSum RX5 (x_X5_readSum d S0 args r cs) 0 0 S16 87 [(0, .ref x0), (2, .int x2), (3, .int t12)] []) hf ?_ ?_
            · intro S16 hf
              refine h_iload_n dX5_readSum_87 rfl 2 rfl ?_
              refine h_istore_n (lv2 := [(1, .int t12), (0, .ref x0), (2, .int x2), (3, .int t12)]) dX5_readSum_88 rfl (Nat.le_of_ble_eq_true rfl) rfl ?_
              refine h_aload_n dX5_readSum_89 rfl 1 rfl ?_
              obtain ⟨g19, hf⟩ := hck_s hf
              obtain ⟨S18, h17, hf⟩ := hbd_s hf
              refine h_Vv [] (rest := []) (m_X5_readValue (d := 7) (cs := cs) (Nat.le_refl _) h17) v_X5_readValue q_607 rfl (Nat.le_trans (by decide) hd) g19 rfl rfl (Nat.le_of_ble_eq_true rfl) dX5_readSum_90 (Nat.le_refl _) (Nat.le_refl _) ?_
              refine h_iinc (q := 2) (v := x2 + 1) (lv2 := [(2, .int (x2 + 1)), (1, .int t12), (0, .ref x0), (3, .int t12)]) dX5_readSum_93 rfl rfl (Nat.le_of_ble_eq_true rfl) rfl ?_
              refine h_goto (tgt := 19) dX5_readSum_96 (by decide) ?_
              refine h_sub (lv2 := [(0, .ref x0), (1, .int t12), (2, .int (x2 + 1))]) [2, 1, 0] rfl ?_
              exact ih x0 t12 (x2 + 1) S18 k0 k1  hf hk0 hk1
            · intro J15 hJ15 hf
              refine h_icmp_eq (tgt := 87) dX5_readSum_76 (by decide) (fun c20 => ?_) (fun c20 => ?_)
              · rw [if_pos c20] at hf
                refine h_sub (lv2 := [(0, .ref x0), (2, .int x2), (3, .int t12)]) [1, 3, 0] rfl ?_
                exact hJ15 S11 hf
              · rw [if_neg c20] at hf
                refine h_aload_n dX5_readSum_79 rfl 1 rfl ?_
                refine h_bipush (v := (-10)) dX5_readSum_80 rfl ?_
                refine h_iload_n dX5_readSum_82 rfl 2 rfl ?_
                refine h_isub dX5_readSum_83 ?_
                obtain ⟨g23, hf⟩ := hck_s hf
                obtain ⟨S22, h21, hf⟩ := hbd_s hf
                refine h_Vv [.int ((-10) - x1)] (rest := []) (m_X5_emit (d := 1) (cs := cs) (Nat.le_refl _) h21) v_X5_emit q_619 rfl (Nat.le_trans (by decide) hd) g23 rfl rfl (Nat.le_of_ble_eq_true rfl) dX5_readSum_84 (Nat.le_refl _) (Nat.le_refl _) ?_
                refine h_sub (lv2 := [(0, .ref x0), (2, .int x2), (3, .int t12)]) [1, 3, 0] rfl ?_
                exact hJ15 S22 hf
          · rw [if_neg c14] at hf
            refine h_aload_n dX5_readSum_59 rfl 1 rfl ?_
            obtain ⟨g29, hf⟩ := hck_s hf
            obtain ⟨S25, h24, hf⟩ := hbd_s hf
            refine h_Vv [] (rest := []) (m_X5_readValue (d := 7) (cs := cs) (Nat.le_refl _) h24) v_X5_readValue q_607 rfl (Nat.le_trans (by decide) hd) g29 rfl rfl (Nat.le_of_ble_eq_true rfl) dX5_readSum_60 (Nat.le_refl _) (Nat.le_refl _) ?_
            refine h_aload_n dX5_readSum_63 rfl 1 rfl ?_
            refine h_bipush (v := (-10)) dX5_readSum_64 rfl ?_
            refine h_iload_n dX5_readSum_66 rfl 0 rfl ?_
            refine h_isub dX5_readSum_67 ?_
            obtain ⟨g28, hf⟩ := hck_s hf
            obtain ⟨S27, h26, hf⟩ := hbd_s hf
            refine h_Vv [.int ((-10) - t12)] (rest := []) (m_X5_emit (d := 1) (cs := cs) (Nat.le_refl _) h26) v_X5_emit q_619 rfl (Nat.le_trans (by decide) hd) g28 rfl rfl (Nat.le_of_ble_eq_true rfl) dX5_readSum_68 (Nat.le_refl _) (Nat.le_refl _) ?_
            refine h_goto (tgt := 93) dX5_readSum_71 (by decide) ?_
            refine h_iinc (q := 3) (v := x2 + 1) (lv2 := [(2, .int (x2 + 1)), (3, .int t12), (0, .ref x0), (1, .int x1)]) dX5_readSum_93 rfl rfl (Nat.le_of_ble_eq_true rfl) rfl ?_
            refine h_goto (tgt := 19) dX5_readSum_96 (by decide) ?_
            refine h_sub (lv2 := [(0, .ref x0), (1, .int x1), (2, .int (x2 + 1))]) [2, 3, 0] rfl ?_
            exact ih x0 x1 (x2 + 1) S27 k0 k1  hf hk0 hk1
        · rw [if_pos c13] at hf
          refine h_sub (lv2 := [(0, .ref x0), (1, .int x1)]) [1, 2] rfl ?_
          exact hk1 x1 S11 hf
set_option maxRecDepth 100000 in
set_option maxHeartbeats 4000000 in
theorem m_X5_readSum {d : Nat} {cs : Nat → Nat} {a0 : Nat} {S : hS} {r : hS} (hd : 8 ≤ d) (hf : f_X5_readSum a0 S = some r) : HM yX5_readSum cX5_readSum 4 none d 0 0 cs [.ref a0] S (none) r := by
  unfold f_X5_readSum at hf
  refine HM.ofHW false (by decide) (fun h => by cases h) (Nat.le_of_ble_eq_true rfl) ?_
  show HW cX5_readSum RX5 (x_X5_readSum d S [.ref a0] r cs) 0 0 S 0 [(0, .ref a0)] []
  refine h_aload_n dX5_readSum_0 rfl 0 rfl ?_
  obtain ⟨t32, h33, hf⟩ := hbd_s hf
  refine h_getR h33 rfl (Nat.le_of_ble_eq_true rfl) rfl q_253 rfl dX5_readSum_1 ?_
  obtain ⟨g52, hf⟩ := hck_s hf
  obtain ⟨t36, S35, h34, hf⟩ := hb2_s hf
  refine h_Vi [] (rest := []) (m_X7_failed (d := 1) (cs := cs) (Nat.le_refl _) h34) v_X7_failed q_606 rfl (Nat.le_trans (by decide) hd) g52 rfl rfl (Nat.le_of_ble_eq_true rfl) dX5_readSum_4 (Nat.le_refl _) (Nat.le_refl _) ?_
  refine h_if_eq (tgt := 11) dX5_readSum_7 (by decide) (fun c37 => ?_) (fun c37 => ?_)
  · rw [if_pos c37] at hf
    refine h_iconst (v := (-1)) dX5_readSum_11 rfl ?_
    refine h_istore_n (lv2 := [(1, .int (-1)), (0, .ref a0)]) dX5_readSum_12 rfl (Nat.le_of_ble_eq_true rfl) rfl ?_
    refine h_aload_n dX5_readSum_13 rfl 1 rfl ?_
    obtain ⟨g51, hf⟩ := hck_s hf
    obtain ⟨S39, h38, hf⟩ := hbd_s hf
    refine h_Vv [] (rest := []) (m_X5_readValue (d := 7) (cs := cs) (Nat.le_refl _) h38) v_X5_readValue q_607 rfl (Nat.le_trans (by decide) hd) g51 rfl rfl (Nat.le_of_ble_eq_true rfl) dX5_readSum_14 (Nat.le_refl _) (Nat.le_refl _) ?_
    refine h_iconst (v := 0) dX5_readSum_17 rfl ?_
    refine h_istore_n (lv2 := [(2, .int 0), (1, .int (-1)), (0, .ref a0)]) dX5_readSum_18 rfl (Nat.le_of_ble_eq_true rfl) rfl ?_
    refine hj_s (fun J40 => ∀ (u41 : Int32) (S42 : hS), J40 u41 S42 = some r → HW cX5_readSum RX5 (x_X5_readSum d S [.ref a0] r cs) 0 0 S42 99 [(0, .ref a0), (1, .int u41)] []) hf ?_ ?_
    · intro u41 S42 hf
      refine h_iload_n dX5_readSum_99 rfl 1 rfl ?_
      refine h_iconst (v := (-1)) dX5_readSum_100 rfl ?_
      refine h_icmp_eq (tgt := 112) dX5_readSum_101 (by decide) (fun c43 => ?_) (fun c43 => ?_)
      · rw [if_pos c43] at hf
        obtain rfl := Option.some.inj hf
        exact h_vret rfl rfl rfl (Nat.le_refl _) (Nat.le_refl _) dX5_readSum_112
      · rw [if_neg c43] at hf
        refine h_aload_n dX5_readSum_104 rfl 0 rfl ?_
        refine h_bipush (v := (-10)) dX5_readSum_105 rfl ?_
        refine h_iload_n dX5_readSum_107 rfl 1 rfl ?_
        refine h_isub dX5_readSum_108 ?_
        obtain ⟨g46, hf⟩ := hck_s hf
        obtain ⟨S45, h44, hf⟩ := hbd_s hf
        refine h_Vv [.int ((-10) - u41)] (rest := []) (m_X5_emit (d := 1) (cs := cs) (Nat.le_refl _) h44) v_X5_emit q_619 rfl (Nat.le_trans (by decide) hd) g46 rfl rfl (Nat.le_of_ble_eq_true rfl) dX5_readSum_109 (Nat.le_refl _) (Nat.le_refl _) ?_
        obtain rfl := Option.some.inj hf
        exact h_vret rfl rfl rfl (Nat.le_refl _) (Nat.le_refl _) dX5_readSum_112
    · intro J40 hJ40 hf
      refine h_sub (lv2 := [(0, .ref a0), (1, .int (-1)), (2, .int 0)]) [2, 1, 0] rfl ?_
      refine w_X5_readSum_L19 hd hfuel a0 (-1) 0 S39 _ _  hf ?_ ?_
      · intro u47 S48 hf
        exact hJ40 u47 S48 hf
      · intro u49 S50 hf
        refine h_goto (tgt := 99) dX5_readSum_51 (by decide) ?_
        exact hJ40 u49 S50 hf
  · rw [if_neg c37] at hf
    obtain rfl := Option.some.inj hf
    exact h_vret rfl rfl rfl (Nat.le_refl _) (Nat.le_refl _) dX5_readSum_10
abbrev x_X0_minute (d : Nat) (S0 : hS) (args : List Value) (r : hS) (cs : Nat → Nat) : hX := ((none, 3, d, 0, 0, false), (S0, args, none, r), cs)
theorem v_X0_minute : hVW yX0_minute cX0_minute 3 none RX0 1 := ⟨q_744, q_745, q_3, q_746, by decide +kernel, by decide⟩
def f_X0_minute (a0 : Nat) (a1 : Nat) (S : hS) : Option (hS) :=
  hbd (gI S a0 0 4) fun t1 =>
  if t1 < 0 then
    (some S)
  else
    (hbd (gI S a0 0 4) fun t4 =>
     hbd (gR S a0 0 0) fun t6 =>
     hbd (gI S t6 6 2) fun t8 =>
     if t4 < t8 then
       (hck (S.K a0 = 1) <|
        hbd (f_X0_warmUp a0 S) fun S12 =>
        hck (S12.K a0 = 1) <|
        hbd (f_X0_blow a0 S12) fun S14 =>
        hck (S14.K a0 = 1) <|
        hbd (f_X0_melt a0 S14) fun S16 =>
        hck (S16.K a0 = 1) <|
        hbd (f_X0_spread a0 S16) fun S18 =>
        hck (S18.K a0 = 1) <|
        hbd (f_X0_wander a0 a1 S18) fun S20 =>
        hbd (gR S20 a0 0 11) fun t21 =>
        hbd (gI S20 a0 0 6) fun t23 =>
        hbd (gI S20 a0 0 4) fun t25 =>
        hbd (sA S20 t21 (t23 - t23 / 120 * 120) t25) fun S27 =>
        hbd (gI S27 a0 0 6) fun t29 =>
        hbd (sI S27 a0 0 6 (t29 + 1)) fun S31 =>
        hbd (gR S31 a0 0 1) fun t33 =>
        hbd (gR S31 t33 2 5) fun t35 =>
        hbd (gI S31 a0 0 4) fun t37 =>
        hbd (gA S31 t35 12 t37) fun t39 =>
        if t39 < 0 then
          (some S31)
        else
          (hbd (gR S31 a0 0 1) fun t42 =>
           hbd (gR S31 t42 2 4) fun t44 =>
           hbd (gA S31 t44 12 t39) fun t46 =>
           hbd (sA S31 t44 t39 (t46 + 1)) fun S48 =>
           some S48))
     else
       (some S))
set_option maxRecDepth 100000 in
set_option maxHeartbeats 4000000 in
theorem m_X0_minute {d : Nat} {cs : Nat → Nat} {a0 : Nat} {a1 : Nat} {S : hS} {r : hS} (hd : 5 ≤ d) (hf : f_X0_minute a0 a1 S = some r) : HM yX0_minute cX0_minute 3 none d 0 0 cs [.ref a0, .ref a1] S (none) r := by
  unfold f_X0_minute at hf
  refine HM.ofHW false (by decide) (fun h => by cases h) (Nat.le_of_ble_eq_true rfl) ?_
  show HW cX0_minute RX0 (x_X0_minute d S [.ref a0, .ref a1] r cs) 0 0 S 0 [(0, .ref a0), (1, .ref a1)] []
  refine h_aload_n dX0_minute_0 rfl 0 rfl ?_
  obtain ⟨t1, h2, hf⟩ := hbd_s hf
  refine h_getI h2 rfl (Nat.le_of_ble_eq_true rfl) rfl q_190 rfl dX0_minute_1 ?_
  refine h_if_lt (tgt := 21) dX0_minute_4 (by decide) (fun c3 => ?_) (fun c3 => ?_)
  · rw [if_pos c3] at hf
    obtain rfl := Option.some.inj hf
    exact h_vret rfl rfl rfl (Nat.le_refl _) (Nat.le_refl _) dX0_minute_21
  · rw [if_neg c3] at hf
    refine h_aload_n dX0_minute_7 rfl 0 rfl ?_
    obtain ⟨t4, h5, hf⟩ := hbd_s hf
    refine h_getI h5 rfl (Nat.le_of_ble_eq_true rfl) rfl q_190 rfl dX0_minute_8 ?_
    refine h_aload_n dX0_minute_11 rfl 0 rfl ?_
    obtain ⟨t6, h7, hf⟩ := hbd_s hf
    refine h_getR h7 rfl (Nat.le_of_ble_eq_true rfl) rfl q_180 rfl dX0_minute_12 ?_
    obtain ⟨t8, h9, hf⟩ := hbd_s hf
    refine h_getIN (host := "DeafSpot") h9 rfl (Nat.le_of_ble_eq_true rfl) rfl (List.mem_of_getElem? (i := 11) rfl) rfl dX0_minute_15 ?_
    refine h_icmp_lt (tgt := 22) dX0_minute_18 (by decide) (fun c10 => ?_) (fun c10 => ?_)
    · rw [if_pos c10] at hf
      refine h_aload_n dX0_minute_22 rfl 0 rfl ?_
      obtain ⟨g54, hf⟩ := hck_s hf
      obtain ⟨S12, h11, hf⟩ := hbd_s hf
      refine h_Vv [] (rest := []) (m_X0_warmUp (d := 1) (cs := cs) (Nat.le_refl _) h11) v_X0_warmUp q_747 rfl (Nat.le_trans (by decide) hd) g54 rfl rfl (Nat.le_of_ble_eq_true rfl) dX0_minute_23 (Nat.le_refl _) (Nat.le_refl _) ?_
      refine h_aload_n dX0_minute_26 rfl 0 rfl ?_
      obtain ⟨g53, hf⟩ := hck_s hf
      obtain ⟨S14, h13, hf⟩ := hbd_s hf
      refine h_Vv [] (rest := []) (m_X0_blow (d := 1) (cs := cs) (Nat.le_refl _) h13) v_X0_blow q_751 rfl (Nat.le_trans (by decide) hd) g53 rfl rfl (Nat.le_of_ble_eq_true rfl) dX0_minute_27 (Nat.le_refl _) (Nat.le_refl _) ?_
      refine h_aload_n dX0_minute_30 rfl 0 rfl ?_
      obtain ⟨g52, hf⟩ := hck_s hf
      obtain ⟨S16, h15, hf⟩ := hbd_s hf
      refine h_Vv [] (rest := []) (m_X0_melt (d := 1) (cs := cs) (Nat.le_refl _) h15) v_X0_melt q_756 rfl (Nat.le_trans (by decide) hd) g52 rfl rfl (Nat.le_of_ble_eq_true rfl) dX0_minute_31 (Nat.le_refl _) (Nat.le_refl _) ?_
      refine h_aload_n dX0_minute_34 rfl 0 rfl ?_
      obtain ⟨g51, hf⟩ := hck_s hf
      obtain ⟨S18, h17, hf⟩ := hbd_s hf
      refine h_Vv [] (rest := []) (m_X0_spread (d := 1) (cs := cs) (Nat.le_refl _) h17) v_X0_spread q_760 rfl (Nat.le_trans (by decide) hd) g51 rfl rfl (Nat.le_of_ble_eq_true rfl) dX0_minute_35 (Nat.le_refl _) (Nat.le_refl _) ?_
      refine h_aload_n dX0_minute_38 rfl 0 rfl ?_
      refine h_aload_n dX0_minute_39 rfl 1 rfl ?_
      obtain ⟨g50, hf⟩ := hck_s hf
      obtain ⟨S20, h19, hf⟩ := hbd_s hf
      refine h_Vv [.ref a1] (rest := []) (m_X0_wander (d := 4) (cs := cs) (Nat.le_refl _) h19) v_X0_wander q_764 rfl (Nat.le_trans (by decide) hd) g50 rfl rfl (Nat.le_of_ble_eq_true rfl) dX0_minute_40 (Nat.le_refl _) (Nat.le_refl _) ?_
      refine h_aload_n dX0_minute_43 rfl 0 rfl ?_
      obtain ⟨t21, h22, hf⟩ := hbd_s hf
      refine h_getR h22 rfl (Nat.le_of_ble_eq_true rfl) rfl q_204 rfl dX0_minute_44 ?_
      refine h_aload_n dX0_minute_47 rfl 0 rfl ?_
      obtain ⟨t23, h24, hf⟩ := hbd_s hf
      refine h_getI h24 rfl (Nat.le_of_ble_eq_true rfl) rfl q_194 rfl dX0_minute_48 ?_
      refine h_bipush (v := 120) dX0_minute_51 rfl ?_
      refine h_irem dX0_minute_53 (by decide) ?_
      refine h_aload_n dX0_minute_54 rfl 0 rfl ?_
      obtain ⟨t25, h26, hf⟩ := hbd_s hf
      refine h_getI h26 rfl (Nat.le_of_ble_eq_true rfl) rfl q_190 rfl dX0_minute_55 ?_
      obtain ⟨S27, h28, hf⟩ := hbd_s hf
      refine h_iast h28 dX0_minute_58 ?_
      refine h_aload_n dX0_minute_59 rfl 0 rfl ?_
      refine h_dup dX0_minute_60 rfl ?_
      obtain ⟨t29, h30, hf⟩ := hbd_s hf
      refine h_getI h30 rfl (Nat.le_of_ble_eq_true rfl) rfl q_194 rfl dX0_minute_61 ?_
      refine h_iconst (v := 1) dX0_minute_64 rfl ?_
      refine h_iadd dX0_minute_65 ?_
      obtain ⟨S31, h32, hf⟩ := hbd_s hf
      refine h_putI h32 rfl (Nat.le_of_ble_eq_true rfl) rfl q_194 rfl rfl (by decide +kernel) dX0_minute_66 ?_
      refine h_aload_n dX0_minute_69 rfl 0 rfl ?_
      obtain ⟨t33, h34, hf⟩ := hbd_s hf
      refine h_getR h34 rfl (Nat.le_of_ble_eq_true rfl) rfl q_183 rfl dX0_minute_70 ?_
      obtain ⟨t35, h36, hf⟩ := hbd_s hf
      refine h_getRN (host := "DeafSpot") h36 rfl (Nat.le_of_ble_eq_true rfl) rfl (List.mem_of_getElem? (i := 48) rfl) rfl dX0_minute_73 ?_
      refine h_aload_n dX0_minute_76 rfl 0 rfl ?_
      obtain ⟨t37, h38, hf⟩ := hbd_s hf
      refine h_getI h38 rfl (Nat.le_of_ble_eq_true rfl) rfl q_190 rfl dX0_minute_77 ?_
      obtain ⟨t39, h40, hf⟩ := hbd_s hf
      refine h_iald h40 dX0_minute_80 ?_
      refine h_istore_n (lv2 := [(2, .int t39), (0, .ref a0), (1, .ref a1)]) dX0_minute_81 rfl (Nat.le_of_ble_eq_true rfl) rfl ?_
      refine h_iload_n dX0_minute_82 rfl 0 rfl ?_
      refine h_if_lt (tgt := 99) dX0_minute_83 (by decide) (fun c41 => ?_) (fun c41 => ?_)
      · rw [if_pos c41] at hf
        obtain rfl := Option.some.inj hf
        exact h_vret rfl rfl rfl (Nat.le_refl _) (Nat.le_refl _) dX0_minute_99
      · rw [if_neg c41] at hf
        refine h_aload_n dX0_minute_86 rfl 1 rfl ?_
        obtain ⟨t42, h43, hf⟩ := hbd_s hf
        refine h_getR h43 rfl (Nat.le_of_ble_eq_true rfl) rfl q_183 rfl dX0_minute_87 ?_
        obtain ⟨t44, h45, hf⟩ := hbd_s hf
        refine h_getRN (host := "DeafSpot") h45 rfl (Nat.le_of_ble_eq_true rfl) rfl (List.mem_of_getElem? (i := 44) rfl) rfl dX0_minute_90 ?_
        refine h_iload_n dX0_minute_93 rfl 0 rfl ?_
        refine h_dup2 dX0_minute_94 rfl rfl ?_
        obtain ⟨t46, h47, hf⟩ := hbd_s hf
        refine h_iald h47 dX0_minute_95 ?_
        refine h_iconst (v := 1) dX0_minute_96 rfl ?_
        refine h_iadd dX0_minute_97 ?_
        obtain ⟨S48, h49, hf⟩ := hbd_s hf
        refine h_iast h49 dX0_minute_98 ?_
        obtain rfl := Option.some.inj hf
        exact h_vret rfl rfl rfl (Nat.le_refl _) (Nat.le_refl _) dX0_minute_99
    · rw [if_neg c10] at hf
      obtain rfl := Option.some.inj hf
      exact h_vret rfl rfl rfl (Nat.le_refl _) (Nat.le_refl _) dX0_minute_21
