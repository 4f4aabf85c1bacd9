abbrev x_X2_add (d : Nat) (S0 : hS) (args : List Value) (r : hS) (cs : Nat → Nat) : hX := ((none, 5, d, 0, 0, false), (S0, args, none, r), cs)
theorem v_X2_add : hVW yX2_add cX2_add 5 none RX2 3 := ⟨q_502, q_503, q_5, q_504, by decide +kernel, by decide⟩
def f_X2_add (a0 : Nat) (a1 : Int32) (a2 : Int32) (a3 : Int32) (S : hS) : Option (hS) :=
  hbd (gI S a0 2 0) fun t1 =>
  if t1 < 12 then
    (hbd (gI S a0 2 0) fun t4 =>
     hbd (gI S a0 2 0) fun t6 =>
     hbd (sI S a0 2 0 (t6 + 1)) fun S8 =>
     hbd (gR S8 a0 2 1) fun t10 =>
     hbd (sA S8 t10 t4 (-1)) fun S12 =>
     hbd (gR S12 a0 2 2) fun t14 =>
     hbd (sA S12 t14 t4 a2) fun S16 =>
     hbd (gR S16 a0 2 3) fun t18 =>
     hbd (sA S16 t18 t4 a3) fun S20 =>
     hbd (gR S20 a0 2 4) fun t22 =>
     hbd (sA S20 t22 t4 0) fun S24 =>
     hck (S24.K a0 = 3) <|
     hbd (f_X2_put a0 t4 a1 S24) fun S27 =>
     some S27)
  else
    (some S)
set_option maxRecDepth 100000 in
set_option maxHeartbeats 4000000 in
theorem m_X2_add {d : Nat} {cs : Nat → Nat} {a0 : Nat} {a1 : Int32} {a2 : Int32} {a3 : Int32} {S : hS} {r : hS} (hd : 4 ≤ d) (hf : f_X2_add a0 a1 a2 a3 S = some r) : HM yX2_add cX2_add 5 none d 0 0 cs [.ref a0, .int a1, .int a2, .int a3] S (none) r := by
  unfold f_X2_add at hf
  refine HM.ofHW false (by decide) (fun h => by cases h) (Nat.le_of_ble_eq_true rfl) ?_
  show HW cX2_add RX2 (x_X2_add d S [.ref a0, .int a1, .int a2, .int a3] r cs) 0 0 S 0 [(0, .ref a0), (1, .int a1), (2, .int a2), (3, .int a3)] []
  refine h_aload_n dX2_add_0 rfl 0 rfl ?_
  obtain ⟨t1, h2, hf⟩ := hbd_s hf
  refine h_getI h2 rfl (Nat.le_of_ble_eq_true rfl) rfl q_148 rfl dX2_add_1 ?_
  refine h_bipush (v := 12) dX2_add_4 rfl ?_
  refine h_icmp_lt (tgt := 10) dX2_add_6 (by decide) (fun c3 => ?_) (fun c3 => ?_)
  · replace hf := hif_p c3 hf
    refine h_aload_n dX2_add_10 rfl 0 rfl ?_
    obtain ⟨t4, h5, hf⟩ := hbd_s hf
    refine h_getI h5 rfl (Nat.le_of_ble_eq_true rfl) rfl q_148 rfl dX2_add_11 ?_
    refine h_istore (lv2 := [(4, .int t4), (0, .ref a0), (1, .int a1), (2, .int a2), (3, .int a3)]) dX2_add_14 (Nat.le_of_ble_eq_true rfl) rfl ?_
    refine h_aload_n dX2_add_16 rfl 1 rfl ?_
    refine h_dup dX2_add_17 rfl ?_
    obtain ⟨t6, h7, hf⟩ := hbd_s hf
    refine h_getI h7 rfl (Nat.le_of_ble_eq_true rfl) rfl q_148 rfl dX2_add_18 ?_
    refine h_iconst (v := 1) dX2_add_21 rfl ?_
    refine h_iadd dX2_add_22 ?_
    obtain ⟨S8, h9, hf⟩ := hbd_s hf
    refine h_putI h9 rfl (Nat.le_of_ble_eq_true rfl) rfl q_148 rfl rfl (by decide +kernel) dX2_add_23 ?_
    refine h_aload_n dX2_add_26 rfl 1 rfl ?_
    obtain ⟨t10, h11, hf⟩ := hbd_s hf
    refine h_getR h11 rfl (Nat.le_of_ble_eq_true rfl) rfl q_152 rfl dX2_add_27 ?_
    refine h_iload dX2_add_30 0 rfl ?_
    refine h_iconst (v := (-1)) dX2_add_32 rfl ?_
    obtain ⟨S12, h13, hf⟩ := hbd_s hf
    refine h_iast h13 dX2_add_33 ?_
    refine h_aload_n dX2_add_34 rfl 1 rfl ?_
    obtain ⟨t14, h15, hf⟩ := hbd_s hf
    refine h_getR h15 rfl (Nat.le_of_ble_eq_true rfl) rfl q_155 rfl dX2_add_35 ?_
    refine h_iload dX2_add_38 0 rfl ?_
    refine h_iload_n dX2_add_40 rfl 3 rfl ?_
    obtain ⟨S16, h17, hf⟩ := hbd_s hf
    refine h_iast h17 dX2_add_41 ?_
    refine h_aload_n dX2_add_42 rfl 1 rfl ?_
    obtain ⟨t18, h19, hf⟩ := hbd_s hf
    refine h_getR h19 rfl (Nat.le_of_ble_eq_true rfl) rfl q_158 rfl dX2_add_43 ?_
    refine h_iload dX2_add_46 0 rfl ?_
    refine h_iload_n dX2_add_48 rfl 4 rfl ?_
    obtain ⟨S20, h21, hf⟩ := hbd_s hf
    refine h_iast h21 dX2_add_49 ?_
    refine h_aload_n dX2_add_50 rfl 1 rfl ?_
    obtain ⟨t22, h23, hf⟩ := hbd_s hf
    refine h_getR h23 rfl (Nat.le_of_ble_eq_true rfl) rfl q_160 rfl dX2_add_51 ?_
    refine h_iload dX2_add_54 0 rfl ?_
    refine h_iconst (v := 0) dX2_add_56 rfl ?_
    obtain ⟨S24, h25, hf⟩ := hbd_s hf
    refine h_iast h25 dX2_add_57 ?_
    refine h_aload_n dX2_add_58 rfl 1 rfl ?_
    refine h_iload dX2_add_59 0 rfl ?_
    refine h_iload_n dX2_add_61 rfl 2 rfl ?_
    obtain ⟨g28, hf⟩ := hck_s hf
    obtain ⟨S27, h26, hf⟩ := hbd_s hf
    refine h_Vv [.int t4, .int a1] (rest := []) (m_X2_put (d := 3) (cs := cs) (Nat.le_refl _) h26) v_X2_put q_505 rfl (Nat.le_trans (by decide) hd) g28 rfl rfl (Nat.le_of_ble_eq_true rfl) dX2_add_62 (Nat.le_refl _) (Nat.le_refl _) ?_
    obtain rfl := Option.some.inj hf
    exact h_vret rfl rfl rfl (Nat.le_refl _) (Nat.le_refl _) dX2_add_65
  · replace hf := hif_n c3 hf
    obtain rfl := Option.some.inj hf
    exact h_vret rfl rfl rfl (Nat.le_refl _) (Nat.le_refl _) dX2_add_9
abbrev x_X3_readSize (d : Nat) (S0 : hS) (args : List Value) (r : hS) (cs : Nat → Nat) : hX := ((none, 3, d, 0, 0, false), (S0, args, none, r), cs)
theorem v_X3_readSize : hVW yX3_readSize cX3_readSize 3 none RX3 0 := ⟨q_465, q_s5, q_6, q_466, by decide +kernel, by decide⟩
def f_X3_readSize (a0 : Nat) (S : hS) : Option (hS) :=
  hbd (gR S a0 3 0) fun t1 =>
  hck (S.K t1 = 8) <|
  hb2 (f_X7_number t1 1 10 S) fun t5 S4 =>
  hck (S4.K a0 = 4) <|
  hb2 (f_X3_readNumber a0 1 8 S4) fun t8 S7 =>
  hbd (gR S7 a0 3 0) fun t9 =>
  hck (S7.K t9 = 8) <|
  hb2 (f_X7_failed t9 S7) fun t13 S12 =>
  if t13 = 0 then
    (hbd (gR S12 a0 3 1) fun t15 =>
     hbd (gR S12 t15 0 0) fun t17 =>
     hck (S12.K t17 = 7) <|
     hbd (f_X6_layOut t17 t5 t8 S12) fun S20 =>
     some S20)
  else
    (some S12)
set_option maxRecDepth 100000 in
set_option maxHeartbeats 4000000 in
theorem m_X3_readSize {d : Nat} {cs : Nat → Nat} {a0 : Nat} {S : hS} {r : hS} (hd : 4 ≤ d) (hf : f_X3_readSize a0 S = some r) : HM yX3_readSize cX3_readSize 3 none d 0 0 cs [.ref a0] S (none) r := by
  unfold f_X3_readSize at hf
  refine HM.ofHW false (by decide) (fun h => by cases h) (Nat.le_of_ble_eq_true rfl) ?_
  show HW cX3_readSize RX3 (x_X3_readSize d S [.ref a0] r cs) 0 0 S 0 [(0, .ref a0)] []
  refine h_aload_n dX3_readSize_0 rfl 0 rfl ?_
  obtain ⟨t1, h2, hf⟩ := hbd_s hf
  refine h_getR h2 rfl (Nat.le_of_ble_eq_true rfl) rfl q_237 rfl dX3_readSize_1 ?_
  refine h_iconst (v := 1) dX3_readSize_4 rfl ?_
  refine h_bipush (v := 10) dX3_readSize_5 rfl ?_
  obtain ⟨g24, hf⟩ := hck_s hf
  obtain ⟨t5, S4, h3, hf⟩ := hb2_s hf
  refine h_Vi [.int 1, .int 10] (rest := []) (m_X7_number (d := 2) (cs := cs) (Nat.le_refl _) h3) v_X7_number q_467 rfl (Nat.le_trans (by decide) hd) g24 rfl rfl (Nat.le_of_ble_eq_true rfl) dX3_readSize_7 (Nat.le_refl _) (Nat.le_refl _) ?_
  refine h_istore_n (lv2 := [(1, .int t5), (0, .ref a0)]) dX3_readSize_10 rfl (Nat.le_of_ble_eq_true rfl) rfl ?_
  refine h_aload_n dX3_readSize_11 rfl 1 rfl ?_
  refine h_iconst (v := 1) dX3_readSize_12 rfl ?_
  refine h_bipush (v := 8) dX3_readSize_13 rfl ?_
  obtain ⟨g23, hf⟩ := hck_s hf
  obtain ⟨t8, S7, h6, hf⟩ := hb2_s hf
  refine h_Vi [.int 1, .int 8] (rest := []) (m_X3_readNumber (d := 3) (cs := cs) (Nat.le_refl _) h6) v_X3_readNumber q_472 rfl (Nat.le_trans (by decide) hd) g23 rfl rfl (Nat.le_of_ble_eq_true rfl) dX3_readSize_15 (Nat.le_refl _) (Nat.le_refl _) ?_
  refine h_istore_n (lv2 := [(2, .int t8), (1, .int t5), (0, .ref a0)]) dX3_readSize_18 rfl (Nat.le_of_ble_eq_true rfl) rfl ?_
  refine h_aload_n dX3_readSize_19 rfl 2 rfl ?_
  obtain ⟨t9, h10, hf⟩ := hbd_s hf
  refine h_getR h10 rfl (Nat.le_of_ble_eq_true rfl) rfl q_237 rfl dX3_readSize_20 ?_
  obtain ⟨g22, hf⟩ := hck_s hf
  obtain ⟨t13, S12, h11, hf⟩ := hb2_s hf
  refine h_Vi [] (rest := []) (m_X7_failed (d := 1) (cs := cs) (Nat.le_refl _) h11) v_X7_failed q_476 rfl (Nat.le_trans (by decide) hd) g22 rfl rfl (Nat.le_of_ble_eq_true rfl) dX3_readSize_23 (Nat.le_refl _) (Nat.le_refl _) ?_
  refine h_if_ne (tgt := 41) dX3_readSize_26 (by decide) (fun c14 => ?_) (fun c14 => ?_)
  · replace hf := hif_n c14 hf
    obtain rfl := Option.some.inj hf
    exact h_vret rfl rfl rfl (Nat.le_refl _) (Nat.le_refl _) dX3_readSize_41
  · replace hf := hif_p c14 hf
    refine h_aload_n dX3_readSize_29 rfl 2 rfl ?_
    obtain ⟨t15, h16, hf⟩ := hbd_s hf
    refine h_getR h16 rfl (Nat.le_of_ble_eq_true rfl) rfl q_238 rfl dX3_readSize_30 ?_
    obtain ⟨t17, h18, hf⟩ := hbd_s hf
    refine h_getRN (host := "DeafSpot") h18 rfl (Nat.le_of_ble_eq_true rfl) rfl (List.mem_of_getElem? (i := 49) rfl) rfl dX3_readSize_33 ?_
    refine h_iload_n dX3_readSize_36 rfl 1 rfl ?_
    refine h_iload_n dX3_readSize_37 rfl 0 rfl ?_
    obtain ⟨g21, hf⟩ := hck_s hf
    obtain ⟨S20, h19, hf⟩ := hbd_s hf
    refine h_Vv [.int t5, .int t8] (rest := []) (m_X6_layOut (d := 2) (cs := cs) (Nat.le_refl _) h19) v_X6_layOut q_480 rfl (Nat.le_trans (by decide) hd) g21 rfl rfl (Nat.le_of_ble_eq_true rfl) dX3_readSize_38 (Nat.le_refl _) (Nat.le_refl _) ?_
    obtain rfl := Option.some.inj hf
    exact h_vret rfl rfl rfl (Nat.le_refl _) (Nat.le_refl _) dX3_readSize_41
abbrev x_X3_readSeat (d : Nat) (S0 : hS) (args : List Value) (r : Int32 × hS) (cs : Nat → Nat) : hX := (((some .int), 3, d, 0, 0, false), (S0, args, some (.int r.1), r.2), cs)
theorem v_X3_readSeat : hVW yX3_readSeat cX3_readSeat 3 (some .int) RX3 0 := ⟨q_498, q_s8, q_6, q_499, by decide +kernel, by decide⟩
def f_X3_readSeat (a0 : Nat) (S : hS) : Option (Int32 × hS) :=
  hbd (gR S a0 3 1) fun t1 =>
  hbd (gR S t1 0 0) fun t3 =>
  hbd (gI S t3 6 0) fun t5 =>
  hck (S.K a0 = 4) <|
  hb2 (f_X3_readNumber a0 0 (t5 - 1) S) fun t9 S8 =>
  hbd (gR S8 a0 3 1) fun t10 =>
  hbd (gR S8 t10 0 0) fun t12 =>
  hbd (gI S8 t12 6 1) fun t14 =>
  hck (S8.K a0 = 4) <|
  hb2 (f_X3_readNumber a0 0 (t14 - 1) S8) fun t18 S17 =>
  hbd (gR S17 a0 3 0) fun t19 =>
  hck (S17.K t19 = 8) <|
  hb2 (f_X7_failed t19 S17) fun t23 S22 =>
  if t23 = 0 then
    (hbd (gR S22 a0 3 1) fun t25 =>
     hbd (gR S22 t25 0 0) fun t27 =>
     hck (S22.K t27 = 7) <|
     hb2 (f_X6_seatAt t27 t9 t18 S22) fun t31 S30 =>
     some (t31, S30))
  else
    (some ((-1), S22))
set_option maxRecDepth 100000 in
set_option maxHeartbeats 4000000 in
theorem m_X3_readSeat {d : Nat} {cs : Nat → Nat} {a0 : Nat} {S : hS} {r : Int32 × hS} (hd : 4 ≤ d) (hf : f_X3_readSeat a0 S = some r) : HM yX3_readSeat cX3_readSeat 3 (some .int) d 0 0 cs [.ref a0] S (some (.int r.1)) r.2 := by
  unfold f_X3_readSeat at hf
  refine HM.ofHW false (by decide) (fun h => by cases h) (Nat.le_of_ble_eq_true rfl) ?_
  show HW cX3_readSeat RX3 (x_X3_readSeat d S [.ref a0] r cs) 0 0 S 0 [(0, .ref a0)] []
  refine h_aload_n dX3_readSeat_0 rfl 0 rfl ?_
  refine h_iconst (v := 0) dX3_readSeat_1 rfl ?_
  refine h_aload_n dX3_readSeat_2 rfl 0 rfl ?_
  obtain ⟨t1, h2, hf⟩ := hbd_s hf
  refine h_getR h2 rfl (Nat.le_of_ble_eq_true rfl) rfl q_238 rfl dX3_readSeat_3 ?_
  obtain ⟨t3, h4, hf⟩ := hbd_s hf
  refine h_getRN (host := "DeafSpot") h4 rfl (Nat.le_of_ble_eq_true rfl) rfl (List.mem_of_getElem? (i := 49) rfl) rfl dX3_readSeat_6 ?_
  obtain ⟨t5, h6, hf⟩ := hbd_s hf
  refine h_getIN (host := "DeafSpot") h6 rfl (Nat.le_of_ble_eq_true rfl) rfl (List.mem_of_getElem? (i := 5) rfl) rfl dX3_readSeat_9 ?_
  refine h_iconst (v := 1) dX3_readSeat_12 rfl ?_
  refine h_isub dX3_readSeat_13 ?_
  obtain ⟨g35, hf⟩ := hck_s hf
  obtain ⟨t9, S8, h7, hf⟩ := hb2_s hf
  refine h_Vi [.int 0, .int (t5 - 1)] (rest := []) (m_X3_readNumber (d := 3) (cs := cs) (Nat.le_refl _) h7) v_X3_readNumber q_472 rfl (Nat.le_trans (by decide) hd) g35 rfl rfl (Nat.le_of_ble_eq_true rfl) dX3_readSeat_14 (Nat.le_refl _) (Nat.le_refl _) ?_
  refine h_istore_n (lv2 := [(1, .int t9), (0, .ref a0)]) dX3_readSeat_17 rfl (Nat.le_of_ble_eq_true rfl) rfl ?_
  refine h_aload_n dX3_readSeat_18 rfl 1 rfl ?_
  refine h_iconst (v := 0) dX3_readSeat_19 rfl ?_
  refine h_aload_n dX3_readSeat_20 rfl 1 rfl ?_
  obtain ⟨t10, h11, hf⟩ := hbd_s hf
  refine h_getR h11 rfl (Nat.le_of_ble_eq_true rfl) rfl q_238 rfl dX3_readSeat_21 ?_
  obtain ⟨t12, h13, hf⟩ := hbd_s hf
  refine h_getRN (host := "DeafSpot") h13 rfl (Nat.le_of_ble_eq_true rfl) rfl (List.mem_of_getElem? (i := 49) rfl) rfl dX3_readSeat_24 ?_
  obtain ⟨t14, h15, hf⟩ := hbd_s hf
  refine h_getIN (host := "DeafSpot") h15 rfl (Nat.le_of_ble_eq_true rfl) rfl (List.mem_of_getElem? (i := 8) rfl) rfl dX3_readSeat_27 ?_
  refine h_iconst (v := 1) dX3_readSeat_30 rfl ?_
  refine h_isub dX3_readSeat_31 ?_
  obtain ⟨g34, hf⟩ := hck_s hf
  obtain ⟨t18, S17, h16, hf⟩ := hb2_s hf
  refine h_Vi [.int 0, .int (t14 - 1)] (rest := []) (m_X3_readNumber (d := 3) (cs := cs) (Nat.le_refl _) h16) v_X3_readNumber q_472 rfl (Nat.le_trans (by decide) hd) g34 rfl rfl (Nat.le_of_ble_eq_true rfl) dX3_readSeat_32 (Nat.le_refl _) (Nat.le_refl _) ?_
  refine h_istore_n (lv2 := [(2, .int t18), (1, .int t9), (0, .ref a0)]) dX3_readSeat_35 rfl (Nat.le_of_ble_eq_true rfl) rfl ?_
  refine h_aload_n dX3_readSeat_36 rfl 2 rfl ?_
  obtain ⟨t19, h20, hf⟩ := hbd_s hf
  refine h_getR h20 rfl (Nat.le_of_ble_eq_true rfl) rfl q_237 rfl dX3_readSeat_37 ?_
  obtain ⟨g33, hf⟩ := hck_s hf
  obtain ⟨t23, S22, h21, hf⟩ := hb2_s hf
  refine h_Vi [] (rest := []) (m_X7_failed (d := 1) (cs := cs) (Nat.le_refl _) h21) v_X7_failed q_476 rfl (Nat.le_trans (by decide) hd) g33 rfl rfl (Nat.le_of_ble_eq_true rfl) dX3_readSeat_40 (Nat.le_refl _) (Nat.le_refl _) ?_
  refine h_if_eq (tgt := 50) dX3_readSeat_43 (by decide) (fun c24 => ?_) (fun c24 => ?_)
  · replace hf := hif_p c24 hf
    refine h_aload_n dX3_readSeat_50 rfl 2 rfl ?_
    obtain ⟨t25, h26, hf⟩ := hbd_s hf
    refine h_getR h26 rfl (Nat.le_of_ble_eq_true rfl) rfl q_238 rfl dX3_readSeat_51 ?_
    obtain ⟨t27, h28, hf⟩ := hbd_s hf
    refine h_getRN (host := "DeafSpot") h28 rfl (Nat.le_of_ble_eq_true rfl) rfl (List.mem_of_getElem? (i := 49) rfl) rfl dX3_readSeat_54 ?_
    refine h_iload_n dX3_readSeat_57 rfl 1 rfl ?_
    refine h_iload_n dX3_readSeat_58 rfl 0 rfl ?_
    obtain ⟨g32, hf⟩ := hck_s hf
    obtain ⟨t31, S30, h29, hf⟩ := hb2_s hf
    refine h_Vi [.int t9, .int t18] (rest := []) (m_X6_seatAt (d := 1) (cs := cs) (Nat.le_refl _) h29) v_X6_seatAt q_500 rfl (Nat.le_trans (by decide) hd) g32 rfl rfl (Nat.le_of_ble_eq_true rfl) dX3_readSeat_59 (Nat.le_refl _) (Nat.le_refl _) ?_
    obtain rfl := Option.some.inj hf
    exact h_iret rfl rfl rfl (Nat.le_refl _) (Nat.le_refl _) dX3_readSeat_62
  · replace hf := hif_n c24 hf
    refine h_iconst (v := (-1)) dX3_readSeat_46 rfl ?_
    refine h_goto (tgt := 62) dX3_readSeat_47 (by decide) ?_
    obtain rfl := Option.some.inj hf
    exact h_iret rfl rfl rfl (Nat.le_refl _) (Nat.le_refl _) dX3_readSeat_62
abbrev x_X4_worth (d : Nat) (S0 : hS) (args : List Value) (r : Int64 × hS) (cs : Nat → Nat) : hX := (((some .long), 6, d, 0, 0, false), (S0, args, some (.long r.1), r.2), cs)
theorem v_X4_worth : hVW yX4_worth cX4_worth 6 (some .long) RX4 3 := ⟨q_769, q_770, q_17, q_771, by decide +kernel, by decide⟩
def f_X4_worth_L6 : Nat → Nat → Nat → Int32 → Int32 → Int32 → Int32 → hS → (hS → Option (Int64 × hS)) → (Int32 → Int32 → hS → Option (Int64 × hS)) → Option (Int64 × hS)
  | 0, _, _, _, _, _, _, _, _, _ => none
  | n + 1, x0, x1, x2, x3, x4, x5, S, k0, k1 =>
    hbd (gR S x0 4 1) fun t1 =>
    hbd (gN S t1) fun t3 =>
    if t3 ≤ x5 then
      (k0 S)
    else
      (hbd (gR S x0 4 2) fun t6 =>
       hbd (gN S t6) fun t8 =>
       if t8 ≤ x5 then
         (k0 S)
       else
         (hbd (gR S x0 4 1) fun t11 =>
          hbd (gA S t11 12 x5) fun t13 =>
          hbd (gR S x0 4 2) fun t15 =>
          hbd (gA S t15 12 x5) fun t17 =>
          if t13 = t17 then
            (k1 x4 x5 S)
          else
            (hbd (gR S x0 4 1) fun t20 =>
             hbd (gA S t20 12 x5) fun t22 =>
             hbd (gR S x0 4 2) fun t24 =>
             hbd (gA S t24 12 x5) fun t26 =>
             hck (S.K x0 = 5) <|
             hb2 (f_X4_reckon x0 t22 t26 x1 x2 x3 S) fun t30 S29 =>
             if (lg_cmp t30 0) = 0 then
               (hbd (gR S29 x0 4 2) fun t32 =>
                hbd (gA S29 t32 12 x5) fun t34 =>
                f_X4_worth_L6 n x0 x1 x2 x3 t34 (x5 + 1) S29 k0 k1)
             else
               (k1 x4 x5 S29))))
def f_X4_worth (a0 : Nat) (a1 : Nat) (a2 : Int32) (a3 : Int32) (S : hS) : Option (Int64 × hS) :=
  f_X4_worth_L6 hfuel a0 a1 a2 a3 0 0 S
    (fun S37 =>
      some (0, S37)
    )
    (fun u38 u39 S40 =>
      hbd (gR S40 a0 4 1) fun t41 =>
      hbd (gA S40 t41 12 u39) fun t43 =>
      hck (S40.K a0 = 5) <|
      hb2 (f_X4_reckon a0 u38 t43 a1 a2 a3 S40) fun t47 S46 =>
      some (t47, S46)
    )
set_option maxRecDepth 100000 in
set_option maxHeartbeats 4000000 in
theorem w_X4_worth_L6 {d : Nat} {S0 : hS} {args : List Value} {cs : Nat → Nat} {r : Int64 × hS} (hd : 3 ≤ d) : ∀ (n : Nat) (x0 : Nat) (x1 : Nat) (x2 : Int32) (x3 : Int32) (x4 : Int32) (x5 : Int32) (S : hS) (k0 : (hS → Option (Int64 × hS))) (k1 : (Int32 → Int32 → hS → Option (Int64 × hS))) , f_X4_worth_L6 n x0 x1 x2 x3 x4 x5 S k0 k1 = some r → (∀ (T : hS), k0 T = some r → HW cX4_worth RX4 (x_X4_worth d S0 args r cs) 0 0 T 101 [] []) → (∀ (y4 : Int32) (y5 : Int32) (T : hS), k1 y4 y5 T = some r → HW cX4_worth RX4 (x_X4_worth d S0 args r cs) 0 0 T 69 [(0, .ref x0), (1, .ref x1), (2, .int x2), (3, .int x3), (4, .int y4), (5, .int y5)] []) → HW cX4_worth RX4 (x_X4_worth d S0 args r cs) 0 0 S 6 [(0, .ref x0), (1, .ref x1), (2, .int x2), (3, .int x3), (4, .int x4), (5, .int x5)] [] := by
  intro n
  induction n with
  | zero =>
    intro x0 x1 x2 x3 x4 x5 S k0 k1 hf
    cases hf
  | succ n ih =>
    intro x0 x1 x2 x3 x4 x5 S k0 k1 hf hk0 hk1
    rw [f_X4_worth_L6] at hf
    refine h_iload dX4_worth_6 5 rfl ?_
    refine h_aload_n dX4_worth_8 rfl 0 rfl ?_
    obtain ⟨t1, h2, hf⟩ := hbd_s hf
    refine h_getR h2 rfl (Nat.le_of_ble_eq_true rfl) rfl q_673 rfl dX4_worth_9 ?_
    obtain ⟨t3, h4, hf⟩ := hbd_s hf
    refine h_alen h4 dX4_worth_12 ?_
    refine h_icmp_ge (tgt := 101) dX4_worth_13 (by decide) (fun c5 => ?_) (fun c5 => ?_)
    · replace hf := hif_p c5 hf
      refine h_sub (lv2 := []) [] rfl ?_
      exact hk0 S hf
    · replace hf := hif_n c5 hf
      refine h_iload dX4_worth_16 5 rfl ?_
      refine h_aload_n dX4_worth_18 rfl 0 rfl ?_
      obtain ⟨t6, h7, hf⟩ := hbd_s hf
      refine h_getR h7 rfl (Nat.le_of_ble_eq_true rfl) rfl q_674 rfl dX4_worth_19 ?_
      obtain ⟨t8, h9, hf⟩ := hbd_s hf
      refine h_alen h9 dX4_worth_22 ?_
      refine h_icmp_ge (tgt := 101) dX4_worth_23 (by decide) (fun c10 => ?_) (fun c10 => ?_)
      · replace hf := hif_p c10 hf
        refine h_sub (lv2 := []) [] rfl ?_
        exact hk0 S hf
      · replace hf := hif_n c10 hf
        refine h_aload_n dX4_worth_26 rfl 0 rfl ?_
        obtain ⟨t11, h12, hf⟩ := hbd_s hf
        refine h_getR h12 rfl (Nat.le_of_ble_eq_true rfl) rfl q_673 rfl dX4_worth_27 ?_
        refine h_iload dX4_worth_30 5 rfl ?_
        obtain ⟨t13, h14, hf⟩ := hbd_s hf
        refine h_iald h14 dX4_worth_32 ?_
        refine h_aload_n dX4_worth_33 rfl 0 rfl ?_
        obtain ⟨t15, h16, hf⟩ := hbd_s hf
        refine h_getR h16 rfl (Nat.le_of_ble_eq_true rfl) rfl q_674 rfl dX4_worth_34 ?_
        refine h_iload dX4_worth_37 5 rfl ?_
        obtain ⟨t17, h18, hf⟩ := hbd_s hf
        refine h_iald h18 dX4_worth_39 ?_
        refine h_icmp_eq (tgt := 69) dX4_worth_40 (by decide) (fun c19 => ?_) (fun c19 => ?_)
        · replace hf := hif_p c19 hf
          exact hk1 x4 x5 S hf
        · replace hf := hif_n c19 hf
          refine h_aload_n dX4_worth_43 rfl 0 rfl ?_
          refine h_aload_n dX4_worth_44 rfl 0 rfl ?_
          obtain ⟨t20, h21, hf⟩ := hbd_s hf
          refine h_getR h21 rfl (Nat.le_of_ble_eq_true rfl) rfl q_673 rfl dX4_worth_45 ?_
          refine h_iload dX4_worth_48 5 rfl ?_
          obtain ⟨t22, h23, hf⟩ := hbd_s hf
          refine h_iald h23 dX4_worth_50 ?_
          refine h_aload_n dX4_worth_51 rfl 0 rfl ?_
          obtain ⟨t24, h25, hf⟩ := hbd_s hf
          refine h_getR h25 rfl (Nat.le_of_ble_eq_true rfl) rfl q_674 rfl dX4_worth_52 ?_
          refine h_iload dX4_worth_55 5 rfl ?_
          obtain ⟨t26, h27, hf⟩ := hbd_s hf
          refine h_iald h27 dX4_worth_57 ?_
          refine h_aload_n dX4_worth_58 rfl 1 rfl ?_
          refine h_iload_n dX4_worth_59 rfl 2 rfl ?_
          refine h_iload_n dX4_worth_60 rfl 3 rfl ?_
          obtain ⟨g36, hf⟩ := hck_s hf
          obtain ⟨t30, S29, h28, hf⟩ := hb2_s hf
          refine h_Vl [.int t22, .int t26, .ref x1, .int x2, .int x3] (rest := []) (m_X4_reckon (d := 2) (cs := cs) (Nat.le_refl _) h28) v_X4_reckon q_772 rfl (Nat.le_trans (by decide) hd) g36 rfl rfl (Nat.le_of_ble_eq_true rfl) dX4_worth_61 (Nat.le_refl _) (Nat.le_refl _) ?_
          refine h_lconst (v := 0) dX4_worth_64 rfl ?_
          refine h_lcmp dX4_worth_65 ?_
          refine h_if_eq (tgt := 86) dX4_worth_66 (by decide) (fun c31 => ?_) (fun c31 => ?_)
          · replace hf := hif_p c31 hf
            refine h_aload_n dX4_worth_86 rfl 0 rfl ?_
            obtain ⟨t32, h33, hf⟩ := hbd_s hf
            refine h_getR h33 rfl (Nat.le_of_ble_eq_true rfl) rfl q_674 rfl dX4_worth_87 ?_
            refine h_iload dX4_worth_90 5 rfl ?_
            obtain ⟨t34, h35, hf⟩ := hbd_s hf
            refine h_iald h35 dX4_worth_92 ?_
            refine h_istore (lv2 := [(4, .int t34), (0, .ref x0), (1, .ref x1), (2, .int x2), (3, .int x3), (5, .int x5)]) dX4_worth_93 (Nat.le_of_ble_eq_true rfl) rfl ?_
            refine h_iinc (q := 5) (v := x5 + 1) (lv2 := [(5, .int (x5 + 1)), (4, .int t34), (0, .ref x0), (1, .ref x1), (2, .int x2), (3, .int x3)]) dX4_worth_95 rfl rfl (Nat.le_of_ble_eq_true rfl) rfl ?_
            refine h_goto (tgt := 6) dX4_worth_98 (by decide) ?_
            refine h_sub (lv2 := [(0, .ref x0), (1, .ref x1), (2, .int x2), (3, .int x3), (4, .int t34), (5, .int (x5 + 1))]) [2, 3, 4, 5, 1, 0] rfl ?_
            exact ih x0 x1 x2 x3 t34 (x5 + 1) S29 k0 k1  hf hk0 hk1
          · replace hf := hif_n c31 hf
            exact hk1 x4 x5 S29 hf
set_option maxRecDepth 100000 in
set_option maxHeartbeats 4000000 in
theorem m_X4_worth {d : Nat} {cs : Nat → Nat} {a0 : Nat} {a1 : Nat} {a2 : Int32} {a3 : Int32} {S : hS} {r : Int64 × hS} (hd : 3 ≤ d) (hf : f_X4_worth a0 a1 a2 a3 S = some r) : HM yX4_worth cX4_worth 6 (some .long) d 0 0 cs [.ref a0, .ref a1, .int a2, .int a3] S (some (.long r.1)) r.2 := by
  unfold f_X4_worth at hf
  refine HM.ofHW false (by decide) (fun h => by cases h) (Nat.le_of_ble_eq_true rfl) ?_
  show HW cX4_worth RX4 (x_X4_worth d S [.ref a0, .ref a1, .int a2, .int a3] r cs) 0 0 S 0 [(0, .ref a0), (1, .ref a1), (2, .int a2), (3, .int a3)] []
  refine h_iconst (v := 0) dX4_worth_0 rfl ?_
  refine h_istore (lv2 := [(4, .int 0), (0, .ref a0), (1, .ref a1), (2, .int a2), (3, .int a3)]) dX4_worth_1 (Nat.le_of_ble_eq_true rfl) rfl ?_
  refine h_iconst (v := 0) dX4_worth_3 rfl ?_
  refine h_istore (lv2 := [(5, .int 0), (4, .int 0), (0, .ref a0), (1, .ref a1), (2, .int a2), (3, .int a3)]) dX4_worth_4 (Nat.le_of_ble_eq_true rfl) rfl ?_
  refine h_sub (lv2 := [(0, .ref a0), (1, .ref a1), (2, .int a2), (3, .int a3), (4, .int 0), (5, .int 0)]) [2, 3, 4, 5, 1, 0] rfl ?_
  refine w_X4_worth_L6 hd hfuel a0 a1 a2 a3 0 0 S _ _  hf ?_ ?_
  · intro S37 hf
    refine h_lconst (v := 0) dX4_worth_101 rfl ?_
    obtain rfl := Option.some.inj hf
    exact h_lret rfl rfl rfl (Nat.le_refl _) (Nat.le_refl _) dX4_worth_102
  · intro u38 u39 S40 hf
    refine h_aload_n dX4_worth_69 rfl 0 rfl ?_
    refine h_iload dX4_worth_70 4 rfl ?_
    refine h_aload_n dX4_worth_72 rfl 0 rfl ?_
    obtain ⟨t41, h42, hf⟩ := hbd_s hf
    refine h_getR h42 rfl (Nat.le_of_ble_eq_true rfl) rfl q_673 rfl dX4_worth_73 ?_
    refine h_iload dX4_worth_76 5 rfl ?_
    obtain ⟨t43, h44, hf⟩ := hbd_s hf
    refine h_iald h44 dX4_worth_78 ?_
    refine h_aload_n dX4_worth_79 rfl 1 rfl ?_
    refine h_iload_n dX4_worth_80 rfl 2 rfl ?_
    refine h_iload_n dX4_worth_81 rfl 3 rfl ?_
    obtain ⟨g48, hf⟩ := hck_s hf
    obtain ⟨t47, S46, h45, hf⟩ := hb2_s hf
    refine h_Vl [.int u38, .int t43, .ref a1, .int a2, .int a3] (rest := []) (m_X4_reckon (d := 2) (cs := cs) (Nat.le_refl _) h45) v_X4_reckon q_772 rfl (Nat.le_trans (by decide) hd) g48 rfl rfl (Nat.le_of_ble_eq_true rfl) dX4_worth_82 (Nat.le_refl _) (Nat.le_refl _) ?_
    obtain rfl := Option.some.inj hf
    exact h_lret rfl rfl rfl (Nat.le_refl _) (Nat.le_refl _) dX4_worth_85
abbrev x_X5_readSign (d : Nat) (S0 : hS) (args : List Value) (r : Int32 × hS) (cs : Nat → Nat) : hX := (((some .int), 4, d, 0, 0, false), (S0, args, some (.int r.1), r.2), cs)
theorem v_X5_readSign : hVW yX5_readSign cX5_readSign 4 (some .int) RX5 0 := ⟨q_646, q_s19, q_7, q_647, by decide +kernel, by decide⟩
def f_X5_readSign (a0 : Nat) (S : hS) : Option (Int32 × hS) :=
  hbd (gR S a0 5 0) fun t1 =>
  hck (S.K t1 = 8) <|
  hb2 (f_X7_failed t1 S) fun t5 S4 =>
  if t5 = 0 then
    (hbd (gR S4 a0 5 0) fun t7 =>
     hck (S4.K t7 = 8) <|
     hb2 (f_X7_next t7 S4) fun t11 S10 =>
     hbd (gR S10 a0 5 0) fun t12 =>
     hbd (gI S10 t12 7 2) fun t14 =>
     hbd (gR S10 a0 5 0) fun t16 =>
     hck (S10.K t16 = 8) <|
     hb2 (f_X7_takesOneOf t16 6 S10) fun t20 S19 =>
     hj (γ := hS → Option (Int32 × hS)) (fun (S22 : hS) =>
       hck (S22.K a0 = 6) <|
       hbd (f_X5_countAt a0 t14 S22) fun S24 =>
       if t20 = 1 then
         (some ((-17), S24))
       else
         (hbd (gR S24 a0 5 0) fun t26 =>
          hck (S24.K t26 = 8) <|
          hb2 (f_X7_takes t26 61 S24) fun t30 S29 =>
          if t20 = 0 then
            (if t30 = 0 then
               (some ((-15), S29))
             else
               (some ((-16), S29)))
          else
            (if t30 = 0 then
               (some ((-19), S29))
             else
               (some ((-18), S29))))
       ) fun J21 =>
     if t20 = (-1) then
       (hbd (gR S19 a0 5 0) fun t37 =>
        hck (S19.K t37 = 8) <|
        hbd (f_X7_fail t37 0 t14 S19) fun S40 =>
        J21 S40)
     else
       (J21 S19))
  else
    (some ((-1), S4))
set_option maxRecDepth 100000 in
set_option maxHeartbeats 4000000 in
theorem m_X5_readSign {d : Nat} {cs : Nat → Nat} {a0 : Nat} {S : hS} {r : Int32 × hS} (hd : 6 ≤ d) (hf : f_X5_readSign a0 S = some r) : HM yX5_readSign cX5_readSign 4 (some .int) d 0 0 cs [.ref a0] S (some (.int r.1)) r.2 := by
  unfold f_X5_readSign at hf
  refine HM.ofHW false (by decide) (fun h => by cases h) (Nat.le_of_ble_eq_true rfl) ?_
  show HW cX5_readSign RX5 (x_X5_readSign d S [.ref a0] r cs) 0 0 S 0 [(0, .ref a0)] []
  refine h_aload_n dX5_readSign_0 rfl 0 rfl ?_
  obtain ⟨t1, h2, hf⟩ := hbd_s hf
  refine h_getR h2 rfl (Nat.le_of_ble_eq_true rfl) rfl q_253 rfl dX5_readSign_1 ?_
  obtain ⟨g44, hf⟩ := hck_s hf
  obtain ⟨t5, S4, h3, hf⟩ := hb2_s hf
  refine h_Vi [] (rest := []) (m_X7_failed (d := 1) (cs := cs) (Nat.le_refl _) h3) v_X7_failed q_606 rfl (Nat.le_trans (by decide) hd) g44 rfl rfl (Nat.le_of_ble_eq_true rfl) dX5_readSign_4 (Nat.le_refl _) (Nat.le_refl _) ?_
  refine h_if_eq (tgt := 12) dX5_readSign_7 (by decide) (fun c6 => ?_) (fun c6 => ?_)
  · replace hf := hif_p c6 hf
    refine h_aload_n dX5_readSign_12 rfl 0 rfl ?_
    obtain ⟨t7, h8, hf⟩ := hbd_s hf
    refine h_getR h8 rfl (Nat.le_of_ble_eq_true rfl) rfl q_253 rfl dX5_readSign_13 ?_
    obtain ⟨g43, hf⟩ := hck_s hf
    obtain ⟨t11, S10, h9, hf⟩ := hb2_s hf
    refine h_Vi [] (rest := []) (m_X7_next (d := 1) (cs := cs) (Nat.le_refl _) h9) v_X7_next q_611 rfl (Nat.le_trans (by decide) hd) g43 rfl rfl (Nat.le_of_ble_eq_true rfl) dX5_readSign_16 (Nat.le_refl _) (Nat.le_refl _) ?_
    refine h_pop dX5_readSign_19 rfl ?_
    refine h_aload_n dX5_readSign_20 rfl 0 rfl ?_
    obtain ⟨t12, h13, hf⟩ := hbd_s hf
    refine h_getR h13 rfl (Nat.le_of_ble_eq_true rfl) rfl q_253 rfl dX5_readSign_21 ?_
    obtain ⟨t14, h15, hf⟩ := hbd_s hf
    refine h_getIN (host := "DeafSpot") h15 rfl (Nat.le_of_ble_eq_true rfl) rfl (List.mem_of_getElem? (i := 1) rfl) rfl dX5_readSign_24 ?_
    refine h_istore_n (lv2 := [(1, .int t14), (0, .ref a0)]) dX5_readSign_27 rfl (Nat.le_of_ble_eq_true rfl) rfl ?_
    refine h_aload_n dX5_readSign_28 rfl 1 rfl ?_
    obtain ⟨t16, h17, hf⟩ := hbd_s hf
    refine h_getR h17 rfl (Nat.le_of_ble_eq_true rfl) rfl q_253 rfl dX5_readSign_29 ?_
    refine h_ldcS dX5_readSign_32 (List.mem_of_getElem? (i := 6) rfl) ?_
    obtain ⟨g42, hf⟩ := hck_s hf
    obtain ⟨t20, S19, h18, hf⟩ := hb2_s hf
    refine h_Vi [.ref (cs 6)] (rest := []) (m_X7_takesOneOf (d := 5) (cs := cs) (Nat.le_refl _) h18) v_X7_takesOneOf q_624 rfl (Nat.le_trans (by decide) hd) g42 rfl rfl (Nat.le_of_ble_eq_true rfl) dX5_readSign_34 (Nat.le_refl _) (Nat.le_refl _) ?_
    refine h_istore_n (lv2 := [(2, .int t20), (1, .int t14), (0, .ref a0)]) dX5_readSign_37 rfl (Nat.le_of_ble_eq_true rfl) rfl ?_
    refine h_iload_n dX5_readSign_38 rfl 0 rfl ?_
    refine h_iconst (v := (-1)) dX5_readSign_39 rfl ?_
    refine hj_s (fun J21 => ∀ (S22 : hS), J21 S22 = some r → HW cX5_readSign RX5 (x_X5_readSign d S [.ref a0] r cs) 0 0 S22 52 [(0, .ref a0), (1, .int t14), (2, .int t20)] []) hf ?_ ?_
    · intro S22 hf
      refine h_aload_n dX5_readSign_52 rfl 0 rfl ?_
      refine h_iload_n dX5_readSign_53 rfl 1 rfl ?_
      obtain ⟨g35, hf⟩ := hck_s hf
      obtain ⟨S24, h23, hf⟩ := hbd_s hf
      refine h_Vv [.int t14] (rest := []) (m_X5_countAt (d := 2) (cs := cs) (Nat.le_refl _) h23) v_X5_countAt q_615 rfl (Nat.le_trans (by decide) hd) g35 rfl rfl (Nat.le_of_ble_eq_true rfl) dX5_readSign_54 (Nat.le_refl _) (Nat.le_refl _) ?_
      refine h_iload_n dX5_readSign_57 rfl 2 rfl ?_
      refine h_iconst (v := 1) dX5_readSign_58 rfl ?_
      refine h_icmp_ne (tgt := 65) dX5_readSign_59 (by decide) (fun c25 => ?_) (fun c25 => ?_)
      · replace hf := hif_n c25 hf
        refine h_aload_n dX5_readSign_65 rfl 0 rfl ?_
        obtain ⟨t26, h27, hf⟩ := hbd_s hf
        refine h_getR h27 rfl (Nat.le_of_ble_eq_true rfl) rfl q_253 rfl dX5_readSign_66 ?_
        refine h_bipush (v := 61) dX5_readSign_69 rfl ?_
        obtain ⟨g34, hf⟩ := hck_s hf
        obtain ⟨t30, S29, h28, hf⟩ := hb2_s hf
        refine h_Vi [.int 61] (rest := []) (m_X7_takes (d := 1) (cs := cs) (Nat.le_refl _) h28) v_X7_takes q_649 rfl (Nat.le_trans (by decide) hd) g34 rfl rfl (Nat.le_of_ble_eq_true rfl) dX5_readSign_71 (Nat.le_refl _) (Nat.le_refl _) ?_
        refine h_istore_n (lv2 := [(3, .int t30), (0, .ref a0), (1, .int t14), (2, .int t20)]) dX5_readSign_74 rfl (Nat.le_of_ble_eq_true rfl) rfl ?_
        refine h_iload_n dX5_readSign_75 rfl 3 rfl ?_
        refine h_if_ne (tgt := 91) dX5_readSign_76 (by decide) (fun c31 => ?_) (fun c31 => ?_)
        · replace hf := hif_n c31 hf
          refine h_iload_n dX5_readSign_91 rfl 0 rfl ?_
          refine h_if_eq (tgt := 100) dX5_readSign_92 (by decide) (fun c32 => ?_) (fun c32 => ?_)
          · replace hf := hif_p c32 hf
            refine h_bipush (v := (-19)) dX5_readSign_100 rfl ?_
            obtain rfl := Option.some.inj hf
            exact h_iret rfl rfl rfl (Nat.le_refl _) (Nat.le_refl _) dX5_readSign_102
          · replace hf := hif_n c32 hf
            refine h_bipush (v := (-18)) dX5_readSign_95 rfl ?_
            refine h_goto (tgt := 102) dX5_readSign_97 (by decide) ?_
            obtain rfl := Option.some.inj hf
            exact h_iret rfl rfl rfl (Nat.le_refl _) (Nat.le_refl _) dX5_readSign_102
        · replace hf := hif_p c31 hf
          refine h_iload_n dX5_readSign_79 rfl 0 rfl ?_
          refine h_if_eq (tgt := 88) dX5_readSign_80 (by decide) (fun c33 => ?_) (fun c33 => ?_)
          · replace hf := hif_p c33 hf
            refine h_bipush (v := (-15)) dX5_readSign_88 rfl ?_
            obtain rfl := Option.some.inj hf
            exact h_iret rfl rfl rfl (Nat.le_refl _) (Nat.le_refl _) dX5_readSign_90
          · replace hf := hif_n c33 hf
            refine h_bipush (v := (-16)) dX5_readSign_83 rfl ?_
            refine h_goto (tgt := 90) dX5_readSign_85 (by decide) ?_
            obtain rfl := Option.some.inj hf
            exact h_iret rfl rfl rfl (Nat.le_refl _) (Nat.le_refl _) dX5_readSign_90
      · replace hf := hif_p c25 hf
        refine h_bipush (v := (-17)) dX5_readSign_62 rfl ?_
        obtain rfl := Option.some.inj hf
        exact h_iret rfl rfl rfl (Nat.le_refl _) (Nat.le_refl _) dX5_readSign_64
    · intro J21 hJ21 hf
      refine h_icmp_ne (tgt := 52) dX5_readSign_40 (by decide) (fun c36 => ?_) (fun c36 => ?_)
      · replace hf := hif_n c36 hf
        refine h_sub (lv2 := [(0, .ref a0), (1, .int t14), (2, .int t20)]) [2, 1, 0] rfl ?_
        exact hJ21 S19 hf
      · replace hf := hif_p c36 hf
        refine h_aload_n dX5_readSign_43 rfl 2 rfl ?_
        obtain ⟨t37, h38, hf⟩ := hbd_s hf
        refine h_getR h38 rfl (Nat.le_of_ble_eq_true rfl) rfl q_253 rfl dX5_readSign_44 ?_
        refine h_iconst (v := 0) dX5_readSign_47 rfl ?_
        refine h_iload_n dX5_readSign_48 rfl 1 rfl ?_
        obtain ⟨g41, hf⟩ := hck_s hf
        obtain ⟨S40, h39, hf⟩ := hbd_s hf
        refine h_Vv [.int 0, .int t14] (rest := []) (m_X7_fail (d := 1) (cs := cs) (Nat.le_refl _) h39) v_X7_fail q_600 rfl (Nat.le_trans (by decide) hd) g41 rfl rfl (Nat.le_of_ble_eq_true rfl) dX5_readSign_49 (Nat.le_refl _) (Nat.le_refl _) ?_
        refine h_sub (lv2 := [(0, .ref a0), (1, .int t14), (2, .int t20)]) [2, 1, 0] rfl ?_
        exact hJ21 S40 hf
  · replace hf := hif_n c6 hf
    refine h_iconst (v := (-1)) dX5_readSign_10 rfl ?_
    obtain rfl := Option.some.inj hf
    exact h_iret rfl rfl rfl (Nat.le_refl _) (Nat.le_refl _) dX5_readSign_11
abbrev x_X5_readValue (d : Nat) (S0 : hS) (args : List Value) (r : hS) (cs : Nat → Nat) : hX := ((none, 5, d, 0, 0, false), (S0, args, none, r), cs)
theorem v_X5_readValue : hVW yX5_readValue cX5_readValue 5 none RX5 0 := ⟨q_609, q_s14, q_7, q_610, by decide +kernel, by decide⟩
def f_X5_readValue (a0 : Nat) (S : hS) : Option (hS) :=
  hbd (gR S a0 5 0) fun t1 =>
  hck (S.K t1 = 8) <|
  hb2 (f_X7_next t1 S) fun t5 S4 =>
  hbd (gR S4 a0 5 0) fun t6 =>
  hbd (gI S4 t6 7 2) fun t8 =>
  hj (γ := Int32 → hS → Option (hS)) (fun (u11 : Int32) (S12 : hS) =>
    hck (S12.K a0 = 6) <|
    hbd (f_X5_countAt a0 t8 S12) fun S14 =>
    hck (S14.K a0 = 6) <|
    hbd (f_X5_emit a0 u11 S14) fun S16 =>
    some S16
    ) fun J10 =>
  hj (γ := Unit → Option (hS)) (fun (_ : Unit) =>
    hbd (gR S4 a0 5 0) fun t20 =>
    hck (S4.K t20 = 8) <|
    hb2 (f_X7_number t20 0 99999 S4) fun t24 S23 =>
    J10 t24 S23
    ) fun J19 =>
  if t5 < 97 then
    (J19 ())
  else
    (if 122 < t5 then
       (J19 ())
     else
       (hbd (gR S4 a0 5 0) fun t28 =>
        hck (S4.K t28 = 8) <|
        hb2 (f_X7_wordOf t28 2 S4) fun t32 S31 =>
        hj (γ := hS → Option (hS)) (fun (S34 : hS) =>
          hbd (gR S34 a0 5 0) fun t35 =>
          hck (S34.K t35 = 8) <|
          hbd (f_X7_skipWord t35 S34) fun S38 =>
          J10 ((-1) - t32) S38
          ) fun J33 =>
        if t32 = (-1) then
          (hbd (gR S31 a0 5 0) fun t41 =>
           hck (S31.K t41 = 8) <|
           hbd (f_X7_fail t41 0 t8 S31) fun S44 =>
           J33 S44)
        else
          (J33 S31)))
set_option maxRecDepth 100000 in
set_option maxHeartbeats 4000000 in
theorem m_X5_readValue {d : Nat} {cs : Nat → Nat} {a0 : Nat} {S : hS} {r : hS} (hd : 7 ≤ d) (hf : f_X5_readValue a0 S = some r) : HM yX5_readValue cX5_readValue 5 none d 0 0 cs [.ref a0] S (none) r := by
  unfold f_X5_readValue at hf
  refine HM.ofHW false (by decide) (fun h => by cases h) (Nat.le_of_ble_eq_true rfl) ?_
  show HW cX5_readValue RX5 (x_X5_readValue d S [.ref a0] r cs) 0 0 S 0 [(0, .ref a0)] []
  refine h_aload_n dX5_readValue_0 rfl 0 rfl ?_
  obtain ⟨t1, h2, hf⟩ := hbd_s hf
  refine h_getR h2 rfl (Nat.le_of_ble_eq_true rfl) rfl q_253 rfl dX5_readValue_1 ?_
  obtain ⟨g47, hf⟩ := hck_s hf
  obtain ⟨t5, S4, h3, hf⟩ := hb2_s hf
  refine h_Vi [] (rest := []) (m_X7_next (d := 1) (cs := cs) (Nat.le_refl _) h3) v_X7_next q_611 rfl (Nat.le_trans (by decide) hd) g47 rfl rfl (Nat.le_of_ble_eq_true rfl) dX5_readValue_4 (Nat.le_refl _) (Nat.le_refl _) ?_
  refine h_istore_n (lv2 := [(1, .int t5), (0, .ref a0)]) dX5_readValue_7 rfl (Nat.le_of_ble_eq_true rfl) rfl ?_
  refine h_aload_n dX5_readValue_8 rfl 1 rfl ?_
  obtain ⟨t6, h7, hf⟩ := hbd_s hf
  refine h_getR h7 rfl (Nat.le_of_ble_eq_true rfl) rfl q_253 rfl dX5_readValue_9 ?_
  obtain ⟨t8, h9, hf⟩ := hbd_s hf
  refine h_getIN (host := "DeafSpot") h9 rfl (Nat.le_of_ble_eq_true rfl) rfl (List.mem_of_getElem? (i := 1) rfl) rfl dX5_readValue_12 ?_
  refine h_istore_n (lv2 := [(2, .int t8), (1, .int t5), (0, .ref a0)]) dX5_readValue_15 rfl (Nat.le_of_ble_eq_true rfl) rfl ?_
  refine h_iconst (v := 0) dX5_readValue_16 rfl ?_
  refine h_istore_n (lv2 := [(3, .int 0), (2, .int t8), (1, .int t5), (0, .ref a0)]) dX5_readValue_17 rfl (Nat.le_of_ble_eq_true rfl) rfl ?_
  refine h_iload_n dX5_readValue_18 rfl 2 rfl ?_
  refine h_bipush (v := 97) dX5_readValue_19 rfl ?_
  refine hj_s (fun J10 => ∀ (u11 : Int32) (S12 : hS), J10 u11 S12 = some r → HW cX5_readValue RX5 (x_X5_readValue d S [.ref a0] r cs) 0 0 S12 82 [(0, .ref a0), (2, .int t8), (3, .int u11)] []) hf ?_ ?_
  · intro u11 S12 hf
    refine h_aload_n dX5_readValue_82 rfl 0 rfl ?_
    refine h_iload_n dX5_readValue_83 rfl 1 rfl ?_
    obtain ⟨g18, hf⟩ := hck_s hf
    obtain ⟨S14, h13, hf⟩ := hbd_s hf
    refine h_Vv [.int t8] (rest := []) (m_X5_countAt (d := 2) (cs := cs) (Nat.le_refl _) h13) v_X5_countAt q_615 rfl (Nat.le_trans (by decide) hd) g18 rfl rfl (Nat.le_of_ble_eq_true rfl) dX5_readValue_84 (Nat.le_refl _) (Nat.le_refl _) ?_
    refine h_aload_n dX5_readValue_87 rfl 0 rfl ?_
    refine h_iload_n dX5_readValue_88 rfl 2 rfl ?_
    obtain ⟨g17, hf⟩ := hck_s hf
    obtain ⟨S16, h15, hf⟩ := hbd_s hf
    refine h_Vv [.int u11] (rest := []) (m_X5_emit (d := 1) (cs := cs) (Nat.le_refl _) h15) v_X5_emit q_619 rfl (Nat.le_trans (by decide) hd) g17 rfl rfl (Nat.le_of_ble_eq_true rfl) dX5_readValue_89 (Nat.le_refl _) (Nat.le_refl _) ?_
    obtain rfl := Option.some.inj hf
    exact h_vret rfl rfl rfl (Nat.le_refl _) (Nat.le_refl _) dX5_readValue_92
  · intro J10 hJ10 hf
    refine hj_s (fun J19 => ∀ (w : Unit), J19 w = some r → HW cX5_readValue RX5 (x_X5_readValue d S [.ref a0] r cs) 0 0 S4 71 [(0, .ref a0), (2, .int t8)] []) hf ?_ ?_
    · intro w hf
      refine h_aload_n dX5_readValue_71 rfl 0 rfl ?_
      obtain ⟨t20, h21, hf⟩ := hbd_s hf
      refine h_getR h21 rfl (Nat.le_of_ble_eq_true rfl) rfl q_253 rfl dX5_readValue_72 ?_
      refine h_iconst (v := 0) dX5_readValue_75 rfl ?_
      refine h_ldc (v := 99999) dX5_readValue_76 q_613 ?_
      obtain ⟨g25, hf⟩ := hck_s hf
      obtain ⟨t24, S23, h22, hf⟩ := hb2_s hf
      refine h_Vi [.int 0, .int 99999] (rest := []) (m_X7_number (d := 2) (cs := cs) (Nat.le_refl _) h22) v_X7_number q_614 rfl (Nat.le_trans (by decide) hd) g25 rfl rfl (Nat.le_of_ble_eq_true rfl) dX5_readValue_78 (Nat.le_refl _) (Nat.le_refl _) ?_
      refine h_istore_n (lv2 := [(3, .int t24), (0, .ref a0), (2, .int t8)]) dX5_readValue_81 rfl (Nat.le_of_ble_eq_true rfl) rfl ?_
      refine h_sub (lv2 := [(0, .ref a0), (2, .int t8), (3, .int t24)]) [1, 2, 0] rfl ?_
      exact hJ10 t24 S23 hf
    · intro J19 hJ19 hf
      refine h_icmp_lt (tgt := 71) dX5_readValue_21 (by decide) (fun c26 => ?_) (fun c26 => ?_)
      · replace hf := hif_p c26 hf
        refine h_sub (lv2 := [(0, .ref a0), (2, .int t8)]) [3, 1] rfl ?_
        exact hJ19 () hf
      · replace hf := hif_n c26 hf
        refine h_iload_n dX5_readValue_24 rfl 2 rfl ?_
        refine h_bipush (v := 122) dX5_readValue_25 rfl ?_
        refine h_icmp_gt (tgt := 71) dX5_readValue_27 (by decide) (fun c27 => ?_) (fun c27 => ?_)
        · replace hf := hif_p c27 hf
          refine h_sub (lv2 := [(0, .ref a0), (2, .int t8)]) [3, 1] rfl ?_
          exact hJ19 () hf
        · replace hf := hif_n c27 hf
          refine h_aload_n dX5_readValue_30 rfl 3 rfl ?_
          obtain ⟨t28, h29, hf⟩ := hbd_s hf
          refine h_getR h29 rfl (Nat.le_of_ble_eq_true rfl) rfl q_253 rfl dX5_readValue_31 ?_
          refine h_ldcS dX5_readValue_34 (List.mem_of_getElem? (i := 2) rfl) ?_
          obtain ⟨g46, hf⟩ := hck_s hf
          obtain ⟨t32, S31, h30, hf⟩ := hb2_s hf
          refine h_Vi [.ref (cs 2)] (rest := []) (m_X7_wordOf (d := 6) (cs := cs) (Nat.le_refl _) h30) v_X7_wordOf q_599 rfl (Nat.le_trans (by decide) hd) g46 rfl rfl (Nat.le_of_ble_eq_true rfl) dX5_readValue_36 (Nat.le_refl _) (Nat.le_refl _) ?_
          refine h_istore (lv2 := [(4, .int t32), (3, .int 0), (2, .int t8), (1, .int t5), (0, .ref a0)]) dX5_readValue_39 (Nat.le_of_ble_eq_true rfl) rfl ?_
          refine h_iload dX5_readValue_41 0 rfl ?_
          refine h_iconst (v := (-1)) dX5_readValue_43 rfl ?_
          refine hj_s (fun J33 => ∀ (S34 : hS), J33 S34 = some r → HW cX5_readValue RX5 (x_X5_readValue d S [.ref a0] r cs) 0 0 S34 56 [(0, .ref a0), (2, .int t8), (4, .int t32)] []) hf ?_ ?_
          · intro S34 hf
            refine h_aload_n dX5_readValue_56 rfl 0 rfl ?_
            obtain ⟨t35, h36, hf⟩ := hbd_s hf
            refine h_getR h36 rfl (Nat.le_of_ble_eq_true rfl) rfl q_253 rfl dX5_readValue_57 ?_
            obtain ⟨g39, hf⟩ := hck_s hf
            obtain ⟨S38, h37, hf⟩ := hbd_s hf
            refine h_Vv [] (rest := []) (m_X7_skipWord (d := 2) (cs := cs) (Nat.le_refl _) h37) v_X7_skipWord q_601 rfl (Nat.le_trans (by decide) hd) g39 rfl rfl (Nat.le_of_ble_eq_true rfl) dX5_readValue_60 (Nat.le_refl _) (Nat.le_refl _) ?_
            refine h_iconst (v := (-1)) dX5_readValue_63 rfl ?_
            refine h_iload dX5_readValue_64 2 rfl ?_
            refine h_isub dX5_readValue_66 ?_
            refine h_istore_n (lv2 := [(3, .int ((-1) - t32)), (0, .ref a0), (2, .int t8), (4, .int t32)]) dX5_readValue_67 rfl (Nat.le_of_ble_eq_true rfl) rfl ?_
            refine h_goto (tgt := 82) dX5_readValue_68 (by decide) ?_
            refine h_sub (lv2 := [(0, .ref a0), (2, .int t8), (3, .int ((-1) - t32))]) [1, 2, 0] rfl ?_
            exact hJ10 ((-1) - t32) S38 hf
          · intro J33 hJ33 hf
            refine h_icmp_ne (tgt := 56) dX5_readValue_44 (by decide) (fun c40 => ?_) (fun c40 => ?_)
            · replace hf := hif_n c40 hf
              refine h_sub (lv2 := [(0, .ref a0), (2, .int t8), (4, .int t32)]) [4, 2, 0] rfl ?_
              exact hJ33 S31 hf
            · replace hf := hif_p c40 hf
              refine h_aload_n dX5_readValue_47 rfl 4 rfl ?_
              obtain ⟨t41, h42, hf⟩ := hbd_s hf
              refine h_getR h42 rfl (Nat.le_of_ble_eq_true rfl) rfl q_253 rfl dX5_readValue_48 ?_
              refine h_iconst (v := 0) dX5_readValue_51 rfl ?_
              refine h_iload_n dX5_readValue_52 rfl 2 rfl ?_
              obtain ⟨g45, hf⟩ := hck_s hf
              obtain ⟨S44, h43, hf⟩ := hbd_s hf
              refine h_Vv [.int 0, .int t8] (rest := []) (m_X7_fail (d := 1) (cs := cs) (Nat.le_refl _) h43) v_X7_fail q_600 rfl (Nat.le_trans (by decide) hd) g45 rfl rfl (Nat.le_of_ble_eq_true rfl) dX5_readValue_53 (Nat.le_refl _) (Nat.le_refl _) ?_
              refine h_sub (lv2 := [(0, .ref a0), (2, .int t8), (4, .int t32)]) [4, 2, 0] rfl ?_
              exact hJ33 S44 hf
abbrev x_X7_takesWord (d : Nat) (S0 : hS) (args : List Value) (r : Int32 × hS) (cs : Nat → Nat) : hX := (((some .boolean), 2, d, 0, 0, false), (S0, args, some (.int r.1), r.2), cs)
theorem v_X7_takesWord : hVW yX7_takesWord cX7_takesWord 2 (some .boolean) RX7 1 := ⟨q_630, q_631, q_2, q_632, by decide +kernel, by decide⟩
def f_X7_takesWord (a0 : Nat) (a1 : Nat) (S : hS) : Option (Int32 × hS) :=
  hck (S.K a0 = 8) <|
  hb2 (f_X7_wordOf a0 a1 S) fun t3 S2 =>
  if t3 = (-1) then
    (some (0, S2))
  else
    (hck (S2.K a0 = 8) <|
     hbd (f_X7_skipWord a0 S2) fun S6 =>
     some (1, S6))
set_option maxRecDepth 100000 in
set_option maxHeartbeats 4000000 in
theorem m_X7_takesWord {d : Nat} {cs : Nat → Nat} {a0 : Nat} {a1 : Nat} {S : hS} {r : Int32 × hS} (hd : 7 ≤ d) (hf : f_X7_takesWord a0 a1 S = some r) : HM yX7_takesWord cX7_takesWord 2 (some .boolean) d 0 0 cs [.ref a0, .ref (cs a1)] S (some (.int r.1)) r.2 := by
  unfold f_X7_takesWord at hf
  refine HM.ofHW false (by decide) (fun h => by cases h) (Nat.le_of_ble_eq_true rfl) ?_
  show HW cX7_takesWord RX7 (x_X7_takesWord d S [.ref a0, .ref (cs a1)] r cs) 0 0 S 0 [(0, .ref a0), (1, .ref (cs a1))] []
  refine h_aload_n dX7_takesWord_0 rfl 0 rfl ?_
  refine h_aload_n dX7_takesWord_1 rfl 1 rfl ?_
  obtain ⟨g8, hf⟩ := hck_s hf
  obtain ⟨t3, S2, h1, hf⟩ := hb2_s hf
  refine h_Vi [.ref (cs a1)] (rest := []) (m_X7_wordOf (d := 6) (cs := cs) (Nat.le_refl _) h1) v_X7_wordOf q_633 rfl (Nat.le_trans (by decide) hd) g8 rfl rfl (Nat.le_of_ble_eq_true rfl) dX7_takesWord_2 (Nat.le_refl _) (Nat.le_refl _) ?_
  refine h_iconst (v := (-1)) dX7_takesWord_5 rfl ?_
  refine h_icmp_ne (tgt := 11) dX7_takesWord_6 (by decide) (fun c4 => ?_) (fun c4 => ?_)
  · replace hf := hif_n c4 hf
    refine h_aload_n dX7_takesWord_11 rfl 0 rfl ?_
    obtain ⟨g7, hf⟩ := hck_s hf
    obtain ⟨S6, h5, hf⟩ := hbd_s hf
    refine h_Vv [] (rest := []) (m_X7_skipWord (d := 2) (cs := cs) (Nat.le_refl _) h5) v_X7_skipWord q_634 rfl (Nat.le_trans (by decide) hd) g7 rfl rfl (Nat.le_of_ble_eq_true rfl) dX7_takesWord_12 (Nat.le_refl _) (Nat.le_refl _) ?_
    refine h_iconst (v := 1) dX7_takesWord_15 rfl ?_
    obtain rfl := Option.some.inj hf
    exact h_zret rfl (by decide) rfl rfl (Nat.le_refl _) (Nat.le_refl _) dX7_takesWord_16
  · replace hf := hif_p c4 hf
    refine h_iconst (v := 0) dX7_takesWord_9 rfl ?_
    obtain rfl := Option.some.inj hf
    exact h_zret rfl (by decide) rfl rfl (Nat.le_refl _) (Nat.le_refl _) dX7_takesWord_10
abbrev x_X8_image (d : Nat) (S0 : hS) (args : List Value) (r : Int32 × hS) (cs : Nat → Nat) : hX := (((some .int), 3, d, 20, 1118, false), (S0, args, some (.int r.1), r.2), cs)
theorem v_X8_image : hVW yX8_image cX8_image 3 (some .int) RX8 1 := ⟨q_948, q_949, q_1, q_950, by decide +kernel, by decide⟩
def f_X8_image (a0 : Nat) (a1 : Int32) (S : hS) : Option (Int32 × hS) :=
  if a1 < 0 then
    (some ((-1), S))
  else
    (if a1 < 4 then
       (hbd (gR S a0 8 6) fun t3 =>
        hbd (gAR S t3 15 a1) fun t5 =>
        hj (γ := Nat → hS → Option (Int32 × hS)) (fun (u8 : Nat) (S9 : hS) =>
          hbd (gR S9 a0 8 3) fun t10 =>
          hck (S9.K u8 = 1) <|
          hbd (f_X0_copy u8 t10 S9) fun S13 =>
          hbd (gR S13 a0 8 3) fun t14 =>
          hbd (gI S13 t14 0 6) fun t16 =>
          some (t16, S13)
          ) fun J7 =>
        hnl t5 (
          hnw S 1 0 fun q21 S22 =>
          hbd (f_X0_init q21 S22) fun S25 =>
          hbd (gR S25 a0 8 6) fun t27 =>
          hbd (sAR S25 t27 15 1 a1 q21) fun S29 =>
          J7 q21 S29
          ) fun b19 =>
        J7 b19 S)
     else
       (some ((-1), S)))
set_option maxRecDepth 100000 in
set_option maxHeartbeats 4000000 in
theorem m_X8_image {d : Nat} {cs : Nat → Nat} {a0 : Nat} {a1 : Int32} {S : hS} {r : Int32 × hS} (hd : 4 ≤ d) (hf : f_X8_image a0 a1 S = some r) : HM yX8_image cX8_image 3 (some .int) d 20 1118 cs [.ref a0, .int a1] S (some (.int r.1)) r.2 := by
  unfold f_X8_image at hf
  refine HM.ofHW false (by decide) (fun h => by cases h) (Nat.le_of_ble_eq_true rfl) ?_
  show HW cX8_image RX8 (x_X8_image d S [.ref a0, .int a1] r cs) 0 0 S 0 [(0, .ref a0), (1, .int a1)] []
  refine h_iload_n dX8_image_0 rfl 1 rfl ?_
  refine h_if_lt (tgt := 9) dX8_image_1 (by decide) (fun c1 => ?_) (fun c1 => ?_)
  · replace hf := hif_p c1 hf
    refine h_iconst (v := (-1)) dX8_image_9 rfl ?_
    obtain rfl := Option.some.inj hf
    exact h_iret rfl rfl rfl (Nat.le_of_ble_eq_true rfl) (Nat.le_of_ble_eq_true rfl) dX8_image_10
  · replace hf := hif_n c1 hf
    refine h_iload_n dX8_image_4 rfl 1 rfl ?_
    refine h_iconst (v := 4) dX8_image_5 rfl ?_
    refine h_icmp_lt (tgt := 11) dX8_image_6 (by decide) (fun c2 => ?_) (fun c2 => ?_)
    · replace hf := hif_p c2 hf
      refine h_aload_n dX8_image_11 rfl 0 rfl ?_
      obtain ⟨t3, h4, hf⟩ := hbd_s hf
      refine h_getR h4 rfl (Nat.le_of_ble_eq_true rfl) rfl q_306 rfl dX8_image_12 ?_
      refine h_iload_n dX8_image_15 rfl 1 rfl ?_
      obtain ⟨t5, h6, hf⟩ := hbd_s hf
      refine h_aald15 h6 dX8_image_16 ?_
      refine h_astore_nV (lv2 := [(2, va_rf t5), (0, .ref a0), (1, .int a1)]) dX8_image_17 rfl (Nat.le_of_ble_eq_true rfl) rfl ?_
      refine h_aload_nV dX8_image_18 rfl 0 rfl ?_
      refine hj_s (fun J7 => ∀ (u8 : Nat) (S9 : hS), J7 u8 S9 = some r → HW cX8_image RX8 (x_X8_image d S [.ref a0, .int a1] r cs) 20 1118 S9 37 [(0, .ref a0), (2, .ref u8)] []) hf ?_ ?_
      · intro u8 S9 hf
        refine h_aload_n dX8_image_37 rfl 1 rfl ?_
        refine h_aload_n dX8_image_38 rfl 0 rfl ?_
        obtain ⟨t10, h11, hf⟩ := hbd_s hf
        refine h_getR h11 rfl (Nat.le_of_ble_eq_true rfl) rfl q_303 rfl dX8_image_39 ?_
        obtain ⟨g18, hf⟩ := hck_s hf
        obtain ⟨S13, h12, hf⟩ := hbd_s hf
        refine h_Vv [.ref t10] (rest := []) (m_X0_copy (d := 3) (cs := cs) (Nat.le_refl _) h12) v_X0_copy q_567 rfl (Nat.le_trans (by decide) hd) g18 rfl rfl (Nat.le_of_ble_eq_true rfl) dX8_image_42 (Nat.le_of_ble_eq_true rfl) (Nat.le_of_ble_eq_true rfl) ?_
        refine h_aload_n dX8_image_45 rfl 0 rfl ?_
        obtain ⟨t14, h15, hf⟩ := hbd_s hf
        refine h_getR h15 rfl (Nat.le_of_ble_eq_true rfl) rfl q_303 rfl dX8_image_46 ?_
        obtain ⟨t16, h17, hf⟩ := hbd_s hf
        refine h_getIN (host := "DeafSpot") h17 rfl (Nat.le_of_ble_eq_true rfl) rfl (List.mem_of_getElem? (i := 57) rfl) rfl dX8_image_49 ?_
        obtain rfl := Option.some.inj hf
        exact h_iret rfl rfl rfl (Nat.le_of_ble_eq_true rfl) (Nat.le_of_ble_eq_true rfl) dX8_image_52
      · intro J7 hJ7 hf
        refine h_ifnonnull (tgt := 37) dX8_image_19 (by decide) (fun c20 => ?_) (fun b19 c20 => ?_)
        · subst c20
          replace hf := hnl_N hf
          obtain ⟨q21, S22, h23, h24, hf⟩ := hnw_s hf
          refine h_new h23 h24 rfl q_52 q_53 q_3 dX8_image_22 (Nat.le_of_ble_eq_true rfl) (Nat.le_of_ble_eq_true rfl) ?_
          refine h_dup dX8_image_25 rfl ?_
          obtain ⟨S25, h26, hf⟩ := hbd_s hf
          refine h_callIN (host := "DeafSpot") [] (rest := [.ref q21]) (m_X0_init (d := 2) (cs := cs) (Nat.le_refl _) h26) (List.mem_of_getElem? (i := 1) rfl) v_X0_init.1 v_X0_init.2.1 v_X0_init.2.2.1 v_X0_init.2.2.2.1 v_X0_init.2.2.2.2.1 rfl (Nat.le_trans (by decide) hd) v_X0_init.2.2.2.2.2 rfl (Nat.le_of_ble_eq_true rfl) dX8_image_26 (Nat.le_of_ble_eq_true rfl) (Nat.le_of_ble_eq_true rfl) ?_
          refine h_astore_n (lv2 := [(2, .ref q21), (0, .ref a0), (1, .int a1)]) dX8_image_29 rfl (Nat.le_of_ble_eq_true rfl) rfl ?_
          refine h_aload_n dX8_image_30 rfl 1 rfl ?_
          obtain ⟨t27, h28, hf⟩ := hbd_s hf
          refine h_getR h28 rfl (Nat.le_of_ble_eq_true rfl) rfl q_306 rfl dX8_image_31 ?_
          refine h_iload_n dX8_image_34 rfl 2 rfl ?_
          refine h_aload_n dX8_image_35 rfl 0 rfl ?_
          obtain ⟨S29, h30, hf⟩ := hbd_s hf
          refine h_aast15 h30 dX8_image_36 ?_
          refine h_sub (lv2 := [(0, .ref a0), (2, .ref q21)]) [1, 0] rfl ?_
          exact hJ7 q21 S29 hf
        · subst c20
          replace hf := hnl_S hf
          show HW cX8_image RX8 (x_X8_image d S [.ref a0, .int a1] r cs) 0 0 S 37 [(2, .ref b19), (0, .ref a0), (1, .int a1)] []
          refine h_sub (lv2 := [(0, .ref a0), (2, .ref b19)]) [1, 0] rfl ?_
          refine h_wid (kc' := 20) (ks' := 1118) (Nat.le_of_ble_eq_true rfl) (Nat.le_of_ble_eq_true rfl) ?_
          exact hJ7 b19 S hf
    · replace hf := hif_n c2 hf
      refine h_iconst (v := (-1)) dX8_image_9 rfl ?_
      obtain rfl := Option.some.inj hf
      exact h_iret rfl rfl rfl (Nat.le_of_ble_eq_true rfl) (Nat.le_of_ble_eq_true rfl) dX8_image_10
abbrev x_X8_back (d : Nat) (S0 : hS) (args : List Value) (r : Int32 × hS) (cs : Nat → Nat) : hX := (((some .int), 3, d, 0, 0, false), (S0, args, some (.int r.1), r.2), cs)
theorem v_X8_back : hVW yX8_back cX8_back 3 (some .int) RX8 1 := ⟨q_952, q_953, q_1, q_954, by decide +kernel, by decide⟩
def f_X8_back (a0 : Nat) (a1 : Int32) (S : hS) : Option (Int32 × hS) :=
  if a1 < 0 then
    (some ((-1), S))
  else
    (if a1 < 4 then
       (hbd (gR S a0 8 6) fun t3 =>
        hbd (gAR S t3 15 a1) fun t5 =>
        hnl t5 (
          some ((-1), S)
          ) fun b7 =>
        hbd (gR S a0 8 9) fun t9 =>
        hck (S.K t9 = 2) <|
        hbd (f_X1_forget t9 S) fun S12 =>
        hbd (gR S12 a0 8 3) fun t13 =>
        hck (S12.K t13 = 1) <|
        hbd (f_X0_copy t13 b7 S12) fun S16 =>
        hbd (gR S16 a0 8 3) fun t17 =>
        hbd (gI S16 t17 0 6) fun t19 =>
        some (t19, S16))
     else
       (some ((-1), S)))
set_option maxRecDepth 100000 in
set_option maxHeartbeats 4000000 in
theorem m_X8_back {d : Nat} {cs : Nat → Nat} {a0 : Nat} {a1 : Int32} {S : hS} {r : Int32 × hS} (hd : 4 ≤ d) (hf : f_X8_back a0 a1 S = some r) : HM yX8_back cX8_back 3 (some .int) d 0 0 cs [.ref a0, .int a1] S (some (.int r.1)) r.2 := by
  unfold f_X8_back at hf
  refine HM.ofHW false (by decide) (fun h => by cases h) (Nat.le_of_ble_eq_true rfl) ?_
  show HW cX8_back RX8 (x_X8_back d S [.ref a0, .int a1] r cs) 0 0 S 0 [(0, .ref a0), (1, .int a1)] []
  refine h_iload_n dX8_back_0 rfl 1 rfl ?_
  refine h_if_lt (tgt := 9) dX8_back_1 (by decide) (fun c1 => ?_) (fun c1 => ?_)
  · replace hf := hif_p c1 hf
    refine h_iconst (v := (-1)) dX8_back_9 rfl ?_
    obtain rfl := Option.some.inj hf
    exact h_iret rfl rfl rfl (Nat.le_refl _) (Nat.le_refl _) dX8_back_10
  · replace hf := hif_n c1 hf
    refine h_iload_n dX8_back_4 rfl 1 rfl ?_
    refine h_iconst (v := 4) dX8_back_5 rfl ?_
    refine h_icmp_lt (tgt := 11) dX8_back_6 (by decide) (fun c2 => ?_) (fun c2 => ?_)
    · replace hf := hif_p c2 hf
      refine h_aload_n dX8_back_11 rfl 0 rfl ?_
      obtain ⟨t3, h4, hf⟩ := hbd_s hf
      refine h_getR h4 rfl (Nat.le_of_ble_eq_true rfl) rfl q_306 rfl dX8_back_12 ?_
      refine h_iload_n dX8_back_15 rfl 1 rfl ?_
      obtain ⟨t5, h6, hf⟩ := hbd_s hf
      refine h_aald15 h6 dX8_back_16 ?_
      refine h_astore_nV (lv2 := [(2, va_rf t5), (0, .ref a0), (1, .int a1)]) dX8_back_17 rfl (Nat.le_of_ble_eq_true rfl) rfl ?_
      refine h_aload_nV dX8_back_18 rfl 0 rfl ?_
      refine h_ifnonnull (tgt := 24) dX8_back_19 (by decide) (fun c8 => ?_) (fun b7 c8 => ?_)
      · subst c8
        replace hf := hnl_N hf
        refine h_iconst (v := (-1)) dX8_back_22 rfl ?_
        obtain rfl := Option.some.inj hf
        exact h_iret rfl rfl rfl (Nat.le_refl _) (Nat.le_refl _) dX8_back_23
      · subst c8
        replace hf := hnl_S hf
        show HW cX8_back RX8 (x_X8_back d S [.ref a0, .int a1] r cs) 0 0 S 24 [(2, .ref b7), (0, .ref a0), (1, .int a1)] []
        refine h_aload_n dX8_back_24 rfl 1 rfl ?_
        obtain ⟨t9, h10, hf⟩ := hbd_s hf
        refine h_getR h10 rfl (Nat.le_of_ble_eq_true rfl) rfl q_309 rfl dX8_back_25 ?_
        obtain ⟨g22, hf⟩ := hck_s hf
        obtain ⟨S12, h11, hf⟩ := hbd_s hf
        refine h_Vv [] (rest := []) (m_X1_forget (d := 1) (cs := cs) (Nat.le_refl _) h11) v_X1_forget q_563 rfl (Nat.le_trans (by decide) hd) g22 rfl rfl (Nat.le_of_ble_eq_true rfl) dX8_back_28 (Nat.le_refl _) (Nat.le_refl _) ?_
        refine h_aload_n dX8_back_31 rfl 1 rfl ?_
        obtain ⟨t13, h14, hf⟩ := hbd_s hf
        refine h_getR h14 rfl (Nat.le_of_ble_eq_true rfl) rfl q_303 rfl dX8_back_32 ?_
        refine h_aload_n dX8_back_35 rfl 0 rfl ?_
        obtain ⟨g21, hf⟩ := hck_s hf
        obtain ⟨S16, h15, hf⟩ := hbd_s hf
        refine h_Vv [.ref b7] (rest := []) (m_X0_copy (d := 3) (cs := cs) (Nat.le_refl _) h15) v_X0_copy q_567 rfl (Nat.le_trans (by decide) hd) g21 rfl rfl (Nat.le_of_ble_eq_true rfl) dX8_back_36 (Nat.le_refl _) (Nat.le_refl _) ?_
        refine h_aload_n dX8_back_39 rfl 1 rfl ?_
        obtain ⟨t17, h18, hf⟩ := hbd_s hf
        refine h_getR h18 rfl (Nat.le_of_ble_eq_true rfl) rfl q_303 rfl dX8_back_40 ?_
        obtain ⟨t19, h20, hf⟩ := hbd_s hf
        refine h_getIN (host := "DeafSpot") h20 rfl (Nat.le_of_ble_eq_true rfl) rfl (List.mem_of_getElem? (i := 57) rfl) rfl dX8_back_43 ?_
        obtain rfl := Option.some.inj hf
        exact h_iret rfl rfl rfl (Nat.le_refl _) (Nat.le_refl _) dX8_back_46
    · replace hf := hif_n c2 hf
      refine h_iconst (v := (-1)) dX8_back_9 rfl ?_
      obtain rfl := Option.some.inj hf
      exact h_iret rfl rfl rfl (Nat.le_refl _) (Nat.le_refl _) dX8_back_10
abbrev x_X0_wander (d : Nat) (S0 : hS) (args : List Value) (r : hS) (cs : Nat → Nat) : hX := ((none, 9, d, 0, 0, false), (S0, args, none, r), cs)
theorem v_X0_wander : hVW yX0_wander cX0_wander 9 none RX0 1 := ⟨q_766, q_s25, q_3, q_767, by decide +kernel, by decide⟩
def f_X0_wander_L19 : Nat → Nat → Nat → Int32 → Int64 → Int32 → hS → (Int32 → hS → Option (hS)) → Option (hS)
  | 0, _, _, _, _, _, _, _ => none
  | n + 1, x0, x1, x2, x3, x5, S, k0 =>
    if 5 ≤ x5 then
      (k0 x2 S)
    else
      (hbd (gR S x0 0 0) fun t2 =>
       hbd (gR S t2 6 7) fun t4 =>
       hbd (gI S x0 0 4) fun t6 =>
       hbd (gA S t4 12 ((t6 * 5) + x5)) fun t8 =>
       if t8 < 0 then
         (f_X0_wander_L19 n x0 x1 x2 x3 (x5 + 1) S k0)
       else
         (hck (S.K x1 = 5) <|
          hb2 (f_X4_worth x1 x0 t8 x5 S) fun t13 S12 =>
          if (lg_cmp t13 x3) ≤ 0 then
            (f_X0_wander_L19 n x0 x1 x2 x3 (x5 + 1) S12 k0)
          else
            (f_X0_wander_L19 n x0 x1 t8 t13 (x5 + 1) S12 k0)))
def f_X0_wander (a0 : Nat) (a1 : Nat) (S : hS) : Option (hS) :=
  hbd (gI S a0 0 4) fun t16 =>
  hbd (gI S a0 0 4) fun t18 =>
  hck (S.K a1 = 5) <|
  hb2 (f_X4_worth a1 a0 t18 0 S) fun t22 S21 =>
  f_X0_wander_L19 hfuel a0 a1 t16 t22 1 S21
    (fun u23 S24 =>
      hbd (gI S24 a0 0 4) fun t25 =>
      hbd (sI S24 a0 0 5 t25) fun S27 =>
      hbd (sI S27 a0 0 4 u23) fun S29 =>
      some S29
    )
set_option maxRecDepth 100000 in
set_option maxHeartbeats 4000000 in
theorem w_X0_wander_L19 {d : Nat} {S0 : hS} {args : List Value} {cs : Nat → Nat} {r : hS} (hd : 4 ≤ d) : ∀ (n : Nat) (x0 : Nat) (x1 : Nat) (x2 : Int32) (x3 : Int64) (x5 : Int32) (S : hS) (k0 : (Int32 → hS → Option (hS))) , f_X0_wander_L19 n x0 x1 x2 x3 x5 S k0 = some r → (∀ (y2 : Int32) (T : hS), k0 y2 T = some r → HW cX0_wander RX0 (x_X0_wander d S0 args r cs) 0 0 T 79 [(0, .ref x0), (2, .int y2)] []) → HW cX0_wander RX0 (x_X0_wander d S0 args r cs) 0 0 S 19 [(0, .ref x0), (1, .ref x1), (2, .int x2), (3, .long x3), (5, .int x5)] [] := by
  intro n
  induction n with
  | zero =>
    intro x0 x1 x2 x3 x5 S k0 hf
    cases hf
  | succ n ih =>
    intro x0 x1 x2 x3 x5 S k0 hf hk0
    rw [f_X0_wander_L19] at hf
    refine h_iload dX0_wander_19 4 rfl ?_
    refine h_iconst (v := 5) dX0_wander_21 rfl ?_
    refine h_icmp_ge (tgt := 79) dX0_wander_22 (by decide) (fun c1 => ?_) (fun c1 => ?_)
    · replace hf := hif_p c1 hf
      refine h_sub (lv2 := [(0, .ref x0), (2, .int x2)]) [0, 2] rfl ?_
      exact hk0 x2 S hf
    · replace hf := hif_n c1 hf
      refine h_aload_n dX0_wander_25 rfl 0 rfl ?_
      obtain ⟨t2, h3, hf⟩ := hbd_s hf
      refine h_getR h3 rfl (Nat.le_of_ble_eq_true rfl) rfl q_180 rfl dX0_wander_26 ?_
      obtain ⟨t4, h5, hf⟩ := hbd_s hf
      refine h_getRN (host := "DeafSpot") h5 rfl (Nat.le_of_ble_eq_true rfl) rfl (List.mem_of_getElem? (i := 21) rfl) rfl dX0_wander_29 ?_
      refine h_aload_n dX0_wander_32 rfl 0 rfl ?_
      obtain ⟨t6, h7, hf⟩ := hbd_s hf
      refine h_getI h7 rfl (Nat.le_of_ble_eq_true rfl) rfl q_190 rfl dX0_wander_33 ?_
      refine h_iconst (v := 5) dX0_wander_36 rfl ?_
      refine h_imul dX0_wander_37 ?_
      refine h_iload dX0_wander_38 4 rfl ?_
      refine h_iadd dX0_wander_40 ?_
      obtain ⟨t8, h9, hf⟩ := hbd_s hf
      refine h_iald h9 dX0_wander_41 ?_
      refine h_istore (lv2 := [(6, .int t8), (0, .ref x0), (1, .ref x1), (2, .int x2), (3, .long x3), (5, .int x5)]) dX0_wander_42 (Nat.le_of_ble_eq_true rfl) rfl ?_
      refine h_iload dX0_wander_44 0 rfl ?_
      refine h_if_lt (tgt := 73) dX0_wander_46 (by decide) (fun c10 => ?_) (fun c10 => ?_)
      · replace hf := hif_p c10 hf
        refine h_iinc (q := 5) (v := x5 + 1) (lv2 := [(5, .int (x5 + 1)), (6, .int t8), (0, .ref x0), (1, .ref x1), (2, .int x2), (3, .long x3)]) dX0_wander_73 rfl rfl (Nat.le_of_ble_eq_true rfl) rfl ?_
        refine h_goto (tgt := 19) dX0_wander_76 (by decide) ?_
        refine h_sub (lv2 := [(0, .ref x0), (1, .ref x1), (2, .int x2), (3, .long x3), (5, .int (x5 + 1))]) [2, 3, 4, 5, 0] rfl ?_
        exact ih x0 x1 x2 x3 (x5 + 1) S k0  hf hk0
      · replace hf := hif_n c10 hf
        refine h_aload_n dX0_wander_49 rfl 2 rfl ?_
        refine h_aload_n dX0_wander_50 rfl 1 rfl ?_
        refine h_iload dX0_wander_51 0 rfl ?_
        refine h_iload dX0_wander_53 5 rfl ?_
        obtain ⟨g15, hf⟩ := hck_s hf
        obtain ⟨t13, S12, h11, hf⟩ := hb2_s hf
        refine h_Vl [.ref x0, .int t8, .int x5] (rest := []) (m_X4_worth (d := 3) (cs := cs) (Nat.le_refl _) h11) v_X4_worth q_768 rfl (Nat.le_trans (by decide) hd) g15 rfl rfl (Nat.le_of_ble_eq_true rfl) dX0_wander_55 (Nat.le_refl _) (Nat.le_refl _) ?_
        refine h_lstore (lv2 := [(7, .long t13), (6, .int t8), (0, .ref x0), (1, .ref x1), (2, .int x2), (3, .long x3), (5, .int x5)]) dX0_wander_58 (Nat.le_of_ble_eq_true rfl) rfl ?_
        refine h_lload dX0_wander_60 0 rfl ?_
        refine h_lload_n dX0_wander_62 rfl 5 rfl ?_
        refine h_lcmp dX0_wander_63 ?_
        refine h_if_le (tgt := 73) dX0_wander_64 (by decide) (fun c14 => ?_) (fun c14 => ?_)
        · replace hf := hif_p c14 hf
          refine h_iinc (q := 6) (v := x5 + 1) (lv2 := [(5, .int (x5 + 1)), (7, .long t13), (6, .int t8), (0, .ref x0), (1, .ref x1), (2, .int x2), (3, .long x3)]) dX0_wander_73 rfl rfl (Nat.le_of_ble_eq_true rfl) rfl ?_
          refine h_goto (tgt := 19) dX0_wander_76 (by decide) ?_
          refine h_sub (lv2 := [(0, .ref x0), (1, .ref x1), (2, .int x2), (3, .long x3), (5, .int (x5 + 1))]) [3, 4, 5, 6, 0] rfl ?_
          exact ih x0 x1 x2 x3 (x5 + 1) S12 k0  hf hk0
        · replace hf := hif_n c14 hf
          refine h_lload dX0_wander_67 0 rfl ?_
          refine h_lstore_n (lv2 := [(3, .long t13), (7, .long t13), (6, .int t8), (0, .ref x0), (1, .ref x1), (2, .int x2), (5, .int x5)]) dX0_wander_69 rfl (Nat.le_of_ble_eq_true rfl) rfl ?_
          refine h_iload dX0_wander_70 2 rfl ?_
          refine h_istore_n (lv2 := [(2, .int t8), (3, .long t13), (7, .long t13), (6, .int t8), (0, .ref x0), (1, .ref x1), (5, .int x5)]) dX0_wander_72 rfl (Nat.le_of_ble_eq_true rfl) rfl ?_
          refine h_iinc (q := 6) (v := x5 + 1) (lv2 := [(5, .int (x5 + 1)), (2, .int t8), (3, .long t13), (7, .long t13), (6, .int t8), (0, .ref x0), (1, .ref x1)]) dX0_wander_73 rfl rfl (Nat.le_of_ble_eq_true rfl) rfl ?_
          refine h_goto (tgt := 19) dX0_wander_76 (by decide) ?_
          refine h_sub (lv2 := [(0, .ref x0), (1, .ref x1), (2, .int t8), (3, .long t13), (5, .int (x5 + 1))]) [5, 6, 1, 2, 0] rfl ?_
          exact ih x0 x1 t8 t13 (x5 + 1) S12 k0  hf hk0
set_option maxRecDepth 100000 in
set_option maxHeartbeats 4000000 in
theorem m_X0_wander {d : Nat} {cs : Nat → Nat} {a0 : Nat} {a1 : Nat} {S : hS} {r : hS} (hd : 4 ≤ d) (hf : f_X0_wander a0 a1 S = some r) : HM yX0_wander cX0_wander 9 none d 0 0 cs [.ref a0, .ref a1] S (none) r := by
  unfold f_X0_wander at hf
  refine HM.ofHW false (by decide) (fun h => by cases h) (Nat.le_of_ble_eq_true rfl) ?_
  show HW cX0_wander RX0 (x_X0_wander d S [.ref a0, .ref a1] r cs) 0 0 S 0 [(0, .ref a0), (1, .ref a1)] []
  refine h_aload_n dX0_wander_0 rfl 0 rfl ?_
  obtain ⟨t16, h17, hf⟩ := hbd_s hf
  refine h_getI h17 rfl (Nat.le_of_ble_eq_true rfl) rfl q_190 rfl dX0_wander_1 ?_
  refine h_istore_n (lv2 := [(2, .int t16), (0, .ref a0), (1, .ref a1)]) dX0_wander_4 rfl (Nat.le_of_ble_eq_true rfl) rfl ?_
  refine h_aload_n dX0_wander_5 rfl 2 rfl ?_
  refine h_aload_n dX0_wander_6 rfl 1 rfl ?_
  refine h_aload_n dX0_wander_7 rfl 1 rfl ?_
  obtain ⟨t18, h19, hf⟩ := hbd_s hf
  refine h_getI h19 rfl (Nat.le_of_ble_eq_true rfl) rfl q_190 rfl dX0_wander_8 ?_
  refine h_iconst (v := 0) dX0_wander_11 rfl ?_
  obtain ⟨g31, hf⟩ := hck_s hf
  obtain ⟨t22, S21, h20, hf⟩ := hb2_s hf
  refine h_Vl [.ref a0, .int t18, .int 0] (rest := []) (m_X4_worth (d := 3) (cs := cs) (Nat.le_refl _) h20) v_X4_worth q_768 rfl (Nat.le_trans (by decide) hd) g31 rfl rfl (Nat.le_of_ble_eq_true rfl) dX0_wander_12 (Nat.le_refl _) (Nat.le_refl _) ?_
  refine h_lstore_n (lv2 := [(3, .long t22), (2, .int t16), (0, .ref a0), (1, .ref a1)]) dX0_wander_15 rfl (Nat.le_of_ble_eq_true rfl) rfl ?_
  refine h_iconst (v := 1) dX0_wander_16 rfl ?_
  refine h_istore (lv2 := [(5, .int 1), (3, .long t22), (2, .int t16), (0, .ref a0), (1, .ref a1)]) dX0_wander_17 (Nat.le_of_ble_eq_true rfl) rfl ?_
  refine h_sub (lv2 := [(0, .ref a0), (1, .ref a1), (2, .int t16), (3, .long t22), (5, .int 1)]) [3, 4, 2, 1, 0] rfl ?_
  refine w_X0_wander_L19 hd hfuel a0 a1 t16 t22 1 S21 _  hf ?_
  · intro u23 S24 hf
    refine h_aload_n dX0_wander_79 rfl 0 rfl ?_
    refine h_aload_n dX0_wander_80 rfl 0 rfl ?_
    obtain ⟨t25, h26, hf⟩ := hbd_s hf
    refine h_getI h26 rfl (Nat.le_of_ble_eq_true rfl) rfl q_190 rfl dX0_wander_81 ?_
    obtain ⟨S27, h28, hf⟩ := hbd_s hf
    refine h_putI h28 rfl (Nat.le_of_ble_eq_true rfl) rfl q_193 rfl rfl (by decide +kernel) dX0_wander_84 ?_
    refine h_aload_n dX0_wander_87 rfl 0 rfl ?_
    refine h_iload_n dX0_wander_88 rfl 1 rfl ?_
    obtain ⟨S29, h30, hf⟩ := hbd_s hf
    refine h_putI h30 rfl (Nat.le_of_ble_eq_true rfl) rfl q_190 rfl rfl (by decide +kernel) dX0_wander_89 ?_
    obtain rfl := Option.some.inj hf
    exact h_vret rfl rfl rfl (Nat.le_refl _) (Nat.le_refl _) dX0_wander_92
abbrev x_X3_readGuest (d : Nat) (S0 : hS) (args : List Value) (r : hS) (cs : Nat → Nat) : hX := ((none, 5, d, 0, 0, false), (S0, args, none, r), cs)
theorem v_X3_readGuest : hVW yX3_readGuest cX3_readGuest 5 none RX3 0 := ⟨q_493, q_s7, q_6, q_494, by decide +kernel, by decide⟩
def f_X3_readGuest (a0 : Nat) (S : hS) : Option (hS) :=
  hbd (gR S a0 3 0) fun t1 =>
  hck (S.K t1 = 8) <|
  hb2 (f_X7_next t1 S) fun t5 S4 =>
  hbd (gR S4 a0 3 0) fun t6 =>
  hbd (gI S4 t6 7 2) fun t8 =>
  hck (S4.K a0 = 4) <|
  hb2 (f_X3_readSeat a0 S4) fun t12 S11 =>
  hj (γ := hS → Option (hS)) (fun (S14 : hS) =>
    hck (S14.K a0 = 4) <|
    hb2 (f_X3_readNumber a0 0 99 S14) fun t17 S16 =>
    hck (S16.K a0 = 4) <|
    hb2 (f_X3_readNumber a0 0 9 S16) fun t20 S19 =>
    hbd (gR S19 a0 3 0) fun t21 =>
    hck (S19.K t21 = 8) <|
    hb2 (f_X7_failed t21 S19) fun t25 S24 =>
    if t25 = 0 then
      (hbd (gR S24 a0 3 1) fun t27 =>
       hbd (gR S24 t27 0 1) fun t29 =>
       hck (S24.K t29 = 3) <|
       hbd (f_X2_add t29 t12 t17 t20 S24) fun S32 =>
       some S32)
    else
      (some S24)
    ) fun J13 =>
  if t12 = (-1) then
    (J13 S11)
  else
    (hbd (gR S11 a0 3 1) fun t38 =>
     hbd (gR S11 t38 0 1) fun t40 =>
     hbd (gR S11 t40 2 5) fun t42 =>
     hbd (gA S11 t42 12 t12) fun t44 =>
     if t44 = (-1) then
       (J13 S11)
     else
       (hbd (gR S11 a0 3 0) fun t47 =>
        hck (S11.K t47 = 8) <|
        hbd (f_X7_fail t47 5 t8 S11) fun S50 =>
        J13 S50))
set_option maxRecDepth 100000 in
set_option maxHeartbeats 4000000 in
theorem m_X3_readGuest {d : Nat} {cs : Nat → Nat} {a0 : Nat} {S : hS} {r : hS} (hd : 5 ≤ d) (hf : f_X3_readGuest a0 S = some r) : HM yX3_readGuest cX3_readGuest 5 none d 0 0 cs [.ref a0] S (none) r := by
  unfold f_X3_readGuest at hf
  refine HM.ofHW false (by decide) (fun h => by cases h) (Nat.le_of_ble_eq_true rfl) ?_
  show HW cX3_readGuest RX3 (x_X3_readGuest d S [.ref a0] r cs) 0 0 S 0 [(0, .ref a0)] []
  refine h_aload_n dX3_readGuest_0 rfl 0 rfl ?_
  obtain ⟨t1, h2, hf⟩ := hbd_s hf
  refine h_getR h2 rfl (Nat.le_of_ble_eq_true rfl) rfl q_237 rfl dX3_readGuest_1 ?_
  obtain ⟨g53, hf⟩ := hck_s hf
  obtain ⟨t5, S4, h3, hf⟩ := hb2_s hf
  refine h_Vi [] (rest := []) (m_X7_next (d := 1) (cs := cs) (Nat.le_refl _) h3) v_X7_next q_495 rfl (Nat.le_trans (by decide) hd) g53 rfl rfl (Nat.le_of_ble_eq_true rfl) dX3_readGuest_4 (Nat.le_refl _) (Nat.le_refl _) ?_
  refine h_pop dX3_readGuest_7 rfl ?_
  refine h_aload_n dX3_readGuest_8 rfl 0 rfl ?_
  obtain ⟨t6, h7, hf⟩ := hbd_s hf
  refine h_getR h7 rfl (Nat.le_of_ble_eq_true rfl) rfl q_237 rfl dX3_readGuest_9 ?_
  obtain ⟨t8, h9, hf⟩ := hbd_s hf
  refine h_getIN (host := "DeafSpot") h9 rfl (Nat.le_of_ble_eq_true rfl) rfl (List.mem_of_getElem? (i := 2) rfl) rfl dX3_readGuest_12 ?_
  refine h_istore_n (lv2 := [(1, .int t8), (0, .ref a0)]) dX3_readGuest_15 rfl (Nat.le_of_ble_eq_true rfl) rfl ?_
  refine h_aload_n dX3_readGuest_16 rfl 1 rfl ?_
  obtain ⟨g52, hf⟩ := hck_s hf
  obtain ⟨t12, S11, h10, hf⟩ := hb2_s hf
  refine h_Vi [] (rest := []) (m_X3_readSeat (d := 4) (cs := cs) (Nat.le_refl _) h10) v_X3_readSeat q_496 rfl (Nat.le_trans (by decide) hd) g52 rfl rfl (Nat.le_of_ble_eq_true rfl) dX3_readGuest_17 (Nat.le_refl _) (Nat.le_refl _) ?_
  refine h_istore_n (lv2 := [(2, .int t12), (1, .int t8), (0, .ref a0)]) dX3_readGuest_20 rfl (Nat.le_of_ble_eq_true rfl) rfl ?_
  refine h_iload_n dX3_readGuest_21 rfl 0 rfl ?_
  refine h_iconst (v := (-1)) dX3_readGuest_22 rfl ?_
  refine hj_s (fun J13 => ∀ (S14 : hS), J13 S14 = some r → HW cX3_readGuest RX3 (x_X3_readGuest d S [.ref a0] r cs) 0 0 S14 51 [(0, .ref a0), (2, .int t12)] []) hf ?_ ?_
  · intro S14 hf
    refine h_aload_n dX3_readGuest_51 rfl 0 rfl ?_
    refine h_iconst (v := 0) dX3_readGuest_52 rfl ?_
    refine h_bipush (v := 99) dX3_readGuest_53 rfl ?_
    obtain ⟨g36, hf⟩ := hck_s hf
    obtain ⟨t17, S16, h15, hf⟩ := hb2_s hf
    refine h_Vi [.int 0, .int 99] (rest := []) (m_X3_readNumber (d := 3) (cs := cs) (Nat.le_refl _) h15) v_X3_readNumber q_472 rfl (Nat.le_trans (by decide) hd) g36 rfl rfl (Nat.le_of_ble_eq_true rfl) dX3_readGuest_55 (Nat.le_refl _) (Nat.le_refl _) ?_
    refine h_istore_n (lv2 := [(3, .int t17), (0, .ref a0), (2, .int t12)]) dX3_readGuest_58 rfl (Nat.le_of_ble_eq_true rfl) rfl ?_
    refine h_aload_n dX3_readGuest_59 rfl 1 rfl ?_
    refine h_iconst (v := 0) dX3_readGuest_60 rfl ?_
    refine h_bipush (v := 9) dX3_readGuest_61 rfl ?_
    obtain ⟨g35, hf⟩ := hck_s hf
    obtain ⟨t20, S19, h18, hf⟩ := hb2_s hf
    refine h_Vi [.int 0, .int 9] (rest := []) (m_X3_readNumber (d := 3) (cs := cs) (Nat.le_refl _) h18) v_X3_readNumber q_472 rfl (Nat.le_trans (by decide) hd) g35 rfl rfl (Nat.le_of_ble_eq_true rfl) dX3_readGuest_63 (Nat.le_refl _) (Nat.le_refl _) ?_
    refine h_istore (lv2 := [(4, .int t20), (3, .int t17), (0, .ref a0), (2, .int t12)]) dX3_readGuest_66 (Nat.le_of_ble_eq_true rfl) rfl ?_
    refine h_aload_n dX3_readGuest_68 rfl 2 rfl ?_
    obtain ⟨t21, h22, hf⟩ := hbd_s hf
    refine h_getR h22 rfl (Nat.le_of_ble_eq_true rfl) rfl q_237 rfl dX3_readGuest_69 ?_
    obtain ⟨g34, hf⟩ := hck_s hf
    obtain ⟨t25, S24, h23, hf⟩ := hb2_s hf
    refine h_Vi [] (rest := []) (m_X7_failed (d := 1) (cs := cs) (Nat.le_refl _) h23) v_X7_failed q_476 rfl (Nat.le_trans (by decide) hd) g34 rfl rfl (Nat.le_of_ble_eq_true rfl) dX3_readGuest_72 (Nat.le_refl _) (Nat.le_refl _) ?_
    refine h_if_ne (tgt := 92) dX3_readGuest_75 (by decide) (fun c26 => ?_) (fun c26 => ?_)
    · replace hf := hif_n c26 hf
      obtain rfl := Option.some.inj hf
      exact h_vret rfl rfl rfl (Nat.le_refl _) (Nat.le_refl _) dX3_readGuest_92
    · replace hf := hif_p c26 hf
      refine h_aload_n dX3_readGuest_78 rfl 2 rfl ?_
      obtain ⟨t27, h28, hf⟩ := hbd_s hf
      refine h_getR h28 rfl (Nat.le_of_ble_eq_true rfl) rfl q_238 rfl dX3_readGuest_79 ?_
      obtain ⟨t29, h30, hf⟩ := hbd_s hf
      refine h_getRN (host := "DeafSpot") h30 rfl (Nat.le_of_ble_eq_true rfl) rfl (List.mem_of_getElem? (i := 51) rfl) rfl dX3_readGuest_82 ?_
      refine h_iload_n dX3_readGuest_85 rfl 3 rfl ?_
      refine h_iload_n dX3_readGuest_86 rfl 1 rfl ?_
      refine h_iload dX3_readGuest_87 0 rfl ?_
      obtain ⟨g33, hf⟩ := hck_s hf
      obtain ⟨S32, h31, hf⟩ := hbd_s hf
      refine h_Vv [.int t12, .int t17, .int t20] (rest := []) (m_X2_add (d := 4) (cs := cs) (Nat.le_refl _) h31) v_X2_add q_501 rfl (Nat.le_trans (by decide) hd) g33 rfl rfl (Nat.le_of_ble_eq_true rfl) dX3_readGuest_89 (Nat.le_refl _) (Nat.le_refl _) ?_
      obtain rfl := Option.some.inj hf
      exact h_vret rfl rfl rfl (Nat.le_refl _) (Nat.le_refl _) dX3_readGuest_92
  · intro J13 hJ13 hf
    refine h_icmp_eq (tgt := 51) dX3_readGuest_23 (by decide) (fun c37 => ?_) (fun c37 => ?_)
    · replace hf := hif_p c37 hf
      refine h_sub (lv2 := [(0, .ref a0), (2, .int t12)]) [2, 0] rfl ?_
      exact hJ13 S11 hf
    · replace hf := hif_n c37 hf
      refine h_aload_n dX3_readGuest_26 rfl 2 rfl ?_
      obtain ⟨t38, h39, hf⟩ := hbd_s hf
      refine h_getR h39 rfl (Nat.le_of_ble_eq_true rfl) rfl q_238 rfl dX3_readGuest_27 ?_
      obtain ⟨t40, h41, hf⟩ := hbd_s hf
      refine h_getRN (host := "DeafSpot") h41 rfl (Nat.le_of_ble_eq_true rfl) rfl (List.mem_of_getElem? (i := 51) rfl) rfl dX3_readGuest_30 ?_
      obtain ⟨t42, h43, hf⟩ := hbd_s hf
      refine h_getRN (host := "DeafSpot") h43 rfl (Nat.le_of_ble_eq_true rfl) rfl (List.mem_of_getElem? (i := 46) rfl) rfl dX3_readGuest_33 ?_
      refine h_iload_n dX3_readGuest_36 rfl 0 rfl ?_
      obtain ⟨t44, h45, hf⟩ := hbd_s hf
      refine h_iald h45 dX3_readGuest_37 ?_
      refine h_iconst (v := (-1)) dX3_readGuest_38 rfl ?_
      refine h_icmp_eq (tgt := 51) dX3_readGuest_39 (by decide) (fun c46 => ?_) (fun c46 => ?_)
      · replace hf := hif_p c46 hf
        refine h_sub (lv2 := [(0, .ref a0), (2, .int t12)]) [2, 0] rfl ?_
        exact hJ13 S11 hf
      · replace hf := hif_n c46 hf
        refine h_aload_n dX3_readGuest_42 rfl 2 rfl ?_
        obtain ⟨t47, h48, hf⟩ := hbd_s hf
        refine h_getR h48 rfl (Nat.le_of_ble_eq_true rfl) rfl q_237 rfl dX3_readGuest_43 ?_
        refine h_iconst (v := 5) dX3_readGuest_46 rfl ?_
        refine h_iload_n dX3_readGuest_47 rfl 1 rfl ?_
        obtain ⟨g51, hf⟩ := hck_s hf
        obtain ⟨S50, h49, hf⟩ := hbd_s hf
        refine h_Vv [.int 5, .int t8] (rest := []) (m_X7_fail (d := 1) (cs := cs) (Nat.le_refl _) h49) v_X7_fail q_451 rfl (Nat.le_trans (by decide) hd) g51 rfl rfl (Nat.le_of_ble_eq_true rfl) dX3_readGuest_48 (Nat.le_refl _) (Nat.le_refl _) ?_
        refine h_sub (lv2 := [(0, .ref a0), (2, .int t12)]) [2, 0] rfl ?_
        exact hJ13 S50 hf
abbrev x_X3_readFan (d : Nat) (S0 : hS) (args : List Value) (r : hS) (cs : Nat → Nat) : hX := ((none, 4, d, 0, 0, false), (S0, args, none, r), cs)
theorem v_X3_readFan : hVW yX3_readFan cX3_readFan 4 none RX3 0 := ⟨q_523, q_s9, q_6, q_524, by decide +kernel, by decide⟩
def f_X3_readFan (a0 : Nat) (S : hS) : Option (hS) :=
  hck (S.K a0 = 4) <|
  hb2 (f_X3_readSeat a0 S) fun t3 S2 =>
  hck (S2.K a0 = 4) <|
  hb2 (f_X3_readNumber a0 1 4 S2) fun t6 S5 =>
  hck (S5.K a0 = 4) <|
  hb2 (f_X3_readNumber a0 1 99 S5) fun t9 S8 =>
  hbd (gR S8 a0 3 0) fun t10 =>
  hck (S8.K t10 = 8) <|
  hb2 (f_X7_failed t10 S8) fun t14 S13 =>
  if t14 = 0 then
    (hbd (gR S13 a0 3 1) fun t16 =>
     hbd (gR S13 t16 0 0) fun t18 =>
     hck (S13.K t18 = 7) <|
     hbd (f_X6_addFan t18 t3 t6 t9 S13) fun S21 =>
     some S21)
  else
    (some S13)
set_option maxRecDepth 100000 in
set_option maxHeartbeats 4000000 in
theorem m_X3_readFan {d : Nat} {cs : Nat → Nat} {a0 : Nat} {S : hS} {r : hS} (hd : 5 ≤ d) (hf : f_X3_readFan a0 S = some r) : HM yX3_readFan cX3_readFan 4 none d 0 0 cs [.ref a0] S (none) r := by
  unfold f_X3_readFan at hf
  refine HM.ofHW false (by decide) (fun h => by cases h) (Nat.le_of_ble_eq_true rfl) ?_
  show HW cX3_readFan RX3 (x_X3_readFan d S [.ref a0] r cs) 0 0 S 0 [(0, .ref a0)] []
  refine h_aload_n dX3_readFan_0 rfl 0 rfl ?_
  obtain ⟨g26, hf⟩ := hck_s hf
  obtain ⟨t3, S2, h1, hf⟩ := hb2_s hf
  refine h_Vi [] (rest := []) (m_X3_readSeat (d := 4) (cs := cs) (Nat.le_refl _) h1) v_X3_readSeat q_496 rfl (Nat.le_trans (by decide) hd) g26 rfl rfl (Nat.le_of_ble_eq_true rfl) dX3_readFan_1 (Nat.le_refl _) (Nat.le_refl _) ?_
  refine h_istore_n (lv2 := [(1, .int t3), (0, .ref a0)]) dX3_readFan_4 rfl (Nat.le_of_ble_eq_true rfl) rfl ?_
  refine h_aload_n dX3_readFan_5 rfl 1 rfl ?_
  refine h_iconst (v := 1) dX3_readFan_6 rfl ?_
  refine h_iconst (v := 4) dX3_readFan_7 rfl ?_
  obtain ⟨g25, hf⟩ := hck_s hf
  obtain ⟨t6, S5, h4, hf⟩ := hb2_s hf
  refine h_Vi [.int 1, .int 4] (rest := []) (m_X3_readNumber (d := 3) (cs := cs) (Nat.le_refl _) h4) v_X3_readNumber q_472 rfl (Nat.le_trans (by decide) hd) g25 rfl rfl (Nat.le_of_ble_eq_true rfl) dX3_readFan_8 (Nat.le_refl _) (Nat.le_refl _) ?_
  refine h_istore_n (lv2 := [(2, .int t6), (1, .int t3), (0, .ref a0)]) dX3_readFan_11 rfl (Nat.le_of_ble_eq_true rfl) rfl ?_
  refine h_aload_n dX3_readFan_12 rfl 2 rfl ?_
  refine h_iconst (v := 1) dX3_readFan_13 rfl ?_
  refine h_bipush (v := 99) dX3_readFan_14 rfl ?_
  obtain ⟨g24, hf⟩ := hck_s hf
  obtain ⟨t9, S8, h7, hf⟩ := hb2_s hf
  refine h_Vi [.int 1, .int 99] (rest := []) (m_X3_readNumber (d := 3) (cs := cs) (Nat.le_refl _) h7) v_X3_readNumber q_472 rfl (Nat.le_trans (by decide) hd) g24 rfl rfl (Nat.le_of_ble_eq_true rfl) dX3_readFan_16 (Nat.le_refl _) (Nat.le_refl _) ?_
  refine h_istore_n (lv2 := [(3, .int t9), (2, .int t6), (1, .int t3), (0, .ref a0)]) dX3_readFan_19 rfl (Nat.le_of_ble_eq_true rfl) rfl ?_
  refine h_aload_n dX3_readFan_20 rfl 3 rfl ?_
  obtain ⟨t10, h11, hf⟩ := hbd_s hf
  refine h_getR h11 rfl (Nat.le_of_ble_eq_true rfl) rfl q_237 rfl dX3_readFan_21 ?_
  obtain ⟨g23, hf⟩ := hck_s hf
  obtain ⟨t14, S13, h12, hf⟩ := hb2_s hf
  refine h_Vi [] (rest := []) (m_X7_failed (d := 1) (cs := cs) (Nat.le_refl _) h12) v_X7_failed q_476 rfl (Nat.le_trans (by decide) hd) g23 rfl rfl (Nat.le_of_ble_eq_true rfl) dX3_readFan_24 (Nat.le_refl _) (Nat.le_refl _) ?_
  refine h_if_ne (tgt := 43) dX3_readFan_27 (by decide) (fun c15 => ?_) (fun c15 => ?_)
  · replace hf := hif_n c15 hf
    obtain rfl := Option.some.inj hf
    exact h_vret rfl rfl rfl (Nat.le_refl _) (Nat.le_refl _) dX3_readFan_43
  · replace hf := hif_p c15 hf
    refine h_aload_n dX3_readFan_30 rfl 3 rfl ?_
    obtain ⟨t16, h17, hf⟩ := hbd_s hf
    refine h_getR h17 rfl (Nat.le_of_ble_eq_true rfl) rfl q_238 rfl dX3_readFan_31 ?_
    obtain ⟨t18, h19, hf⟩ := hbd_s hf
    refine h_getRN (host := "DeafSpot") h19 rfl (Nat.le_of_ble_eq_true rfl) rfl (List.mem_of_getElem? (i := 49) rfl) rfl dX3_readFan_34 ?_
    refine h_iload_n dX3_readFan_37 rfl 2 rfl ?_
    refine h_iload_n dX3_readFan_38 rfl 1 rfl ?_
    refine h_iload_n dX3_readFan_39 rfl 0 rfl ?_
    obtain ⟨g22, hf⟩ := hck_s hf
    obtain ⟨S21, h20, hf⟩ := hbd_s hf
    refine h_Vv [.int t3, .int t6, .int t9] (rest := []) (m_X6_addFan (d := 1) (cs := cs) (Nat.le_refl _) h20) v_X6_addFan q_525 rfl (Nat.le_trans (by decide) hd) g22 rfl rfl (Nat.le_of_ble_eq_true rfl) dX3_readFan_40 (Nat.le_refl _) (Nat.le_refl _) ?_
    obtain rfl := Option.some.inj hf
    exact h_vret rfl rfl rfl (Nat.le_refl _) (Nat.le_refl _) dX3_readFan_43
abbrev x_X3_readSnow (d : Nat) (S0 : hS) (args : List Value) (r : hS) (cs : Nat → Nat) : hX := ((none, 3, d, 0, 0, false), (S0, args, none, r), cs)
theorem v_X3_readSnow : hVW yX3_readSnow cX3_readSnow 3 none RX3 0 := ⟨q_531, q_s10, q_6, q_532, by decide +kernel, by decide⟩
def f_X3_readSnow (a0 : Nat) (S : hS) : Option (hS) :=
  hck (S.K a0 = 4) <|
  hb2 (f_X3_readSeat a0 S) fun t3 S2 =>
  hck (S2.K a0 = 4) <|
  hb2 (f_X3_readNumber a0 1 99 S2) fun t6 S5 =>
  hbd (gR S5 a0 3 0) fun t7 =>
  hck (S5.K t7 = 8) <|
  hb2 (f_X7_failed t7 S5) fun t11 S10 =>
  if t11 = 0 then
    (hbd (gR S10 a0 3 1) fun t13 =>
     hbd (gR S10 t13 0 0) fun t15 =>
     hck (S10.K t15 = 7) <|
     hbd (f_X6_addSnow t15 t3 t6 S10) fun S18 =>
     some S18)
  else
    (some S10)
set_option maxRecDepth 100000 in
set_option maxHeartbeats 4000000 in
theorem m_X3_readSnow {d : Nat} {cs : Nat → Nat} {a0 : Nat} {S : hS} {r : hS} (hd : 5 ≤ d) (hf : f_X3_readSnow a0 S = some r) : HM yX3_readSnow cX3_readSnow 3 none d 0 0 cs [.ref a0] S (none) r := by
  unfold f_X3_readSnow at hf
  refine HM.ofHW false (by decide) (fun h => by cases h) (Nat.le_of_ble_eq_true rfl) ?_
  show HW cX3_readSnow RX3 (x_X3_readSnow d S [.ref a0] r cs) 0 0 S 0 [(0, .ref a0)] []
  refine h_aload_n dX3_readSnow_0 rfl 0 rfl ?_
  obtain ⟨g22, hf⟩ := hck_s hf
  obtain ⟨t3, S2, h1, hf⟩ := hb2_s hf
  refine h_Vi [] (rest := []) (m_X3_readSeat (d := 4) (cs := cs) (Nat.le_refl _) h1) v_X3_readSeat q_496 rfl (Nat.le_trans (by decide) hd) g22 rfl rfl (Nat.le_of_ble_eq_true rfl) dX3_readSnow_1 (Nat.le_refl _) (Nat.le_refl _) ?_
  refine h_istore_n (lv2 := [(1, .int t3), (0, .ref a0)]) dX3_readSnow_4 rfl (Nat.le_of_ble_eq_true rfl) rfl ?_
  refine h_aload_n dX3_readSnow_5 rfl 1 rfl ?_
  refine h_iconst (v := 1) dX3_readSnow_6 rfl ?_
  refine h_bipush (v := 99) dX3_readSnow_7 rfl ?_
  obtain ⟨g21, hf⟩ := hck_s hf
  obtain ⟨t6, S5, h4, hf⟩ := hb2_s hf
  refine h_Vi [.int 1, .int 99] (rest := []) (m_X3_readNumber (d := 3) (cs := cs) (Nat.le_refl _) h4) v_X3_readNumber q_472 rfl (Nat.le_trans (by decide) hd) g21 rfl rfl (Nat.le_of_ble_eq_true rfl) dX3_readSnow_9 (Nat.le_refl _) (Nat.le_refl _) ?_
  refine h_istore_n (lv2 := [(2, .int t6), (1, .int t3), (0, .ref a0)]) dX3_readSnow_12 rfl (Nat.le_of_ble_eq_true rfl) rfl ?_
  refine h_aload_n dX3_readSnow_13 rfl 2 rfl ?_
  obtain ⟨t7, h8, hf⟩ := hbd_s hf
  refine h_getR h8 rfl (Nat.le_of_ble_eq_true rfl) rfl q_237 rfl dX3_readSnow_14 ?_
  obtain ⟨g20, hf⟩ := hck_s hf
  obtain ⟨t11, S10, h9, hf⟩ := hb2_s hf
  refine h_Vi [] (rest := []) (m_X7_failed (d := 1) (cs := cs) (Nat.le_refl _) h9) v_X7_failed q_476 rfl (Nat.le_trans (by decide) hd) g20 rfl rfl (Nat.le_of_ble_eq_true rfl) dX3_readSnow_17 (Nat.le_refl _) (Nat.le_refl _) ?_
  refine h_if_ne (tgt := 35) dX3_readSnow_20 (by decide) (fun c12 => ?_) (fun c12 => ?_)
  · replace hf := hif_n c12 hf
    obtain rfl := Option.some.inj hf
    exact h_vret rfl rfl rfl (Nat.le_refl _) (Nat.le_refl _) dX3_readSnow_35
  · replace hf := hif_p c12 hf
    refine h_aload_n dX3_readSnow_23 rfl 2 rfl ?_
    obtain ⟨t13, h14, hf⟩ := hbd_s hf
    refine h_getR h14 rfl (Nat.le_of_ble_eq_true rfl) rfl q_238 rfl dX3_readSnow_24 ?_
    obtain ⟨t15, h16, hf⟩ := hbd_s hf
    refine h_getRN (host := "DeafSpot") h16 rfl (Nat.le_of_ble_eq_true rfl) rfl (List.mem_of_getElem? (i := 49) rfl) rfl dX3_readSnow_27 ?_
    refine h_iload_n dX3_readSnow_30 rfl 1 rfl ?_
    refine h_iload_n dX3_readSnow_31 rfl 0 rfl ?_
    obtain ⟨g19, hf⟩ := hck_s hf
    obtain ⟨S18, h17, hf⟩ := hbd_s hf
    refine h_Vv [.int t3, .int t6] (rest := []) (m_X6_addSnow (d := 1) (cs := cs) (Nat.le_refl _) h17) v_X6_addSnow q_533 rfl (Nat.le_trans (by decide) hd) g19 rfl rfl (Nat.le_of_ble_eq_true rfl) dX3_readSnow_32 (Nat.le_refl _) (Nat.le_refl _) ?_
    obtain rfl := Option.some.inj hf
    exact h_vret rfl rfl rfl (Nat.le_refl _) (Nat.le_refl _) dX3_readSnow_35
abbrev x_X3_readSpot (d : Nat) (S0 : hS) (args : List Value) (r : hS) (cs : Nat → Nat) : hX := ((none, 2, d, 0, 0, false), (S0, args, none, r), cs)
theorem v_X3_readSpot : hVW yX3_readSpot cX3_readSpot 2 none RX3 0 := ⟨q_539, q_s11, q_6, q_540, by decide +kernel, by decide⟩
def f_X3_readSpot (a0 : Nat) (S : hS) : Option (hS) :=
  hck (S.K a0 = 4) <|
  hb2 (f_X3_readSeat a0 S) fun t3 S2 =>
  hj (γ := hS → Option (hS)) (fun (S5 : hS) =>
    hbd (sZ S5 a0 3 2 1) fun S6 =>
    some S6
    ) fun J4 =>
  if t3 = (-1) then
    (J4 S2)
  else
    (hbd (gR S2 a0 3 1) fun t9 =>
     hbd (sI S2 t9 0 4 t3) fun S11 =>
     J4 S11)
set_option maxRecDepth 100000 in
set_option maxHeartbeats 4000000 in
theorem m_X3_readSpot {d : Nat} {cs : Nat → Nat} {a0 : Nat} {S : hS} {r : hS} (hd : 5 ≤ d) (hf : f_X3_readSpot a0 S = some r) : HM yX3_readSpot cX3_readSpot 2 none d 0 0 cs [.ref a0] S (none) r := by
  unfold f_X3_readSpot at hf
  refine HM.ofHW false (by decide) (fun h => by cases h) (Nat.le_of_ble_eq_true rfl) ?_
  show HW cX3_readSpot RX3 (x_X3_readSpot d S [.ref a0] r cs) 0 0 S 0 [(0, .ref a0)] []
  refine h_aload_n dX3_readSpot_0 rfl 0 rfl ?_
  obtain ⟨g13, hf⟩ := hck_s hf
  obtain ⟨t3, S2, h1, hf⟩ := hb2_s hf
  refine h_Vi [] (rest := []) (m_X3_readSeat (d := 4) (cs := cs) (Nat.le_refl _) h1) v_X3_readSeat q_496 rfl (Nat.le_trans (by decide) hd) g13 rfl rfl (Nat.le_of_ble_eq_true rfl) dX3_readSpot_1 (Nat.le_refl _) (Nat.le_refl _) ?_
  refine h_istore_n (lv2 := [(1, .int t3), (0, .ref a0)]) dX3_readSpot_4 rfl (Nat.le_of_ble_eq_true rfl) rfl ?_
  refine h_iload_n dX3_readSpot_5 rfl 0 rfl ?_
  refine h_iconst (v := (-1)) dX3_readSpot_6 rfl ?_
  refine hj_s (fun J4 => ∀ (S5 : hS), J4 S5 = some r → HW cX3_readSpot RX3 (x_X3_readSpot d S [.ref a0] r cs) 0 0 S5 18 [(0, .ref a0)] []) hf ?_ ?_
  · intro S5 hf
    refine h_aload_n dX3_readSpot_18 rfl 0 rfl ?_
    refine h_iconst (v := 1) dX3_readSpot_19 rfl ?_
    obtain ⟨S6, h7, hf⟩ := hbd_s hf
    refine h_putZ h7 rfl (Nat.le_of_ble_eq_true rfl) rfl q_239 rfl rfl (by decide +kernel) dX3_readSpot_20 ?_
    obtain rfl := Option.some.inj hf
    exact h_vret rfl rfl rfl (Nat.le_refl _) (Nat.le_refl _) dX3_readSpot_23
  · intro J4 hJ4 hf
    refine h_icmp_eq (tgt := 18) dX3_readSpot_7 (by decide) (fun c8 => ?_) (fun c8 => ?_)
    · replace hf := hif_p c8 hf
      refine h_sub (lv2 := [(0, .ref a0)]) [1] rfl ?_
      exact hJ4 S2 hf
    · replace hf := hif_n c8 hf
      refine h_aload_n dX3_readSpot_10 rfl 1 rfl ?_
      obtain ⟨t9, h10, hf⟩ := hbd_s hf
      refine h_getR h10 rfl (Nat.le_of_ble_eq_true rfl) rfl q_238 rfl dX3_readSpot_11 ?_
      refine h_iload_n dX3_readSpot_14 rfl 0 rfl ?_
      obtain ⟨S11, h12, hf⟩ := hbd_s hf
      refine h_putIN (host := "DeafSpot") h12 rfl (Nat.le_of_ble_eq_true rfl) rfl (List.mem_of_getElem? (i := 56) rfl) rfl rfl (by decide +kernel) dX3_readSpot_15 ?_
      refine h_sub (lv2 := [(0, .ref a0)]) [1] rfl ?_
      exact hJ4 S11 hf
abbrev x_X3_readHeat (d : Nat) (S0 : hS) (args : List Value) (r : hS) (cs : Nat → Nat) : hX := ((none, 3, d, 0, 0, false), (S0, args, none, r), cs)
theorem v_X3_readHeat : hVW yX3_readHeat cX3_readHeat 3 none RX3 0 := ⟨q_543, q_s12, q_6, q_544, by decide +kernel, by decide⟩
def f_X3_readHeat (a0 : Nat) (S : hS) : Option (hS) :=
  hck (S.K a0 = 4) <|
  hb2 (f_X3_readSeat a0 S) fun t3 S2 =>
  hck (S2.K a0 = 4) <|
  hb2 (f_X3_readNumber a0 0 9999 S2) fun t6 S5 =>
  hbd (gR S5 a0 3 0) fun t7 =>
  hck (S5.K t7 = 8) <|
  hb2 (f_X7_failed t7 S5) fun t11 S10 =>
  if t11 = 0 then
    (if t3 = (-1) then
       (some S10)
     else
       (hbd (gR S10 a0 3 1) fun t14 =>
        hbd (gR S10 t14 0 2) fun t16 =>
        hbd (sA S10 t16 t3 t6) fun S18 =>
        some S18))
  else
    (some S10)
set_option maxRecDepth 100000 in
set_option maxHeartbeats 4000000 in
theorem m_X3_readHeat {d : Nat} {cs : Nat → Nat} {a0 : Nat} {S : hS} {r : hS} (hd : 5 ≤ d) (hf : f_X3_readHeat a0 S = some r) : HM yX3_readHeat cX3_readHeat 3 none d 0 0 cs [.ref a0] S (none) r := by
  unfold f_X3_readHeat at hf
  refine HM.ofHW false (by decide) (fun h => by cases h) (Nat.le_of_ble_eq_true rfl) ?_
  show HW cX3_readHeat RX3 (x_X3_readHeat d S [.ref a0] r cs) 0 0 S 0 [(0, .ref a0)] []
  refine h_aload_n dX3_readHeat_0 rfl 0 rfl ?_
  obtain ⟨g22, hf⟩ := hck_s hf
  obtain ⟨t3, S2, h1, hf⟩ := hb2_s hf
  refine h_Vi [] (rest := []) (m_X3_readSeat (d := 4) (cs := cs) (Nat.le_refl _) h1) v_X3_readSeat q_496 rfl (Nat.le_trans (by decide) hd) g22 rfl rfl (Nat.le_of_ble_eq_true rfl) dX3_readHeat_1 (Nat.le_refl _) (Nat.le_refl _) ?_
  refine h_istore_n (lv2 := [(1, .int t3), (0, .ref a0)]) dX3_readHeat_4 rfl (Nat.le_of_ble_eq_true rfl) rfl ?_
  refine h_aload_n dX3_readHeat_5 rfl 1 rfl ?_
  refine h_iconst (v := 0) dX3_readHeat_6 rfl ?_
  refine h_sipush (v := 9999) dX3_readHeat_7 rfl ?_
  obtain ⟨g21, hf⟩ := hck_s hf
  obtain ⟨t6, S5, h4, hf⟩ := hb2_s hf
  refine h_Vi [.int 0, .int 9999] (rest := []) (m_X3_readNumber (d := 3) (cs := cs) (Nat.le_refl _) h4) v_X3_readNumber q_472 rfl (Nat.le_trans (by decide) hd) g21 rfl rfl (Nat.le_of_ble_eq_true rfl) dX3_readHeat_10 (Nat.le_refl _) (Nat.le_refl _) ?_
  refine h_istore_n (lv2 := [(2, .int t6), (1, .int t3), (0, .ref a0)]) dX3_readHeat_13 rfl (Nat.le_of_ble_eq_true rfl) rfl ?_
  refine h_aload_n dX3_readHeat_14 rfl 2 rfl ?_
  obtain ⟨t7, h8, hf⟩ := hbd_s hf
  refine h_getR h8 rfl (Nat.le_of_ble_eq_true rfl) rfl q_237 rfl dX3_readHeat_15 ?_
  obtain ⟨g20, hf⟩ := hck_s hf
  obtain ⟨t11, S10, h9, hf⟩ := hb2_s hf
  refine h_Vi [] (rest := []) (m_X7_failed (d := 1) (cs := cs) (Nat.le_refl _) h9) v_X7_failed q_476 rfl (Nat.le_trans (by decide) hd) g20 rfl rfl (Nat.le_of_ble_eq_true rfl) dX3_readHeat_18 (Nat.le_refl _) (Nat.le_refl _) ?_
  refine h_if_ne (tgt := 39) dX3_readHeat_21 (by decide) (fun c12 => ?_) (fun c12 => ?_)
  · replace hf := hif_n c12 hf
    obtain rfl := Option.some.inj hf
    exact h_vret rfl rfl rfl (Nat.le_refl _) (Nat.le_refl _) dX3_readHeat_39
  · replace hf := hif_p c12 hf
    refine h_iload_n dX3_readHeat_24 rfl 1 rfl ?_
    refine h_iconst (v := (-1)) dX3_readHeat_25 rfl ?_
    refine h_icmp_eq (tgt := 39) dX3_readHeat_26 (by decide) (fun c13 => ?_) (fun c13 => ?_)
    · replace hf := hif_p c13 hf
      obtain rfl := Option.some.inj hf
      exact h_vret rfl rfl rfl (Nat.le_refl _) (Nat.le_refl _) dX3_readHeat_39
    · replace hf := hif_n c13 hf
      refine h_aload_n dX3_readHeat_29 rfl 2 rfl ?_
      obtain ⟨t14, h15, hf⟩ := hbd_s hf
      refine h_getR h15 rfl (Nat.le_of_ble_eq_true rfl) rfl q_238 rfl dX3_readHeat_30 ?_
      obtain ⟨t16, h17, hf⟩ := hbd_s hf
      refine h_getRN (host := "DeafSpot") h17 rfl (Nat.le_of_ble_eq_true rfl) rfl (List.mem_of_getElem? (i := 54) rfl) rfl dX3_readHeat_33 ?_
      refine h_iload_n dX3_readHeat_36 rfl 1 rfl ?_
      refine h_iload_n dX3_readHeat_37 rfl 0 rfl ?_
      obtain ⟨S18, h19, hf⟩ := hbd_s hf
      refine h_iast h19 dX3_readHeat_38 ?_
      obtain rfl := Option.some.inj hf
      exact h_vret rfl rfl rfl (Nat.le_refl _) (Nat.le_refl _) dX3_readHeat_39
