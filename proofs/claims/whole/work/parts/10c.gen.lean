abbrev x_X6_steps (d : Nat) (S0 : hS) (args : List Value) (r : Int32 × hS) (cs : Nat → Nat) : hX := (((some .int), 3, d, 0, 0, false), (S0, args, some (.int r.1), r.2), cs)
theorem v_X6_steps : hVW yX6_steps cX6_steps 3 (some .int) RX6 2 := ⟨q_825, q_826, q_4, q_827, by decide +kernel, by decide⟩
def f_X6_steps (a0 : Nat) (a1 : Int32) (a2 : Int32) (S : hS) : Option (Int32 × hS) :=
  hck (S.K a0 = 7) <|
  hb2 (f_X6_columnOf a0 a1 S) fun t3 S2 =>
  hck (S2.K a0 = 7) <|
  hb2 (f_X6_columnOf a0 a2 S2) fun t6 S5 =>
  hck (S5.K a0 = 7) <|
  hb2 (f_X6_rowOf a0 a1 S5) fun t9 S8 =>
  hck (S8.K a0 = 7) <|
  hb2 (f_X6_rowOf a0 a2 S8) fun t12 S11 =>
  some ((if 0 ≤ (t3 - t6) then (t3 - t6) else 0 - (t3 - t6)) + (if 0 ≤ (t9 - t12) then (t9 - t12) else 0 - (t9 - t12)), S11)
set_option maxRecDepth 100000 in
set_option maxHeartbeats 4000000 in
theorem m_X6_steps {d : Nat} {cs : Nat → Nat} {a0 : Nat} {a1 : Int32} {a2 : Int32} {S : hS} {r : Int32 × hS} (hd : 2 ≤ d) (hf : f_X6_steps a0 a1 a2 S = some r) : HM yX6_steps cX6_steps 3 (some .int) d 0 0 cs [.ref a0, .int a1, .int a2] S (some (.int r.1)) r.2 := by
  unfold f_X6_steps at hf
  refine HM.ofHW false (by decide) (fun h => by cases h) (Nat.le_of_ble_eq_true rfl) ?_
  show HW cX6_steps RX6 (x_X6_steps d S [.ref a0, .int a1, .int a2] r cs) 0 0 S 0 [(0, .ref a0), (1, .int a1), (2, .int a2)] []
  refine h_aload_n dX6_steps_0 rfl 0 rfl ?_
  refine h_iload_n dX6_steps_1 rfl 1 rfl ?_
  obtain ⟨g16, hf⟩ := hck_s hf
  obtain ⟨t3, S2, h1, hf⟩ := hb2_s hf
  refine h_Vi [.int a1] (rest := []) (m_X6_columnOf (d := 1) (cs := cs) (Nat.le_refl _) h1) v_X6_columnOf q_828 rfl (Nat.le_trans (by decide) hd) g16 rfl rfl (Nat.le_of_ble_eq_true rfl) dX6_steps_2 (Nat.le_refl _) (Nat.le_refl _) ?_
  refine h_aload_n dX6_steps_5 rfl 0 rfl ?_
  refine h_iload_n dX6_steps_6 rfl 2 rfl ?_
  obtain ⟨g15, hf⟩ := hck_s hf
  obtain ⟨t6, S5, h4, hf⟩ := hb2_s hf
  refine h_Vi [.int a2] (rest := [.int t3]) (m_X6_columnOf (d := 1) (cs := cs) (Nat.le_refl _) h4) v_X6_columnOf q_828 rfl (Nat.le_trans (by decide) hd) g15 rfl rfl (Nat.le_of_ble_eq_true rfl) dX6_steps_7 (Nat.le_refl _) (Nat.le_refl _) ?_
  refine h_isub dX6_steps_10 ?_
  refine h_mabs q_829 q_830 q_15 qm_abs (Nat.le_trans (by decide) hd) (Nat.le_of_ble_eq_true rfl) (Nat.le_refl _) (Nat.le_refl _) dX6_steps_11 ?_
  refine h_aload_n dX6_steps_14 rfl 0 rfl ?_
  refine h_iload_n dX6_steps_15 rfl 1 rfl ?_
  obtain ⟨g14, hf⟩ := hck_s hf
  obtain ⟨t9, S8, h7, hf⟩ := hb2_s hf
  refine h_Vi [.int a1] (rest := [.int (if 0 ≤ (t3 - t6) then (t3 - t6) else 0 - (t3 - t6))]) (m_X6_rowOf (d := 1) (cs := cs) (Nat.le_refl _) h7) v_X6_rowOf q_832 rfl (Nat.le_trans (by decide) hd) g14 rfl rfl (Nat.le_of_ble_eq_true rfl) dX6_steps_16 (Nat.le_refl _) (Nat.le_refl _) ?_
  refine h_aload_n dX6_steps_19 rfl 0 rfl ?_
  refine h_iload_n dX6_steps_20 rfl 2 rfl ?_
  obtain ⟨g13, hf⟩ := hck_s hf
  obtain ⟨t12, S11, h10, hf⟩ := hb2_s hf
  refine h_Vi [.int a2] (rest := [.int t9, .int (if 0 ≤ (t3 - t6) then (t3 - t6) else 0 - (t3 - t6))]) (m_X6_rowOf (d := 1) (cs := cs) (Nat.le_refl _) h10) v_X6_rowOf q_832 rfl (Nat.le_trans (by decide) hd) g13 rfl rfl (Nat.le_of_ble_eq_true rfl) dX6_steps_21 (Nat.le_refl _) (Nat.le_refl _) ?_
  refine h_isub dX6_steps_24 ?_
  refine h_mabs q_829 q_830 q_15 qm_abs (Nat.le_trans (by decide) hd) (Nat.le_of_ble_eq_true rfl) (Nat.le_refl _) (Nat.le_refl _) dX6_steps_25 ?_
  refine h_iadd dX6_steps_28 ?_
  obtain rfl := Option.some.inj hf
  exact h_iret rfl rfl rfl (Nat.le_refl _) (Nat.le_refl _) dX6_steps_29
abbrev x_X6_isWithinTwo (d : Nat) (S0 : hS) (args : List Value) (r : Int32 × hS) (cs : Nat → Nat) : hX := (((some .boolean), 3, d, 0, 0, false), (S0, args, some (.int r.1), r.2), cs)
theorem v_X6_isWithinTwo : hVW yX6_isWithinTwo cX6_isWithinTwo 3 (some .boolean) RX6 2 := ⟨q_905, q_906, q_4, q_907, by decide +kernel, by decide⟩
def f_X6_isWithinTwo (a0 : Nat) (a1 : Int32) (a2 : Int32) (S : hS) : Option (Int32 × hS) :=
  hck (S.K a0 = 7) <|
  hb2 (f_X6_columnOf a0 a1 S) fun t3 S2 =>
  hck (S2.K a0 = 7) <|
  hb2 (f_X6_columnOf a0 a2 S2) fun t6 S5 =>
  hj (γ := hS → Option (Int32 × hS)) (fun (S8 : hS) =>
    some (0, S8)
    ) fun J7 =>
  if 2 < (if 0 ≤ (t3 - t6) then (t3 - t6) else 0 - (t3 - t6)) then
    (J7 S5)
  else
    (hck (S5.K a0 = 7) <|
     hb2 (f_X6_rowOf a0 a1 S5) fun t12 S11 =>
     hck (S11.K a0 = 7) <|
     hb2 (f_X6_rowOf a0 a2 S11) fun t15 S14 =>
     if 2 < (if 0 ≤ (t12 - t15) then (t12 - t15) else 0 - (t12 - t15)) then
       (J7 S14)
     else
       (some (1, S14)))
set_option maxRecDepth 100000 in
set_option maxHeartbeats 4000000 in
theorem m_X6_isWithinTwo {d : Nat} {cs : Nat → Nat} {a0 : Nat} {a1 : Int32} {a2 : Int32} {S : hS} {r : Int32 × hS} (hd : 2 ≤ d) (hf : f_X6_isWithinTwo a0 a1 a2 S = some r) : HM yX6_isWithinTwo cX6_isWithinTwo 3 (some .boolean) d 0 0 cs [.ref a0, .int a1, .int a2] S (some (.int r.1)) r.2 := by
  unfold f_X6_isWithinTwo at hf
  refine HM.ofHW false (by decide) (fun h => by cases h) (Nat.le_of_ble_eq_true rfl) ?_
  show HW cX6_isWithinTwo RX6 (x_X6_isWithinTwo d S [.ref a0, .int a1, .int a2] r cs) 0 0 S 0 [(0, .ref a0), (1, .int a1), (2, .int a2)] []
  refine h_aload_n dX6_isWithinTwo_0 rfl 0 rfl ?_
  refine h_iload_n dX6_isWithinTwo_1 rfl 1 rfl ?_
  obtain ⟨g20, hf⟩ := hck_s hf
  obtain ⟨t3, S2, h1, hf⟩ := hb2_s hf
  refine h_Vi [.int a1] (rest := []) (m_X6_columnOf (d := 1) (cs := cs) (Nat.le_refl _) h1) v_X6_columnOf q_828 rfl (Nat.le_trans (by decide) hd) g20 rfl rfl (Nat.le_of_ble_eq_true rfl) dX6_isWithinTwo_2 (Nat.le_refl _) (Nat.le_refl _) ?_
  refine h_aload_n dX6_isWithinTwo_5 rfl 0 rfl ?_
  refine h_iload_n dX6_isWithinTwo_6 rfl 2 rfl ?_
  obtain ⟨g19, hf⟩ := hck_s hf
  obtain ⟨t6, S5, h4, hf⟩ := hb2_s hf
  refine h_Vi [.int a2] (rest := [.int t3]) (m_X6_columnOf (d := 1) (cs := cs) (Nat.le_refl _) h4) v_X6_columnOf q_828 rfl (Nat.le_trans (by decide) hd) g19 rfl rfl (Nat.le_of_ble_eq_true rfl) dX6_isWithinTwo_7 (Nat.le_refl _) (Nat.le_refl _) ?_
  refine h_isub dX6_isWithinTwo_10 ?_
  refine h_mabs q_829 q_830 q_15 qm_abs (Nat.le_trans (by decide) hd) (Nat.le_of_ble_eq_true rfl) (Nat.le_refl _) (Nat.le_refl _) dX6_isWithinTwo_11 ?_
  refine h_iconst (v := 2) dX6_isWithinTwo_14 rfl ?_
  refine hj_s (fun J7 => ∀ (S8 : hS), J7 S8 = some r → HW cX6_isWithinTwo RX6 (x_X6_isWithinTwo d S [.ref a0, .int a1, .int a2] r cs) 0 0 S8 40 [] []) hf ?_ ?_
  · intro S8 hf
    refine h_iconst (v := 0) dX6_isWithinTwo_40 rfl ?_
    obtain rfl := Option.some.inj hf
    exact h_zret rfl (by decide) rfl rfl (Nat.le_refl _) (Nat.le_refl _) dX6_isWithinTwo_41
  · intro J7 hJ7 hf
    refine h_icmp_gt (tgt := 40) dX6_isWithinTwo_15 (by decide) (fun c9 => ?_) (fun c9 => ?_)
    · replace hf := hif_p c9 hf
      refine h_sub (lv2 := []) [] rfl ?_
      exact hJ7 S5 hf
    · replace hf := hif_n c9 hf
      refine h_aload_n dX6_isWithinTwo_18 rfl 0 rfl ?_
      refine h_iload_n dX6_isWithinTwo_19 rfl 1 rfl ?_
      obtain ⟨g18, hf⟩ := hck_s hf
      obtain ⟨t12, S11, h10, hf⟩ := hb2_s hf
      refine h_Vi [.int a1] (rest := []) (m_X6_rowOf (d := 1) (cs := cs) (Nat.le_refl _) h10) v_X6_rowOf q_832 rfl (Nat.le_trans (by decide) hd) g18 rfl rfl (Nat.le_of_ble_eq_true rfl) dX6_isWithinTwo_20 (Nat.le_refl _) (Nat.le_refl _) ?_
      refine h_aload_n dX6_isWithinTwo_23 rfl 0 rfl ?_
      refine h_iload_n dX6_isWithinTwo_24 rfl 2 rfl ?_
      obtain ⟨g17, hf⟩ := hck_s hf
      obtain ⟨t15, S14, h13, hf⟩ := hb2_s hf
      refine h_Vi [.int a2] (rest := [.int t12]) (m_X6_rowOf (d := 1) (cs := cs) (Nat.le_refl _) h13) v_X6_rowOf q_832 rfl (Nat.le_trans (by decide) hd) g17 rfl rfl (Nat.le_of_ble_eq_true rfl) dX6_isWithinTwo_25 (Nat.le_refl _) (Nat.le_refl _) ?_
      refine h_isub dX6_isWithinTwo_28 ?_
      refine h_mabs q_829 q_830 q_15 qm_abs (Nat.le_trans (by decide) hd) (Nat.le_of_ble_eq_true rfl) (Nat.le_refl _) (Nat.le_refl _) dX6_isWithinTwo_29 ?_
      refine h_iconst (v := 2) dX6_isWithinTwo_32 rfl ?_
      refine h_icmp_gt (tgt := 40) dX6_isWithinTwo_33 (by decide) (fun c16 => ?_) (fun c16 => ?_)
      · replace hf := hif_p c16 hf
        refine h_sub (lv2 := []) [] rfl ?_
        exact hJ7 S14 hf
      · replace hf := hif_n c16 hf
        refine h_iconst (v := 1) dX6_isWithinTwo_36 rfl ?_
        refine h_goto (tgt := 41) dX6_isWithinTwo_37 (by decide) ?_
        obtain rfl := Option.some.inj hf
        exact h_zret rfl (by decide) rfl rfl (Nat.le_refl _) (Nat.le_refl _) dX6_isWithinTwo_41
abbrev x_X6_addFan (d : Nat) (S0 : hS) (args : List Value) (r : hS) (cs : Nat → Nat) : hX := ((none, 4, d, 0, 0, false), (S0, args, none, r), cs)
theorem v_X6_addFan : hVW yX6_addFan cX6_addFan 4 none RX6 3 := ⟨q_526, q_527, q_4, q_528, by decide +kernel, by decide⟩
def f_X6_addFan (a0 : Nat) (a1 : Int32) (a2 : Int32) (a3 : Int32) (S : hS) : Option (hS) :=
  hbd (gI S a0 6 8) fun t1 =>
  hbd (gR S a0 6 9) fun t3 =>
  hbd (gN S t3) fun t5 =>
  if t5 ≤ t1 then
    (some S)
  else
    (hbd (gR S a0 6 9) fun t8 =>
     hbd (gI S a0 6 8) fun t10 =>
     hbd (sA S t8 t10 a1) fun S12 =>
     hbd (gR S12 a0 6 10) fun t14 =>
     hbd (gI S12 a0 6 8) fun t16 =>
     hbd (sA S12 t14 t16 a2) fun S18 =>
     hbd (gR S18 a0 6 11) fun t20 =>
     hbd (gI S18 a0 6 8) fun t22 =>
     hbd (sA S18 t20 t22 a3) fun S24 =>
     hbd (gI S24 a0 6 8) fun t26 =>
     hbd (sI S24 a0 6 8 (t26 + 1)) fun S28 =>
     some S28)
set_option maxRecDepth 100000 in
set_option maxHeartbeats 4000000 in
theorem m_X6_addFan {d : Nat} {cs : Nat → Nat} {a0 : Nat} {a1 : Int32} {a2 : Int32} {a3 : Int32} {S : hS} {r : hS} (hd : 1 ≤ d) (hf : f_X6_addFan a0 a1 a2 a3 S = some r) : HM yX6_addFan cX6_addFan 4 none d 0 0 cs [.ref a0, .int a1, .int a2, .int a3] S (none) r := by
  unfold f_X6_addFan at hf
  refine HM.ofHW false (by decide) (fun h => by cases h) (Nat.le_of_ble_eq_true rfl) ?_
  show HW cX6_addFan RX6 (x_X6_addFan d S [.ref a0, .int a1, .int a2, .int a3] r cs) 0 0 S 0 [(0, .ref a0), (1, .int a1), (2, .int a2), (3, .int a3)] []
  refine h_aload_n dX6_addFan_0 rfl 0 rfl ?_
  obtain ⟨t1, h2, hf⟩ := hbd_s hf
  refine h_getI h2 rfl (Nat.le_of_ble_eq_true rfl) rfl q_90 rfl dX6_addFan_1 ?_
  refine h_aload_n dX6_addFan_4 rfl 0 rfl ?_
  obtain ⟨t3, h4, hf⟩ := hbd_s hf
  refine h_getR h4 rfl (Nat.le_of_ble_eq_true rfl) rfl q_94 rfl dX6_addFan_5 ?_
  obtain ⟨t5, h6, hf⟩ := hbd_s hf
  refine h_alen h6 dX6_addFan_8 ?_
  refine h_icmp_ge (tgt := 52) dX6_addFan_9 (by decide) (fun c7 => ?_) (fun c7 => ?_)
  · replace hf := hif_p c7 hf
    obtain rfl := Option.some.inj hf
    exact h_vret rfl rfl rfl (Nat.le_refl _) (Nat.le_refl _) dX6_addFan_52
  · replace hf := hif_n c7 hf
    refine h_aload_n dX6_addFan_12 rfl 0 rfl ?_
    obtain ⟨t8, h9, hf⟩ := hbd_s hf
    refine h_getR h9 rfl (Nat.le_of_ble_eq_true rfl) rfl q_94 rfl dX6_addFan_13 ?_
    refine h_aload_n dX6_addFan_16 rfl 0 rfl ?_
    obtain ⟨t10, h11, hf⟩ := hbd_s hf
    refine h_getI h11 rfl (Nat.le_of_ble_eq_true rfl) rfl q_90 rfl dX6_addFan_17 ?_
    refine h_iload_n dX6_addFan_20 rfl 1 rfl ?_
    obtain ⟨S12, h13, hf⟩ := hbd_s hf
    refine h_iast h13 dX6_addFan_21 ?_
    refine h_aload_n dX6_addFan_22 rfl 0 rfl ?_
    obtain ⟨t14, h15, hf⟩ := hbd_s hf
    refine h_getR h15 rfl (Nat.le_of_ble_eq_true rfl) rfl q_97 rfl dX6_addFan_23 ?_
    refine h_aload_n dX6_addFan_26 rfl 0 rfl ?_
    obtain ⟨t16, h17, hf⟩ := hbd_s hf
    refine h_getI h17 rfl (Nat.le_of_ble_eq_true rfl) rfl q_90 rfl dX6_addFan_27 ?_
    refine h_iload_n dX6_addFan_30 rfl 2 rfl ?_
    obtain ⟨S18, h19, hf⟩ := hbd_s hf
    refine h_iast h19 dX6_addFan_31 ?_
    refine h_aload_n dX6_addFan_32 rfl 0 rfl ?_
    obtain ⟨t20, h21, hf⟩ := hbd_s hf
    refine h_getR h21 rfl (Nat.le_of_ble_eq_true rfl) rfl q_100 rfl dX6_addFan_33 ?_
    refine h_aload_n dX6_addFan_36 rfl 0 rfl ?_
    obtain ⟨t22, h23, hf⟩ := hbd_s hf
    refine h_getI h23 rfl (Nat.le_of_ble_eq_true rfl) rfl q_90 rfl dX6_addFan_37 ?_
    refine h_iload_n dX6_addFan_40 rfl 3 rfl ?_
    obtain ⟨S24, h25, hf⟩ := hbd_s hf
    refine h_iast h25 dX6_addFan_41 ?_
    refine h_aload_n dX6_addFan_42 rfl 0 rfl ?_
    refine h_dup dX6_addFan_43 rfl ?_
    obtain ⟨t26, h27, hf⟩ := hbd_s hf
    refine h_getI h27 rfl (Nat.le_of_ble_eq_true rfl) rfl q_90 rfl dX6_addFan_44 ?_
    refine h_iconst (v := 1) dX6_addFan_47 rfl ?_
    refine h_iadd dX6_addFan_48 ?_
    obtain ⟨S28, h29, hf⟩ := hbd_s hf
    refine h_putI h29 rfl (Nat.le_of_ble_eq_true rfl) rfl q_90 rfl rfl (by decide +kernel) dX6_addFan_49 ?_
    obtain rfl := Option.some.inj hf
    exact h_vret rfl rfl rfl (Nat.le_refl _) (Nat.le_refl _) dX6_addFan_52
abbrev x_X6_addSnow (d : Nat) (S0 : hS) (args : List Value) (r : hS) (cs : Nat → Nat) : hX := ((none, 3, d, 0, 0, false), (S0, args, none, r), cs)
theorem v_X6_addSnow : hVW yX6_addSnow cX6_addSnow 3 none RX6 2 := ⟨q_534, q_535, q_4, q_536, by decide +kernel, by decide⟩
def f_X6_addSnow (a0 : Nat) (a1 : Int32) (a2 : Int32) (S : hS) : Option (hS) :=
  hbd (gI S a0 6 12) fun t1 =>
  if 8 ≤ t1 then
    (some S)
  else
    (hbd (gR S a0 6 13) fun t4 =>
     hbd (gI S a0 6 12) fun t6 =>
     hbd (sA S t4 t6 a1) fun S8 =>
     hbd (gR S8 a0 6 14) fun t10 =>
     hbd (gI S8 a0 6 12) fun t12 =>
     hbd (sA S8 t10 t12 a2) fun S14 =>
     hbd (gI S14 a0 6 12) fun t16 =>
     hbd (sI S14 a0 6 12 (t16 + 1)) fun S18 =>
     some S18)
set_option maxRecDepth 100000 in
set_option maxHeartbeats 4000000 in
theorem m_X6_addSnow {d : Nat} {cs : Nat → Nat} {a0 : Nat} {a1 : Int32} {a2 : Int32} {S : hS} {r : hS} (hd : 1 ≤ d) (hf : f_X6_addSnow a0 a1 a2 S = some r) : HM yX6_addSnow cX6_addSnow 3 none d 0 0 cs [.ref a0, .int a1, .int a2] S (none) r := by
  unfold f_X6_addSnow at hf
  refine HM.ofHW false (by decide) (fun h => by cases h) (Nat.le_of_ble_eq_true rfl) ?_
  show HW cX6_addSnow RX6 (x_X6_addSnow d S [.ref a0, .int a1, .int a2] r cs) 0 0 S 0 [(0, .ref a0), (1, .int a1), (2, .int a2)] []
  refine h_aload_n dX6_addSnow_0 rfl 0 rfl ?_
  obtain ⟨t1, h2, hf⟩ := hbd_s hf
  refine h_getI h2 rfl (Nat.le_of_ble_eq_true rfl) rfl q_103 rfl dX6_addSnow_1 ?_
  refine h_bipush (v := 8) dX6_addSnow_4 rfl ?_
  refine h_icmp_ge (tgt := 39) dX6_addSnow_6 (by decide) (fun c3 => ?_) (fun c3 => ?_)
  · replace hf := hif_p c3 hf
    obtain rfl := Option.some.inj hf
    exact h_vret rfl rfl rfl (Nat.le_refl _) (Nat.le_refl _) dX6_addSnow_39
  · replace hf := hif_n c3 hf
    refine h_aload_n dX6_addSnow_9 rfl 0 rfl ?_
    obtain ⟨t4, h5, hf⟩ := hbd_s hf
    refine h_getR h5 rfl (Nat.le_of_ble_eq_true rfl) rfl q_107 rfl dX6_addSnow_10 ?_
    refine h_aload_n dX6_addSnow_13 rfl 0 rfl ?_
    obtain ⟨t6, h7, hf⟩ := hbd_s hf
    refine h_getI h7 rfl (Nat.le_of_ble_eq_true rfl) rfl q_103 rfl dX6_addSnow_14 ?_
    refine h_iload_n dX6_addSnow_17 rfl 1 rfl ?_
    obtain ⟨S8, h9, hf⟩ := hbd_s hf
    refine h_iast h9 dX6_addSnow_18 ?_
    refine h_aload_n dX6_addSnow_19 rfl 0 rfl ?_
    obtain ⟨t10, h11, hf⟩ := hbd_s hf
    refine h_getR h11 rfl (Nat.le_of_ble_eq_true rfl) rfl q_109 rfl dX6_addSnow_20 ?_
    refine h_aload_n dX6_addSnow_23 rfl 0 rfl ?_
    obtain ⟨t12, h13, hf⟩ := hbd_s hf
    refine h_getI h13 rfl (Nat.le_of_ble_eq_true rfl) rfl q_103 rfl dX6_addSnow_24 ?_
    refine h_iload_n dX6_addSnow_27 rfl 2 rfl ?_
    obtain ⟨S14, h15, hf⟩ := hbd_s hf
    refine h_iast h15 dX6_addSnow_28 ?_
    refine h_aload_n dX6_addSnow_29 rfl 0 rfl ?_
    refine h_dup dX6_addSnow_30 rfl ?_
    obtain ⟨t16, h17, hf⟩ := hbd_s hf
    refine h_getI h17 rfl (Nat.le_of_ble_eq_true rfl) rfl q_103 rfl dX6_addSnow_31 ?_
    refine h_iconst (v := 1) dX6_addSnow_34 rfl ?_
    refine h_iadd dX6_addSnow_35 ?_
    obtain ⟨S18, h19, hf⟩ := hbd_s hf
    refine h_putI h19 rfl (Nat.le_of_ble_eq_true rfl) rfl q_103 rfl rfl (by decide +kernel) dX6_addSnow_36 ?_
    obtain rfl := Option.some.inj hf
    exact h_vret rfl rfl rfl (Nat.le_refl _) (Nat.le_refl _) dX6_addSnow_39
abbrev x_X6_copy (d : Nat) (S0 : hS) (args : List Value) (r : hS) (cs : Nat → Nat) : hX := ((none, 2, d, 0, 0, false), (S0, args, none, r), cs)
theorem v_X6_copy : hVW yX6_copy cX6_copy 2 none RX6 1 := ⟨q_572, q_573, q_4, q_574, by decide +kernel, by decide⟩
def f_X6_copy (a0 : Nat) (a1 : Nat) (S : hS) : Option (hS) :=
  hbd (gI S a1 6 0) fun t1 =>
  hbd (sI S a0 6 0 t1) fun S3 =>
  hbd (gI S3 a1 6 1) fun t5 =>
  hbd (sI S3 a0 6 1 t5) fun S7 =>
  hbd (gI S7 a1 6 2) fun t9 =>
  hbd (sI S7 a0 6 2 t9) fun S11 =>
  hbd (gI S11 a1 6 3) fun t13 =>
  hbd (sI S11 a0 6 3 t13) fun S15 =>
  hbd (gR S15 a1 6 4) fun t17 =>
  hbd (gR S15 a0 6 4) fun t19 =>
  hbd (cpA S15 t17 0 t19 0 80) fun S21 =>
  hbd (gR S21 a1 6 5) fun t23 =>
  hbd (gR S21 a0 6 5) fun t25 =>
  hbd (cpA S21 t23 0 t25 0 80) fun S27 =>
  hbd (gR S27 a1 6 6) fun t29 =>
  hbd (gR S27 a0 6 6) fun t31 =>
  hbd (cpA S27 t29 0 t31 0 80) fun S33 =>
  hbd (gR S33 a1 6 7) fun t35 =>
  hbd (gR S33 a0 6 7) fun t37 =>
  hbd (cpA S33 t35 0 t37 0 400) fun S39 =>
  hbd (gI S39 a1 6 8) fun t41 =>
  hbd (sI S39 a0 6 8 t41) fun S43 =>
  hbd (gR S43 a1 6 9) fun t45 =>
  hbd (gR S43 a0 6 9) fun t47 =>
  hbd (cpA S43 t45 0 t47 0 7) fun S49 =>
  hbd (gR S49 a1 6 10) fun t51 =>
  hbd (gR S49 a0 6 10) fun t53 =>
  hbd (cpA S49 t51 0 t53 0 7) fun S55 =>
  hbd (gR S55 a1 6 11) fun t57 =>
  hbd (gR S55 a0 6 11) fun t59 =>
  hbd (cpA S55 t57 0 t59 0 7) fun S61 =>
  hbd (gI S61 a1 6 12) fun t63 =>
  hbd (sI S61 a0 6 12 t63) fun S65 =>
  hbd (gR S65 a1 6 13) fun t67 =>
  hbd (gR S65 a0 6 13) fun t69 =>
  hbd (cpA S65 t67 0 t69 0 8) fun S71 =>
  hbd (gR S71 a1 6 14) fun t73 =>
  hbd (gR S71 a0 6 14) fun t75 =>
  hbd (cpA S71 t73 0 t75 0 8) fun S77 =>
  some S77
set_option maxRecDepth 100000 in
set_option maxHeartbeats 4000000 in
theorem m_X6_copy {d : Nat} {cs : Nat → Nat} {a0 : Nat} {a1 : Nat} {S : hS} {r : hS} (hd : 1 ≤ d) (hf : f_X6_copy a0 a1 S = some r) : HM yX6_copy cX6_copy 2 none d 0 0 cs [.ref a0, .ref a1] S (none) r := by
  unfold f_X6_copy at hf
  refine HM.ofHW false (by decide) (fun h => by cases h) (Nat.le_of_ble_eq_true rfl) ?_
  show HW cX6_copy RX6 (x_X6_copy d S [.ref a0, .ref a1] r cs) 0 0 S 0 [(0, .ref a0), (1, .ref a1)] []
  refine h_aload_n dX6_copy_0 rfl 0 rfl ?_
  refine h_aload_n dX6_copy_1 rfl 1 rfl ?_
  obtain ⟨t1, h2, hf⟩ := hbd_s hf
  refine h_getI h2 rfl (Nat.le_of_ble_eq_true rfl) rfl q_64 rfl dX6_copy_2 ?_
  obtain ⟨S3, h4, hf⟩ := hbd_s hf
  refine h_putI h4 rfl (Nat.le_of_ble_eq_true rfl) rfl q_64 rfl rfl (by decide +kernel) dX6_copy_5 ?_
  refine h_aload_n dX6_copy_8 rfl 0 rfl ?_
  refine h_aload_n dX6_copy_9 rfl 1 rfl ?_
  obtain ⟨t5, h6, hf⟩ := hbd_s hf
  refine h_getI h6 rfl (Nat.le_of_ble_eq_true rfl) rfl q_68 rfl dX6_copy_10 ?_
  obtain ⟨S7, h8, hf⟩ := hbd_s hf
  refine h_putI h8 rfl (Nat.le_of_ble_eq_true rfl) rfl q_68 rfl rfl (by decide +kernel) dX6_copy_13 ?_
  refine h_aload_n dX6_copy_16 rfl 0 rfl ?_
  refine h_aload_n dX6_copy_17 rfl 1 rfl ?_
  obtain ⟨t9, h10, hf⟩ := hbd_s hf
  refine h_getI h10 rfl (Nat.le_of_ble_eq_true rfl) rfl q_72 rfl dX6_copy_18 ?_
  obtain ⟨S11, h12, hf⟩ := hbd_s hf
  refine h_putI h12 rfl (Nat.le_of_ble_eq_true rfl) rfl q_72 rfl rfl (by decide +kernel) dX6_copy_21 ?_
  refine h_aload_n dX6_copy_24 rfl 0 rfl ?_
  refine h_aload_n dX6_copy_25 rfl 1 rfl ?_
  obtain ⟨t13, h14, hf⟩ := hbd_s hf
  refine h_getI h14 rfl (Nat.le_of_ble_eq_true rfl) rfl q_76 rfl dX6_copy_26 ?_
  obtain ⟨S15, h16, hf⟩ := hbd_s hf
  refine h_putI h16 rfl (Nat.le_of_ble_eq_true rfl) rfl q_76 rfl rfl (by decide +kernel) dX6_copy_29 ?_
  refine h_aload_n dX6_copy_32 rfl 1 rfl ?_
  obtain ⟨t17, h18, hf⟩ := hbd_s hf
  refine h_getR h18 rfl (Nat.le_of_ble_eq_true rfl) rfl q_79 rfl dX6_copy_33 ?_
  refine h_iconst (v := 0) dX6_copy_36 rfl ?_
  refine h_aload_n dX6_copy_37 rfl 0 rfl ?_
  obtain ⟨t19, h20, hf⟩ := hbd_s hf
  refine h_getR h20 rfl (Nat.le_of_ble_eq_true rfl) rfl q_79 rfl dX6_copy_38 ?_
  refine h_iconst (v := 0) dX6_copy_41 rfl ?_
  refine h_bipush (v := 80) dX6_copy_42 rfl ?_
  obtain ⟨S21, h22, hf⟩ := hbd_s hf
  refine h_acopy h22 q_575 (Nat.le_trans (by decide) hd) (Nat.le_of_ble_eq_true rfl) dX6_copy_44 ?_
  refine h_aload_n dX6_copy_47 rfl 1 rfl ?_
  obtain ⟨t23, h24, hf⟩ := hbd_s hf
  refine h_getR h24 rfl (Nat.le_of_ble_eq_true rfl) rfl q_82 rfl dX6_copy_48 ?_
  refine h_iconst (v := 0) dX6_copy_51 rfl ?_
  refine h_aload_n dX6_copy_52 rfl 0 rfl ?_
  obtain ⟨t25, h26, hf⟩ := hbd_s hf
  refine h_getR h26 rfl (Nat.le_of_ble_eq_true rfl) rfl q_82 rfl dX6_copy_53 ?_
  refine h_iconst (v := 0) dX6_copy_56 rfl ?_
  refine h_bipush (v := 80) dX6_copy_57 rfl ?_
  obtain ⟨S27, h28, hf⟩ := hbd_s hf
  refine h_acopy h28 q_575 (Nat.le_trans (by decide) hd) (Nat.le_of_ble_eq_true rfl) dX6_copy_59 ?_
  refine h_aload_n dX6_copy_62 rfl 1 rfl ?_
  obtain ⟨t29, h30, hf⟩ := hbd_s hf
  refine h_getR h30 rfl (Nat.le_of_ble_eq_true rfl) rfl q_85 rfl dX6_copy_63 ?_
  refine h_iconst (v := 0) dX6_copy_66 rfl ?_
  refine h_aload_n dX6_copy_67 rfl 0 rfl ?_
  obtain ⟨t31, h32, hf⟩ := hbd_s hf
  refine h_getR h32 rfl (Nat.le_of_ble_eq_true rfl) rfl q_85 rfl dX6_copy_68 ?_
  refine h_iconst (v := 0) dX6_copy_71 rfl ?_
  refine h_bipush (v := 80) dX6_copy_72 rfl ?_
  obtain ⟨S33, h34, hf⟩ := hbd_s hf
  refine h_acopy h34 q_575 (Nat.le_trans (by decide) hd) (Nat.le_of_ble_eq_true rfl) dX6_copy_74 ?_
  refine h_aload_n dX6_copy_77 rfl 1 rfl ?_
  obtain ⟨t35, h36, hf⟩ := hbd_s hf
  refine h_getR h36 rfl (Nat.le_of_ble_eq_true rfl) rfl q_88 rfl dX6_copy_78 ?_
  refine h_iconst (v := 0) dX6_copy_81 rfl ?_
  refine h_aload_n dX6_copy_82 rfl 0 rfl ?_
  obtain ⟨t37, h38, hf⟩ := hbd_s hf
  refine h_getR h38 rfl (Nat.le_of_ble_eq_true rfl) rfl q_88 rfl dX6_copy_83 ?_
  refine h_iconst (v := 0) dX6_copy_86 rfl ?_
  refine h_sipush (v := 400) dX6_copy_87 rfl ?_
  obtain ⟨S39, h40, hf⟩ := hbd_s hf
  refine h_acopy h40 q_575 (Nat.le_trans (by decide) hd) (Nat.le_of_ble_eq_true rfl) dX6_copy_90 ?_
  refine h_aload_n dX6_copy_93 rfl 0 rfl ?_
  refine h_aload_n dX6_copy_94 rfl 1 rfl ?_
  obtain ⟨t41, h42, hf⟩ := hbd_s hf
  refine h_getI h42 rfl (Nat.le_of_ble_eq_true rfl) rfl q_90 rfl dX6_copy_95 ?_
  obtain ⟨S43, h44, hf⟩ := hbd_s hf
  refine h_putI h44 rfl (Nat.le_of_ble_eq_true rfl) rfl q_90 rfl rfl (by decide +kernel) dX6_copy_98 ?_
  refine h_aload_n dX6_copy_101 rfl 1 rfl ?_
  obtain ⟨t45, h46, hf⟩ := hbd_s hf
  refine h_getR h46 rfl (Nat.le_of_ble_eq_true rfl) rfl q_94 rfl dX6_copy_102 ?_
  refine h_iconst (v := 0) dX6_copy_105 rfl ?_
  refine h_aload_n dX6_copy_106 rfl 0 rfl ?_
  obtain ⟨t47, h48, hf⟩ := hbd_s hf
  refine h_getR h48 rfl (Nat.le_of_ble_eq_true rfl) rfl q_94 rfl dX6_copy_107 ?_
  refine h_iconst (v := 0) dX6_copy_110 rfl ?_
  refine h_bipush (v := 7) dX6_copy_111 rfl ?_
  obtain ⟨S49, h50, hf⟩ := hbd_s hf
  refine h_acopy h50 q_575 (Nat.le_trans (by decide) hd) (Nat.le_of_ble_eq_true rfl) dX6_copy_113 ?_
  refine h_aload_n dX6_copy_116 rfl 1 rfl ?_
  obtain ⟨t51, h52, hf⟩ := hbd_s hf
  refine h_getR h52 rfl (Nat.le_of_ble_eq_true rfl) rfl q_97 rfl dX6_copy_117 ?_
  refine h_iconst (v := 0) dX6_copy_120 rfl ?_
  refine h_aload_n dX6_copy_121 rfl 0 rfl ?_
  obtain ⟨t53, h54, hf⟩ := hbd_s hf
  refine h_getR h54 rfl (Nat.le_of_ble_eq_true rfl) rfl q_97 rfl dX6_copy_122 ?_
  refine h_iconst (v := 0) dX6_copy_125 rfl ?_
  refine h_bipush (v := 7) dX6_copy_126 rfl ?_
  obtain ⟨S55, h56, hf⟩ := hbd_s hf
  refine h_acopy h56 q_575 (Nat.le_trans (by decide) hd) (Nat.le_of_ble_eq_true rfl) dX6_copy_128 ?_
  refine h_aload_n dX6_copy_131 rfl 1 rfl ?_
  obtain ⟨t57, h58, hf⟩ := hbd_s hf
  refine h_getR h58 rfl (Nat.le_of_ble_eq_true rfl) rfl q_100 rfl dX6_copy_132 ?_
  refine h_iconst (v := 0) dX6_copy_135 rfl ?_
  refine h_aload_n dX6_copy_136 rfl 0 rfl ?_
  obtain ⟨t59, h60, hf⟩ := hbd_s hf
  refine h_getR h60 rfl (Nat.le_of_ble_eq_true rfl) rfl q_100 rfl dX6_copy_137 ?_
  refine h_iconst (v := 0) dX6_copy_140 rfl ?_
  refine h_bipush (v := 7) dX6_copy_141 rfl ?_
  obtain ⟨S61, h62, hf⟩ := hbd_s hf
  refine h_acopy h62 q_575 (Nat.le_trans (by decide) hd) (Nat.le_of_ble_eq_true rfl) dX6_copy_143 ?_
  refine h_aload_n dX6_copy_146 rfl 0 rfl ?_
  refine h_aload_n dX6_copy_147 rfl 1 rfl ?_
  obtain ⟨t63, h64, hf⟩ := hbd_s hf
  refine h_getI h64 rfl (Nat.le_of_ble_eq_true rfl) rfl q_103 rfl dX6_copy_148 ?_
  obtain ⟨S65, h66, hf⟩ := hbd_s hf
  refine h_putI h66 rfl (Nat.le_of_ble_eq_true rfl) rfl q_103 rfl rfl (by decide +kernel) dX6_copy_151 ?_
  refine h_aload_n dX6_copy_154 rfl 1 rfl ?_
  obtain ⟨t67, h68, hf⟩ := hbd_s hf
  refine h_getR h68 rfl (Nat.le_of_ble_eq_true rfl) rfl q_107 rfl dX6_copy_155 ?_
  refine h_iconst (v := 0) dX6_copy_158 rfl ?_
  refine h_aload_n dX6_copy_159 rfl 0 rfl ?_
  obtain ⟨t69, h70, hf⟩ := hbd_s hf
  refine h_getR h70 rfl (Nat.le_of_ble_eq_true rfl) rfl q_107 rfl dX6_copy_160 ?_
  refine h_iconst (v := 0) dX6_copy_163 rfl ?_
  refine h_bipush (v := 8) dX6_copy_164 rfl ?_
  obtain ⟨S71, h72, hf⟩ := hbd_s hf
  refine h_acopy h72 q_575 (Nat.le_trans (by decide) hd) (Nat.le_of_ble_eq_true rfl) dX6_copy_166 ?_
  refine h_aload_n dX6_copy_169 rfl 1 rfl ?_
  obtain ⟨t73, h74, hf⟩ := hbd_s hf
  refine h_getR h74 rfl (Nat.le_of_ble_eq_true rfl) rfl q_109 rfl dX6_copy_170 ?_
  refine h_iconst (v := 0) dX6_copy_173 rfl ?_
  refine h_aload_n dX6_copy_174 rfl 0 rfl ?_
  obtain ⟨t75, h76, hf⟩ := hbd_s hf
  refine h_getR h76 rfl (Nat.le_of_ble_eq_true rfl) rfl q_109 rfl dX6_copy_175 ?_
  refine h_iconst (v := 0) dX6_copy_178 rfl ?_
  refine h_bipush (v := 8) dX6_copy_179 rfl ?_
  obtain ⟨S77, h78, hf⟩ := hbd_s hf
  refine h_acopy h78 q_575 (Nat.le_trans (by decide) hd) (Nat.le_of_ble_eq_true rfl) dX6_copy_181 ?_
  obtain rfl := Option.some.inj hf
  exact h_vret rfl rfl rfl (Nat.le_refl _) (Nat.le_refl _) dX6_copy_184
abbrev x_X7_init (d : Nat) (S0 : hS) (args : List Value) (r : hS) (cs : Nat → Nat) : hX := ((none, 1, d, 1, 400, true), (S0, args, none, r), cs)
theorem v_X7_init : hIW yX7_init cX7_init 1 0 := ⟨q_29, q_2, q_30, rfl, by decide +kernel, by decide⟩
def f_X7_init (a0 : Nat) (S : hS) : Option (hS) :=
  hnw S 12 400 fun q1 S2 =>
  hbd (sR S2 a0 7 0 q1) fun S5 =>
  hbd (sI S5 a0 7 1 0) fun S7 =>
  hbd (sI S7 a0 7 2 0) fun S9 =>
  hbd (sI S9 a0 7 3 0) fun S11 =>
  some S11
set_option maxRecDepth 100000 in
set_option maxHeartbeats 4000000 in
theorem m_X7_init {d : Nat} {cs : Nat → Nat} {a0 : Nat} {S : hS} {r : hS} (hd : 1 ≤ d) (hf : f_X7_init a0 S = some r) : HM yX7_init cX7_init 1 none d 1 400 cs [.ref a0] S (none) r := by
  unfold f_X7_init at hf
  refine HM.ofHW true (by decide) (fun h => by rfl) (Nat.le_of_ble_eq_true rfl) ?_
  show HW cX7_init RX7 (x_X7_init d S [.ref a0] r cs) 0 0 S 0 [(0, .ref a0)] []
  refine h_aload_n dX7_init_0 rfl 0 rfl ?_
  refine h_obj q_31 (Nat.le_trans (by decide) hd) (Nat.le_of_ble_eq_true rfl) dX7_init_1 ?_
  refine h_aload_n dX7_init_4 rfl 0 rfl ?_
  refine h_sipush (v := 400) dX7_init_5 rfl ?_
  obtain ⟨q1, S2, h3, h4, hf⟩ := hnw_s hf
  refine h_newI (N := 400) h3 h4 (by decide) rfl (by decide) dX7_init_8 (Nat.le_of_ble_eq_true rfl) (Nat.le_of_ble_eq_true rfl) ?_
  obtain ⟨S5, h6, hf⟩ := hbd_s hf
  refine h_putF rfl h6 rfl (Nat.le_of_ble_eq_true rfl) rfl q_32 rfl rfl rfl (tyX7_ok 0 (by decide)) rfl rfl dX7_init_10 ?_
  refine h_aload_n dX7_init_13 rfl 0 rfl ?_
  refine h_iconst (v := 0) dX7_init_14 rfl ?_
  obtain ⟨S7, h8, hf⟩ := hbd_s hf
  refine h_putI h8 rfl (Nat.le_of_ble_eq_true rfl) rfl q_33 rfl rfl (by decide +kernel) dX7_init_15 ?_
  refine h_aload_n dX7_init_18 rfl 0 rfl ?_
  refine h_iconst (v := 0) dX7_init_19 rfl ?_
  obtain ⟨S9, h10, hf⟩ := hbd_s hf
  refine h_putI h10 rfl (Nat.le_of_ble_eq_true rfl) rfl q_35 rfl rfl (by decide +kernel) dX7_init_20 ?_
  refine h_aload_n dX7_init_23 rfl 0 rfl ?_
  refine h_iconst (v := 0) dX7_init_24 rfl ?_
  obtain ⟨S11, h12, hf⟩ := hbd_s hf
  refine h_putI h12 rfl (Nat.le_of_ble_eq_true rfl) rfl q_38 rfl rfl (by decide +kernel) dX7_init_25 ?_
  obtain rfl := Option.some.inj hf
  exact h_vret rfl rfl rfl (Nat.le_of_ble_eq_true rfl) (Nat.le_of_ble_eq_true rfl) dX7_init_28
abbrev x_X7_addBytes (d : Nat) (S0 : hS) (args : List Value) (r : hS) (cs : Nat → Nat) : hX := ((none, 3, d, 0, 0, false), (S0, args, none, r), cs)
theorem v_X7_addBytes : hVW yX7_addBytes cX7_addBytes 3 none RX7 1 := ⟨q_344, q_s0, q_2, q_345, by decide +kernel, by decide⟩
def f_X7_addBytes_L3 : Nat → Nat → Int32 → Int32 → hS → (hS → Option (hS)) → Option (hS)
  | 0, _, _, _, _, _ => none
  | n + 1, x0, x1, x2, S, k0 =>
    if x2 < 0 then
      (k0 S)
    else
      (hbd (gI S x0 7 1) fun t2 =>
       if 400 ≤ t2 then
         (f_X7_addBytes_L3 n x0 x1 (x2 + (-8)) S k0)
       else
         (hbd (gR S x0 7 0) fun t5 =>
          hbd (gI S x0 7 1) fun t7 =>
          hbd (sA S t5 t7 (((x1.toUInt32 >>> (Int32.toUInt32 x2 &&& Int32.toUInt32 31)).toInt32) &&& 255)) fun S9 =>
          hbd (gI S9 x0 7 1) fun t11 =>
          hbd (sI S9 x0 7 1 (t11 + 1)) fun S13 =>
          f_X7_addBytes_L3 n x0 x1 (x2 + (-8)) S13 k0))
def f_X7_addBytes (a0 : Nat) (a1 : Int32) (S : hS) : Option (hS) :=
  f_X7_addBytes_L3 hfuel a0 a1 24 S
    (fun S15 =>
      some S15
    )
set_option maxRecDepth 100000 in
set_option maxHeartbeats 4000000 in
theorem w_X7_addBytes_L3 {d : Nat} {S0 : hS} {args : List Value} {cs : Nat → Nat} {r : hS} (hd : 1 ≤ d) : ∀ (n : Nat) (x0 : Nat) (x1 : Int32) (x2 : Int32) (S : hS) (k0 : (hS → Option (hS))) , f_X7_addBytes_L3 n x0 x1 x2 S k0 = some r → (∀ (T : hS), k0 T = some r → HW cX7_addBytes RX7 (x_X7_addBytes d S0 args r cs) 0 0 T 49 [] []) → HW cX7_addBytes RX7 (x_X7_addBytes d S0 args r cs) 0 0 S 3 [(0, .ref x0), (1, .int x1), (2, .int x2)] [] := by
  intro n
  induction n with
  | zero =>
    intro x0 x1 x2 S k0 hf
    cases hf
  | succ n ih =>
    intro x0 x1 x2 S k0 hf hk0
    rw [f_X7_addBytes_L3] at hf
    refine h_iload_n dX7_addBytes_3 rfl 2 rfl ?_
    refine h_if_lt (tgt := 49) dX7_addBytes_4 (by decide) (fun c1 => ?_) (fun c1 => ?_)
    · replace hf := hif_p c1 hf
      refine h_sub (lv2 := []) [] rfl ?_
      exact hk0 S hf
    · replace hf := hif_n c1 hf
      refine h_aload_n dX7_addBytes_7 rfl 0 rfl ?_
      obtain ⟨t2, h3, hf⟩ := hbd_s hf
      refine h_getI h3 rfl (Nat.le_of_ble_eq_true rfl) rfl q_33 rfl dX7_addBytes_8 ?_
      refine h_sipush (v := 400) dX7_addBytes_11 rfl ?_
      refine h_icmp_ge (tgt := 43) dX7_addBytes_14 (by decide) (fun c4 => ?_) (fun c4 => ?_)
      · replace hf := hif_p c4 hf
        refine h_iinc (q := 2) (v := x2 + (-8)) (lv2 := [(2, .int (x2 + (-8))), (0, .ref x0), (1, .int x1)]) dX7_addBytes_43 rfl rfl (Nat.le_of_ble_eq_true rfl) rfl ?_
        refine h_goto (tgt := 3) dX7_addBytes_46 (by decide) ?_
        refine h_sub (lv2 := [(0, .ref x0), (1, .int x1), (2, .int (x2 + (-8)))]) [1, 2, 0] rfl ?_
        exact ih x0 x1 (x2 + (-8)) S k0  hf hk0
      · replace hf := hif_n c4 hf
        refine h_aload_n dX7_addBytes_17 rfl 0 rfl ?_
        obtain ⟨t5, h6, hf⟩ := hbd_s hf
        refine h_getR h6 rfl (Nat.le_of_ble_eq_true rfl) rfl q_32 rfl dX7_addBytes_18 ?_
        refine h_aload_n dX7_addBytes_21 rfl 0 rfl ?_
        obtain ⟨t7, h8, hf⟩ := hbd_s hf
        refine h_getI h8 rfl (Nat.le_of_ble_eq_true rfl) rfl q_33 rfl dX7_addBytes_22 ?_
        refine h_iload_n dX7_addBytes_25 rfl 1 rfl ?_
        refine h_iload_n dX7_addBytes_26 rfl 2 rfl ?_
        refine h_iushr dX7_addBytes_27 ?_
        refine h_sipush (v := 255) dX7_addBytes_28 rfl ?_
        refine h_iand dX7_addBytes_31 ?_
        obtain ⟨S9, h10, hf⟩ := hbd_s hf
        refine h_iast h10 dX7_addBytes_32 ?_
        refine h_aload_n dX7_addBytes_33 rfl 0 rfl ?_
        refine h_dup dX7_addBytes_34 rfl ?_
        obtain ⟨t11, h12, hf⟩ := hbd_s hf
        refine h_getI h12 rfl (Nat.le_of_ble_eq_true rfl) rfl q_33 rfl dX7_addBytes_35 ?_
        refine h_iconst (v := 1) dX7_addBytes_38 rfl ?_
        refine h_iadd dX7_addBytes_39 ?_
        obtain ⟨S13, h14, hf⟩ := hbd_s hf
        refine h_putI h14 rfl (Nat.le_of_ble_eq_true rfl) rfl q_33 rfl rfl (by decide +kernel) dX7_addBytes_40 ?_
        refine h_iinc (q := 2) (v := x2 + (-8)) (lv2 := [(2, .int (x2 + (-8))), (0, .ref x0), (1, .int x1)]) dX7_addBytes_43 rfl rfl (Nat.le_of_ble_eq_true rfl) rfl ?_
        refine h_goto (tgt := 3) dX7_addBytes_46 (by decide) ?_
        refine h_sub (lv2 := [(0, .ref x0), (1, .int x1), (2, .int (x2 + (-8)))]) [1, 2, 0] rfl ?_
        exact ih x0 x1 (x2 + (-8)) S13 k0  hf hk0
set_option maxRecDepth 100000 in
set_option maxHeartbeats 4000000 in
theorem m_X7_addBytes {d : Nat} {cs : Nat → Nat} {a0 : Nat} {a1 : Int32} {S : hS} {r : hS} (hd : 1 ≤ d) (hf : f_X7_addBytes a0 a1 S = some r) : HM yX7_addBytes cX7_addBytes 3 none d 0 0 cs [.ref a0, .int a1] S (none) r := by
  unfold f_X7_addBytes at hf
  refine HM.ofHW false (by decide) (fun h => by cases h) (Nat.le_of_ble_eq_true rfl) ?_
  show HW cX7_addBytes RX7 (x_X7_addBytes d S [.ref a0, .int a1] r cs) 0 0 S 0 [(0, .ref a0), (1, .int a1)] []
  refine h_bipush (v := 24) dX7_addBytes_0 rfl ?_
  refine h_istore_n (lv2 := [(2, .int 24), (0, .ref a0), (1, .int a1)]) dX7_addBytes_2 rfl (Nat.le_of_ble_eq_true rfl) rfl ?_
  refine h_sub (lv2 := [(0, .ref a0), (1, .int a1), (2, .int 24)]) [1, 2, 0] rfl ?_
  refine w_X7_addBytes_L3 hd hfuel a0 a1 24 S _  hf ?_
  · intro S15 hf
    obtain rfl := Option.some.inj hf
    exact h_vret rfl rfl rfl (Nat.le_refl _) (Nat.le_refl _) dX7_addBytes_49
abbrev x_X7_cut (d : Nat) (S0 : hS) (args : List Value) (r : Int32 × hS) (cs : Nat → Nat) : hX := (((some .int), 2, d, 0, 0, false), (S0, args, some (.int r.1), r.2), cs)
theorem v_X7_cut : hVW yX7_cut cX7_cut 2 (some .int) RX7 1 := ⟨q_351, q_352, q_2, q_353, by decide +kernel, by decide⟩
def f_X7_cut (a0 : Nat) (a1 : Int32) (S : hS) : Option (Int32 × hS) :=
  if a1 < 0 then
    (some ((-1), S))
  else
    (hbd (gI S a0 7 1) fun t2 =>
     if a1 ≤ t2 then
       (hbd (sI S a0 7 1 a1) fun S5 =>
        some (a1, S5))
     else
       (some ((-1), S)))
set_option maxRecDepth 100000 in
set_option maxHeartbeats 4000000 in
theorem m_X7_cut {d : Nat} {cs : Nat → Nat} {a0 : Nat} {a1 : Int32} {S : hS} {r : Int32 × hS} (hd : 1 ≤ d) (hf : f_X7_cut a0 a1 S = some r) : HM yX7_cut cX7_cut 2 (some .int) d 0 0 cs [.ref a0, .int a1] S (some (.int r.1)) r.2 := by
  unfold f_X7_cut at hf
  refine HM.ofHW false (by decide) (fun h => by cases h) (Nat.le_of_ble_eq_true rfl) ?_
  show HW cX7_cut RX7 (x_X7_cut d S [.ref a0, .int a1] r cs) 0 0 S 0 [(0, .ref a0), (1, .int a1)] []
  refine h_iload_n dX7_cut_0 rfl 1 rfl ?_
  refine h_if_lt (tgt := 12) dX7_cut_1 (by decide) (fun c1 => ?_) (fun c1 => ?_)
  · replace hf := hif_p c1 hf
    refine h_iconst (v := (-1)) dX7_cut_12 rfl ?_
    obtain rfl := Option.some.inj hf
    exact h_iret rfl rfl rfl (Nat.le_refl _) (Nat.le_refl _) dX7_cut_13
  · replace hf := hif_n c1 hf
    refine h_iload_n dX7_cut_4 rfl 1 rfl ?_
    refine h_aload_n dX7_cut_5 rfl 0 rfl ?_
    obtain ⟨t2, h3, hf⟩ := hbd_s hf
    refine h_getI h3 rfl (Nat.le_of_ble_eq_true rfl) rfl q_33 rfl dX7_cut_6 ?_
    refine h_icmp_le (tgt := 14) dX7_cut_9 (by decide) (fun c4 => ?_) (fun c4 => ?_)
    · replace hf := hif_p c4 hf
      refine h_aload_n dX7_cut_14 rfl 0 rfl ?_
      refine h_iload_n dX7_cut_15 rfl 1 rfl ?_
      obtain ⟨S5, h6, hf⟩ := hbd_s hf
      refine h_putI h6 rfl (Nat.le_of_ble_eq_true rfl) rfl q_33 rfl rfl (by decide +kernel) dX7_cut_16 ?_
      refine h_iload_n dX7_cut_19 rfl 1 rfl ?_
      obtain rfl := Option.some.inj hf
      exact h_iret rfl rfl rfl (Nat.le_refl _) (Nat.le_refl _) dX7_cut_20
    · replace hf := hif_n c4 hf
      refine h_iconst (v := (-1)) dX7_cut_12 rfl ?_
      obtain rfl := Option.some.inj hf
      exact h_iret rfl rfl rfl (Nat.le_refl _) (Nat.le_refl _) dX7_cut_13
abbrev x_X7_empty (d : Nat) (S0 : hS) (args : List Value) (r : hS) (cs : Nat → Nat) : hX := ((none, 1, d, 0, 0, false), (S0, args, none, r), cs)
theorem v_X7_empty : hVW yX7_empty cX7_empty 1 none RX7 0 := ⟨q_559, q_560, q_2, q_561, by decide +kernel, by decide⟩
def f_X7_empty (a0 : Nat) (S : hS) : Option (hS) :=
  hbd (sI S a0 7 1 0) fun S1 =>
  some S1
set_option maxRecDepth 100000 in
set_option maxHeartbeats 4000000 in
theorem m_X7_empty {d : Nat} {cs : Nat → Nat} {a0 : Nat} {S : hS} {r : hS} (hd : 1 ≤ d) (hf : f_X7_empty a0 S = some r) : HM yX7_empty cX7_empty 1 none d 0 0 cs [.ref a0] S (none) r := by
  unfold f_X7_empty at hf
  refine HM.ofHW false (by decide) (fun h => by cases h) (Nat.le_of_ble_eq_true rfl) ?_
  show HW cX7_empty RX7 (x_X7_empty d S [.ref a0] r cs) 0 0 S 0 [(0, .ref a0)] []
  refine h_aload_n dX7_empty_0 rfl 0 rfl ?_
  refine h_iconst (v := 0) dX7_empty_1 rfl ?_
  obtain ⟨S1, h2, hf⟩ := hbd_s hf
  refine h_putI h2 rfl (Nat.le_of_ble_eq_true rfl) rfl q_33 rfl rfl (by decide +kernel) dX7_empty_2 ?_
  obtain rfl := Option.some.inj hf
  exact h_vret rfl rfl rfl (Nat.le_refl _) (Nat.le_refl _) dX7_empty_5
abbrev x_X7_start (d : Nat) (S0 : hS) (args : List Value) (r : hS) (cs : Nat → Nat) : hX := ((none, 1, d, 0, 0, false), (S0, args, none, r), cs)
theorem v_X7_start : hVW yX7_start cX7_start 1 none RX7 0 := ⟨q_363, q_364, q_2, q_365, by decide +kernel, by decide⟩
def f_X7_start (a0 : Nat) (S : hS) : Option (hS) :=
  hbd (sI S a0 7 2 0) fun S1 =>
  hbd (sI S1 a0 7 3 0) fun S3 =>
  some S3
set_option maxRecDepth 100000 in
set_option maxHeartbeats 4000000 in
theorem m_X7_start {d : Nat} {cs : Nat → Nat} {a0 : Nat} {S : hS} {r : hS} (hd : 1 ≤ d) (hf : f_X7_start a0 S = some r) : HM yX7_start cX7_start 1 none d 0 0 cs [.ref a0] S (none) r := by
  unfold f_X7_start at hf
  refine HM.ofHW false (by decide) (fun h => by cases h) (Nat.le_of_ble_eq_true rfl) ?_
  show HW cX7_start RX7 (x_X7_start d S [.ref a0] r cs) 0 0 S 0 [(0, .ref a0)] []
  refine h_aload_n dX7_start_0 rfl 0 rfl ?_
  refine h_iconst (v := 0) dX7_start_1 rfl ?_
  obtain ⟨S1, h2, hf⟩ := hbd_s hf
  refine h_putI h2 rfl (Nat.le_of_ble_eq_true rfl) rfl q_35 rfl rfl (by decide +kernel) dX7_start_2 ?_
  refine h_aload_n dX7_start_5 rfl 0 rfl ?_
  refine h_iconst (v := 0) dX7_start_6 rfl ?_
  obtain ⟨S3, h4, hf⟩ := hbd_s hf
  refine h_putI h4 rfl (Nat.le_of_ble_eq_true rfl) rfl q_38 rfl rfl (by decide +kernel) dX7_start_7 ?_
  obtain rfl := Option.some.inj hf
  exact h_vret rfl rfl rfl (Nat.le_refl _) (Nat.le_refl _) dX7_start_10
abbrev x_X7_failed (d : Nat) (S0 : hS) (args : List Value) (r : Int32 × hS) (cs : Nat → Nat) : hX := (((some .boolean), 1, d, 0, 0, false), (S0, args, some (.int r.1), r.2), cs)
theorem v_X7_failed : hVW yX7_failed cX7_failed 1 (some .boolean) RX7 0 := ⟨q_477, q_478, q_2, q_479, by decide +kernel, by decide⟩
def f_X7_failed (a0 : Nat) (S : hS) : Option (Int32 × hS) :=
  hbd (gI S a0 7 3) fun t1 =>
  if t1 = 0 then
    (some (0, S))
  else
    (some (1, S))
set_option maxRecDepth 100000 in
set_option maxHeartbeats 4000000 in
theorem m_X7_failed {d : Nat} {cs : Nat → Nat} {a0 : Nat} {S : hS} {r : Int32 × hS} (hd : 1 ≤ d) (hf : f_X7_failed a0 S = some r) : HM yX7_failed cX7_failed 1 (some .boolean) d 0 0 cs [.ref a0] S (some (.int r.1)) r.2 := by
  unfold f_X7_failed at hf
  refine HM.ofHW false (by decide) (fun h => by cases h) (Nat.le_of_ble_eq_true rfl) ?_
  show HW cX7_failed RX7 (x_X7_failed d S [.ref a0] r cs) 0 0 S 0 [(0, .ref a0)] []
  refine h_aload_n dX7_failed_0 rfl 0 rfl ?_
  obtain ⟨t1, h2, hf⟩ := hbd_s hf
  refine h_getI h2 rfl (Nat.le_of_ble_eq_true rfl) rfl q_38 rfl dX7_failed_1 ?_
  refine h_if_eq (tgt := 11) dX7_failed_4 (by decide) (fun c3 => ?_) (fun c3 => ?_)
  · replace hf := hif_p c3 hf
    refine h_iconst (v := 0) dX7_failed_11 rfl ?_
    obtain rfl := Option.some.inj hf
    exact h_zret rfl (by decide) rfl rfl (Nat.le_refl _) (Nat.le_refl _) dX7_failed_12
  · replace hf := hif_n c3 hf
    refine h_iconst (v := 1) dX7_failed_7 rfl ?_
    refine h_goto (tgt := 12) dX7_failed_8 (by decide) ?_
    obtain rfl := Option.some.inj hf
    exact h_zret rfl (by decide) rfl rfl (Nat.le_refl _) (Nat.le_refl _) dX7_failed_12
abbrev x_X7_fail (d : Nat) (S0 : hS) (args : List Value) (r : hS) (cs : Nat → Nat) : hX := ((none, 3, d, 0, 0, false), (S0, args, none, r), cs)
theorem v_X7_fail : hVW yX7_fail cX7_fail 3 none RX7 2 := ⟨q_452, q_453, q_2, q_454, by decide +kernel, by decide⟩
def f_X7_fail (a0 : Nat) (a1 : Int32) (a2 : Int32) (S : hS) : Option (hS) :=
  hbd (gI S a0 7 3) fun t1 =>
  if t1 = 0 then
    (hbd (sI S a0 7 3 ((1 + (8 * a2)) + a1)) fun S4 =>
     some S4)
  else
    (some S)
set_option maxRecDepth 100000 in
set_option maxHeartbeats 4000000 in
theorem m_X7_fail {d : Nat} {cs : Nat → Nat} {a0 : Nat} {a1 : Int32} {a2 : Int32} {S : hS} {r : hS} (hd : 1 ≤ d) (hf : f_X7_fail a0 a1 a2 S = some r) : HM yX7_fail cX7_fail 3 none d 0 0 cs [.ref a0, .int a1, .int a2] S (none) r := by
  unfold f_X7_fail at hf
  refine HM.ofHW false (by decide) (fun h => by cases h) (Nat.le_of_ble_eq_true rfl) ?_
  show HW cX7_fail RX7 (x_X7_fail d S [.ref a0, .int a1, .int a2] r cs) 0 0 S 0 [(0, .ref a0), (1, .int a1), (2, .int a2)] []
  refine h_aload_n dX7_fail_0 rfl 0 rfl ?_
  obtain ⟨t1, h2, hf⟩ := hbd_s hf
  refine h_getI h2 rfl (Nat.le_of_ble_eq_true rfl) rfl q_38 rfl dX7_fail_1 ?_
  refine h_if_ne (tgt := 19) dX7_fail_4 (by decide) (fun c3 => ?_) (fun c3 => ?_)
  · replace hf := hif_n c3 hf
    obtain rfl := Option.some.inj hf
    exact h_vret rfl rfl rfl (Nat.le_refl _) (Nat.le_refl _) dX7_fail_19
  · replace hf := hif_p c3 hf
    refine h_aload_n dX7_fail_7 rfl 0 rfl ?_
    refine h_iconst (v := 1) dX7_fail_8 rfl ?_
    refine h_bipush (v := 8) dX7_fail_9 rfl ?_
    refine h_iload_n dX7_fail_11 rfl 2 rfl ?_
    refine h_imul dX7_fail_12 ?_
    refine h_iadd dX7_fail_13 ?_
    refine h_iload_n dX7_fail_14 rfl 1 rfl ?_
    refine h_iadd dX7_fail_15 ?_
    obtain ⟨S4, h5, hf⟩ := hbd_s hf
    refine h_putI h5 rfl (Nat.le_of_ble_eq_true rfl) rfl q_38 rfl rfl (by decide +kernel) dX7_fail_16 ?_
    obtain rfl := Option.some.inj hf
    exact h_vret rfl rfl rfl (Nat.le_refl _) (Nat.le_refl _) dX7_fail_19
abbrev x_X7_next (d : Nat) (S0 : hS) (args : List Value) (r : Int32 × hS) (cs : Nat → Nat) : hX := (((some .int), 1, d, 0, 0, false), (S0, args, some (.int r.1), r.2), cs)
theorem v_X7_next : hVW yX7_next cX7_next 1 (some .int) RX7 0 := ⟨q_392, q_393, q_2, q_394, by decide +kernel, by decide⟩
def f_X7_next_L0 : Nat → Nat → hS → (hS → Option (Int32 × hS)) → Option (Int32 × hS)
  | 0, _, _, _ => none
  | n + 1, x0, S, k0 =>
    hbd (gI S x0 7 2) fun t1 =>
    hbd (gI S x0 7 1) fun t3 =>
    if t3 ≤ t1 then
      (k0 S)
    else
      (hbd (gR S x0 7 0) fun t6 =>
       hbd (gI S x0 7 2) fun t8 =>
       hbd (gA S t6 12 t8) fun t10 =>
       if t10 = 32 then
         (hbd (gI S x0 7 2) fun t13 =>
          hbd (sI S x0 7 2 (t13 + 1)) fun S15 =>
          f_X7_next_L0 n x0 S15 k0)
       else
         (k0 S))
def f_X7_next (a0 : Nat) (S : hS) : Option (Int32 × hS) :=
  f_X7_next_L0 hfuel a0 S
    (fun S17 =>
      hbd (gI S17 a0 7 2) fun t18 =>
      hbd (gI S17 a0 7 1) fun t20 =>
      if t20 ≤ t18 then
        (some ((-1), S17))
      else
        (hbd (gR S17 a0 7 0) fun t23 =>
         hbd (gI S17 a0 7 2) fun t25 =>
         hbd (gA S17 t23 12 t25) fun t27 =>
         some (t27, S17))
    )
set_option maxRecDepth 100000 in
set_option maxHeartbeats 4000000 in
theorem w_X7_next_L0 {d : Nat} {S0 : hS} {args : List Value} {cs : Nat → Nat} {r : Int32 × hS} (hd : 1 ≤ d) : ∀ (n : Nat) (x0 : Nat) (S : hS) (k0 : (hS → Option (Int32 × hS))) , f_X7_next_L0 n x0 S k0 = some r → (∀ (T : hS), k0 T = some r → HW cX7_next RX7 (x_X7_next d S0 args r cs) 0 0 T 38 [(0, .ref x0)] []) → HW cX7_next RX7 (x_X7_next d S0 args r cs) 0 0 S 0 [(0, .ref x0)] [] := by
  intro n
  induction n with
  | zero =>
    intro x0 S k0 hf
    cases hf
  | succ n ih =>
    intro x0 S k0 hf hk0
    rw [f_X7_next_L0] at hf
    refine h_aload_n dX7_next_0 rfl 0 rfl ?_
    obtain ⟨t1, h2, hf⟩ := hbd_s hf
    refine h_getI h2 rfl (Nat.le_of_ble_eq_true rfl) rfl q_35 rfl dX7_next_1 ?_
    refine h_aload_n dX7_next_4 rfl 0 rfl ?_
    obtain ⟨t3, h4, hf⟩ := hbd_s hf
    refine h_getI h4 rfl (Nat.le_of_ble_eq_true rfl) rfl q_33 rfl dX7_next_5 ?_
    refine h_icmp_ge (tgt := 38) dX7_next_8 (by decide) (fun c5 => ?_) (fun c5 => ?_)
    · replace hf := hif_p c5 hf
      exact hk0 S hf
    · replace hf := hif_n c5 hf
      refine h_aload_n dX7_next_11 rfl 0 rfl ?_
      obtain ⟨t6, h7, hf⟩ := hbd_s hf
      refine h_getR h7 rfl (Nat.le_of_ble_eq_true rfl) rfl q_32 rfl dX7_next_12 ?_
      refine h_aload_n dX7_next_15 rfl 0 rfl ?_
      obtain ⟨t8, h9, hf⟩ := hbd_s hf
      refine h_getI h9 rfl (Nat.le_of_ble_eq_true rfl) rfl q_35 rfl dX7_next_16 ?_
      obtain ⟨t10, h11, hf⟩ := hbd_s hf
      refine h_iald h11 dX7_next_19 ?_
      refine h_bipush (v := 32) dX7_next_20 rfl ?_
      refine h_icmp_ne (tgt := 38) dX7_next_22 (by decide) (fun c12 => ?_) (fun c12 => ?_)
      · replace hf := hif_n c12 hf
        exact hk0 S hf
      · replace hf := hif_p c12 hf
        refine h_aload_n dX7_next_25 rfl 0 rfl ?_
        refine h_dup dX7_next_26 rfl ?_
        obtain ⟨t13, h14, hf⟩ := hbd_s hf
        refine h_getI h14 rfl (Nat.le_of_ble_eq_true rfl) rfl q_35 rfl dX7_next_27 ?_
        refine h_iconst (v := 1) dX7_next_30 rfl ?_
        refine h_iadd dX7_next_31 ?_
        obtain ⟨S15, h16, hf⟩ := hbd_s hf
        refine h_putI h16 rfl (Nat.le_of_ble_eq_true rfl) rfl q_35 rfl rfl (by decide +kernel) dX7_next_32 ?_
        refine h_goto (tgt := 0) dX7_next_35 (by decide) ?_
        exact ih x0 S15 k0  hf hk0
set_option maxRecDepth 100000 in
set_option maxHeartbeats 4000000 in
theorem m_X7_next {d : Nat} {cs : Nat → Nat} {a0 : Nat} {S : hS} {r : Int32 × hS} (hd : 1 ≤ d) (hf : f_X7_next a0 S = some r) : HM yX7_next cX7_next 1 (some .int) d 0 0 cs [.ref a0] S (some (.int r.1)) r.2 := by
  unfold f_X7_next at hf
  refine HM.ofHW false (by decide) (fun h => by cases h) (Nat.le_of_ble_eq_true rfl) ?_
  show HW cX7_next RX7 (x_X7_next d S [.ref a0] r cs) 0 0 S 0 [(0, .ref a0)] []
  refine w_X7_next_L0 hd hfuel a0 S _  hf ?_
  · intro S17 hf
    refine h_aload_n dX7_next_38 rfl 0 rfl ?_
    obtain ⟨t18, h19, hf⟩ := hbd_s hf
    refine h_getI h19 rfl (Nat.le_of_ble_eq_true rfl) rfl q_35 rfl dX7_next_39 ?_
    refine h_aload_n dX7_next_42 rfl 0 rfl ?_
    obtain ⟨t20, h21, hf⟩ := hbd_s hf
    refine h_getI h21 rfl (Nat.le_of_ble_eq_true rfl) rfl q_33 rfl dX7_next_43 ?_
    refine h_icmp_ge (tgt := 61) dX7_next_46 (by decide) (fun c22 => ?_) (fun c22 => ?_)
    · replace hf := hif_p c22 hf
      refine h_iconst (v := (-1)) dX7_next_61 rfl ?_
      obtain rfl := Option.some.inj hf
      exact h_iret rfl rfl rfl (Nat.le_refl _) (Nat.le_refl _) dX7_next_62
    · replace hf := hif_n c22 hf
      refine h_aload_n dX7_next_49 rfl 0 rfl ?_
      obtain ⟨t23, h24, hf⟩ := hbd_s hf
      refine h_getR h24 rfl (Nat.le_of_ble_eq_true rfl) rfl q_32 rfl dX7_next_50 ?_
      refine h_aload_n dX7_next_53 rfl 0 rfl ?_
      obtain ⟨t25, h26, hf⟩ := hbd_s hf
      refine h_getI h26 rfl (Nat.le_of_ble_eq_true rfl) rfl q_35 rfl dX7_next_54 ?_
      obtain ⟨t27, h28, hf⟩ := hbd_s hf
      refine h_iald h28 dX7_next_57 ?_
      refine h_goto (tgt := 62) dX7_next_58 (by decide) ?_
      obtain rfl := Option.some.inj hf
      exact h_iret rfl rfl rfl (Nat.le_refl _) (Nat.le_refl _) dX7_next_62
abbrev x_X7_takes (d : Nat) (S0 : hS) (args : List Value) (r : Int32 × hS) (cs : Nat → Nat) : hX := (((some .boolean), 2, d, 0, 0, false), (S0, args, some (.int r.1), r.2), cs)
theorem v_X7_takes : hVW yX7_takes cX7_takes 2 (some .boolean) RX7 1 := ⟨q_551, q_552, q_2, q_553, by decide +kernel, by decide⟩
def f_X7_takes (a0 : Nat) (a1 : Int32) (S : hS) : Option (Int32 × hS) :=
  hbd (gI S a0 7 2) fun t1 =>
  hbd (gI S a0 7 1) fun t3 =>
  if t3 ≤ t1 then
    (some (0, S))
  else
    (hbd (gR S a0 7 0) fun t6 =>
     hbd (gI S a0 7 2) fun t8 =>
     hbd (gA S t6 12 t8) fun t10 =>
     if t10 = a1 then
       (hbd (gI S a0 7 2) fun t13 =>
        hbd (sI S a0 7 2 (t13 + 1)) fun S15 =>
        some (1, S15))
     else
       (some (0, S)))
set_option maxRecDepth 100000 in
set_option maxHeartbeats 4000000 in
theorem m_X7_takes {d : Nat} {cs : Nat → Nat} {a0 : Nat} {a1 : Int32} {S : hS} {r : Int32 × hS} (hd : 1 ≤ d) (hf : f_X7_takes a0 a1 S = some r) : HM yX7_takes cX7_takes 2 (some .boolean) d 0 0 cs [.ref a0, .int a1] S (some (.int r.1)) r.2 := by
  unfold f_X7_takes at hf
  refine HM.ofHW false (by decide) (fun h => by cases h) (Nat.le_of_ble_eq_true rfl) ?_
  show HW cX7_takes RX7 (x_X7_takes d S [.ref a0, .int a1] r cs) 0 0 S 0 [(0, .ref a0), (1, .int a1)] []
  refine h_aload_n dX7_takes_0 rfl 0 rfl ?_
  obtain ⟨t1, h2, hf⟩ := hbd_s hf
  refine h_getI h2 rfl (Nat.le_of_ble_eq_true rfl) rfl q_35 rfl dX7_takes_1 ?_
  refine h_aload_n dX7_takes_4 rfl 0 rfl ?_
  obtain ⟨t3, h4, hf⟩ := hbd_s hf
  refine h_getI h4 rfl (Nat.le_of_ble_eq_true rfl) rfl q_33 rfl dX7_takes_5 ?_
  refine h_icmp_ge (tgt := 36) dX7_takes_8 (by decide) (fun c5 => ?_) (fun c5 => ?_)
  · replace hf := hif_p c5 hf
    refine h_iconst (v := 0) dX7_takes_36 rfl ?_
    obtain rfl := Option.some.inj hf
    exact h_zret rfl (by decide) rfl rfl (Nat.le_refl _) (Nat.le_refl _) dX7_takes_37
  · replace hf := hif_n c5 hf
    refine h_aload_n dX7_takes_11 rfl 0 rfl ?_
    obtain ⟨t6, h7, hf⟩ := hbd_s hf
    refine h_getR h7 rfl (Nat.le_of_ble_eq_true rfl) rfl q_32 rfl dX7_takes_12 ?_
    refine h_aload_n dX7_takes_15 rfl 0 rfl ?_
    obtain ⟨t8, h9, hf⟩ := hbd_s hf
    refine h_getI h9 rfl (Nat.le_of_ble_eq_true rfl) rfl q_35 rfl dX7_takes_16 ?_
    obtain ⟨t10, h11, hf⟩ := hbd_s hf
    refine h_iald h11 dX7_takes_19 ?_
    refine h_iload_n dX7_takes_20 rfl 1 rfl ?_
    refine h_icmp_ne (tgt := 36) dX7_takes_21 (by decide) (fun c12 => ?_) (fun c12 => ?_)
    · replace hf := hif_n c12 hf
      refine h_iconst (v := 0) dX7_takes_36 rfl ?_
      obtain rfl := Option.some.inj hf
      exact h_zret rfl (by decide) rfl rfl (Nat.le_refl _) (Nat.le_refl _) dX7_takes_37
    · replace hf := hif_p c12 hf
      refine h_aload_n dX7_takes_24 rfl 0 rfl ?_
      refine h_dup dX7_takes_25 rfl ?_
      obtain ⟨t13, h14, hf⟩ := hbd_s hf
      refine h_getI h14 rfl (Nat.le_of_ble_eq_true rfl) rfl q_35 rfl dX7_takes_26 ?_
      refine h_iconst (v := 1) dX7_takes_29 rfl ?_
      refine h_iadd dX7_takes_30 ?_
      obtain ⟨S15, h16, hf⟩ := hbd_s hf
      refine h_putI h16 rfl (Nat.le_of_ble_eq_true rfl) rfl q_35 rfl rfl (by decide +kernel) dX7_takes_31 ?_
      refine h_iconst (v := 1) dX7_takes_34 rfl ?_
      obtain rfl := Option.some.inj hf
      exact h_zret rfl (by decide) rfl rfl (Nat.le_refl _) (Nat.le_refl _) dX7_takes_35
abbrev x_X7_number (d : Nat) (S0 : hS) (args : List Value) (r : Int32 × hS) (cs : Nat → Nat) : hX := (((some .int), 5, d, 0, 0, false), (S0, args, some (.int r.1), r.2), cs)
theorem v_X7_number : hVW yX7_number cX7_number 5 (some .int) RX7 2 := ⟨q_468, q_469, q_2, q_470, by decide +kernel, by decide⟩
def f_X7_number_L13 : Nat → Nat → Int32 → Int32 → hS → (Int32 → hS → Option (Int32 × hS)) → Option (Int32 × hS)
  | 0, _, _, _, _, _ => none
  | n + 1, x0, x3, x4, S, k0 =>
    hbd (gI S x0 7 2) fun t1 =>
    hbd (gI S x0 7 1) fun t3 =>
    if t3 ≤ t1 then
      (k0 x4 S)
    else
      (hbd (gR S x0 7 0) fun t6 =>
       hbd (gI S x0 7 2) fun t8 =>
       hbd (gA S t6 12 t8) fun t10 =>
       if t10 < 48 then
         (k0 x4 S)
       else
         (hbd (gR S x0 7 0) fun t13 =>
          hbd (gI S x0 7 2) fun t15 =>
          hbd (gA S t13 12 t15) fun t17 =>
          if 57 < t17 then
            (k0 x4 S)
          else
            (hbd (gI S x0 7 2) fun t20 =>
             hj (γ := Int32 → Option (Int32 × hS)) (fun (u23 : Int32) =>
               hbd (gI S x0 7 2) fun t24 =>
               hbd (sI S x0 7 2 (t24 + 1)) fun S26 =>
               f_X7_number_L13 n x0 x3 u23 S26 k0
               ) fun J22 =>
             if 5 ≤ (t20 - x3) then
               (J22 x4)
             else
               (hbd (gR S x0 7 0) fun t29 =>
                hbd (gI S x0 7 2) fun t31 =>
                hbd (gA S t29 12 t31) fun t33 =>
                J22 (((x4 * 10) + t33) - 48)))))
def f_X7_number (a0 : Nat) (a1 : Int32) (a2 : Int32) (S : hS) : Option (Int32 × hS) :=
  hck (S.K a0 = 8) <|
  hb2 (f_X7_next a0 S) fun t37 S36 =>
  hbd (gI S36 a0 7 2) fun t38 =>
  f_X7_number_L13 hfuel a0 t38 0 S36
    (fun u40 S41 =>
      hbd (gI S41 a0 7 2) fun t42 =>
      if t42 = t38 then
        (hck (S41.K a0 = 8) <|
         hbd (f_X7_fail a0 0 t38 S41) fun S55 =>
         some (u40, S55))
      else
        (hbd (gI S41 a0 7 2) fun t45 =>
         hj (γ := Unit → Option (Int32 × hS)) (fun (_ : Unit) =>
           hck (S41.K a0 = 8) <|
           hbd (f_X7_fail a0 1 t38 S41) fun S49 =>
           some (u40, S49)
           ) fun J47 =>
         if 5 < (t45 - t38) then
           (J47 ())
         else
           (if u40 < a1 then
              (J47 ())
            else
              (if u40 ≤ a2 then
                 (some (u40, S41))
               else
                 (J47 ()))))
    )
set_option maxRecDepth 100000 in
set_option maxHeartbeats 4000000 in
theorem w_X7_number_L13 {d : Nat} {S0 : hS} {args : List Value} {cs : Nat → Nat} {r : Int32 × hS} (hd : 2 ≤ d) : ∀ (n : Nat) (x0 : Nat) (x3 : Int32) (x4 : Int32) (S : hS) (k0 : (Int32 → hS → Option (Int32 × hS))) (z1 : Int32) (z2 : Int32), f_X7_number_L13 n x0 x3 x4 S k0 = some r → (∀ (y4 : Int32) (T : hS), k0 y4 T = some r → HW cX7_number RX7 (x_X7_number d S0 args r cs) 0 0 T 95 [(0, .ref x0), (1, .int z1), (2, .int z2), (3, .int x3), (4, .int y4)] []) → HW cX7_number RX7 (x_X7_number d S0 args r cs) 0 0 S 13 [(0, .ref x0), (1, .int z1), (2, .int z2), (3, .int x3), (4, .int x4)] [] := by
  intro n
  induction n with
  | zero =>
    intro x0 x3 x4 S k0 z1 z2 hf
    cases hf
  | succ n ih =>
    intro x0 x3 x4 S k0 z1 z2 hf hk0
    rw [f_X7_number_L13] at hf
    refine h_aload_n dX7_number_13 rfl 0 rfl ?_
    obtain ⟨t1, h2, hf⟩ := hbd_s hf
    refine h_getI h2 rfl (Nat.le_of_ble_eq_true rfl) rfl q_35 rfl dX7_number_14 ?_
    refine h_aload_n dX7_number_17 rfl 0 rfl ?_
    obtain ⟨t3, h4, hf⟩ := hbd_s hf
    refine h_getI h4 rfl (Nat.le_of_ble_eq_true rfl) rfl q_33 rfl dX7_number_18 ?_
    refine h_icmp_ge (tgt := 95) dX7_number_21 (by decide) (fun c5 => ?_) (fun c5 => ?_)
    · replace hf := hif_p c5 hf
      exact hk0 x4 S hf
    · replace hf := hif_n c5 hf
      refine h_aload_n dX7_number_24 rfl 0 rfl ?_
      obtain ⟨t6, h7, hf⟩ := hbd_s hf
      refine h_getR h7 rfl (Nat.le_of_ble_eq_true rfl) rfl q_32 rfl dX7_number_25 ?_
      refine h_aload_n dX7_number_28 rfl 0 rfl ?_
      obtain ⟨t8, h9, hf⟩ := hbd_s hf
      refine h_getI h9 rfl (Nat.le_of_ble_eq_true rfl) rfl q_35 rfl dX7_number_29 ?_
      obtain ⟨t10, h11, hf⟩ := hbd_s hf
      refine h_iald h11 dX7_number_32 ?_
      refine h_bipush (v := 48) dX7_number_33 rfl ?_
      refine h_icmp_lt (tgt := 95) dX7_number_35 (by decide) (fun c12 => ?_) (fun c12 => ?_)
      · replace hf := hif_p c12 hf
        exact hk0 x4 S hf
      · replace hf := hif_n c12 hf
        refine h_aload_n dX7_number_38 rfl 0 rfl ?_
        obtain ⟨t13, h14, hf⟩ := hbd_s hf
        refine h_getR h14 rfl (Nat.le_of_ble_eq_true rfl) rfl q_32 rfl dX7_number_39 ?_
        refine h_aload_n dX7_number_42 rfl 0 rfl ?_
        obtain ⟨t15, h16, hf⟩ := hbd_s hf
        refine h_getI h16 rfl (Nat.le_of_ble_eq_true rfl) rfl q_35 rfl dX7_number_43 ?_
        obtain ⟨t17, h18, hf⟩ := hbd_s hf
        refine h_iald h18 dX7_number_46 ?_
        refine h_bipush (v := 57) dX7_number_47 rfl ?_
        refine h_icmp_gt (tgt := 95) dX7_number_49 (by decide) (fun c19 => ?_) (fun c19 => ?_)
        · replace hf := hif_p c19 hf
          exact hk0 x4 S hf
        · replace hf := hif_n c19 hf
          refine h_aload_n dX7_number_52 rfl 0 rfl ?_
          obtain ⟨t20, h21, hf⟩ := hbd_s hf
          refine h_getI h21 rfl (Nat.le_of_ble_eq_true rfl) rfl q_35 rfl dX7_number_53 ?_
          refine h_iload_n dX7_number_56 rfl 3 rfl ?_
          refine h_isub dX7_number_57 ?_
          refine h_iconst (v := 5) dX7_number_58 rfl ?_
          refine hj_s (fun J22 => ∀ (u23 : Int32), J22 u23 = some r → HW cX7_number RX7 (x_X7_number d S0 args r cs) 0 0 S 82 [(0, .ref x0), (1, .int z1), (2, .int z2), (3, .int x3), (4, .int u23)] []) hf ?_ ?_
          · intro u23 hf
            refine h_aload_n dX7_number_82 rfl 0 rfl ?_
            refine h_dup dX7_number_83 rfl ?_
            obtain ⟨t24, h25, hf⟩ := hbd_s hf
            refine h_getI h25 rfl (Nat.le_of_ble_eq_true rfl) rfl q_35 rfl dX7_number_84 ?_
            refine h_iconst (v := 1) dX7_number_87 rfl ?_
            refine h_iadd dX7_number_88 ?_
            obtain ⟨S26, h27, hf⟩ := hbd_s hf
            refine h_putI h27 rfl (Nat.le_of_ble_eq_true rfl) rfl q_35 rfl rfl (by decide +kernel) dX7_number_89 ?_
            refine h_goto (tgt := 13) dX7_number_92 (by decide) ?_
            exact ih x0 x3 u23 S26 k0 z1 z2 hf hk0
          · intro J22 hJ22 hf
            refine h_icmp_ge (tgt := 82) dX7_number_59 (by decide) (fun c28 => ?_) (fun c28 => ?_)
            · replace hf := hif_p c28 hf
              exact hJ22 x4 hf
            · replace hf := hif_n c28 hf
              refine h_iload dX7_number_62 4 rfl ?_
              refine h_bipush (v := 10) dX7_number_64 rfl ?_
              refine h_imul dX7_number_66 ?_
              refine h_aload_n dX7_number_67 rfl 0 rfl ?_
              obtain ⟨t29, h30, hf⟩ := hbd_s hf
              refine h_getR h30 rfl (Nat.le_of_ble_eq_true rfl) rfl q_32 rfl dX7_number_68 ?_
              refine h_aload_n dX7_number_71 rfl 0 rfl ?_
              obtain ⟨t31, h32, hf⟩ := hbd_s hf
              refine h_getI h32 rfl (Nat.le_of_ble_eq_true rfl) rfl q_35 rfl dX7_number_72 ?_
              obtain ⟨t33, h34, hf⟩ := hbd_s hf
              refine h_iald h34 dX7_number_75 ?_
              refine h_iadd dX7_number_76 ?_
              refine h_bipush (v := 48) dX7_number_77 rfl ?_
              refine h_isub dX7_number_79 ?_
              refine h_istore (lv2 := [(4, .int (((x4 * 10) + t33) - 48)), (0, .ref x0), (1, .int z1), (2, .int z2), (3, .int x3)]) dX7_number_80 (Nat.le_of_ble_eq_true rfl) rfl ?_
              refine h_sub (lv2 := [(0, .ref x0), (1, .int z1), (2, .int z2), (3, .int x3), (4, .int (((x4 * 10) + t33) - 48))]) [1, 2, 3, 4, 0] rfl ?_
              exact hJ22 (((x4 * 10) + t33) - 48) hf
set_option maxRecDepth 100000 in
set_option maxHeartbeats 4000000 in
theorem m_X7_number {d : Nat} {cs : Nat → Nat} {a0 : Nat} {a1 : Int32} {a2 : Int32} {S : hS} {r : Int32 × hS} (hd : 2 ≤ d) (hf : f_X7_number a0 a1 a2 S = some r) : HM yX7_number cX7_number 5 (some .int) d 0 0 cs [.ref a0, .int a1, .int a2] S (some (.int r.1)) r.2 := by
  unfold f_X7_number at hf
  refine HM.ofHW false (by decide) (fun h => by cases h) (Nat.le_of_ble_eq_true rfl) ?_
  show HW cX7_number RX7 (x_X7_number d S [.ref a0, .int a1, .int a2] r cs) 0 0 S 0 [(0, .ref a0), (1, .int a1), (2, .int a2)] []
  refine h_aload_n dX7_number_0 rfl 0 rfl ?_
  obtain ⟨g57, hf⟩ := hck_s hf
  obtain ⟨t37, S36, h35, hf⟩ := hb2_s hf
  refine h_Vi [] (rest := []) (m_X7_next (d := 1) (cs := cs) (Nat.le_refl _) h35) v_X7_next q_391 rfl (Nat.le_trans (by decide) hd) g57 rfl rfl (Nat.le_of_ble_eq_true rfl) dX7_number_1 (Nat.le_refl _) (Nat.le_refl _) ?_
  refine h_pop dX7_number_4 rfl ?_
  refine h_aload_n dX7_number_5 rfl 0 rfl ?_
  obtain ⟨t38, h39, hf⟩ := hbd_s hf
  refine h_getI h39 rfl (Nat.le_of_ble_eq_true rfl) rfl q_35 rfl dX7_number_6 ?_
  refine h_istore_n (lv2 := [(3, .int t38), (0, .ref a0), (1, .int a1), (2, .int a2)]) dX7_number_9 rfl (Nat.le_of_ble_eq_true rfl) rfl ?_
  refine h_iconst (v := 0) dX7_number_10 rfl ?_
  refine h_istore (lv2 := [(4, .int 0), (3, .int t38), (0, .ref a0), (1, .int a1), (2, .int a2)]) dX7_number_11 (Nat.le_of_ble_eq_true rfl) rfl ?_
  refine h_sub (lv2 := [(0, .ref a0), (1, .int a1), (2, .int a2), (3, .int t38), (4, .int 0)]) [2, 3, 4, 1, 0] rfl ?_
  refine w_X7_number_L13 hd hfuel a0 t38 0 S36 _ a1 a2 hf ?_
  · intro u40 S41 hf
    refine h_aload_n dX7_number_95 rfl 0 rfl ?_
    obtain ⟨t42, h43, hf⟩ := hbd_s hf
    refine h_getI h43 rfl (Nat.le_of_ble_eq_true rfl) rfl q_35 rfl dX7_number_96 ?_
    refine h_iload_n dX7_number_99 rfl 3 rfl ?_
    refine h_icmp_ne (tgt := 112) dX7_number_100 (by decide) (fun c44 => ?_) (fun c44 => ?_)
    · replace hf := hif_n c44 hf
      refine h_aload_n dX7_number_112 rfl 0 rfl ?_
      obtain ⟨t45, h46, hf⟩ := hbd_s hf
      refine h_getI h46 rfl (Nat.le_of_ble_eq_true rfl) rfl q_35 rfl dX7_number_113 ?_
      refine h_iload_n dX7_number_116 rfl 3 rfl ?_
      refine h_isub dX7_number_117 ?_
      refine h_iconst (v := 5) dX7_number_118 rfl ?_
      refine hj_s (fun J47 => ∀ (w : Unit), J47 w = some r → HW cX7_number RX7 (x_X7_number d S [.ref a0, .int a1, .int a2] r cs) 0 0 S41 134 [(0, .ref a0), (3, .int t38), (4, .int u40)] []) hf ?_ ?_
      · intro w hf
        refine h_aload_n dX7_number_134 rfl 0 rfl ?_
        refine h_iconst (v := 1) dX7_number_135 rfl ?_
        refine h_iload_n dX7_number_136 rfl 1 rfl ?_
        obtain ⟨g50, hf⟩ := hck_s hf
        obtain ⟨S49, h48, hf⟩ := hbd_s hf
        refine h_Vv [.int 1, .int t38] (rest := []) (m_X7_fail (d := 1) (cs := cs) (Nat.le_refl _) h48) v_X7_fail q_471 rfl (Nat.le_trans (by decide) hd) g50 rfl rfl (Nat.le_of_ble_eq_true rfl) dX7_number_137 (Nat.le_refl _) (Nat.le_refl _) ?_
        refine h_iload dX7_number_140 2 rfl ?_
        obtain rfl := Option.some.inj hf
        exact h_iret rfl rfl rfl (Nat.le_refl _) (Nat.le_refl _) dX7_number_142
      · intro J47 hJ47 hf
        refine h_icmp_gt (tgt := 134) dX7_number_119 (by decide) (fun c51 => ?_) (fun c51 => ?_)
        · replace hf := hif_p c51 hf
          refine h_sub (lv2 := [(0, .ref a0), (3, .int t38), (4, .int u40)]) [0, 3, 4] rfl ?_
          exact hJ47 () hf
        · replace hf := hif_n c51 hf
          refine h_iload dX7_number_122 4 rfl ?_
          refine h_iload_n dX7_number_124 rfl 1 rfl ?_
          refine h_icmp_lt (tgt := 134) dX7_number_125 (by decide) (fun c52 => ?_) (fun c52 => ?_)
          · replace hf := hif_p c52 hf
            refine h_sub (lv2 := [(0, .ref a0), (3, .int t38), (4, .int u40)]) [0, 3, 4] rfl ?_
            exact hJ47 () hf
          · replace hf := hif_n c52 hf
            refine h_iload dX7_number_128 4 rfl ?_
            refine h_iload_n dX7_number_130 rfl 2 rfl ?_
            refine h_icmp_le (tgt := 140) dX7_number_131 (by decide) (fun c53 => ?_) (fun c53 => ?_)
            · replace hf := hif_p c53 hf
              refine h_iload dX7_number_140 4 rfl ?_
              obtain rfl := Option.some.inj hf
              exact h_iret rfl rfl rfl (Nat.le_refl _) (Nat.le_refl _) dX7_number_142
            · replace hf := hif_n c53 hf
              refine h_sub (lv2 := [(0, .ref a0), (3, .int t38), (4, .int u40)]) [0, 3, 4] rfl ?_
              exact hJ47 () hf
    · replace hf := hif_p c44 hf
      refine h_aload_n dX7_number_103 rfl 0 rfl ?_
      refine h_iconst (v := 0) dX7_number_104 rfl ?_
      refine h_iload_n dX7_number_105 rfl 3 rfl ?_
      obtain ⟨g56, hf⟩ := hck_s hf
      obtain ⟨S55, h54, hf⟩ := hbd_s hf
      refine h_Vv [.int 0, .int t38] (rest := []) (m_X7_fail (d := 1) (cs := cs) (Nat.le_refl _) h54) v_X7_fail q_471 rfl (Nat.le_trans (by decide) hd) g56 rfl rfl (Nat.le_of_ble_eq_true rfl) dX7_number_106 (Nat.le_refl _) (Nat.le_refl _) ?_
      refine h_goto (tgt := 140) dX7_number_109 (by decide) ?_
      refine h_iload dX7_number_140 4 rfl ?_
      obtain rfl := Option.some.inj hf
      exact h_iret rfl rfl rfl (Nat.le_refl _) (Nat.le_refl _) dX7_number_142
abbrev x_X7_letters (d : Nat) (S0 : hS) (args : List Value) (r : Int32 × hS) (cs : Nat → Nat) : hX := (((some .int), 2, d, 0, 0, false), (S0, args, some (.int r.1), r.2), cs)
theorem v_X7_letters : hVW yX7_letters cX7_letters 2 (some .int) RX7 0 := ⟨q_397, q_s2, q_2, q_398, by decide +kernel, by decide⟩
def f_X7_letters_L2 : Nat → Nat → Int32 → hS → (Int32 → Option (Int32 × hS)) → Option (Int32 × hS)
  | 0, _, _, _, _ => none
  | n + 1, x0, x1, S, k0 =>
    hbd (gI S x0 7 2) fun t1 =>
    hbd (gI S x0 7 1) fun t3 =>
    if t3 ≤ (t1 + x1) then
      (k0 x1)
    else
      (hbd (gR S x0 7 0) fun t6 =>
       hbd (gI S x0 7 2) fun t8 =>
       hbd (gA S t6 12 (t8 + x1)) fun t10 =>
       if t10 < 97 then
         (k0 x1)
       else
         (hbd (gR S x0 7 0) fun t13 =>
          hbd (gI S x0 7 2) fun t15 =>
          hbd (gA S t13 12 (t15 + x1)) fun t17 =>
          if 122 < t17 then
            (k0 x1)
          else
            (f_X7_letters_L2 n x0 (x1 + 1) S k0)))
def f_X7_letters (a0 : Nat) (S : hS) : Option (Int32 × hS) :=
  f_X7_letters_L2 hfuel a0 0 S
    (fun u20 =>
      some (u20, S)
    )
set_option maxRecDepth 100000 in
set_option maxHeartbeats 4000000 in
theorem w_X7_letters_L2 {d : Nat} {S0 : hS} {args : List Value} {cs : Nat → Nat} {r : Int32 × hS} (hd : 1 ≤ d) : ∀ (n : Nat) (x0 : Nat) (x1 : Int32) (S : hS) (k0 : (Int32 → Option (Int32 × hS))) , f_X7_letters_L2 n x0 x1 S k0 = some r → (∀ (y1 : Int32), k0 y1 = some r → HW cX7_letters RX7 (x_X7_letters d S0 args r cs) 0 0 S 53 [(1, .int y1)] []) → HW cX7_letters RX7 (x_X7_letters d S0 args r cs) 0 0 S 2 [(0, .ref x0), (1, .int x1)] [] := by
  intro n
  induction n with
  | zero =>
    intro x0 x1 S k0 hf
    cases hf
  | succ n ih =>
    intro x0 x1 S k0 hf hk0
    rw [f_X7_letters_L2] at hf
    refine h_aload_n dX7_letters_2 rfl 0 rfl ?_
    obtain ⟨t1, h2, hf⟩ := hbd_s hf
    refine h_getI h2 rfl (Nat.le_of_ble_eq_true rfl) rfl q_35 rfl dX7_letters_3 ?_
    refine h_iload_n dX7_letters_6 rfl 1 rfl ?_
    refine h_iadd dX7_letters_7 ?_
    refine h_aload_n dX7_letters_8 rfl 0 rfl ?_
    obtain ⟨t3, h4, hf⟩ := hbd_s hf
    refine h_getI h4 rfl (Nat.le_of_ble_eq_true rfl) rfl q_33 rfl dX7_letters_9 ?_
    refine h_icmp_ge (tgt := 53) dX7_letters_12 (by decide) (fun c5 => ?_) (fun c5 => ?_)
    · replace hf := hif_p c5 hf
      refine h_sub (lv2 := [(1, .int x1)]) [1] rfl ?_
      exact hk0 x1  hf
    · replace hf := hif_n c5 hf
      refine h_aload_n dX7_letters_15 rfl 0 rfl ?_
      obtain ⟨t6, h7, hf⟩ := hbd_s hf
      refine h_getR h7 rfl (Nat.le_of_ble_eq_true rfl) rfl q_32 rfl dX7_letters_16 ?_
      refine h_aload_n dX7_letters_19 rfl 0 rfl ?_
      obtain ⟨t8, h9, hf⟩ := hbd_s hf
      refine h_getI h9 rfl (Nat.le_of_ble_eq_true rfl) rfl q_35 rfl dX7_letters_20 ?_
      refine h_iload_n dX7_letters_23 rfl 1 rfl ?_
      refine h_iadd dX7_letters_24 ?_
      obtain ⟨t10, h11, hf⟩ := hbd_s hf
      refine h_iald h11 dX7_letters_25 ?_
      refine h_bipush (v := 97) dX7_letters_26 rfl ?_
      refine h_icmp_lt (tgt := 53) dX7_letters_28 (by decide) (fun c12 => ?_) (fun c12 => ?_)
      · replace hf := hif_p c12 hf
        refine h_sub (lv2 := [(1, .int x1)]) [1] rfl ?_
        exact hk0 x1  hf
      · replace hf := hif_n c12 hf
        refine h_aload_n dX7_letters_31 rfl 0 rfl ?_
        obtain ⟨t13, h14, hf⟩ := hbd_s hf
        refine h_getR h14 rfl (Nat.le_of_ble_eq_true rfl) rfl q_32 rfl dX7_letters_32 ?_
        refine h_aload_n dX7_letters_35 rfl 0 rfl ?_
        obtain ⟨t15, h16, hf⟩ := hbd_s hf
        refine h_getI h16 rfl (Nat.le_of_ble_eq_true rfl) rfl q_35 rfl dX7_letters_36 ?_
        refine h_iload_n dX7_letters_39 rfl 1 rfl ?_
        refine h_iadd dX7_letters_40 ?_
        obtain ⟨t17, h18, hf⟩ := hbd_s hf
        refine h_iald h18 dX7_letters_41 ?_
        refine h_bipush (v := 122) dX7_letters_42 rfl ?_
        refine h_icmp_gt (tgt := 53) dX7_letters_44 (by decide) (fun c19 => ?_) (fun c19 => ?_)
        · replace hf := hif_p c19 hf
          refine h_sub (lv2 := [(1, .int x1)]) [1] rfl ?_
          exact hk0 x1  hf
        · replace hf := hif_n c19 hf
          refine h_iinc (q := 1) (v := x1 + 1) (lv2 := [(1, .int (x1 + 1)), (0, .ref x0)]) dX7_letters_47 rfl rfl (Nat.le_of_ble_eq_true rfl) rfl ?_
          refine h_goto (tgt := 2) dX7_letters_50 (by decide) ?_
          refine h_sub (lv2 := [(0, .ref x0), (1, .int (x1 + 1))]) [1, 0] rfl ?_
          exact ih x0 (x1 + 1) S k0  hf hk0
set_option maxRecDepth 100000 in
set_option maxHeartbeats 4000000 in
theorem m_X7_letters {d : Nat} {cs : Nat → Nat} {a0 : Nat} {S : hS} {r : Int32 × hS} (hd : 1 ≤ d) (hf : f_X7_letters a0 S = some r) : HM yX7_letters cX7_letters 2 (some .int) d 0 0 cs [.ref a0] S (some (.int r.1)) r.2 := by
  unfold f_X7_letters at hf
  refine HM.ofHW false (by decide) (fun h => by cases h) (Nat.le_of_ble_eq_true rfl) ?_
  show HW cX7_letters RX7 (x_X7_letters d S [.ref a0] r cs) 0 0 S 0 [(0, .ref a0)] []
  refine h_iconst (v := 0) dX7_letters_0 rfl ?_
  refine h_istore_n (lv2 := [(1, .int 0), (0, .ref a0)]) dX7_letters_1 rfl (Nat.le_of_ble_eq_true rfl) rfl ?_
  refine h_sub (lv2 := [(0, .ref a0), (1, .int 0)]) [1, 0] rfl ?_
  refine w_X7_letters_L2 hd hfuel a0 0 S _  hf ?_
  · intro u20 hf
    refine h_iload_n dX7_letters_53 rfl 0 rfl ?_
    obtain rfl := Option.some.inj hf
    exact h_iret rfl rfl rfl (Nat.le_refl _) (Nat.le_refl _) dX7_letters_54
abbrev x_X7_isNext (d : Nat) (S0 : hS) (args : List Value) (r : Int32 × hS) (cs : Nat → Nat) : hX := (((some .boolean), 5, d, 0, 0, false), (S0, args, some (.int r.1), r.2), cs)
theorem v_X7_isNext : hVW yX7_isNext cX7_isNext 5 (some .boolean) RX7 3 := ⟨q_449, q_s3, q_2, q_450, by decide +kernel, by decide⟩
def f_X7_isNext_L3 : Nat → Nat → Nat → Int32 → Int32 → Int32 → hS → (hS → Option (Int32 × hS)) → (hS → Option (Int32 × hS)) → Option (Int32 × hS)
  | 0, _, _, _, _, _, _, _, _ => none
  | n + 1, x0, x1, x2, x3, x4, S, k0, k1 =>
    if x3 ≤ x4 then
      (k0 S)
    else
      (hbd (gTL x1) fun t2 =>
       if t2 ≤ (x2 + x4) then
         (k1 S)
       else
         (hbd (gI S x0 7 2) fun t5 =>
          hbd (gI S x0 7 1) fun t7 =>
          if t7 ≤ (t5 + x4) then
            (k1 S)
          else
            (hbd (gTC x1 (x2 + x4)) fun t10 =>
             hbd (gR S x0 7 0) fun t12 =>
             hbd (gI S x0 7 2) fun t14 =>
             hbd (gA S t12 12 (t14 + x4)) fun t16 =>
             if t10 = t16 then
               (f_X7_isNext_L3 n x0 x1 x2 x3 (x4 + 1) S k0 k1)
             else
               (k1 S))))
def f_X7_isNext (a0 : Nat) (a1 : Nat) (a2 : Int32) (a3 : Int32) (S : hS) : Option (Int32 × hS) :=
  f_X7_isNext_L3 hfuel a0 a1 a2 a3 0 S
    (fun S19 =>
      some (1, S19)
    )
    (fun S20 =>
      some (0, S20)
    )
set_option maxRecDepth 100000 in
set_option maxHeartbeats 4000000 in
theorem w_X7_isNext_L3 {d : Nat} {S0 : hS} {args : List Value} {cs : Nat → Nat} {r : Int32 × hS} (hd : 5 ≤ d) : ∀ (n : Nat) (x0 : Nat) (x1 : Nat) (x2 : Int32) (x3 : Int32) (x4 : Int32) (S : hS) (k0 : (hS → Option (Int32 × hS))) (k1 : (hS → Option (Int32 × hS))) , f_X7_isNext_L3 n x0 x1 x2 x3 x4 S k0 k1 = some r → (∀ (T : hS), k0 T = some r → HW cX7_isNext RX7 (x_X7_isNext d S0 args r cs) 0 0 T 65 [] []) → (∀ (T : hS), k1 T = some r → HW cX7_isNext RX7 (x_X7_isNext d S0 args r cs) 0 0 T 57 [] []) → HW cX7_isNext RX7 (x_X7_isNext d S0 args r cs) 0 0 S 3 [(0, .ref x0), (1, .ref (cs x1)), (2, .int x2), (3, .int x3), (4, .int x4)] [] := by
  intro n
  induction n with
  | zero =>
    intro x0 x1 x2 x3 x4 S k0 k1 hf
    cases hf
  | succ n ih =>
    intro x0 x1 x2 x3 x4 S k0 k1 hf hk0 hk1
    rw [f_X7_isNext_L3] at hf
    refine h_iload dX7_isNext_3 4 rfl ?_
    refine h_iload_n dX7_isNext_5 rfl 3 rfl ?_
    refine h_icmp_ge (tgt := 65) dX7_isNext_6 (by decide) (fun c1 => ?_) (fun c1 => ?_)
    · replace hf := hif_p c1 hf
      refine h_sub (lv2 := []) [] rfl ?_
      exact hk0 S hf
    · replace hf := hif_n c1 hf
      refine h_iload_n dX7_isNext_9 rfl 2 rfl ?_
      refine h_iload dX7_isNext_10 4 rfl ?_
      refine h_iadd dX7_isNext_12 ?_
      refine h_aload_n dX7_isNext_13 rfl 1 rfl ?_
      obtain ⟨t2, h3, hf⟩ := hbd_s hf
      refine h_Ti [] (rest := [.int (x2 + x4)]) (m_J0_length_8abf5 (d := 2) (cs := cs) (Nat.le_refl _) h3) v_J0_length_8abf5 (gTL_s h3).1 q_399 rfl (Nat.le_trans (by decide) hd) rfl (Nat.le_of_ble_eq_true rfl) dX7_isNext_14 (Nat.le_refl _) (Nat.le_refl _) ?_
      refine h_icmp_ge (tgt := 57) dX7_isNext_17 (by decide) (fun c4 => ?_) (fun c4 => ?_)
      · replace hf := hif_p c4 hf
        refine h_sub (lv2 := []) [] rfl ?_
        exact hk1 S hf
      · replace hf := hif_n c4 hf
        refine h_aload_n dX7_isNext_20 rfl 0 rfl ?_
        obtain ⟨t5, h6, hf⟩ := hbd_s hf
        refine h_getI h6 rfl (Nat.le_of_ble_eq_true rfl) rfl q_35 rfl dX7_isNext_21 ?_
        refine h_iload dX7_isNext_24 4 rfl ?_
        refine h_iadd dX7_isNext_26 ?_
        refine h_aload_n dX7_isNext_27 rfl 0 rfl ?_
        obtain ⟨t7, h8, hf⟩ := hbd_s hf
        refine h_getI h8 rfl (Nat.le_of_ble_eq_true rfl) rfl q_33 rfl dX7_isNext_28 ?_
        refine h_icmp_ge (tgt := 57) dX7_isNext_31 (by decide) (fun c9 => ?_) (fun c9 => ?_)
        · replace hf := hif_p c9 hf
          refine h_sub (lv2 := []) [] rfl ?_
          exact hk1 S hf
        · replace hf := hif_n c9 hf
          refine h_aload_n dX7_isNext_34 rfl 1 rfl ?_
          refine h_iload_n dX7_isNext_35 rfl 2 rfl ?_
          refine h_iload dX7_isNext_36 4 rfl ?_
          refine h_iadd dX7_isNext_38 ?_
          obtain ⟨t10, h11, hf⟩ := hbd_s hf
          refine h_Ti [.int (x2 + x4)] (rest := []) (m_J0_charAt_5068e (d := 4) (cs := cs) (Nat.le_refl _) h11) v_J0_charAt_5068e (gTC_s h11).1 q_409 rfl (Nat.le_trans (by decide) hd) rfl (Nat.le_of_ble_eq_true rfl) dX7_isNext_39 (Nat.le_refl _) (Nat.le_refl _) ?_
          refine h_aload_n dX7_isNext_42 rfl 0 rfl ?_
          obtain ⟨t12, h13, hf⟩ := hbd_s hf
          refine h_getR h13 rfl (Nat.le_of_ble_eq_true rfl) rfl q_32 rfl dX7_isNext_43 ?_
          refine h_aload_n dX7_isNext_46 rfl 0 rfl ?_
          obtain ⟨t14, h15, hf⟩ := hbd_s hf
          refine h_getI h15 rfl (Nat.le_of_ble_eq_true rfl) rfl q_35 rfl dX7_isNext_47 ?_
          refine h_iload dX7_isNext_50 4 rfl ?_
          refine h_iadd dX7_isNext_52 ?_
          obtain ⟨t16, h17, hf⟩ := hbd_s hf
          refine h_iald h17 dX7_isNext_53 ?_
          refine h_icmp_eq (tgt := 59) dX7_isNext_54 (by decide) (fun c18 => ?_) (fun c18 => ?_)
          · replace hf := hif_p c18 hf
            refine h_iinc (q := 4) (v := x4 + 1) (lv2 := [(4, .int (x4 + 1)), (0, .ref x0), (1, .ref (cs x1)), (2, .int x2), (3, .int x3)]) dX7_isNext_59 rfl rfl (Nat.le_of_ble_eq_true rfl) rfl ?_
            refine h_goto (tgt := 3) dX7_isNext_62 (by decide) ?_
            refine h_sub (lv2 := [(0, .ref x0), (1, .ref (cs x1)), (2, .int x2), (3, .int x3), (4, .int (x4 + 1))]) [1, 2, 3, 4, 0] rfl ?_
            exact ih x0 x1 x2 x3 (x4 + 1) S k0 k1  hf hk0 hk1
          · replace hf := hif_n c18 hf
            refine h_sub (lv2 := []) [] rfl ?_
            exact hk1 S hf
set_option maxRecDepth 100000 in
set_option maxHeartbeats 4000000 in
theorem m_X7_isNext {d : Nat} {cs : Nat → Nat} {a0 : Nat} {a1 : Nat} {a2 : Int32} {a3 : Int32} {S : hS} {r : Int32 × hS} (hd : 5 ≤ d) (hf : f_X7_isNext a0 a1 a2 a3 S = some r) : HM yX7_isNext cX7_isNext 5 (some .boolean) d 0 0 cs [.ref a0, .ref (cs a1), .int a2, .int a3] S (some (.int r.1)) r.2 := by
  unfold f_X7_isNext at hf
  refine HM.ofHW false (by decide) (fun h => by cases h) (Nat.le_of_ble_eq_true rfl) ?_
  show HW cX7_isNext RX7 (x_X7_isNext d S [.ref a0, .ref (cs a1), .int a2, .int a3] r cs) 0 0 S 0 [(0, .ref a0), (1, .ref (cs a1)), (2, .int a2), (3, .int a3)] []
  refine h_iconst (v := 0) dX7_isNext_0 rfl ?_
  refine h_istore (lv2 := [(4, .int 0), (0, .ref a0), (1, .ref (cs a1)), (2, .int a2), (3, .int a3)]) dX7_isNext_1 (Nat.le_of_ble_eq_true rfl) rfl ?_
  refine h_sub (lv2 := [(0, .ref a0), (1, .ref (cs a1)), (2, .int a2), (3, .int a3), (4, .int 0)]) [1, 2, 3, 4, 0] rfl ?_
  refine w_X7_isNext_L3 hd hfuel a0 a1 a2 a3 0 S _ _  hf ?_ ?_
  · intro S19 hf
    refine h_iconst (v := 1) dX7_isNext_65 rfl ?_
    obtain rfl := Option.some.inj hf
    exact h_zret rfl (by decide) rfl rfl (Nat.le_refl _) (Nat.le_refl _) dX7_isNext_66
  · intro S20 hf
    refine h_iconst (v := 0) dX7_isNext_57 rfl ?_
    obtain rfl := Option.some.inj hf
    exact h_zret rfl (by decide) rfl rfl (Nat.le_refl _) (Nat.le_refl _) dX7_isNext_58
abbrev x_X7_takesOneOf (d : Nat) (S0 : hS) (args : List Value) (r : Int32 × hS) (cs : Nat → Nat) : hX := (((some .int), 4, d, 0, 0, false), (S0, args, some (.int r.1), r.2), cs)
theorem v_X7_takesOneOf : hVW yX7_takesOneOf cX7_takesOneOf 4 (some .int) RX7 1 := ⟨q_625, q_626, q_2, q_627, by decide +kernel, by decide⟩
def f_X7_takesOneOf_L7 : Nat → Nat → Int32 → Int32 → hS → (hS → Option (Int32 × hS)) → (Int32 → hS → Option (Int32 × hS)) → Option (Int32 × hS)
  | 0, _, _, _, _, _, _ => none
  | n + 1, x1, x2, x3, S, k0, k1 =>
    hbd (gTL x1) fun t1 =>
    if t1 ≤ x3 then
      (k0 S)
    else
      (hbd (gTC x1 x3) fun t4 =>
       if x2 = t4 then
         (k1 x3 S)
       else
         (f_X7_takesOneOf_L7 n x1 x2 (x3 + 1) S k0 k1))
def f_X7_takesOneOf (a0 : Nat) (a1 : Nat) (S : hS) : Option (Int32 × hS) :=
  hck (S.K a0 = 8) <|
  hb2 (f_X7_next a0 S) fun t9 S8 =>
  f_X7_takesOneOf_L7 hfuel a1 t9 0 S8
    (fun S10 =>
      some ((-1), S10)
    )
    (fun u11 S12 =>
      hbd (gI S12 a0 7 2) fun t13 =>
      hbd (sI S12 a0 7 2 (t13 + 1)) fun S15 =>
      some (u11, S15)
    )
set_option maxRecDepth 100000 in
set_option maxHeartbeats 4000000 in
theorem w_X7_takesOneOf_L7 {d : Nat} {S0 : hS} {args : List Value} {cs : Nat → Nat} {r : Int32 × hS} (hd : 5 ≤ d) : ∀ (n : Nat) (x1 : Nat) (x2 : Int32) (x3 : Int32) (S : hS) (k0 : (hS → Option (Int32 × hS))) (k1 : (Int32 → hS → Option (Int32 × hS))) (z0 : Nat), f_X7_takesOneOf_L7 n x1 x2 x3 S k0 k1 = some r → (∀ (T : hS), k0 T = some r → HW cX7_takesOneOf RX7 (x_X7_takesOneOf d S0 args r cs) 0 0 T 42 [] []) → (∀ (y3 : Int32) (T : hS), k1 y3 T = some r → HW cX7_takesOneOf RX7 (x_X7_takesOneOf d S0 args r cs) 0 0 T 24 [(0, .ref z0), (3, .int y3)] []) → HW cX7_takesOneOf RX7 (x_X7_takesOneOf d S0 args r cs) 0 0 S 7 [(0, .ref z0), (1, .ref (cs x1)), (2, .int x2), (3, .int x3)] [] := by
  intro n
  induction n with
  | zero =>
    intro x1 x2 x3 S k0 k1 z0 hf
    cases hf
  | succ n ih =>
    intro x1 x2 x3 S k0 k1 z0 hf hk0 hk1
    rw [f_X7_takesOneOf_L7] at hf
    refine h_iload_n dX7_takesOneOf_7 rfl 3 rfl ?_
    refine h_aload_n dX7_takesOneOf_8 rfl 1 rfl ?_
    obtain ⟨t1, h2, hf⟩ := hbd_s hf
    refine h_Ti [] (rest := [.int x3]) (m_J0_length_8abf5 (d := 2) (cs := cs) (Nat.le_refl _) h2) v_J0_length_8abf5 (gTL_s h2).1 q_399 rfl (Nat.le_trans (by decide) hd) rfl (Nat.le_of_ble_eq_true rfl) dX7_takesOneOf_9 (Nat.le_refl _) (Nat.le_refl _) ?_
    refine h_icmp_ge (tgt := 42) dX7_takesOneOf_12 (by decide) (fun c3 => ?_) (fun c3 => ?_)
    · replace hf := hif_p c3 hf
      refine h_sub (lv2 := []) [] rfl ?_
      exact hk0 S hf
    · replace hf := hif_n c3 hf
      refine h_iload_n dX7_takesOneOf_15 rfl 2 rfl ?_
      refine h_aload_n dX7_takesOneOf_16 rfl 1 rfl ?_
      refine h_iload_n dX7_takesOneOf_17 rfl 3 rfl ?_
      obtain ⟨t4, h5, hf⟩ := hbd_s hf
      refine h_Ti [.int x3] (rest := [.int x2]) (m_J0_charAt_5068e (d := 4) (cs := cs) (Nat.le_refl _) h5) v_J0_charAt_5068e (gTC_s h5).1 q_409 rfl (Nat.le_trans (by decide) hd) rfl (Nat.le_of_ble_eq_true rfl) dX7_takesOneOf_18 (Nat.le_refl _) (Nat.le_refl _) ?_
      refine h_icmp_ne (tgt := 36) dX7_takesOneOf_21 (by decide) (fun c6 => ?_) (fun c6 => ?_)
      · replace hf := hif_n c6 hf
        refine h_iinc (q := 3) (v := x3 + 1) (lv2 := [(3, .int (x3 + 1)), (0, .ref z0), (1, .ref (cs x1)), (2, .int x2)]) dX7_takesOneOf_36 rfl rfl (Nat.le_of_ble_eq_true rfl) rfl ?_
        refine h_goto (tgt := 7) dX7_takesOneOf_39 (by decide) ?_
        refine h_sub (lv2 := [(0, .ref z0), (1, .ref (cs x1)), (2, .int x2), (3, .int (x3 + 1))]) [1, 2, 3, 0] rfl ?_
        exact ih x1 x2 (x3 + 1) S k0 k1 z0 hf hk0 hk1
      · replace hf := hif_p c6 hf
        refine h_sub (lv2 := [(0, .ref z0), (3, .int x3)]) [0, 3] rfl ?_
        exact hk1 x3 S hf
set_option maxRecDepth 100000 in
set_option maxHeartbeats 4000000 in
theorem m_X7_takesOneOf {d : Nat} {cs : Nat → Nat} {a0 : Nat} {a1 : Nat} {S : hS} {r : Int32 × hS} (hd : 5 ≤ d) (hf : f_X7_takesOneOf a0 a1 S = some r) : HM yX7_takesOneOf cX7_takesOneOf 4 (some .int) d 0 0 cs [.ref a0, .ref (cs a1)] S (some (.int r.1)) r.2 := by
  unfold f_X7_takesOneOf at hf
  refine HM.ofHW false (by decide) (fun h => by cases h) (Nat.le_of_ble_eq_true rfl) ?_
  show HW cX7_takesOneOf RX7 (x_X7_takesOneOf d S [.ref a0, .ref (cs a1)] r cs) 0 0 S 0 [(0, .ref a0), (1, .ref (cs a1))] []
  refine h_aload_n dX7_takesOneOf_0 rfl 0 rfl ?_
  obtain ⟨g17, hf⟩ := hck_s hf
  obtain ⟨t9, S8, h7, hf⟩ := hb2_s hf
  refine h_Vi [] (rest := []) (m_X7_next (d := 1) (cs := cs) (Nat.le_refl _) h7) v_X7_next q_391 rfl (Nat.le_trans (by decide) hd) g17 rfl rfl (Nat.le_of_ble_eq_true rfl) dX7_takesOneOf_1 (Nat.le_refl _) (Nat.le_refl _) ?_
  refine h_istore_n (lv2 := [(2, .int t9), (0, .ref a0), (1, .ref (cs a1))]) dX7_takesOneOf_4 rfl (Nat.le_of_ble_eq_true rfl) rfl ?_
  refine h_iconst (v := 0) dX7_takesOneOf_5 rfl ?_
  refine h_istore_n (lv2 := [(3, .int 0), (2, .int t9), (0, .ref a0), (1, .ref (cs a1))]) dX7_takesOneOf_6 rfl (Nat.le_of_ble_eq_true rfl) rfl ?_
  refine h_sub (lv2 := [(0, .ref a0), (1, .ref (cs a1)), (2, .int t9), (3, .int 0)]) [2, 3, 1, 0] rfl ?_
  refine w_X7_takesOneOf_L7 hd hfuel a1 t9 0 S8 _ _ a0 hf ?_ ?_
  · intro S10 hf
    refine h_iconst (v := (-1)) dX7_takesOneOf_42 rfl ?_
    obtain rfl := Option.some.inj hf
    exact h_iret rfl rfl rfl (Nat.le_refl _) (Nat.le_refl _) dX7_takesOneOf_43
  · intro u11 S12 hf
    refine h_aload_n dX7_takesOneOf_24 rfl 0 rfl ?_
    refine h_dup dX7_takesOneOf_25 rfl ?_
    obtain ⟨t13, h14, hf⟩ := hbd_s hf
    refine h_getI h14 rfl (Nat.le_of_ble_eq_true rfl) rfl q_35 rfl dX7_takesOneOf_26 ?_
    refine h_iconst (v := 1) dX7_takesOneOf_29 rfl ?_
    refine h_iadd dX7_takesOneOf_30 ?_
    obtain ⟨S15, h16, hf⟩ := hbd_s hf
    refine h_putI h16 rfl (Nat.le_of_ble_eq_true rfl) rfl q_35 rfl rfl (by decide +kernel) dX7_takesOneOf_31 ?_
    refine h_iload_n dX7_takesOneOf_34 rfl 1 rfl ?_
    obtain rfl := Option.some.inj hf
    exact h_iret rfl rfl rfl (Nat.le_refl _) (Nat.le_refl _) dX7_takesOneOf_35
abbrev x_X7_goesOn (d : Nat) (S0 : hS) (args : List Value) (r : Int32 × hS) (cs : Nat → Nat) : hX := (((some .boolean), 1, d, 0, 0, false), (S0, args, some (.int r.1), r.2), cs)
theorem v_X7_goesOn : hVW yX7_goesOn cX7_goesOn 1 (some .boolean) RX7 0 := ⟨q_546, q_547, q_2, q_548, by decide +kernel, by decide⟩
def f_X7_goesOn (a0 : Nat) (S : hS) : Option (Int32 × hS) :=
  hck (S.K a0 = 8) <|
  hb2 (f_X7_failed a0 S) fun t3 S2 =>
  if t3 = 0 then
    (hck (S2.K a0 = 8) <|
     hb2 (f_X7_next a0 S2) fun t7 S6 =>
     if t7 = (-1) then
       (some (0, S6))
     else
       (hck (S6.K a0 = 8) <|
        hb2 (f_X7_takes a0 59 S6) fun t11 S10 =>
        if t11 = 0 then
          (hbd (gI S10 a0 7 2) fun t13 =>
           hck (S10.K a0 = 8) <|
           hbd (f_X7_fail a0 0 t13 S10) fun S16 =>
           some (0, S16))
        else
          (some (1, S10))))
  else
    (some (0, S2))
set_option maxRecDepth 100000 in
set_option maxHeartbeats 4000000 in
theorem m_X7_goesOn {d : Nat} {cs : Nat → Nat} {a0 : Nat} {S : hS} {r : Int32 × hS} (hd : 2 ≤ d) (hf : f_X7_goesOn a0 S = some r) : HM yX7_goesOn cX7_goesOn 1 (some .boolean) d 0 0 cs [.ref a0] S (some (.int r.1)) r.2 := by
  unfold f_X7_goesOn at hf
  refine HM.ofHW false (by decide) (fun h => by cases h) (Nat.le_of_ble_eq_true rfl) ?_
  show HW cX7_goesOn RX7 (x_X7_goesOn d S [.ref a0] r cs) 0 0 S 0 [(0, .ref a0)] []
  refine h_aload_n dX7_goesOn_0 rfl 0 rfl ?_
  obtain ⟨g20, hf⟩ := hck_s hf
  obtain ⟨t3, S2, h1, hf⟩ := hb2_s hf
  refine h_Vi [] (rest := []) (m_X7_failed (d := 1) (cs := cs) (Nat.le_refl _) h1) v_X7_failed q_549 rfl (Nat.le_trans (by decide) hd) g20 rfl rfl (Nat.le_of_ble_eq_true rfl) dX7_goesOn_1 (Nat.le_refl _) (Nat.le_refl _) ?_
  refine h_if_ne (tgt := 15) dX7_goesOn_4 (by decide) (fun c4 => ?_) (fun c4 => ?_)
  · replace hf := hif_n c4 hf
    refine h_iconst (v := 0) dX7_goesOn_15 rfl ?_
    obtain rfl := Option.some.inj hf
    exact h_zret rfl (by decide) rfl rfl (Nat.le_refl _) (Nat.le_refl _) dX7_goesOn_16
  · replace hf := hif_p c4 hf
    refine h_aload_n dX7_goesOn_7 rfl 0 rfl ?_
    obtain ⟨g19, hf⟩ := hck_s hf
    obtain ⟨t7, S6, h5, hf⟩ := hb2_s hf
    refine h_Vi [] (rest := []) (m_X7_next (d := 1) (cs := cs) (Nat.le_refl _) h5) v_X7_next q_391 rfl (Nat.le_trans (by decide) hd) g19 rfl rfl (Nat.le_of_ble_eq_true rfl) dX7_goesOn_8 (Nat.le_refl _) (Nat.le_refl _) ?_
    refine h_iconst (v := (-1)) dX7_goesOn_11 rfl ?_
    refine h_icmp_ne (tgt := 17) dX7_goesOn_12 (by decide) (fun c8 => ?_) (fun c8 => ?_)
    · replace hf := hif_n c8 hf
      refine h_aload_n dX7_goesOn_17 rfl 0 rfl ?_
      refine h_bipush (v := 59) dX7_goesOn_18 rfl ?_
      obtain ⟨g18, hf⟩ := hck_s hf
      obtain ⟨t11, S10, h9, hf⟩ := hb2_s hf
      refine h_Vi [.int 59] (rest := []) (m_X7_takes (d := 1) (cs := cs) (Nat.le_refl _) h9) v_X7_takes q_550 rfl (Nat.le_trans (by decide) hd) g18 rfl rfl (Nat.le_of_ble_eq_true rfl) dX7_goesOn_20 (Nat.le_refl _) (Nat.le_refl _) ?_
      refine h_if_eq (tgt := 28) dX7_goesOn_23 (by decide) (fun c12 => ?_) (fun c12 => ?_)
      · replace hf := hif_p c12 hf
        refine h_aload_n dX7_goesOn_28 rfl 0 rfl ?_
        refine h_iconst (v := 0) dX7_goesOn_29 rfl ?_
        refine h_aload_n dX7_goesOn_30 rfl 0 rfl ?_
        obtain ⟨t13, h14, hf⟩ := hbd_s hf
        refine h_getI h14 rfl (Nat.le_of_ble_eq_true rfl) rfl q_35 rfl dX7_goesOn_31 ?_
        obtain ⟨g17, hf⟩ := hck_s hf
        obtain ⟨S16, h15, hf⟩ := hbd_s hf
        refine h_Vv [.int 0, .int t13] (rest := []) (m_X7_fail (d := 1) (cs := cs) (Nat.le_refl _) h15) v_X7_fail q_471 rfl (Nat.le_trans (by decide) hd) g17 rfl rfl (Nat.le_of_ble_eq_true rfl) dX7_goesOn_34 (Nat.le_refl _) (Nat.le_refl _) ?_
        refine h_iconst (v := 0) dX7_goesOn_37 rfl ?_
        obtain rfl := Option.some.inj hf
        exact h_zret rfl (by decide) rfl rfl (Nat.le_refl _) (Nat.le_refl _) dX7_goesOn_38
      · replace hf := hif_n c12 hf
        refine h_iconst (v := 1) dX7_goesOn_26 rfl ?_
        obtain rfl := Option.some.inj hf
        exact h_zret rfl (by decide) rfl rfl (Nat.le_refl _) (Nat.le_refl _) dX7_goesOn_27
    · replace hf := hif_p c8 hf
      refine h_iconst (v := 0) dX7_goesOn_15 rfl ?_
      obtain rfl := Option.some.inj hf
      exact h_zret rfl (by decide) rfl rfl (Nat.le_refl _) (Nat.le_refl _) dX7_goesOn_16
abbrev x_X8_end (d : Nat) (S0 : hS) (args : List Value) (r : Int32 × hS) (cs : Nat → Nat) : hX := (((some .int), 2, d, 0, 0, false), (S0, args, some (.int r.1), r.2), cs)
theorem v_X8_end : hVW yX8_end cX8_end 2 (some .int) RX8 1 := ⟨q_347, q_348, q_1, q_349, by decide +kernel, by decide⟩
def f_X8_end (a0 : Nat) (a1 : Int32) (S : hS) : Option (Int32 × hS) :=
  hbd (gR S a0 8 0) fun t1 =>
  hck (S.K t1 = 8) <|
  hb2 (f_X7_cut t1 a1 S) fun t5 S4 =>
  some (t5, S4)
set_option maxRecDepth 100000 in
set_option maxHeartbeats 4000000 in
theorem m_X8_end {d : Nat} {cs : Nat → Nat} {a0 : Nat} {a1 : Int32} {S : hS} {r : Int32 × hS} (hd : 2 ≤ d) (hf : f_X8_end a0 a1 S = some r) : HM yX8_end cX8_end 2 (some .int) d 0 0 cs [.ref a0, .int a1] S (some (.int r.1)) r.2 := by
  unfold f_X8_end at hf
  refine HM.ofHW false (by decide) (fun h => by cases h) (Nat.le_of_ble_eq_true rfl) ?_
  show HW cX8_end RX8 (x_X8_end d S [.ref a0, .int a1] r cs) 0 0 S 0 [(0, .ref a0), (1, .int a1)] []
  refine h_aload_n dX8_end_0 rfl 0 rfl ?_
  obtain ⟨t1, h2, hf⟩ := hbd_s hf
  refine h_getR h2 rfl (Nat.le_of_ble_eq_true rfl) rfl q_300 rfl dX8_end_1 ?_
  refine h_iload_n dX8_end_4 rfl 1 rfl ?_
  obtain ⟨g6, hf⟩ := hck_s hf
  obtain ⟨t5, S4, h3, hf⟩ := hb2_s hf
  refine h_Vi [.int a1] (rest := []) (m_X7_cut (d := 1) (cs := cs) (Nat.le_refl _) h3) v_X7_cut q_350 rfl (Nat.le_trans (by decide) hd) g6 rfl rfl (Nat.le_of_ble_eq_true rfl) dX8_end_5 (Nat.le_refl _) (Nat.le_refl _) ?_
  obtain rfl := Option.some.inj hf
  exact h_iret rfl rfl rfl (Nat.le_refl _) (Nat.le_refl _) dX8_end_8
