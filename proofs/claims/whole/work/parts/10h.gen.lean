abbrev x_X9_hallClause (d : Nat) (S0 : hS) (args : List Value) (r : hS) (cs : Nat → Nat) : hX := ((none, 4, d, 0, 0, false), (S0, args, none, r), cs)
theorem v_X9_hallClause : hVW yX9_hallClause cX9_hallClause 4 none RX9 1 := ⟨q_1173, q_s36, q_9, q_1174, by decide +kernel, by decide⟩
def f_X9_hallClause_L11 : Nat → Nat → Int32 → hS → (Int32 → hS → Option (hS)) → Option (hS)
  | 0, _, _, _, _ => none
  | n + 1, x0, x3, S, k0 =>
    if 6 ≤ x3 then
      (k0 x3 S)
    else
      (hb2 (f_X9_hallWord x3 S) fun t4 S3 =>
       hck (S3.K x0 = 10) <|
       hb2 (f_X9_stood x0 t4 S3) fun t7 S6 =>
       if t7 = 0 then
         (f_X9_hallClause_L11 n x0 (x3 + 1) S6 k0)
       else
         (k0 x3 S6))
def f_X9_hallClause (a0 : Nat) (a1 : Int32) (S : hS) : Option (hS) :=
  hck (S.K a0 = 10) <|
  hbd (f_X9_blanks a0 S) fun S11 =>
  hbd (gI S11 a0 9 24) fun t12 =>
  f_X9_hallClause_L11 hfuel a0 0 S11
    (fun u14 S15 =>
      if u14 = 6 then
        (hck (S15.K a0 = 10) <|
         hbd (f_X9_fails a0 0 t12 S15) fun S38 =>
         some S38)
      else
        (hck (S15.K a0 = 10) <|
         hb2 (f_X9_isFull a0 u14 a1 S15) fun t19 S18 =>
         if t19 = 0 then
           (hbd (gI S18 a0 9 24) fun t21 =>
            hb2 (f_X9_hallWord u14 S18) fun t25 S24 =>
            hbd (gTL t25) fun t26 =>
            hbd (sI S24 a0 9 24 (t21 + t26)) fun S28 =>
            hck (S28.K a0 = 10) <|
            hbd (f_X9_hallPart a0 u14 S28) fun S31 =>
            some S31)
         else
           (hck (S18.K a0 = 10) <|
            hbd (f_X9_fails a0 4 t12 S18) fun S34 =>
            some S34))
    )
set_option maxRecDepth 100000 in
set_option maxHeartbeats 4000000 in
theorem w_X9_hallClause_L11 {d : Nat} {S0 : hS} {args : List Value} {cs : Nat → Nat} {r : hS} (hd : 8 ≤ d) : ∀ (n : Nat) (x0 : Nat) (x3 : Int32) (S : hS) (k0 : (Int32 → hS → Option (hS))) (z1 : Int32) (z2 : Int32), f_X9_hallClause_L11 n x0 x3 S k0 = some r → (∀ (y3 : Int32) (T : hS), k0 y3 T = some r → HW cX9_hallClause RX9 (x_X9_hallClause d S0 args r cs) 0 0 T 34 [(0, .ref x0), (1, .int z1), (2, .int z2), (3, .int y3)] []) → HW cX9_hallClause RX9 (x_X9_hallClause d S0 args r cs) 0 0 S 11 [(0, .ref x0), (1, .int z1), (2, .int z2), (3, .int x3)] [] := by
  intro n
  induction n with
  | zero =>
    intro x0 x3 S k0 z1 z2 hf
    cases hf
  | succ n ih =>
    intro x0 x3 S k0 z1 z2 hf hk0
    rw [f_X9_hallClause_L11] at hf
    refine h_iload_n dX9_hallClause_11 rfl 3 rfl ?_
    refine h_bipush (v := 6) dX9_hallClause_12 rfl ?_
    refine h_icmp_ge (tgt := 34) dX9_hallClause_14 (by decide) (fun c1 => ?_) (fun c1 => ?_)
    · replace hf := hif_p c1 hf
      exact hk0 x3 S hf
    · replace hf := hif_n c1 hf
      refine h_aload_n dX9_hallClause_17 rfl 0 rfl ?_
      refine h_iload_n dX9_hallClause_18 rfl 3 rfl ?_
      obtain ⟨t4, S3, h2, hf⟩ := hb2_s hf
      refine h_Sr (r := some (cs t4)) [.int x3] (rest := [.ref x0]) (m_X9_hallWord (d := 1) (cs := cs) (Nat.le_refl _) h2) v_X9_hallWord q_1183 rfl (Nat.le_trans (by decide) hd) rfl (Nat.le_of_ble_eq_true rfl) dX9_hallClause_19 (Nat.le_refl _) (Nat.le_refl _) ?_
      show HW cX9_hallClause RX9 (x_X9_hallClause d S0 args r cs) 0 0 S3 22 [(0, .ref x0), (1, .int z1), (2, .int z2), (3, .int x3)] [.ref (cs t4), .ref x0]
      obtain ⟨g9, hf⟩ := hck_s hf
      obtain ⟨t7, S6, h5, hf⟩ := hb2_s hf
      refine h_Vi [.ref (cs t4)] (rest := []) (m_X9_stood (d := 5) (cs := cs) (Nat.le_refl _) h5) v_X9_stood q_1192 rfl (Nat.le_trans (by decide) hd) g9 rfl rfl (Nat.le_of_ble_eq_true rfl) dX9_hallClause_22 (Nat.le_refl _) (Nat.le_refl _) ?_
      refine h_if_ne (tgt := 34) dX9_hallClause_25 (by decide) (fun c8 => ?_) (fun c8 => ?_)
      · replace hf := hif_n c8 hf
        exact hk0 x3 S6 hf
      · replace hf := hif_p c8 hf
        refine h_iinc (q := 3) (v := x3 + 1) (lv2 := [(3, .int (x3 + 1)), (0, .ref x0), (1, .int z1), (2, .int z2)]) dX9_hallClause_28 rfl rfl (Nat.le_of_ble_eq_true rfl) rfl ?_
        refine h_goto (tgt := 11) dX9_hallClause_31 (by decide) ?_
        refine h_sub (lv2 := [(0, .ref x0), (1, .int z1), (2, .int z2), (3, .int (x3 + 1))]) [1, 2, 3, 0] rfl ?_
        exact ih x0 (x3 + 1) S6 k0 z1 z2 hf hk0
set_option maxRecDepth 100000 in
set_option maxHeartbeats 4000000 in
theorem m_X9_hallClause {d : Nat} {cs : Nat → Nat} {a0 : Nat} {a1 : Int32} {S : hS} {r : hS} (hd : 8 ≤ d) (hf : f_X9_hallClause a0 a1 S = some r) : HM yX9_hallClause cX9_hallClause 4 none d 0 0 cs [.ref a0, .int a1] S (none) r := by
  unfold f_X9_hallClause at hf
  refine HM.ofHW false (by decide) (fun h => by cases h) (Nat.le_of_ble_eq_true rfl) ?_
  show HW cX9_hallClause RX9 (x_X9_hallClause d S [.ref a0, .int a1] r cs) 0 0 S 0 [(0, .ref a0), (1, .int a1)] []
  refine h_aload_n dX9_hallClause_0 rfl 0 rfl ?_
  obtain ⟨g40, hf⟩ := hck_s hf
  obtain ⟨S11, h10, hf⟩ := hbd_s hf
  refine h_Vv [] (rest := []) (m_X9_blanks (d := 2) (cs := cs) (Nat.le_refl _) h10) v_X9_blanks q_1175 rfl (Nat.le_trans (by decide) hd) g40 rfl rfl (Nat.le_of_ble_eq_true rfl) dX9_hallClause_1 (Nat.le_refl _) (Nat.le_refl _) ?_
  refine h_aload_n dX9_hallClause_4 rfl 0 rfl ?_
  obtain ⟨t12, h13, hf⟩ := hbd_s hf
  refine h_getI h13 rfl (Nat.le_of_ble_eq_true rfl) rfl q_984 rfl dX9_hallClause_5 ?_
  refine h_istore_n (lv2 := [(2, .int t12), (0, .ref a0), (1, .int a1)]) dX9_hallClause_8 rfl (Nat.le_of_ble_eq_true rfl) rfl ?_
  refine h_iconst (v := 0) dX9_hallClause_9 rfl ?_
  refine h_istore_n (lv2 := [(3, .int 0), (2, .int t12), (0, .ref a0), (1, .int a1)]) dX9_hallClause_10 rfl (Nat.le_of_ble_eq_true rfl) rfl ?_
  refine h_sub (lv2 := [(0, .ref a0), (1, .int a1), (2, .int t12), (3, .int 0)]) [2, 3, 1, 0] rfl ?_
  refine w_X9_hallClause_L11 hd hfuel a0 0 S11 _ a1 t12 hf ?_
  · intro u14 S15 hf
    refine h_iload_n dX9_hallClause_34 rfl 3 rfl ?_
    refine h_bipush (v := 6) dX9_hallClause_35 rfl ?_
    refine h_icmp_ne (tgt := 47) dX9_hallClause_37 (by decide) (fun c16 => ?_) (fun c16 => ?_)
    · replace hf := hif_n c16 hf
      refine h_aload_n dX9_hallClause_47 rfl 0 rfl ?_
      refine h_iload_n dX9_hallClause_48 rfl 3 rfl ?_
      refine h_iload_n dX9_hallClause_49 rfl 1 rfl ?_
      obtain ⟨g36, hf⟩ := hck_s hf
      obtain ⟨t19, S18, h17, hf⟩ := hb2_s hf
      refine h_Vi [.int u14, .int a1] (rest := []) (m_X9_isFull (d := 1) (cs := cs) (Nat.le_refl _) h17) v_X9_isFull q_1202 rfl (Nat.le_trans (by decide) hd) g36 rfl rfl (Nat.le_of_ble_eq_true rfl) dX9_hallClause_50 (Nat.le_refl _) (Nat.le_refl _) ?_
      refine h_if_eq (tgt := 63) dX9_hallClause_53 (by decide) (fun c20 => ?_) (fun c20 => ?_)
      · replace hf := hif_p c20 hf
        refine h_aload_n dX9_hallClause_63 rfl 0 rfl ?_
        refine h_dup dX9_hallClause_64 rfl ?_
        obtain ⟨t21, h22, hf⟩ := hbd_s hf
        refine h_getI h22 rfl (Nat.le_of_ble_eq_true rfl) rfl q_984 rfl dX9_hallClause_65 ?_
        refine h_iload_n dX9_hallClause_68 rfl 3 rfl ?_
        obtain ⟨t25, S24, h23, hf⟩ := hb2_s hf
        refine h_Sr (r := some (cs t25)) [.int u14] (rest := [.int t21, .ref a0]) (m_X9_hallWord (d := 1) (cs := cs) (Nat.le_refl _) h23) v_X9_hallWord q_1183 rfl (Nat.le_trans (by decide) hd) rfl (Nat.le_of_ble_eq_true rfl) dX9_hallClause_69 (Nat.le_refl _) (Nat.le_refl _) ?_
        show HW cX9_hallClause RX9 (x_X9_hallClause d S [.ref a0, .int a1] r cs) 0 0 S24 72 [(0, .ref a0), (1, .int a1), (2, .int t12), (3, .int u14)] [.ref (cs t25), .int t21, .ref a0]
        obtain ⟨t26, h27, hf⟩ := hbd_s hf
        refine h_Ti [] (rest := [.int t21, .ref a0]) (m_J0_length_8abf5 (d := 2) (cs := cs) (Nat.le_refl _) h27) v_J0_length_8abf5 (gTL_s h27).1 q_1196 rfl (Nat.le_trans (by decide) hd) rfl (Nat.le_of_ble_eq_true rfl) dX9_hallClause_72 (Nat.le_refl _) (Nat.le_refl _) ?_
        refine h_iadd dX9_hallClause_75 ?_
        obtain ⟨S28, h29, hf⟩ := hbd_s hf
        refine h_putI h29 rfl (Nat.le_of_ble_eq_true rfl) rfl q_984 rfl rfl (by decide +kernel) dX9_hallClause_76 ?_
        refine h_aload_n dX9_hallClause_79 rfl 0 rfl ?_
        refine h_iload_n dX9_hallClause_80 rfl 3 rfl ?_
        obtain ⟨g32, hf⟩ := hck_s hf
        obtain ⟨S31, h30, hf⟩ := hbd_s hf
        refine h_Vv [.int u14] (rest := []) (m_X9_hallPart (d := 7) (cs := cs) (Nat.le_refl _) h30) v_X9_hallPart q_1206 rfl (Nat.le_trans (by decide) hd) g32 rfl rfl (Nat.le_of_ble_eq_true rfl) dX9_hallClause_81 (Nat.le_refl _) (Nat.le_refl _) ?_
        obtain rfl := Option.some.inj hf
        exact h_vret rfl rfl rfl (Nat.le_refl _) (Nat.le_refl _) dX9_hallClause_84
      · replace hf := hif_n c20 hf
        refine h_aload_n dX9_hallClause_56 rfl 0 rfl ?_
        refine h_iconst (v := 4) dX9_hallClause_57 rfl ?_
        refine h_iload_n dX9_hallClause_58 rfl 2 rfl ?_
        obtain ⟨g35, hf⟩ := hck_s hf
        obtain ⟨S34, h33, hf⟩ := hbd_s hf
        refine h_Vv [.int 4, .int t12] (rest := []) (m_X9_fails (d := 1) (cs := cs) (Nat.le_refl _) h33) v_X9_fails q_1198 rfl (Nat.le_trans (by decide) hd) g35 rfl rfl (Nat.le_of_ble_eq_true rfl) dX9_hallClause_59 (Nat.le_refl _) (Nat.le_refl _) ?_
        obtain rfl := Option.some.inj hf
        exact h_vret rfl rfl rfl (Nat.le_refl _) (Nat.le_refl _) dX9_hallClause_62
    · replace hf := hif_p c16 hf
      refine h_aload_n dX9_hallClause_40 rfl 0 rfl ?_
      refine h_iconst (v := 0) dX9_hallClause_41 rfl ?_
      refine h_iload_n dX9_hallClause_42 rfl 2 rfl ?_
      obtain ⟨g39, hf⟩ := hck_s hf
      obtain ⟨S38, h37, hf⟩ := hbd_s hf
      refine h_Vv [.int 0, .int t12] (rest := []) (m_X9_fails (d := 1) (cs := cs) (Nat.le_refl _) h37) v_X9_fails q_1198 rfl (Nat.le_trans (by decide) hd) g39 rfl rfl (Nat.le_of_ble_eq_true rfl) dX9_hallClause_43 (Nat.le_refl _) (Nat.le_refl _) ?_
      obtain rfl := Option.some.inj hf
      exact h_vret rfl rfl rfl (Nat.le_refl _) (Nat.le_refl _) dX9_hallClause_46
abbrev x_X9_lay (d : Nat) (S0 : hS) (args : List Value) (r : hS) (cs : Nat → Nat) : hX := ((none, 3, d, 0, 0, false), (S0, args, none, r), cs)
theorem v_X9_lay : hSW yX9_lay cX9_lay 3 none 2 := ⟨q_1241, q_9, q_1242, by decide +kernel, by decide⟩
def f_X9_lay_L2 : Nat → Nat → Nat → Int32 → hS → (hS → Option (hS)) → Option (hS)
  | 0, _, _, _, _, _ => none
  | n + 1, x0, x1, x2, S, k0 =>
    hbd (gN S x0) fun t1 =>
    if t1 ≤ x2 then
      (k0 S)
    else
      (hbd (gA S x0 12 x2) fun t4 =>
       hbd (sA S x1 x2 t4) fun S6 =>
       f_X9_lay_L2 n x0 x1 (x2 + 1) S6 k0)
def f_X9_lay (a0 : Nat) (a1 : Nat) (S : hS) : Option (hS) :=
  f_X9_lay_L2 hfuel a0 a1 0 S
    (fun S8 =>
      some S8
    )
set_option maxRecDepth 100000 in
set_option maxHeartbeats 4000000 in
theorem w_X9_lay_L2 {d : Nat} {S0 : hS} {args : List Value} {cs : Nat → Nat} {r : hS} (hd : 1 ≤ d) : ∀ (n : Nat) (x0 : Nat) (x1 : Nat) (x2 : Int32) (S : hS) (k0 : (hS → Option (hS))) , f_X9_lay_L2 n x0 x1 x2 S k0 = some r → (∀ (T : hS), k0 T = some r → HW cX9_lay RX9 (x_X9_lay d S0 args r cs) 0 0 T 20 [] []) → HW cX9_lay RX9 (x_X9_lay d S0 args r cs) 0 0 S 2 [(0, .ref x0), (1, .ref x1), (2, .int x2)] [] := by
  intro n
  induction n with
  | zero =>
    intro x0 x1 x2 S k0 hf
    cases hf
  | succ n ih =>
    intro x0 x1 x2 S k0 hf hk0
    rw [f_X9_lay_L2] at hf
    refine h_iload_n dX9_lay_2 rfl 2 rfl ?_
    refine h_aload_n dX9_lay_3 rfl 0 rfl ?_
    obtain ⟨t1, h2, hf⟩ := hbd_s hf
    refine h_alen h2 dX9_lay_4 ?_
    refine h_icmp_ge (tgt := 20) dX9_lay_5 (by decide) (fun c3 => ?_) (fun c3 => ?_)
    · replace hf := hif_p c3 hf
      refine h_sub (lv2 := []) [] rfl ?_
      exact hk0 S hf
    · replace hf := hif_n c3 hf
      refine h_aload_n dX9_lay_8 rfl 1 rfl ?_
      refine h_iload_n dX9_lay_9 rfl 2 rfl ?_
      refine h_aload_n dX9_lay_10 rfl 0 rfl ?_
      refine h_iload_n dX9_lay_11 rfl 2 rfl ?_
      obtain ⟨t4, h5, hf⟩ := hbd_s hf
      refine h_iald h5 dX9_lay_12 ?_
      obtain ⟨S6, h7, hf⟩ := hbd_s hf
      refine h_iast h7 dX9_lay_13 ?_
      refine h_iinc (q := 2) (v := x2 + 1) (lv2 := [(2, .int (x2 + 1)), (0, .ref x0), (1, .ref x1)]) dX9_lay_14 rfl rfl (Nat.le_of_ble_eq_true rfl) rfl ?_
      refine h_goto (tgt := 2) dX9_lay_17 (by decide) ?_
      refine h_sub (lv2 := [(0, .ref x0), (1, .ref x1), (2, .int (x2 + 1))]) [1, 2, 0] rfl ?_
      exact ih x0 x1 (x2 + 1) S6 k0  hf hk0
set_option maxRecDepth 100000 in
set_option maxHeartbeats 4000000 in
theorem m_X9_lay {d : Nat} {cs : Nat → Nat} {a0 : Nat} {a1 : Nat} {S : hS} {r : hS} (hd : 1 ≤ d) (hf : f_X9_lay a0 a1 S = some r) : HM yX9_lay cX9_lay 3 none d 0 0 cs [.ref a0, .ref a1] S (none) r := by
  unfold f_X9_lay at hf
  refine HM.ofHW false (by decide) (fun h => by cases h) (Nat.le_of_ble_eq_true rfl) ?_
  show HW cX9_lay RX9 (x_X9_lay d S [.ref a0, .ref a1] r cs) 0 0 S 0 [(0, .ref a0), (1, .ref a1)] []
  refine h_iconst (v := 0) dX9_lay_0 rfl ?_
  refine h_istore_n (lv2 := [(2, .int 0), (0, .ref a0), (1, .ref a1)]) dX9_lay_1 rfl (Nat.le_of_ble_eq_true rfl) rfl ?_
  refine h_sub (lv2 := [(0, .ref a0), (1, .ref a1), (2, .int 0)]) [1, 2, 0] rfl ?_
  refine w_X9_lay_L2 hd hfuel a0 a1 0 S _  hf ?_
  · intro S8 hf
    obtain rfl := Option.some.inj hf
    exact h_vret rfl rfl rfl (Nat.le_refl _) (Nat.le_refl _) dX9_lay_20
abbrev x_X9_goesOn (d : Nat) (S0 : hS) (args : List Value) (r : Int32 × hS) (cs : Nat → Nat) : hX := (((some .boolean), 2, d, 0, 0, false), (S0, args, some (.int r.1), r.2), cs)
theorem v_X9_goesOn : hVW yX9_goesOn cX9_goesOn 2 (some .boolean) RX9 0 := ⟨q_1238, q_s48, q_9, q_1239, by decide +kernel, by decide⟩
def f_X9_goesOn (a0 : Nat) (S : hS) : Option (Int32 × hS) :=
  hck (S.K a0 = 10) <|
  hbd (f_X9_blanks a0 S) fun S2 =>
  hbd (gI S2 a0 9 25) fun t3 =>
  hj (γ := hS → Option (Int32 × hS)) (fun (S6 : hS) =>
    hbd (gI S6 a0 9 25) fun t7 =>
    hj (γ := Int32 → Option (Int32 × hS)) (fun (v10 : Int32) =>
      hbd (gI S6 a0 9 24) fun t11 =>
      hbd (sI S6 a0 9 24 (t11 + 1)) fun S13 =>
      hck (v10 = 0 ∨ v10 = 1) <|
      some (v10, S13)
      ) fun J9 =>
    hj (γ := Unit → Option (Int32 × hS)) (fun (_ : Unit) =>
      J9 0
      ) fun J15 =>
    if t7 = 0 then
      (hbd (gI S6 a0 9 24) fun t17 =>
       hbd (gI S6 a0 9 23) fun t19 =>
       if t19 ≤ t17 then
         (J15 ())
       else
         (J9 1))
    else
      (J15 ())
    ) fun J5 =>
  if t3 = 0 then
    (hbd (gI S2 a0 9 24) fun t23 =>
     hbd (gI S2 a0 9 23) fun t25 =>
     if t25 ≤ t23 then
       (J5 S2)
     else
       (hck (S2.K a0 = 10) <|
        hb2 (f_X9_sign a0 S2) fun t30 S29 =>
        if t30 = 59 then
          (J5 S29)
        else
          (hbd (gI S29 a0 9 24) fun t32 =>
           hck (S29.K a0 = 10) <|
           hbd (f_X9_fails a0 0 t32 S29) fun S35 =>
           J5 S35)))
  else
    (J5 S2)
set_option maxRecDepth 100000 in
set_option maxHeartbeats 4000000 in
theorem m_X9_goesOn {d : Nat} {cs : Nat → Nat} {a0 : Nat} {S : hS} {r : Int32 × hS} (hd : 3 ≤ d) (hf : f_X9_goesOn a0 S = some r) : HM yX9_goesOn cX9_goesOn 2 (some .boolean) d 0 0 cs [.ref a0] S (some (.int r.1)) r.2 := by
  unfold f_X9_goesOn at hf
  refine HM.ofHW false (by decide) (fun h => by cases h) (Nat.le_of_ble_eq_true rfl) ?_
  show HW cX9_goesOn RX9 (x_X9_goesOn d S [.ref a0] r cs) 0 0 S 0 [(0, .ref a0)] []
  refine h_aload_n dX9_goesOn_0 rfl 0 rfl ?_
  obtain ⟨g38, hf⟩ := hck_s hf
  obtain ⟨S2, h1, hf⟩ := hbd_s hf
  refine h_Vv [] (rest := []) (m_X9_blanks (d := 2) (cs := cs) (Nat.le_refl _) h1) v_X9_blanks q_1175 rfl (Nat.le_trans (by decide) hd) g38 rfl rfl (Nat.le_of_ble_eq_true rfl) dX9_goesOn_1 (Nat.le_refl _) (Nat.le_refl _) ?_
  refine h_aload_n dX9_goesOn_4 rfl 0 rfl ?_
  obtain ⟨t3, h4, hf⟩ := hbd_s hf
  refine h_getI h4 rfl (Nat.le_of_ble_eq_true rfl) rfl q_985 rfl dX9_goesOn_5 ?_
  refine hj_s (fun J5 => ∀ (S6 : hS), J5 S6 = some r → HW cX9_goesOn RX9 (x_X9_goesOn d S [.ref a0] r cs) 0 0 S6 40 [(0, .ref a0)] []) hf ?_ ?_
  · intro S6 hf
    refine h_aload_n dX9_goesOn_40 rfl 0 rfl ?_
    obtain ⟨t7, h8, hf⟩ := hbd_s hf
    refine h_getI h8 rfl (Nat.le_of_ble_eq_true rfl) rfl q_985 rfl dX9_goesOn_41 ?_
    refine hj_s (fun J9 => ∀ (v10 : Int32), J9 v10 = some r → HW cX9_goesOn RX9 (x_X9_goesOn d S [.ref a0] r cs) 0 0 S6 63 [(0, .ref a0)] [.int v10]) hf ?_ ?_
    · intro v10 hf
      refine h_istore_n (lv2 := [(1, .int v10), (0, .ref a0)]) dX9_goesOn_63 rfl (Nat.le_of_ble_eq_true rfl) rfl ?_
      refine h_aload_n dX9_goesOn_64 rfl 1 rfl ?_
      refine h_dup dX9_goesOn_65 rfl ?_
      obtain ⟨t11, h12, hf⟩ := hbd_s hf
      refine h_getI h12 rfl (Nat.le_of_ble_eq_true rfl) rfl q_984 rfl dX9_goesOn_66 ?_
      refine h_iconst (v := 1) dX9_goesOn_69 rfl ?_
      refine h_iadd dX9_goesOn_70 ?_
      obtain ⟨S13, h14, hf⟩ := hbd_s hf
      refine h_putI h14 rfl (Nat.le_of_ble_eq_true rfl) rfl q_984 rfl rfl (by decide +kernel) dX9_goesOn_71 ?_
      refine h_iload_n dX9_goesOn_74 rfl 0 rfl ?_
      obtain ⟨hz, hf⟩ := hck_s hf
      obtain rfl := Option.some.inj hf
      exact h_zret rfl hz rfl rfl (Nat.le_refl _) (Nat.le_refl _) dX9_goesOn_75
    · intro J9 hJ9 hf
      refine hj_s (fun J15 => ∀ (w : Unit), J15 w = some r → HW cX9_goesOn RX9 (x_X9_goesOn d S [.ref a0] r cs) 0 0 S6 62 [(0, .ref a0)] []) hf ?_ ?_
      · intro w hf
        refine h_iconst (v := 0) dX9_goesOn_62 rfl ?_
        exact hJ9 0 hf
      · intro J15 hJ15 hf
        refine h_if_ne (tgt := 62) dX9_goesOn_44 (by decide) (fun c16 => ?_) (fun c16 => ?_)
        · replace hf := hif_n c16 hf
          exact hJ15 () hf
        · replace hf := hif_p c16 hf
          refine h_aload_n dX9_goesOn_47 rfl 0 rfl ?_
          obtain ⟨t17, h18, hf⟩ := hbd_s hf
          refine h_getI h18 rfl (Nat.le_of_ble_eq_true rfl) rfl q_984 rfl dX9_goesOn_48 ?_
          refine h_aload_n dX9_goesOn_51 rfl 0 rfl ?_
          obtain ⟨t19, h20, hf⟩ := hbd_s hf
          refine h_getI h20 rfl (Nat.le_of_ble_eq_true rfl) rfl q_983 rfl dX9_goesOn_52 ?_
          refine h_icmp_ge (tgt := 62) dX9_goesOn_55 (by decide) (fun c21 => ?_) (fun c21 => ?_)
          · replace hf := hif_p c21 hf
            exact hJ15 () hf
          · replace hf := hif_n c21 hf
            refine h_iconst (v := 1) dX9_goesOn_58 rfl ?_
            refine h_goto (tgt := 63) dX9_goesOn_59 (by decide) ?_
            exact hJ9 1 hf
  · intro J5 hJ5 hf
    refine h_if_ne (tgt := 40) dX9_goesOn_8 (by decide) (fun c22 => ?_) (fun c22 => ?_)
    · replace hf := hif_n c22 hf
      exact hJ5 S2 hf
    · replace hf := hif_p c22 hf
      refine h_aload_n dX9_goesOn_11 rfl 0 rfl ?_
      obtain ⟨t23, h24, hf⟩ := hbd_s hf
      refine h_getI h24 rfl (Nat.le_of_ble_eq_true rfl) rfl q_984 rfl dX9_goesOn_12 ?_
      refine h_aload_n dX9_goesOn_15 rfl 0 rfl ?_
      obtain ⟨t25, h26, hf⟩ := hbd_s hf
      refine h_getI h26 rfl (Nat.le_of_ble_eq_true rfl) rfl q_983 rfl dX9_goesOn_16 ?_
      refine h_icmp_ge (tgt := 40) dX9_goesOn_19 (by decide) (fun c27 => ?_) (fun c27 => ?_)
      · replace hf := hif_p c27 hf
        exact hJ5 S2 hf
      · replace hf := hif_n c27 hf
        refine h_aload_n dX9_goesOn_22 rfl 0 rfl ?_
        obtain ⟨g37, hf⟩ := hck_s hf
        obtain ⟨t30, S29, h28, hf⟩ := hb2_s hf
        refine h_Vi [] (rest := []) (m_X9_sign (d := 1) (cs := cs) (Nat.le_refl _) h28) v_X9_sign q_1179 rfl (Nat.le_trans (by decide) hd) g37 rfl rfl (Nat.le_of_ble_eq_true rfl) dX9_goesOn_23 (Nat.le_refl _) (Nat.le_refl _) ?_
        refine h_bipush (v := 59) dX9_goesOn_26 rfl ?_
        refine h_icmp_eq (tgt := 40) dX9_goesOn_28 (by decide) (fun c31 => ?_) (fun c31 => ?_)
        · replace hf := hif_p c31 hf
          exact hJ5 S29 hf
        · replace hf := hif_n c31 hf
          refine h_aload_n dX9_goesOn_31 rfl 0 rfl ?_
          refine h_iconst (v := 0) dX9_goesOn_32 rfl ?_
          refine h_aload_n dX9_goesOn_33 rfl 0 rfl ?_
          obtain ⟨t32, h33, hf⟩ := hbd_s hf
          refine h_getI h33 rfl (Nat.le_of_ble_eq_true rfl) rfl q_984 rfl dX9_goesOn_34 ?_
          obtain ⟨g36, hf⟩ := hck_s hf
          obtain ⟨S35, h34, hf⟩ := hbd_s hf
          refine h_Vv [.int 0, .int t32] (rest := []) (m_X9_fails (d := 1) (cs := cs) (Nat.le_refl _) h34) v_X9_fails q_1198 rfl (Nat.le_trans (by decide) hd) g36 rfl rfl (Nat.le_of_ble_eq_true rfl) dX9_goesOn_37 (Nat.le_refl _) (Nat.le_refl _) ?_
          exact hJ5 S35 hf
abbrev x_X9_starts (d : Nat) (S0 : hS) (args : List Value) (r : hS) (cs : Nat → Nat) : hX := ((none, 1, d, 0, 0, false), (S0, args, none, r), cs)
theorem v_X9_starts : hVW yX9_starts cX9_starts 1 none RX9 0 := ⟨q_1169, q_s35, q_9, q_1170, by decide +kernel, by decide⟩
def f_X9_starts (a0 : Nat) (S : hS) : Option (hS) :=
  hbd (sI S a0 9 24 0) fun S1 =>
  hbd (sI S1 a0 9 25 0) fun S3 =>
  hbd (sI S3 a0 9 28 0) fun S5 =>
  hbd (sI S5 a0 9 29 0) fun S7 =>
  hbd (sI S7 a0 9 30 0) fun S9 =>
  some S9
set_option maxRecDepth 100000 in
set_option maxHeartbeats 4000000 in
theorem m_X9_starts {d : Nat} {cs : Nat → Nat} {a0 : Nat} {S : hS} {r : hS} (hd : 1 ≤ d) (hf : f_X9_starts a0 S = some r) : HM yX9_starts cX9_starts 1 none d 0 0 cs [.ref a0] S (none) r := by
  unfold f_X9_starts at hf
  refine HM.ofHW false (by decide) (fun h => by cases h) (Nat.le_of_ble_eq_true rfl) ?_
  show HW cX9_starts RX9 (x_X9_starts d S [.ref a0] r cs) 0 0 S 0 [(0, .ref a0)] []
  refine h_aload_n dX9_starts_0 rfl 0 rfl ?_
  refine h_iconst (v := 0) dX9_starts_1 rfl ?_
  obtain ⟨S1, h2, hf⟩ := hbd_s hf
  refine h_putI h2 rfl (Nat.le_of_ble_eq_true rfl) rfl q_984 rfl rfl (by decide +kernel) dX9_starts_2 ?_
  refine h_aload_n dX9_starts_5 rfl 0 rfl ?_
  refine h_iconst (v := 0) dX9_starts_6 rfl ?_
  obtain ⟨S3, h4, hf⟩ := hbd_s hf
  refine h_putI h4 rfl (Nat.le_of_ble_eq_true rfl) rfl q_985 rfl rfl (by decide +kernel) dX9_starts_7 ?_
  refine h_aload_n dX9_starts_10 rfl 0 rfl ?_
  refine h_iconst (v := 0) dX9_starts_11 rfl ?_
  obtain ⟨S5, h6, hf⟩ := hbd_s hf
  refine h_putI h6 rfl (Nat.le_of_ble_eq_true rfl) rfl q_988 rfl rfl (by decide +kernel) dX9_starts_12 ?_
  refine h_aload_n dX9_starts_15 rfl 0 rfl ?_
  refine h_iconst (v := 0) dX9_starts_16 rfl ?_
  obtain ⟨S7, h8, hf⟩ := hbd_s hf
  refine h_putI h8 rfl (Nat.le_of_ble_eq_true rfl) rfl q_989 rfl rfl (by decide +kernel) dX9_starts_17 ?_
  refine h_aload_n dX9_starts_20 rfl 0 rfl ?_
  refine h_iconst (v := 0) dX9_starts_21 rfl ?_
  obtain ⟨S9, h10, hf⟩ := hbd_s hf
  refine h_putI h10 rfl (Nat.le_of_ble_eq_true rfl) rfl q_990 rfl rfl (by decide +kernel) dX9_starts_22 ?_
  obtain rfl := Option.some.inj hf
  exact h_vret rfl rfl rfl (Nat.le_refl _) (Nat.le_refl _) dX9_starts_25
abbrev x_X9_hall (d : Nat) (S0 : hS) (args : List Value) (r : Int32 × hS) (cs : Nat → Nat) : hX := (((some .int), 5, d, 0, 0, false), (S0, args, some (.int r.1), r.2), cs)
theorem v_X9_hall : hVW yX9_hall cX9_hall 5 (some .int) RX9 0 := ⟨q_1164, q_1165, q_9, q_1166, by decide +kernel, by decide⟩
def f_X9_hall_L11 : Nat → Nat → Int32 → hS → (hS → Option (Int32 × hS)) → Option (Int32 × hS)
  | 0, _, _, _, _ => none
  | n + 1, x0, x1, S, k0 =>
    if 6 ≤ x1 then
      (k0 S)
    else
      (hbd (gR S x0 9 13) fun t2 =>
       hbd (sA S t2 x1 0) fun S4 =>
       f_X9_hall_L11 n x0 (x1 + 1) S4 k0)
def f_X9_hall_L32 : Nat → Nat → Int32 → hS → (hS → Option (Int32 × hS)) → Option (Int32 × hS)
  | 0, _, _, _, _ => none
  | n + 1, x0, x1, S, k0 =>
    if 80 ≤ x1 then
      (k0 S)
    else
      (hbd (gR S x0 9 14) fun t2 =>
       hbd (sA S t2 x1 0) fun S4 =>
       f_X9_hall_L32 n x0 (x1 + 1) S4 k0)
def f_X9_hall_L55 : Nat → Nat → Int32 → Int32 → hS → (hS → Option (Int32 × hS)) → Option (Int32 × hS)
  | 0, _, _, _, _, _ => none
  | n + 1, x0, x1, x2, S, k0 =>
    if x2 = 0 then
      (k0 S)
    else
      (hck (S.K x0 = 10) <|
       hbd (f_X9_hallClause x0 x1 S) fun S3 =>
       hck (S3.K x0 = 10) <|
       hb2 (f_X9_goesOn x0 S3) fun t6 S5 =>
       f_X9_hall_L55 n x0 (x1 + 1) t6 S5 k0)
def f_X9_hall_L265 : Nat → Nat → Int32 → hS → (hS → Option (Int32 × hS)) → Option (Int32 × hS)
  | 0, _, _, _, _ => none
  | n + 1, x0, x4, S, k0 =>
    if 12 ≤ x4 then
      (k0 S)
    else
      (hbd (gR S x0 9 6) fun t2 =>
       hbd (sA S t2 x4 0) fun S4 =>
       f_X9_hall_L265 n x0 (x4 + 1) S4 k0)
def f_X9_hall_L106 : Nat → Nat → Int32 → hS → (hS → Option (Int32 × hS)) → Option (Int32 × hS)
  | 0, _, _, _, _ => none
  | n + 1, x0, x4, S, k0 =>
    hbd (gR S x0 9 1) fun t1 =>
    hbd (gN S t1) fun t3 =>
    if t3 ≤ x4 then
      (k0 S)
    else
      (hbd (gR S x0 9 1) fun t6 =>
       hj (γ := Int32 → Option (Int32 × hS)) (fun (v9 : Int32) =>
         hbd (sA S t6 x4 v9) fun S10 =>
         f_X9_hall_L106 n x0 (x4 + 1) S10 k0
         ) fun J8 =>
       if 6 ≤ x4 then
         (J8 0)
       else
         (hbd (gR S x0 9 13) fun t13 =>
          hbd (gA S t13 12 x4) fun t15 =>
          J8 t15))
def f_X9_hall (a0 : Nat) (S : hS) : Option (Int32 × hS) :=
  hck (S.K a0 = 10) <|
  hbd (f_X9_starts a0 S) fun S18 =>
  hbd (sZ S18 a0 9 33 0) fun S19 =>
  f_X9_hall_L11 hfuel a0 0 S19
    (fun S21 =>
      f_X9_hall_L32 hfuel a0 0 S21
        (fun S22 =>
          f_X9_hall_L55 hfuel a0 0 1 S22
            (fun S23 =>
              hbd (sI S23 a0 9 23 0) fun S24 =>
              hbd (gI S24 a0 9 25) fun t26 =>
              if t26 ≤ 0 then
                (hbd (gR S24 a0 9 1) fun t29 =>
                 hbd (gA S24 t29 12 13) fun t31 =>
                 f_X9_hall_L106 hfuel a0 0 S24
                   (fun S33 =>
                     hbd (gR S33 a0 9 1) fun t34 =>
                     hbd (sA S33 t34 13 t31) fun S36 =>
                     hbd (gR S36 a0 9 1) fun t38 =>
                     hbd (sA S36 t38 6 (-1)) fun S40 =>
                     hbd (gR S40 a0 9 14) fun t42 =>
                     hbd (gR S40 a0 9 2) fun t44 =>
                     hbd (f_X9_lay t42 t44 S40) fun S47 =>
                     hbd (gR S47 a0 9 15) fun t48 =>
                     hbd (gR S47 a0 9 3) fun t50 =>
                     hbd (f_X9_lay t48 t50 S47) fun S53 =>
                     hbd (gR S53 a0 9 16) fun t54 =>
                     hbd (gR S53 a0 9 4) fun t56 =>
                     hbd (f_X9_lay t54 t56 S53) fun S59 =>
                     hbd (gR S59 a0 9 17) fun t60 =>
                     hbd (gR S59 a0 9 5) fun t62 =>
                     hbd (f_X9_lay t60 t62 S59) fun S65 =>
                     hbd (gR S65 a0 9 18) fun t66 =>
                     hbd (gR S65 a0 9 7) fun t68 =>
                     hbd (f_X9_lay t66 t68 S65) fun S71 =>
                     hbd (gR S71 a0 9 19) fun t72 =>
                     hbd (gR S71 a0 9 8) fun t74 =>
                     hbd (f_X9_lay t72 t74 S71) fun S77 =>
                     hbd (gR S77 a0 9 20) fun t78 =>
                     hbd (gR S77 a0 9 9) fun t80 =>
                     hbd (f_X9_lay t78 t80 S77) fun S83 =>
                     hbd (gR S83 a0 9 21) fun t84 =>
                     hbd (gR S83 a0 9 10) fun t86 =>
                     hbd (f_X9_lay t84 t86 S83) fun S89 =>
                     hbd (gR S89 a0 9 22) fun t90 =>
                     hbd (gR S89 a0 9 11) fun t92 =>
                     hbd (f_X9_lay t90 t92 S89) fun S95 =>
                     f_X9_hall_L265 hfuel a0 0 S95
                       (fun S96 =>
                         hbd (gR S96 a0 9 1) fun t97 =>
                         hck (S96.K a0 = 10) <|
                         hb2 (f_X9_allHeat a0 S96) fun t101 S100 =>
                         hbd (sA S100 t97 11 t101) fun S102 =>
                         hbd (gR S102 a0 9 1) fun t104 =>
                         hbd (gA S102 t104 12 2) fun t106 =>
                         some (t106, S102)
                       )
                   ))
              else
                (hbd (gI S24 a0 9 25) fun t109 =>
                 some ((-2) - t109, S24))
            )
        )
    )
set_option maxRecDepth 100000 in
set_option maxHeartbeats 4000000 in
theorem w_X9_hall_L11 {d : Nat} {S0 : hS} {args : List Value} {cs : Nat → Nat} {r : Int32 × hS} (hd : 9 ≤ d) : ∀ (n : Nat) (x0 : Nat) (x1 : Int32) (S : hS) (k0 : (hS → Option (Int32 × hS))) , f_X9_hall_L11 n x0 x1 S k0 = some r → (∀ (T : hS), k0 T = some r → HW cX9_hall RX9 (x_X9_hall d S0 args r cs) 0 0 T 30 [(0, .ref x0)] []) → HW cX9_hall RX9 (x_X9_hall d S0 args r cs) 0 0 S 11 [(0, .ref x0), (1, .int x1)] [] := by
  intro n
  induction n with
  | zero =>
    intro x0 x1 S k0 hf
    cases hf
  | succ n ih =>
    intro x0 x1 S k0 hf hk0
    rw [f_X9_hall_L11] at hf
    refine h_iload_n dX9_hall_11 rfl 1 rfl ?_
    refine h_bipush (v := 6) dX9_hall_12 rfl ?_
    refine h_icmp_ge (tgt := 30) dX9_hall_14 (by decide) (fun c1 => ?_) (fun c1 => ?_)
    · replace hf := hif_p c1 hf
      refine h_sub (lv2 := [(0, .ref x0)]) [0] rfl ?_
      exact hk0 S hf
    · replace hf := hif_n c1 hf
      refine h_aload_n dX9_hall_17 rfl 0 rfl ?_
      obtain ⟨t2, h3, hf⟩ := hbd_s hf
      refine h_getR h3 rfl (Nat.le_of_ble_eq_true rfl) rfl q_973 rfl dX9_hall_18 ?_
      refine h_iload_n dX9_hall_21 rfl 1 rfl ?_
      refine h_iconst (v := 0) dX9_hall_22 rfl ?_
      obtain ⟨S4, h5, hf⟩ := hbd_s hf
      refine h_iast h5 dX9_hall_23 ?_
      refine h_iinc (q := 1) (v := x1 + 1) (lv2 := [(1, .int (x1 + 1)), (0, .ref x0)]) dX9_hall_24 rfl rfl (Nat.le_of_ble_eq_true rfl) rfl ?_
      refine h_goto (tgt := 11) dX9_hall_27 (by decide) ?_
      refine h_sub (lv2 := [(0, .ref x0), (1, .int (x1 + 1))]) [1, 0] rfl ?_
      exact ih x0 (x1 + 1) S4 k0  hf hk0
set_option maxRecDepth 100000 in
set_option maxHeartbeats 4000000 in
theorem w_X9_hall_L32 {d : Nat} {S0 : hS} {args : List Value} {cs : Nat → Nat} {r : Int32 × hS} (hd : 9 ≤ d) : ∀ (n : Nat) (x0 : Nat) (x1 : Int32) (S : hS) (k0 : (hS → Option (Int32 × hS))) , f_X9_hall_L32 n x0 x1 S k0 = some r → (∀ (T : hS), k0 T = some r → HW cX9_hall RX9 (x_X9_hall d S0 args r cs) 0 0 T 51 [(0, .ref x0)] []) → HW cX9_hall RX9 (x_X9_hall d S0 args r cs) 0 0 S 32 [(0, .ref x0), (1, .int x1)] [] := by
  intro n
  induction n with
  | zero =>
    intro x0 x1 S k0 hf
    cases hf
  | succ n ih =>
    intro x0 x1 S k0 hf hk0
    rw [f_X9_hall_L32] at hf
    refine h_iload_n dX9_hall_32 rfl 1 rfl ?_
    refine h_bipush (v := 80) dX9_hall_33 rfl ?_
    refine h_icmp_ge (tgt := 51) dX9_hall_35 (by decide) (fun c1 => ?_) (fun c1 => ?_)
    · replace hf := hif_p c1 hf
      refine h_sub (lv2 := [(0, .ref x0)]) [0] rfl ?_
      exact hk0 S hf
    · replace hf := hif_n c1 hf
      refine h_aload_n dX9_hall_38 rfl 0 rfl ?_
      obtain ⟨t2, h3, hf⟩ := hbd_s hf
      refine h_getR h3 rfl (Nat.le_of_ble_eq_true rfl) rfl q_974 rfl dX9_hall_39 ?_
      refine h_iload_n dX9_hall_42 rfl 1 rfl ?_
      refine h_iconst (v := 0) dX9_hall_43 rfl ?_
      obtain ⟨S4, h5, hf⟩ := hbd_s hf
      refine h_iast h5 dX9_hall_44 ?_
      refine h_iinc (q := 1) (v := x1 + 1) (lv2 := [(1, .int (x1 + 1)), (0, .ref x0)]) dX9_hall_45 rfl rfl (Nat.le_of_ble_eq_true rfl) rfl ?_
      refine h_goto (tgt := 32) dX9_hall_48 (by decide) ?_
      refine h_sub (lv2 := [(0, .ref x0), (1, .int (x1 + 1))]) [1, 0] rfl ?_
      exact ih x0 (x1 + 1) S4 k0  hf hk0
set_option maxRecDepth 100000 in
set_option maxHeartbeats 4000000 in
theorem w_X9_hall_L55 {d : Nat} {S0 : hS} {args : List Value} {cs : Nat → Nat} {r : Int32 × hS} (hd : 9 ≤ d) : ∀ (n : Nat) (x0 : Nat) (x1 : Int32) (x2 : Int32) (S : hS) (k0 : (hS → Option (Int32 × hS))) , f_X9_hall_L55 n x0 x1 x2 S k0 = some r → (∀ (T : hS), k0 T = some r → HW cX9_hall RX9 (x_X9_hall d S0 args r cs) 0 0 T 75 [(0, .ref x0)] []) → HW cX9_hall RX9 (x_X9_hall d S0 args r cs) 0 0 S 55 [(0, .ref x0), (1, .int x1), (2, .int x2)] [] := by
  intro n
  induction n with
  | zero =>
    intro x0 x1 x2 S k0 hf
    cases hf
  | succ n ih =>
    intro x0 x1 x2 S k0 hf hk0
    rw [f_X9_hall_L55] at hf
    refine h_iload_n dX9_hall_55 rfl 2 rfl ?_
    refine h_if_eq (tgt := 75) dX9_hall_56 (by decide) (fun c1 => ?_) (fun c1 => ?_)
    · replace hf := hif_p c1 hf
      refine h_sub (lv2 := [(0, .ref x0)]) [0] rfl ?_
      exact hk0 S hf
    · replace hf := hif_n c1 hf
      refine h_aload_n dX9_hall_59 rfl 0 rfl ?_
      refine h_iload_n dX9_hall_60 rfl 1 rfl ?_
      obtain ⟨g8, hf⟩ := hck_s hf
      obtain ⟨S3, h2, hf⟩ := hbd_s hf
      refine h_Vv [.int x1] (rest := []) (m_X9_hallClause (d := 8) (cs := cs) (Nat.le_refl _) h2) v_X9_hallClause q_1171 rfl (Nat.le_trans (by decide) hd) g8 rfl rfl (Nat.le_of_ble_eq_true rfl) dX9_hall_61 (Nat.le_refl _) (Nat.le_refl _) ?_
      refine h_iinc (q := 1) (v := x1 + 1) (lv2 := [(1, .int (x1 + 1)), (0, .ref x0), (2, .int x2)]) dX9_hall_64 rfl rfl (Nat.le_of_ble_eq_true rfl) rfl ?_
      refine h_aload_n dX9_hall_67 rfl 1 rfl ?_
      obtain ⟨g7, hf⟩ := hck_s hf
      obtain ⟨t6, S5, h4, hf⟩ := hb2_s hf
      refine h_Vi [] (rest := []) (m_X9_goesOn (d := 3) (cs := cs) (Nat.le_refl _) h4) v_X9_goesOn q_1236 rfl (Nat.le_trans (by decide) hd) g7 rfl rfl (Nat.le_of_ble_eq_true rfl) dX9_hall_68 (Nat.le_refl _) (Nat.le_refl _) ?_
      refine h_istore_n (lv2 := [(2, .int t6), (1, .int (x1 + 1)), (0, .ref x0)]) dX9_hall_71 rfl (Nat.le_of_ble_eq_true rfl) rfl ?_
      refine h_goto (tgt := 55) dX9_hall_72 (by decide) ?_
      refine h_sub (lv2 := [(0, .ref x0), (1, .int (x1 + 1)), (2, .int t6)]) [2, 1, 0] rfl ?_
      exact ih x0 (x1 + 1) t6 S5 k0  hf hk0
set_option maxRecDepth 100000 in
set_option maxHeartbeats 4000000 in
theorem w_X9_hall_L265 {d : Nat} {S0 : hS} {args : List Value} {cs : Nat → Nat} {r : Int32 × hS} (hd : 9 ≤ d) : ∀ (n : Nat) (x0 : Nat) (x4 : Int32) (S : hS) (k0 : (hS → Option (Int32 × hS))) , f_X9_hall_L265 n x0 x4 S k0 = some r → (∀ (T : hS), k0 T = some r → HW cX9_hall RX9 (x_X9_hall d S0 args r cs) 0 0 T 286 [(0, .ref x0)] []) → HW cX9_hall RX9 (x_X9_hall d S0 args r cs) 0 0 S 265 [(0, .ref x0), (4, .int x4)] [] := by
  intro n
  induction n with
  | zero =>
    intro x0 x4 S k0 hf
    cases hf
  | succ n ih =>
    intro x0 x4 S k0 hf hk0
    rw [f_X9_hall_L265] at hf
    refine h_iload dX9_hall_265 1 rfl ?_
    refine h_bipush (v := 12) dX9_hall_267 rfl ?_
    refine h_icmp_ge (tgt := 286) dX9_hall_269 (by decide) (fun c1 => ?_) (fun c1 => ?_)
    · replace hf := hif_p c1 hf
      refine h_sub (lv2 := [(0, .ref x0)]) [0] rfl ?_
      exact hk0 S hf
    · replace hf := hif_n c1 hf
      refine h_aload_n dX9_hall_272 rfl 0 rfl ?_
      obtain ⟨t2, h3, hf⟩ := hbd_s hf
      refine h_getR h3 rfl (Nat.le_of_ble_eq_true rfl) rfl q_966 rfl dX9_hall_273 ?_
      refine h_iload dX9_hall_276 1 rfl ?_
      refine h_iconst (v := 0) dX9_hall_278 rfl ?_
      obtain ⟨S4, h5, hf⟩ := hbd_s hf
      refine h_iast h5 dX9_hall_279 ?_
      refine h_iinc (q := 1) (v := x4 + 1) (lv2 := [(4, .int (x4 + 1)), (0, .ref x0)]) dX9_hall_280 rfl rfl (Nat.le_of_ble_eq_true rfl) rfl ?_
      refine h_goto (tgt := 265) dX9_hall_283 (by decide) ?_
      refine h_sub (lv2 := [(0, .ref x0), (4, .int (x4 + 1))]) [1, 0] rfl ?_
      exact ih x0 (x4 + 1) S4 k0  hf hk0
set_option maxRecDepth 100000 in
set_option maxHeartbeats 4000000 in
theorem w_X9_hall_L106 {d : Nat} {S0 : hS} {args : List Value} {cs : Nat → Nat} {r : Int32 × hS} (hd : 9 ≤ d) : ∀ (n : Nat) (x0 : Nat) (x4 : Int32) (S : hS) (k0 : (hS → Option (Int32 × hS))) (z3 : Int32), f_X9_hall_L106 n x0 x4 S k0 = some r → (∀ (T : hS), k0 T = some r → HW cX9_hall RX9 (x_X9_hall d S0 args r cs) 0 0 T 147 [(0, .ref x0), (3, .int z3)] []) → HW cX9_hall RX9 (x_X9_hall d S0 args r cs) 0 0 S 106 [(0, .ref x0), (3, .int z3), (4, .int x4)] [] := by
  intro n
  induction n with
  | zero =>
    intro x0 x4 S k0 z3 hf
    cases hf
  | succ n ih =>
    intro x0 x4 S k0 z3 hf hk0
    rw [f_X9_hall_L106] at hf
    refine h_iload dX9_hall_106 2 rfl ?_
    refine h_aload_n dX9_hall_108 rfl 0 rfl ?_
    obtain ⟨t1, h2, hf⟩ := hbd_s hf
    refine h_getR h2 rfl (Nat.le_of_ble_eq_true rfl) rfl q_961 rfl dX9_hall_109 ?_
    obtain ⟨t3, h4, hf⟩ := hbd_s hf
    refine h_alen h4 dX9_hall_112 ?_
    refine h_icmp_ge (tgt := 147) dX9_hall_113 (by decide) (fun c5 => ?_) (fun c5 => ?_)
    · replace hf := hif_p c5 hf
      refine h_sub (lv2 := [(0, .ref x0), (3, .int z3)]) [0, 1] rfl ?_
      exact hk0 S hf
    · replace hf := hif_n c5 hf
      refine h_aload_n dX9_hall_116 rfl 0 rfl ?_
      obtain ⟨t6, h7, hf⟩ := hbd_s hf
      refine h_getR h7 rfl (Nat.le_of_ble_eq_true rfl) rfl q_961 rfl dX9_hall_117 ?_
      refine h_iload dX9_hall_120 2 rfl ?_
      refine h_iload dX9_hall_122 2 rfl ?_
      refine h_bipush (v := 6) dX9_hall_124 rfl ?_
      refine hj_s (fun J8 => ∀ (v9 : Int32), J8 v9 = some r → HW cX9_hall RX9 (x_X9_hall d S0 args r cs) 0 0 S 140 [(0, .ref x0), (3, .int z3), (4, .int x4)] [.int v9, .int x4, .ref t6]) hf ?_ ?_
      · intro v9 hf
        obtain ⟨S10, h11, hf⟩ := hbd_s hf
        refine h_iast h11 dX9_hall_140 ?_
        refine h_iinc (q := 2) (v := x4 + 1) (lv2 := [(4, .int (x4 + 1)), (0, .ref x0), (3, .int z3)]) dX9_hall_141 rfl rfl (Nat.le_of_ble_eq_true rfl) rfl ?_
        refine h_goto (tgt := 106) dX9_hall_144 (by decide) ?_
        refine h_sub (lv2 := [(0, .ref x0), (3, .int z3), (4, .int (x4 + 1))]) [1, 2, 0] rfl ?_
        exact ih x0 (x4 + 1) S10 k0 z3 hf hk0
      · intro J8 hJ8 hf
        refine h_icmp_ge (tgt := 139) dX9_hall_126 (by decide) (fun c12 => ?_) (fun c12 => ?_)
        · replace hf := hif_p c12 hf
          refine h_iconst (v := 0) dX9_hall_139 rfl ?_
          exact hJ8 0 hf
        · replace hf := hif_n c12 hf
          refine h_aload_n dX9_hall_129 rfl 0 rfl ?_
          obtain ⟨t13, h14, hf⟩ := hbd_s hf
          refine h_getR h14 rfl (Nat.le_of_ble_eq_true rfl) rfl q_973 rfl dX9_hall_130 ?_
          refine h_iload dX9_hall_133 2 rfl ?_
          obtain ⟨t15, h16, hf⟩ := hbd_s hf
          refine h_iald h16 dX9_hall_135 ?_
          refine h_goto (tgt := 140) dX9_hall_136 (by decide) ?_
          exact hJ8 t15 hf
set_option maxRecDepth 100000 in
set_option maxHeartbeats 4000000 in
theorem m_X9_hall {d : Nat} {cs : Nat → Nat} {a0 : Nat} {S : hS} {r : Int32 × hS} (hd : 9 ≤ d) (hf : f_X9_hall a0 S = some r) : HM yX9_hall cX9_hall 5 (some .int) d 0 0 cs [.ref a0] S (some (.int r.1)) r.2 := by
  unfold f_X9_hall at hf
  refine HM.ofHW false (by decide) (fun h => by cases h) (Nat.le_of_ble_eq_true rfl) ?_
  show HW cX9_hall RX9 (x_X9_hall d S [.ref a0] r cs) 0 0 S 0 [(0, .ref a0)] []
  refine h_aload_n dX9_hall_0 rfl 0 rfl ?_
  obtain ⟨g111, hf⟩ := hck_s hf
  obtain ⟨S18, h17, hf⟩ := hbd_s hf
  refine h_Vv [] (rest := []) (m_X9_starts (d := 1) (cs := cs) (Nat.le_refl _) h17) v_X9_starts q_1167 rfl (Nat.le_trans (by decide) hd) g111 rfl rfl (Nat.le_of_ble_eq_true rfl) dX9_hall_1 (Nat.le_refl _) (Nat.le_refl _) ?_
  refine h_aload_n dX9_hall_4 rfl 0 rfl ?_
  refine h_iconst (v := 0) dX9_hall_5 rfl ?_
  obtain ⟨S19, h20, hf⟩ := hbd_s hf
  refine h_putZ h20 rfl (Nat.le_of_ble_eq_true rfl) rfl q_993 rfl rfl (by decide +kernel) dX9_hall_6 ?_
  refine h_iconst (v := 0) dX9_hall_9 rfl ?_
  refine h_istore_n (lv2 := [(1, .int 0), (0, .ref a0)]) dX9_hall_10 rfl (Nat.le_of_ble_eq_true rfl) rfl ?_
  refine h_sub (lv2 := [(0, .ref a0), (1, .int 0)]) [1, 0] rfl ?_
  refine w_X9_hall_L11 hd hfuel a0 0 S19 _  hf ?_
  · intro S21 hf
    refine h_iconst (v := 0) dX9_hall_30 rfl ?_
    refine h_istore_n (lv2 := [(1, .int 0), (0, .ref a0)]) dX9_hall_31 rfl (Nat.le_of_ble_eq_true rfl) rfl ?_
    refine h_sub (lv2 := [(0, .ref a0), (1, .int 0)]) [1, 0] rfl ?_
    refine w_X9_hall_L32 hd hfuel a0 0 S21 _  hf ?_
    · intro S22 hf
      refine h_iconst (v := 0) dX9_hall_51 rfl ?_
      refine h_istore_n (lv2 := [(1, .int 0), (0, .ref a0)]) dX9_hall_52 rfl (Nat.le_of_ble_eq_true rfl) rfl ?_
      refine h_iconst (v := 1) dX9_hall_53 rfl ?_
      refine h_istore_n (lv2 := [(2, .int 1), (1, .int 0), (0, .ref a0)]) dX9_hall_54 rfl (Nat.le_of_ble_eq_true rfl) rfl ?_
      refine h_sub (lv2 := [(0, .ref a0), (1, .int 0), (2, .int 1)]) [2, 1, 0] rfl ?_
      refine w_X9_hall_L55 hd hfuel a0 0 1 S22 _  hf ?_
      · intro S23 hf
        refine h_aload_n dX9_hall_75 rfl 0 rfl ?_
        refine h_iconst (v := 0) dX9_hall_76 rfl ?_
        obtain ⟨S24, h25, hf⟩ := hbd_s hf
        refine h_putI h25 rfl (Nat.le_of_ble_eq_true rfl) rfl q_983 rfl rfl (by decide +kernel) dX9_hall_77 ?_
        refine h_aload_n dX9_hall_80 rfl 0 rfl ?_
        obtain ⟨t26, h27, hf⟩ := hbd_s hf
        refine h_getI h27 rfl (Nat.le_of_ble_eq_true rfl) rfl q_985 rfl dX9_hall_81 ?_
        refine h_if_le (tgt := 95) dX9_hall_84 (by decide) (fun c28 => ?_) (fun c28 => ?_)
        · replace hf := hif_p c28 hf
          refine h_aload_n dX9_hall_95 rfl 0 rfl ?_
          obtain ⟨t29, h30, hf⟩ := hbd_s hf
          refine h_getR h30 rfl (Nat.le_of_ble_eq_true rfl) rfl q_961 rfl dX9_hall_96 ?_
          refine h_bipush (v := 13) dX9_hall_99 rfl ?_
          obtain ⟨t31, h32, hf⟩ := hbd_s hf
          refine h_iald h32 dX9_hall_101 ?_
          refine h_istore_n (lv2 := [(3, .int t31), (0, .ref a0)]) dX9_hall_102 rfl (Nat.le_of_ble_eq_true rfl) rfl ?_
          refine h_iconst (v := 0) dX9_hall_103 rfl ?_
          refine h_istore (lv2 := [(4, .int 0), (3, .int t31), (0, .ref a0)]) dX9_hall_104 (Nat.le_of_ble_eq_true rfl) rfl ?_
          refine h_sub (lv2 := [(0, .ref a0), (3, .int t31), (4, .int 0)]) [2, 1, 0] rfl ?_
          refine w_X9_hall_L106 hd hfuel a0 0 S24 _ t31 hf ?_
          · intro S33 hf
            refine h_aload_n dX9_hall_147 rfl 0 rfl ?_
            obtain ⟨t34, h35, hf⟩ := hbd_s hf
            refine h_getR h35 rfl (Nat.le_of_ble_eq_true rfl) rfl q_961 rfl dX9_hall_148 ?_
            refine h_bipush (v := 13) dX9_hall_151 rfl ?_
            refine h_iload_n dX9_hall_153 rfl 1 rfl ?_
            obtain ⟨S36, h37, hf⟩ := hbd_s hf
            refine h_iast h37 dX9_hall_154 ?_
            refine h_aload_n dX9_hall_155 rfl 0 rfl ?_
            obtain ⟨t38, h39, hf⟩ := hbd_s hf
            refine h_getR h39 rfl (Nat.le_of_ble_eq_true rfl) rfl q_961 rfl dX9_hall_156 ?_
            refine h_bipush (v := 6) dX9_hall_159 rfl ?_
            refine h_iconst (v := (-1)) dX9_hall_161 rfl ?_
            obtain ⟨S40, h41, hf⟩ := hbd_s hf
            refine h_iast h41 dX9_hall_162 ?_
            refine h_aload_n dX9_hall_163 rfl 0 rfl ?_
            obtain ⟨t42, h43, hf⟩ := hbd_s hf
            refine h_getR h43 rfl (Nat.le_of_ble_eq_true rfl) rfl q_974 rfl dX9_hall_164 ?_
            refine h_aload_n dX9_hall_167 rfl 0 rfl ?_
            obtain ⟨t44, h45, hf⟩ := hbd_s hf
            refine h_getR h45 rfl (Nat.le_of_ble_eq_true rfl) rfl q_962 rfl dX9_hall_168 ?_
            obtain ⟨S47, h46, hf⟩ := hbd_s hf
            refine h_Sv [.ref t42, .ref t44] (rest := []) (m_X9_lay (d := 1) (cs := cs) (Nat.le_refl _) h46) v_X9_lay q_1240 rfl (Nat.le_trans (by decide) hd) rfl (Nat.le_of_ble_eq_true rfl) dX9_hall_171 (Nat.le_refl _) (Nat.le_refl _) ?_
            refine h_aload_n dX9_hall_174 rfl 0 rfl ?_
            obtain ⟨t48, h49, hf⟩ := hbd_s hf
            refine h_getR h49 rfl (Nat.le_of_ble_eq_true rfl) rfl q_975 rfl dX9_hall_175 ?_
            refine h_aload_n dX9_hall_178 rfl 0 rfl ?_
            obtain ⟨t50, h51, hf⟩ := hbd_s hf
            refine h_getR h51 rfl (Nat.le_of_ble_eq_true rfl) rfl q_963 rfl dX9_hall_179 ?_
            obtain ⟨S53, h52, hf⟩ := hbd_s hf
            refine h_Sv [.ref t48, .ref t50] (rest := []) (m_X9_lay (d := 1) (cs := cs) (Nat.le_refl _) h52) v_X9_lay q_1240 rfl (Nat.le_trans (by decide) hd) rfl (Nat.le_of_ble_eq_true rfl) dX9_hall_182 (Nat.le_refl _) (Nat.le_refl _) ?_
            refine h_aload_n dX9_hall_185 rfl 0 rfl ?_
            obtain ⟨t54, h55, hf⟩ := hbd_s hf
            refine h_getR h55 rfl (Nat.le_of_ble_eq_true rfl) rfl q_976 rfl dX9_hall_186 ?_
            refine h_aload_n dX9_hall_189 rfl 0 rfl ?_
            obtain ⟨t56, h57, hf⟩ := hbd_s hf
            refine h_getR h57 rfl (Nat.le_of_ble_eq_true rfl) rfl q_964 rfl dX9_hall_190 ?_
            obtain ⟨S59, h58, hf⟩ := hbd_s hf
            refine h_Sv [.ref t54, .ref t56] (rest := []) (m_X9_lay (d := 1) (cs := cs) (Nat.le_refl _) h58) v_X9_lay q_1240 rfl (Nat.le_trans (by decide) hd) rfl (Nat.le_of_ble_eq_true rfl) dX9_hall_193 (Nat.le_refl _) (Nat.le_refl _) ?_
            refine h_aload_n dX9_hall_196 rfl 0 rfl ?_
            obtain ⟨t60, h61, hf⟩ := hbd_s hf
            refine h_getR h61 rfl (Nat.le_of_ble_eq_true rfl) rfl q_977 rfl dX9_hall_197 ?_
            refine h_aload_n dX9_hall_200 rfl 0 rfl ?_
            obtain ⟨t62, h63, hf⟩ := hbd_s hf
            refine h_getR h63 rfl (Nat.le_of_ble_eq_true rfl) rfl q_965 rfl dX9_hall_201 ?_
            obtain ⟨S65, h64, hf⟩ := hbd_s hf
            refine h_Sv [.ref t60, .ref t62] (rest := []) (m_X9_lay (d := 1) (cs := cs) (Nat.le_refl _) h64) v_X9_lay q_1240 rfl (Nat.le_trans (by decide) hd) rfl (Nat.le_of_ble_eq_true rfl) dX9_hall_204 (Nat.le_refl _) (Nat.le_refl _) ?_
            refine h_aload_n dX9_hall_207 rfl 0 rfl ?_
            obtain ⟨t66, h67, hf⟩ := hbd_s hf
            refine h_getR h67 rfl (Nat.le_of_ble_eq_true rfl) rfl q_978 rfl dX9_hall_208 ?_
            refine h_aload_n dX9_hall_211 rfl 0 rfl ?_
            obtain ⟨t68, h69, hf⟩ := hbd_s hf
            refine h_getR h69 rfl (Nat.le_of_ble_eq_true rfl) rfl q_967 rfl dX9_hall_212 ?_
            obtain ⟨S71, h70, hf⟩ := hbd_s hf
            refine h_Sv [.ref t66, .ref t68] (rest := []) (m_X9_lay (d := 1) (cs := cs) (Nat.le_refl _) h70) v_X9_lay q_1240 rfl (Nat.le_trans (by decide) hd) rfl (Nat.le_of_ble_eq_true rfl) dX9_hall_215 (Nat.le_refl _) (Nat.le_refl _) ?_
            refine h_aload_n dX9_hall_218 rfl 0 rfl ?_
            obtain ⟨t72, h73, hf⟩ := hbd_s hf
            refine h_getR h73 rfl (Nat.le_of_ble_eq_true rfl) rfl q_979 rfl dX9_hall_219 ?_
            refine h_aload_n dX9_hall_222 rfl 0 rfl ?_
            obtain ⟨t74, h75, hf⟩ := hbd_s hf
            refine h_getR h75 rfl (Nat.le_of_ble_eq_true rfl) rfl q_968 rfl dX9_hall_223 ?_
            obtain ⟨S77, h76, hf⟩ := hbd_s hf
            refine h_Sv [.ref t72, .ref t74] (rest := []) (m_X9_lay (d := 1) (cs := cs) (Nat.le_refl _) h76) v_X9_lay q_1240 rfl (Nat.le_trans (by decide) hd) rfl (Nat.le_of_ble_eq_true rfl) dX9_hall_226 (Nat.le_refl _) (Nat.le_refl _) ?_
            refine h_aload_n dX9_hall_229 rfl 0 rfl ?_
            obtain ⟨t78, h79, hf⟩ := hbd_s hf
            refine h_getR h79 rfl (Nat.le_of_ble_eq_true rfl) rfl q_980 rfl dX9_hall_230 ?_
            refine h_aload_n dX9_hall_233 rfl 0 rfl ?_
            obtain ⟨t80, h81, hf⟩ := hbd_s hf
            refine h_getR h81 rfl (Nat.le_of_ble_eq_true rfl) rfl q_969 rfl dX9_hall_234 ?_
            obtain ⟨S83, h82, hf⟩ := hbd_s hf
            refine h_Sv [.ref t78, .ref t80] (rest := []) (m_X9_lay (d := 1) (cs := cs) (Nat.le_refl _) h82) v_X9_lay q_1240 rfl (Nat.le_trans (by decide) hd) rfl (Nat.le_of_ble_eq_true rfl) dX9_hall_237 (Nat.le_refl _) (Nat.le_refl _) ?_
            refine h_aload_n dX9_hall_240 rfl 0 rfl ?_
            obtain ⟨t84, h85, hf⟩ := hbd_s hf
            refine h_getR h85 rfl (Nat.le_of_ble_eq_true rfl) rfl q_981 rfl dX9_hall_241 ?_
            refine h_aload_n dX9_hall_244 rfl 0 rfl ?_
            obtain ⟨t86, h87, hf⟩ := hbd_s hf
            refine h_getR h87 rfl (Nat.le_of_ble_eq_true rfl) rfl q_970 rfl dX9_hall_245 ?_
            obtain ⟨S89, h88, hf⟩ := hbd_s hf
            refine h_Sv [.ref t84, .ref t86] (rest := []) (m_X9_lay (d := 1) (cs := cs) (Nat.le_refl _) h88) v_X9_lay q_1240 rfl (Nat.le_trans (by decide) hd) rfl (Nat.le_of_ble_eq_true rfl) dX9_hall_248 (Nat.le_refl _) (Nat.le_refl _) ?_
            refine h_aload_n dX9_hall_251 rfl 0 rfl ?_
            obtain ⟨t90, h91, hf⟩ := hbd_s hf
            refine h_getR h91 rfl (Nat.le_of_ble_eq_true rfl) rfl q_982 rfl dX9_hall_252 ?_
            refine h_aload_n dX9_hall_255 rfl 0 rfl ?_
            obtain ⟨t92, h93, hf⟩ := hbd_s hf
            refine h_getR h93 rfl (Nat.le_of_ble_eq_true rfl) rfl q_971 rfl dX9_hall_256 ?_
            obtain ⟨S95, h94, hf⟩ := hbd_s hf
            refine h_Sv [.ref t90, .ref t92] (rest := []) (m_X9_lay (d := 1) (cs := cs) (Nat.le_refl _) h94) v_X9_lay q_1240 rfl (Nat.le_trans (by decide) hd) rfl (Nat.le_of_ble_eq_true rfl) dX9_hall_259 (Nat.le_refl _) (Nat.le_refl _) ?_
            refine h_iconst (v := 0) dX9_hall_262 rfl ?_
            refine h_istore (lv2 := [(4, .int 0), (0, .ref a0), (3, .int t31)]) dX9_hall_263 (Nat.le_of_ble_eq_true rfl) rfl ?_
            refine h_sub (lv2 := [(0, .ref a0), (4, .int 0)]) [1, 0] rfl ?_
            refine w_X9_hall_L265 hd hfuel a0 0 S95 _  hf ?_
            · intro S96 hf
              refine h_aload_n dX9_hall_286 rfl 0 rfl ?_
              obtain ⟨t97, h98, hf⟩ := hbd_s hf
              refine h_getR h98 rfl (Nat.le_of_ble_eq_true rfl) rfl q_961 rfl dX9_hall_287 ?_
              refine h_bipush (v := 11) dX9_hall_290 rfl ?_
              refine h_aload_n dX9_hall_292 rfl 0 rfl ?_
              obtain ⟨g108, hf⟩ := hck_s hf
              obtain ⟨t101, S100, h99, hf⟩ := hb2_s hf
              refine h_Vi [] (rest := [.int 11, .ref t97]) (m_X9_allHeat (d := 1) (cs := cs) (Nat.le_refl _) h99) v_X9_allHeat q_1243 rfl (Nat.le_trans (by decide) hd) g108 rfl rfl (Nat.le_of_ble_eq_true rfl) dX9_hall_293 (Nat.le_refl _) (Nat.le_refl _) ?_
              obtain ⟨S102, h103, hf⟩ := hbd_s hf
              refine h_iast h103 dX9_hall_296 ?_
              refine h_aload_n dX9_hall_297 rfl 0 rfl ?_
              obtain ⟨t104, h105, hf⟩ := hbd_s hf
              refine h_getR h105 rfl (Nat.le_of_ble_eq_true rfl) rfl q_961 rfl dX9_hall_298 ?_
              refine h_iconst (v := 2) dX9_hall_301 rfl ?_
              obtain ⟨t106, h107, hf⟩ := hbd_s hf
              refine h_iald h107 dX9_hall_302 ?_
              obtain rfl := Option.some.inj hf
              exact h_iret rfl rfl rfl (Nat.le_refl _) (Nat.le_refl _) dX9_hall_303
        · replace hf := hif_n c28 hf
          refine h_bipush (v := (-2)) dX9_hall_87 rfl ?_
          refine h_aload_n dX9_hall_89 rfl 0 rfl ?_
          obtain ⟨t109, h110, hf⟩ := hbd_s hf
          refine h_getI h110 rfl (Nat.le_of_ble_eq_true rfl) rfl q_985 rfl dX9_hall_90 ?_
          refine h_isub dX9_hall_93 ?_
          obtain rfl := Option.some.inj hf
          exact h_iret rfl rfl rfl (Nat.le_refl _) (Nat.le_refl _) dX9_hall_94
abbrev x_X9_lawClause (d : Nat) (S0 : hS) (args : List Value) (r : hS) (cs : Nat → Nat) : hX := ((none, 4, d, 0, 0, false), (S0, args, none, r), cs)
theorem v_X9_lawClause : hVW yX9_lawClause cX9_lawClause 4 none RX9 1 := ⟨q_1253, q_s50, q_9, q_1254, by decide +kernel, by decide⟩
def f_X9_lawClause (a0 : Nat) (a1 : Int32) (S : hS) : Option (hS) :=
  hck (S.K a0 = 10) <|
  hbd (f_X9_blanks a0 S) fun S2 =>
  hbd (gI S2 a0 9 24) fun t3 =>
  hck (S2.K a0 = 10) <|
  hb2 (f_X9_stood a0 1 S2) fun t7 S6 =>
  if t7 = 0 then
    (hck (S6.K a0 = 10) <|
     hbd (f_X9_fails a0 0 t3 S6) fun S54 =>
     some S54)
  else
    (if a1 = 12 then
       (hck (S6.K a0 = 10) <|
        hbd (f_X9_fails a0 4 t3 S6) fun S51 =>
        some S51)
     else
       (hbd (gI S6 a0 9 24) fun t10 =>
        hbd (sI S6 a0 9 24 (t10 + 2)) fun S12 =>
        hbd (gI S12 a0 9 26) fun t14 =>
        hbd (gR S12 a0 9 38) fun t16 =>
        hbd (gI S12 a0 9 28) fun t18 =>
        hbd (sA S12 t16 ((12 * t14) + a1) t18) fun S20 =>
        hck (S20.K a0 = 10) <|
        hbd (f_X9_sum a0 S20) fun S23 =>
        hbd (gR S23 a0 9 39) fun t24 =>
        hbd (gI S23 a0 9 28) fun t26 =>
        hbd (sA S23 t24 ((12 * t14) + a1) t26) fun S28 =>
        hbd (gI S28 a0 9 25) fun t30 =>
        hj (γ := hS → Option (hS)) (fun (S33 : hS) =>
          hbd (gR S33 a0 9 40) fun t34 =>
          hbd (gI S33 a0 9 28) fun t36 =>
          hbd (sA S33 t34 ((12 * t14) + a1) t36) fun S38 =>
          some S38
          ) fun J32 =>
        if t30 = 0 then
          (hck (S28.K a0 = 10) <|
           hb2 (f_X9_takes a0 4 S28) fun t43 S42 =>
           if t43 = 0 then
             (J32 S42)
           else
             (hck (S42.K a0 = 10) <|
              hbd (f_X9_test a0 S42) fun S46 =>
              J32 S46))
        else
          (J32 S28)))
set_option maxRecDepth 100000 in
set_option maxHeartbeats 4000000 in
theorem m_X9_lawClause {d : Nat} {cs : Nat → Nat} {a0 : Nat} {a1 : Int32} {S : hS} {r : hS} (hd : 12 ≤ d) (hf : f_X9_lawClause a0 a1 S = some r) : HM yX9_lawClause cX9_lawClause 4 none d 0 0 cs [.ref a0, .int a1] S (none) r := by
  unfold f_X9_lawClause at hf
  refine HM.ofHW false (by decide) (fun h => by cases h) (Nat.le_of_ble_eq_true rfl) ?_
  show HW cX9_lawClause RX9 (x_X9_lawClause d S [.ref a0, .int a1] r cs) 0 0 S 0 [(0, .ref a0), (1, .int a1)] []
  refine h_aload_n dX9_lawClause_0 rfl 0 rfl ?_
  obtain ⟨g57, hf⟩ := hck_s hf
  obtain ⟨S2, h1, hf⟩ := hbd_s hf
  refine h_Vv [] (rest := []) (m_X9_blanks (d := 2) (cs := cs) (Nat.le_refl _) h1) v_X9_blanks q_1175 rfl (Nat.le_trans (by decide) hd) g57 rfl rfl (Nat.le_of_ble_eq_true rfl) dX9_lawClause_1 (Nat.le_refl _) (Nat.le_refl _) ?_
  refine h_aload_n dX9_lawClause_4 rfl 0 rfl ?_
  obtain ⟨t3, h4, hf⟩ := hbd_s hf
  refine h_getI h4 rfl (Nat.le_of_ble_eq_true rfl) rfl q_984 rfl dX9_lawClause_5 ?_
  refine h_istore_n (lv2 := [(2, .int t3), (0, .ref a0), (1, .int a1)]) dX9_lawClause_8 rfl (Nat.le_of_ble_eq_true rfl) rfl ?_
  refine h_aload_n dX9_lawClause_9 rfl 1 rfl ?_
  refine h_ldcwS dX9_lawClause_10 (List.mem_of_getElem? (i := 16) rfl) ?_
  obtain ⟨g56, hf⟩ := hck_s hf
  obtain ⟨t7, S6, h5, hf⟩ := hb2_s hf
  refine h_Vi [.ref (cs 1)] (rest := []) (m_X9_stood (d := 5) (cs := cs) (Nat.le_refl _) h5) v_X9_stood q_1192 rfl (Nat.le_trans (by decide) hd) g56 rfl rfl (Nat.le_of_ble_eq_true rfl) dX9_lawClause_13 (Nat.le_refl _) (Nat.le_refl _) ?_
  refine h_if_ne (tgt := 26) dX9_lawClause_16 (by decide) (fun c8 => ?_) (fun c8 => ?_)
  · replace hf := hif_n c8 hf
    refine h_iload_n dX9_lawClause_26 rfl 2 rfl ?_
    refine h_bipush (v := 12) dX9_lawClause_27 rfl ?_
    refine h_icmp_ne (tgt := 39) dX9_lawClause_29 (by decide) (fun c9 => ?_) (fun c9 => ?_)
    · replace hf := hif_n c9 hf
      refine h_aload_n dX9_lawClause_39 rfl 1 rfl ?_
      refine h_dup dX9_lawClause_40 rfl ?_
      obtain ⟨t10, h11, hf⟩ := hbd_s hf
      refine h_getI h11 rfl (Nat.le_of_ble_eq_true rfl) rfl q_984 rfl dX9_lawClause_41 ?_
      refine h_iconst (v := 2) dX9_lawClause_44 rfl ?_
      refine h_iadd dX9_lawClause_45 ?_
      obtain ⟨S12, h13, hf⟩ := hbd_s hf
      refine h_putI h13 rfl (Nat.le_of_ble_eq_true rfl) rfl q_984 rfl rfl (by decide +kernel) dX9_lawClause_46 ?_
      refine h_bipush (v := 12) dX9_lawClause_49 rfl ?_
      refine h_aload_n dX9_lawClause_51 rfl 1 rfl ?_
      obtain ⟨t14, h15, hf⟩ := hbd_s hf
      refine h_getI h15 rfl (Nat.le_of_ble_eq_true rfl) rfl q_986 rfl dX9_lawClause_52 ?_
      refine h_imul dX9_lawClause_55 ?_
      refine h_iload_n dX9_lawClause_56 rfl 2 rfl ?_
      refine h_iadd dX9_lawClause_57 ?_
      refine h_istore_n (lv2 := [(3, .int ((12 * t14) + a1)), (2, .int t3), (0, .ref a0), (1, .int a1)]) dX9_lawClause_58 rfl (Nat.le_of_ble_eq_true rfl) rfl ?_
      refine h_aload_n dX9_lawClause_59 rfl 2 rfl ?_
      obtain ⟨t16, h17, hf⟩ := hbd_s hf
      refine h_getR h17 rfl (Nat.le_of_ble_eq_true rfl) rfl q_998 rfl dX9_lawClause_60 ?_
      refine h_iload_n dX9_lawClause_63 rfl 0 rfl ?_
      refine h_aload_n dX9_lawClause_64 rfl 2 rfl ?_
      obtain ⟨t18, h19, hf⟩ := hbd_s hf
      refine h_getI h19 rfl (Nat.le_of_ble_eq_true rfl) rfl q_988 rfl dX9_lawClause_65 ?_
      obtain ⟨S20, h21, hf⟩ := hbd_s hf
      refine h_iast h21 dX9_lawClause_68 ?_
      refine h_aload_n dX9_lawClause_69 rfl 2 rfl ?_
      obtain ⟨g49, hf⟩ := hck_s hf
      obtain ⟨S23, h22, hf⟩ := hbd_s hf
      refine h_Vv [] (rest := []) (m_X9_sum (d := 8) (cs := cs) (Nat.le_refl _) h22) v_X9_sum q_1256 rfl (Nat.le_trans (by decide) hd) g49 rfl rfl (Nat.le_of_ble_eq_true rfl) dX9_lawClause_70 (Nat.le_refl _) (Nat.le_refl _) ?_
      refine h_aload_n dX9_lawClause_73 rfl 2 rfl ?_
      obtain ⟨t24, h25, hf⟩ := hbd_s hf
      refine h_getR h25 rfl (Nat.le_of_ble_eq_true rfl) rfl q_999 rfl dX9_lawClause_74 ?_
      refine h_iload_n dX9_lawClause_77 rfl 0 rfl ?_
      refine h_aload_n dX9_lawClause_78 rfl 2 rfl ?_
      obtain ⟨t26, h27, hf⟩ := hbd_s hf
      refine h_getI h27 rfl (Nat.le_of_ble_eq_true rfl) rfl q_988 rfl dX9_lawClause_79 ?_
      obtain ⟨S28, h29, hf⟩ := hbd_s hf
      refine h_iast h29 dX9_lawClause_82 ?_
      refine h_aload_n dX9_lawClause_83 rfl 2 rfl ?_
      obtain ⟨t30, h31, hf⟩ := hbd_s hf
      refine h_getI h31 rfl (Nat.le_of_ble_eq_true rfl) rfl q_985 rfl dX9_lawClause_84 ?_
      refine hj_s (fun J32 => ∀ (S33 : hS), J32 S33 = some r → HW cX9_lawClause RX9 (x_X9_lawClause d S [.ref a0, .int a1] r cs) 0 0 S33 104 [(0, .ref a0), (3, .int ((12 * t14) + a1))] []) hf ?_ ?_
      · intro S33 hf
        refine h_aload_n dX9_lawClause_104 rfl 0 rfl ?_
        obtain ⟨t34, h35, hf⟩ := hbd_s hf
        refine h_getR h35 rfl (Nat.le_of_ble_eq_true rfl) rfl q_1000 rfl dX9_lawClause_105 ?_
        refine h_iload_n dX9_lawClause_108 rfl 1 rfl ?_
        refine h_aload_n dX9_lawClause_109 rfl 0 rfl ?_
        obtain ⟨t36, h37, hf⟩ := hbd_s hf
        refine h_getI h37 rfl (Nat.le_of_ble_eq_true rfl) rfl q_988 rfl dX9_lawClause_110 ?_
        obtain ⟨S38, h39, hf⟩ := hbd_s hf
        refine h_iast h39 dX9_lawClause_113 ?_
        obtain rfl := Option.some.inj hf
        exact h_vret rfl rfl rfl (Nat.le_refl _) (Nat.le_refl _) dX9_lawClause_114
      · intro J32 hJ32 hf
        refine h_if_ne (tgt := 104) dX9_lawClause_87 (by decide) (fun c40 => ?_) (fun c40 => ?_)
        · replace hf := hif_n c40 hf
          refine h_sub (lv2 := [(0, .ref a0), (3, .int ((12 * t14) + a1))]) [2, 0] rfl ?_
          exact hJ32 S28 hf
        · replace hf := hif_p c40 hf
          refine h_aload_n dX9_lawClause_90 rfl 2 rfl ?_
          refine h_ldcwS dX9_lawClause_91 (List.mem_of_getElem? (i := 26) rfl) ?_
          obtain ⟨g48, hf⟩ := hck_s hf
          obtain ⟨t43, S42, h41, hf⟩ := hb2_s hf
          refine h_Vi [.ref (cs 4)] (rest := []) (m_X9_takes (d := 6) (cs := cs) (Nat.le_refl _) h41) v_X9_takes q_1289 rfl (Nat.le_trans (by decide) hd) g48 rfl rfl (Nat.le_of_ble_eq_true rfl) dX9_lawClause_94 (Nat.le_refl _) (Nat.le_refl _) ?_
          refine h_if_eq (tgt := 104) dX9_lawClause_97 (by decide) (fun c44 => ?_) (fun c44 => ?_)
          · replace hf := hif_p c44 hf
            refine h_sub (lv2 := [(0, .ref a0), (3, .int ((12 * t14) + a1))]) [2, 0] rfl ?_
            exact hJ32 S42 hf
          · replace hf := hif_n c44 hf
            refine h_aload_n dX9_lawClause_100 rfl 2 rfl ?_
            obtain ⟨g47, hf⟩ := hck_s hf
            obtain ⟨S46, h45, hf⟩ := hbd_s hf
            refine h_Vv [] (rest := []) (m_X9_test (d := 11) (cs := cs) (Nat.le_refl _) h45) v_X9_test q_1293 rfl (Nat.le_trans (by decide) hd) g47 rfl rfl (Nat.le_of_ble_eq_true rfl) dX9_lawClause_101 (Nat.le_refl _) (Nat.le_refl _) ?_
            refine h_sub (lv2 := [(0, .ref a0), (3, .int ((12 * t14) + a1))]) [2, 0] rfl ?_
            exact hJ32 S46 hf
    · replace hf := hif_p c9 hf
      refine h_aload_n dX9_lawClause_32 rfl 1 rfl ?_
      refine h_iconst (v := 4) dX9_lawClause_33 rfl ?_
      refine h_iload_n dX9_lawClause_34 rfl 0 rfl ?_
      obtain ⟨g52, hf⟩ := hck_s hf
      obtain ⟨S51, h50, hf⟩ := hbd_s hf
      refine h_Vv [.int 4, .int t3] (rest := []) (m_X9_fails (d := 1) (cs := cs) (Nat.le_refl _) h50) v_X9_fails q_1198 rfl (Nat.le_trans (by decide) hd) g52 rfl rfl (Nat.le_of_ble_eq_true rfl) dX9_lawClause_35 (Nat.le_refl _) (Nat.le_refl _) ?_
      obtain rfl := Option.some.inj hf
      exact h_vret rfl rfl rfl (Nat.le_refl _) (Nat.le_refl _) dX9_lawClause_38
  · replace hf := hif_p c8 hf
    refine h_aload_n dX9_lawClause_19 rfl 1 rfl ?_
    refine h_iconst (v := 0) dX9_lawClause_20 rfl ?_
    refine h_iload_n dX9_lawClause_21 rfl 0 rfl ?_
    obtain ⟨g55, hf⟩ := hck_s hf
    obtain ⟨S54, h53, hf⟩ := hbd_s hf
    refine h_Vv [.int 0, .int t3] (rest := []) (m_X9_fails (d := 1) (cs := cs) (Nat.le_refl _) h53) v_X9_fails q_1198 rfl (Nat.le_trans (by decide) hd) g55 rfl rfl (Nat.le_of_ble_eq_true rfl) dX9_lawClause_22 (Nat.le_refl _) (Nat.le_refl _) ?_
    obtain rfl := Option.some.inj hf
    exact h_vret rfl rfl rfl (Nat.le_refl _) (Nat.le_refl _) dX9_lawClause_25
abbrev x_X9_law (d : Nat) (S0 : hS) (args : List Value) (r : Int32 × hS) (cs : Nat → Nat) : hX := (((some .int), 3, d, 0, 0, false), (S0, args, some (.int r.1), r.2), cs)
theorem v_X9_law : hVW yX9_law cX9_law 3 (some .int) RX9 0 := ⟨q_1248, q_1249, q_9, q_1250, by decide +kernel, by decide⟩
def f_X9_law_L27 : Nat → Nat → Int32 → Int32 → hS → (Int32 → hS → Option (Int32 × hS)) → Option (Int32 × hS)
  | 0, _, _, _, _, _ => none
  | n + 1, x0, x1, x2, S, k0 =>
    if x2 = 0 then
      (k0 x1 S)
    else
      (hck (S.K x0 = 10) <|
       hbd (f_X9_lawClause x0 x1 S) fun S3 =>
       hck (S3.K x0 = 10) <|
       hb2 (f_X9_goesOn x0 S3) fun t6 S5 =>
       f_X9_law_L27 n x0 (x1 + 1) t6 S5 k0)
def f_X9_law (a0 : Nat) (S : hS) : Option (Int32 × hS) :=
  hbd (gI S a0 9 27) fun t9 =>
  if t9 = 6 then
    (some ((-1), S))
  else
    (hbd (gI S a0 9 27) fun t12 =>
     hbd (sI S a0 9 26 t12) fun S14 =>
     hck (S14.K a0 = 10) <|
     hbd (f_X9_starts a0 S14) fun S17 =>
     f_X9_law_L27 hfuel a0 0 1 S17
       (fun u18 S19 =>
         hbd (sI S19 a0 9 23 0) fun S20 =>
         hbd (gR S20 a0 9 37) fun t22 =>
         hbd (gI S20 a0 9 26) fun t24 =>
         hbd (sA S20 t22 t24 u18) fun S26 =>
         hbd (gI S26 a0 9 27) fun t28 =>
         hbd (gI S26 a0 9 25) fun t30 =>
         hj (γ := Int32 → Option (Int32 × hS)) (fun (v33 : Int32) =>
           hbd (sI S26 a0 9 27 (t28 + v33)) fun S34 =>
           hbd (gI S34 a0 9 25) fun t36 =>
           if t36 ≤ 0 then
             (hbd (gI S34 a0 9 27) fun t39 =>
              some (t39 - 1, S34))
           else
             (hbd (gI S34 a0 9 25) fun t41 =>
              some ((-2) - t41, S34))
           ) fun J32 =>
         if t30 = 0 then
           (J32 1)
         else
           (J32 0)
       ))
set_option maxRecDepth 100000 in
set_option maxHeartbeats 4000000 in
theorem w_X9_law_L27 {d : Nat} {S0 : hS} {args : List Value} {cs : Nat → Nat} {r : Int32 × hS} (hd : 13 ≤ d) : ∀ (n : Nat) (x0 : Nat) (x1 : Int32) (x2 : Int32) (S : hS) (k0 : (Int32 → hS → Option (Int32 × hS))) , f_X9_law_L27 n x0 x1 x2 S k0 = some r → (∀ (y1 : Int32) (T : hS), k0 y1 T = some r → HW cX9_law RX9 (x_X9_law d S0 args r cs) 0 0 T 47 [(0, .ref x0), (1, .int y1)] []) → HW cX9_law RX9 (x_X9_law d S0 args r cs) 0 0 S 27 [(0, .ref x0), (1, .int x1), (2, .int x2)] [] := by
  intro n
  induction n with
  | zero =>
    intro x0 x1 x2 S k0 hf
    cases hf
  | succ n ih =>
    intro x0 x1 x2 S k0 hf hk0
    rw [f_X9_law_L27] at hf
    refine h_iload_n dX9_law_27 rfl 2 rfl ?_
    refine h_if_eq (tgt := 47) dX9_law_28 (by decide) (fun c1 => ?_) (fun c1 => ?_)
    · replace hf := hif_p c1 hf
      refine h_sub (lv2 := [(0, .ref x0), (1, .int x1)]) [0, 1] rfl ?_
      exact hk0 x1 S hf
    · replace hf := hif_n c1 hf
      refine h_aload_n dX9_law_31 rfl 0 rfl ?_
      refine h_iload_n dX9_law_32 rfl 1 rfl ?_
      obtain ⟨g8, hf⟩ := hck_s hf
      obtain ⟨S3, h2, hf⟩ := hbd_s hf
      refine h_Vv [.int x1] (rest := []) (m_X9_lawClause (d := 12) (cs := cs) (Nat.le_refl _) h2) v_X9_lawClause q_1251 rfl (Nat.le_trans (by decide) hd) g8 rfl rfl (Nat.le_of_ble_eq_true rfl) dX9_law_33 (Nat.le_refl _) (Nat.le_refl _) ?_
      refine h_iinc (q := 1) (v := x1 + 1) (lv2 := [(1, .int (x1 + 1)), (0, .ref x0), (2, .int x2)]) dX9_law_36 rfl rfl (Nat.le_of_ble_eq_true rfl) rfl ?_
      refine h_aload_n dX9_law_39 rfl 1 rfl ?_
      obtain ⟨g7, hf⟩ := hck_s hf
      obtain ⟨t6, S5, h4, hf⟩ := hb2_s hf
      refine h_Vi [] (rest := []) (m_X9_goesOn (d := 3) (cs := cs) (Nat.le_refl _) h4) v_X9_goesOn q_1236 rfl (Nat.le_trans (by decide) hd) g7 rfl rfl (Nat.le_of_ble_eq_true rfl) dX9_law_40 (Nat.le_refl _) (Nat.le_refl _) ?_
      refine h_istore_n (lv2 := [(2, .int t6), (1, .int (x1 + 1)), (0, .ref x0)]) dX9_law_43 rfl (Nat.le_of_ble_eq_true rfl) rfl ?_
      refine h_goto (tgt := 27) dX9_law_44 (by decide) ?_
      refine h_sub (lv2 := [(0, .ref x0), (1, .int (x1 + 1)), (2, .int t6)]) [2, 1, 0] rfl ?_
      exact ih x0 (x1 + 1) t6 S5 k0  hf hk0
set_option maxRecDepth 100000 in
set_option maxHeartbeats 4000000 in
theorem m_X9_law {d : Nat} {cs : Nat → Nat} {a0 : Nat} {S : hS} {r : Int32 × hS} (hd : 13 ≤ d) (hf : f_X9_law a0 S = some r) : HM yX9_law cX9_law 3 (some .int) d 0 0 cs [.ref a0] S (some (.int r.1)) r.2 := by
  unfold f_X9_law at hf
  refine HM.ofHW false (by decide) (fun h => by cases h) (Nat.le_of_ble_eq_true rfl) ?_
  show HW cX9_law RX9 (x_X9_law d S [.ref a0] r cs) 0 0 S 0 [(0, .ref a0)] []
  refine h_aload_n dX9_law_0 rfl 0 rfl ?_
  obtain ⟨t9, h10, hf⟩ := hbd_s hf
  refine h_getI h10 rfl (Nat.le_of_ble_eq_true rfl) rfl q_987 rfl dX9_law_1 ?_
  refine h_bipush (v := 6) dX9_law_4 rfl ?_
  refine h_icmp_ne (tgt := 11) dX9_law_6 (by decide) (fun c11 => ?_) (fun c11 => ?_)
  · replace hf := hif_n c11 hf
    refine h_aload_n dX9_law_11 rfl 0 rfl ?_
    refine h_aload_n dX9_law_12 rfl 0 rfl ?_
    obtain ⟨t12, h13, hf⟩ := hbd_s hf
    refine h_getI h13 rfl (Nat.le_of_ble_eq_true rfl) rfl q_987 rfl dX9_law_13 ?_
    obtain ⟨S14, h15, hf⟩ := hbd_s hf
    refine h_putI h15 rfl (Nat.le_of_ble_eq_true rfl) rfl q_986 rfl rfl (by decide +kernel) dX9_law_16 ?_
    refine h_aload_n dX9_law_19 rfl 0 rfl ?_
    obtain ⟨g44, hf⟩ := hck_s hf
    obtain ⟨S17, h16, hf⟩ := hbd_s hf
    refine h_Vv [] (rest := []) (m_X9_starts (d := 1) (cs := cs) (Nat.le_refl _) h16) v_X9_starts q_1167 rfl (Nat.le_trans (by decide) hd) g44 rfl rfl (Nat.le_of_ble_eq_true rfl) dX9_law_20 (Nat.le_refl _) (Nat.le_refl _) ?_
    refine h_iconst (v := 0) dX9_law_23 rfl ?_
    refine h_istore_n (lv2 := [(1, .int 0), (0, .ref a0)]) dX9_law_24 rfl (Nat.le_of_ble_eq_true rfl) rfl ?_
    refine h_iconst (v := 1) dX9_law_25 rfl ?_
    refine h_istore_n (lv2 := [(2, .int 1), (1, .int 0), (0, .ref a0)]) dX9_law_26 rfl (Nat.le_of_ble_eq_true rfl) rfl ?_
    refine h_sub (lv2 := [(0, .ref a0), (1, .int 0), (2, .int 1)]) [2, 1, 0] rfl ?_
    refine w_X9_law_L27 hd hfuel a0 0 1 S17 _  hf ?_
    · intro u18 S19 hf
      refine h_aload_n dX9_law_47 rfl 0 rfl ?_
      refine h_iconst (v := 0) dX9_law_48 rfl ?_
      obtain ⟨S20, h21, hf⟩ := hbd_s hf
      refine h_putI h21 rfl (Nat.le_of_ble_eq_true rfl) rfl q_983 rfl rfl (by decide +kernel) dX9_law_49 ?_
      refine h_aload_n dX9_law_52 rfl 0 rfl ?_
      obtain ⟨t22, h23, hf⟩ := hbd_s hf
      refine h_getR h23 rfl (Nat.le_of_ble_eq_true rfl) rfl q_997 rfl dX9_law_53 ?_
      refine h_aload_n dX9_law_56 rfl 0 rfl ?_
      obtain ⟨t24, h25, hf⟩ := hbd_s hf
      refine h_getI h25 rfl (Nat.le_of_ble_eq_true rfl) rfl q_986 rfl dX9_law_57 ?_
      refine h_iload_n dX9_law_60 rfl 1 rfl ?_
      obtain ⟨S26, h27, hf⟩ := hbd_s hf
      refine h_iast h27 dX9_law_61 ?_
      refine h_aload_n dX9_law_62 rfl 0 rfl ?_
      refine h_dup dX9_law_63 rfl ?_
      obtain ⟨t28, h29, hf⟩ := hbd_s hf
      refine h_getI h29 rfl (Nat.le_of_ble_eq_true rfl) rfl q_987 rfl dX9_law_64 ?_
      refine h_aload_n dX9_law_67 rfl 0 rfl ?_
      obtain ⟨t30, h31, hf⟩ := hbd_s hf
      refine h_getI h31 rfl (Nat.le_of_ble_eq_true rfl) rfl q_985 rfl dX9_law_68 ?_
      refine hj_s (fun J32 => ∀ (v33 : Int32), J32 v33 = some r → HW cX9_law RX9 (x_X9_law d S [.ref a0] r cs) 0 0 S26 79 [(0, .ref a0)] [.int v33, .int t28, .ref a0]) hf ?_ ?_
      · intro v33 hf
        refine h_iadd dX9_law_79 ?_
        obtain ⟨S34, h35, hf⟩ := hbd_s hf
        refine h_putI h35 rfl (Nat.le_of_ble_eq_true rfl) rfl q_987 rfl rfl (by decide +kernel) dX9_law_80 ?_
        refine h_aload_n dX9_law_83 rfl 0 rfl ?_
        obtain ⟨t36, h37, hf⟩ := hbd_s hf
        refine h_getI h37 rfl (Nat.le_of_ble_eq_true rfl) rfl q_985 rfl dX9_law_84 ?_
        refine h_if_le (tgt := 100) dX9_law_87 (by decide) (fun c38 => ?_) (fun c38 => ?_)
        · replace hf := hif_p c38 hf
          refine h_aload_n dX9_law_100 rfl 0 rfl ?_
          obtain ⟨t39, h40, hf⟩ := hbd_s hf
          refine h_getI h40 rfl (Nat.le_of_ble_eq_true rfl) rfl q_987 rfl dX9_law_101 ?_
          refine h_iconst (v := 1) dX9_law_104 rfl ?_
          refine h_isub dX9_law_105 ?_
          obtain rfl := Option.some.inj hf
          exact h_iret rfl rfl rfl (Nat.le_refl _) (Nat.le_refl _) dX9_law_106
        · replace hf := hif_n c38 hf
          refine h_bipush (v := (-2)) dX9_law_90 rfl ?_
          refine h_aload_n dX9_law_92 rfl 0 rfl ?_
          obtain ⟨t41, h42, hf⟩ := hbd_s hf
          refine h_getI h42 rfl (Nat.le_of_ble_eq_true rfl) rfl q_985 rfl dX9_law_93 ?_
          refine h_isub dX9_law_96 ?_
          refine h_goto (tgt := 106) dX9_law_97 (by decide) ?_
          obtain rfl := Option.some.inj hf
          exact h_iret rfl rfl rfl (Nat.le_refl _) (Nat.le_refl _) dX9_law_106
      · intro J32 hJ32 hf
        refine h_if_ne (tgt := 78) dX9_law_71 (by decide) (fun c43 => ?_) (fun c43 => ?_)
        · replace hf := hif_n c43 hf
          refine h_iconst (v := 0) dX9_law_78 rfl ?_
          refine h_sub (lv2 := [(0, .ref a0)]) [0] rfl ?_
          exact hJ32 0 hf
        · replace hf := hif_p c43 hf
          refine h_iconst (v := 1) dX9_law_74 rfl ?_
          refine h_goto (tgt := 79) dX9_law_75 (by decide) ?_
          refine h_sub (lv2 := [(0, .ref a0)]) [0] rfl ?_
          exact hJ32 1 hf
  · replace hf := hif_p c11 hf
    refine h_iconst (v := (-1)) dX9_law_9 rfl ?_
    obtain rfl := Option.some.inj hf
    exact h_iret rfl rfl rfl (Nat.le_refl _) (Nat.le_refl _) dX9_law_10
abbrev x_X9_isLaw (d : Nat) (S0 : hS) (args : List Value) (r : Int32 × hS) (cs : Nat → Nat) : hX := (((some .boolean), 2, d, 0, 0, false), (S0, args, some (.int r.1), r.2), cs)
theorem v_X9_isLaw : hVW yX9_isLaw cX9_isLaw 2 (some .boolean) RX9 1 := ⟨q_1383, q_s70, q_9, q_1384, by decide +kernel, by decide⟩
def f_X9_isLaw (a0 : Nat) (a1 : Int32) (S : hS) : Option (Int32 × hS) :=
  hbd (gI S a0 9 27) fun t1 =>
  hb2 (f_X9_in (Int32.toInt64 a1) 0 (Int32.toInt64 (t1 - 1)) S) fun t5 S4 =>
  hck (t5 = 0 ∨ t5 = 1) <|
  some (t5, S4)
set_option maxRecDepth 100000 in
set_option maxHeartbeats 4000000 in
theorem m_X9_isLaw {d : Nat} {cs : Nat → Nat} {a0 : Nat} {a1 : Int32} {S : hS} {r : Int32 × hS} (hd : 2 ≤ d) (hf : f_X9_isLaw a0 a1 S = some r) : HM yX9_isLaw cX9_isLaw 2 (some .boolean) d 0 0 cs [.ref a0, .int a1] S (some (.int r.1)) r.2 := by
  unfold f_X9_isLaw at hf
  refine HM.ofHW false (by decide) (fun h => by cases h) (Nat.le_of_ble_eq_true rfl) ?_
  show HW cX9_isLaw RX9 (x_X9_isLaw d S [.ref a0, .int a1] r cs) 0 0 S 0 [(0, .ref a0), (1, .int a1)] []
  refine h_iload_n dX9_isLaw_0 rfl 1 rfl ?_
  refine h_i2l dX9_isLaw_1 ?_
  refine h_lconst (v := 0) dX9_isLaw_2 rfl ?_
  refine h_aload_n dX9_isLaw_3 rfl 0 rfl ?_
  obtain ⟨t1, h2, hf⟩ := hbd_s hf
  refine h_getI h2 rfl (Nat.le_of_ble_eq_true rfl) rfl q_987 rfl dX9_isLaw_4 ?_
  refine h_iconst (v := 1) dX9_isLaw_7 rfl ?_
  refine h_isub dX9_isLaw_8 ?_
  refine h_i2l dX9_isLaw_9 ?_
  obtain ⟨t5, S4, h3, hf⟩ := hb2_s hf
  refine h_Si [.long (Int32.toInt64 a1), .long 0, .long (Int32.toInt64 (t1 - 1))] (rest := []) (m_X9_in (d := 1) (cs := cs) (Nat.le_refl _) h3) v_X9_in q_1225 rfl (Nat.le_trans (by decide) hd) rfl (Nat.le_of_ble_eq_true rfl) dX9_isLaw_10 (Nat.le_refl _) (Nat.le_refl _) ?_
  obtain ⟨hz, hf⟩ := hck_s hf
  obtain rfl := Option.some.inj hf
  exact h_zret rfl hz rfl rfl (Nat.le_refl _) (Nat.le_refl _) dX9_isLaw_13
abbrev x_X9_truth (d : Nat) (S0 : hS) (args : List Value) (r : Int64 × hS) (cs : Nat → Nat) : hX := (((some .long), 1, d, 0, 0, false), (S0, args, some (.long r.1), r.2), cs)
theorem v_X9_truth : hSW yX9_truth cX9_truth 1 (some .long) 1 := ⟨q_1434, q_9, q_1435, by decide +kernel, by decide⟩
def f_X9_truth (a0 : Int32) (S : hS) : Option (Int64 × hS) :=
  if a0 = 0 then
    (some (0, S))
  else
    (some (1, S))
set_option maxRecDepth 100000 in
set_option maxHeartbeats 4000000 in
theorem m_X9_truth {d : Nat} {cs : Nat → Nat} {a0 : Int32} {S : hS} {r : Int64 × hS} (hd : 1 ≤ d) (hf : f_X9_truth a0 S = some r) : HM yX9_truth cX9_truth 1 (some .long) d 0 0 cs [.int a0] S (some (.long r.1)) r.2 := by
  unfold f_X9_truth at hf
  refine HM.ofHW false (by decide) (fun h => by cases h) (Nat.le_of_ble_eq_true rfl) ?_
  show HW cX9_truth RX9 (x_X9_truth d S [.int a0] r cs) 0 0 S 0 [(0, .int a0)] []
  refine h_iload_n dX9_truth_0 rfl 0 rfl ?_
  refine h_if_eq (tgt := 8) dX9_truth_1 (by decide) (fun c1 => ?_) (fun c1 => ?_)
  · replace hf := hif_p c1 hf
    refine h_lconst (v := 0) dX9_truth_8 rfl ?_
    obtain rfl := Option.some.inj hf
    exact h_lret rfl rfl rfl (Nat.le_refl _) (Nat.le_refl _) dX9_truth_9
  · replace hf := hif_n c1 hf
    refine h_lconst (v := 1) dX9_truth_4 rfl ?_
    refine h_goto (tgt := 9) dX9_truth_5 (by decide) ?_
    obtain rfl := Option.some.inj hf
    exact h_lret rfl rfl rfl (Nat.le_refl _) (Nat.le_refl _) dX9_truth_9
