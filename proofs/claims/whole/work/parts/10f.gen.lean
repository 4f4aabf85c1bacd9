abbrev x_X9_fails (d : Nat) (S0 : hS) (args : List Value) (r : hS) (cs : Nat → Nat) : hX := ((none, 3, d, 0, 0, false), (S0, args, none, r), cs)
theorem v_X9_fails : hVW yX9_fails cX9_fails 3 none RX9 2 := ⟨q_1200, q_s40, q_9, q_1201, by decide +kernel, by decide⟩
def f_X9_fails (a0 : Nat) (a1 : Int32) (a2 : Int32) (S : hS) : Option (hS) :=
  hbd (gI S a0 9 25) fun t1 =>
  hj (γ := Int32 → Option (hS)) (fun (v4 : Int32) =>
    hbd (sI S a0 9 25 v4) fun S5 =>
    some S5
    ) fun J3 =>
  if t1 = 0 then
    (J3 ((1 + (8 * a2)) + a1))
  else
    (hbd (gI S a0 9 25) fun t8 =>
     J3 t8)
set_option maxRecDepth 100000 in
set_option maxHeartbeats 4000000 in
theorem m_X9_fails {d : Nat} {cs : Nat → Nat} {a0 : Nat} {a1 : Int32} {a2 : Int32} {S : hS} {r : hS} (hd : 1 ≤ d) (hf : f_X9_fails a0 a1 a2 S = some r) : HM yX9_fails cX9_fails 3 none d 0 0 cs [.ref a0, .int a1, .int a2] S (none) r := by
  unfold f_X9_fails at hf
  refine HM.ofHW false (by decide) (fun h => by cases h) (Nat.le_of_ble_eq_true rfl) ?_
  show HW cX9_fails RX9 (x_X9_fails d S [.ref a0, .int a1, .int a2] r cs) 0 0 S 0 [(0, .ref a0), (1, .int a1), (2, .int a2)] []
  refine h_aload_n dX9_fails_0 rfl 0 rfl ?_
  refine h_aload_n dX9_fails_1 rfl 0 rfl ?_
  obtain ⟨t1, h2, hf⟩ := hbd_s hf
  refine h_getI h2 rfl (Nat.le_of_ble_eq_true rfl) rfl q_985 rfl dX9_fails_2 ?_
  refine hj_s (fun J3 => ∀ (v4 : Int32), J3 v4 = some r → HW cX9_fails RX9 (x_X9_fails d S [.ref a0, .int a1, .int a2] r cs) 0 0 S 23 [] [.int v4, .ref a0]) hf ?_ ?_
  · intro v4 hf
    obtain ⟨S5, h6, hf⟩ := hbd_s hf
    refine h_putI h6 rfl (Nat.le_of_ble_eq_true rfl) rfl q_985 rfl rfl (by decide +kernel) dX9_fails_23 ?_
    obtain rfl := Option.some.inj hf
    exact h_vret rfl rfl rfl (Nat.le_refl _) (Nat.le_refl _) dX9_fails_26
  · intro J3 hJ3 hf
    refine h_if_ne (tgt := 19) dX9_fails_5 (by decide) (fun c7 => ?_) (fun c7 => ?_)
    · replace hf := hif_n c7 hf
      refine h_aload_n dX9_fails_19 rfl 0 rfl ?_
      obtain ⟨t8, h9, hf⟩ := hbd_s hf
      refine h_getI h9 rfl (Nat.le_of_ble_eq_true rfl) rfl q_985 rfl dX9_fails_20 ?_
      refine h_sub (lv2 := []) [] rfl ?_
      exact hJ3 t8 hf
    · replace hf := hif_p c7 hf
      refine h_iconst (v := 1) dX9_fails_8 rfl ?_
      refine h_bipush (v := 8) dX9_fails_9 rfl ?_
      refine h_iload_n dX9_fails_11 rfl 2 rfl ?_
      refine h_imul dX9_fails_12 ?_
      refine h_iadd dX9_fails_13 ?_
      refine h_iload_n dX9_fails_14 rfl 1 rfl ?_
      refine h_iadd dX9_fails_15 ?_
      refine h_goto (tgt := 23) dX9_fails_16 (by decide) ?_
      refine h_sub (lv2 := []) [] rfl ?_
      exact hJ3 ((1 + (8 * a2)) + a1) hf
abbrev x_X9_sign (d : Nat) (S0 : hS) (args : List Value) (r : Int32 × hS) (cs : Nat → Nat) : hX := (((some .int), 1, d, 0, 0, false), (S0, args, some (.int r.1), r.2), cs)
theorem v_X9_sign : hVW yX9_sign cX9_sign 1 (some .int) RX9 0 := ⟨q_1181, q_s38, q_9, q_1182, by decide +kernel, by decide⟩
def f_X9_sign (a0 : Nat) (S : hS) : Option (Int32 × hS) :=
  hbd (gI S a0 9 24) fun t1 =>
  hbd (gI S a0 9 23) fun t3 =>
  if t3 ≤ t1 then
    (some ((-1), S))
  else
    (hbd (gR S a0 9 34) fun t6 =>
     hbd (gI S a0 9 24) fun t8 =>
     hbd (gA S t6 11 t8) fun t10 =>
     some (t10 &&& 255, S))
set_option maxRecDepth 100000 in
set_option maxHeartbeats 4000000 in
theorem m_X9_sign {d : Nat} {cs : Nat → Nat} {a0 : Nat} {S : hS} {r : Int32 × hS} (hd : 1 ≤ d) (hf : f_X9_sign a0 S = some r) : HM yX9_sign cX9_sign 1 (some .int) d 0 0 cs [.ref a0] S (some (.int r.1)) r.2 := by
  unfold f_X9_sign at hf
  refine HM.ofHW false (by decide) (fun h => by cases h) (Nat.le_of_ble_eq_true rfl) ?_
  show HW cX9_sign RX9 (x_X9_sign d S [.ref a0] r cs) 0 0 S 0 [(0, .ref a0)] []
  refine h_aload_n dX9_sign_0 rfl 0 rfl ?_
  obtain ⟨t1, h2, hf⟩ := hbd_s hf
  refine h_getI h2 rfl (Nat.le_of_ble_eq_true rfl) rfl q_984 rfl dX9_sign_1 ?_
  refine h_aload_n dX9_sign_4 rfl 0 rfl ?_
  obtain ⟨t3, h4, hf⟩ := hbd_s hf
  refine h_getI h4 rfl (Nat.le_of_ble_eq_true rfl) rfl q_983 rfl dX9_sign_5 ?_
  refine h_icmp_ge (tgt := 27) dX9_sign_8 (by decide) (fun c5 => ?_) (fun c5 => ?_)
  · replace hf := hif_p c5 hf
    refine h_iconst (v := (-1)) dX9_sign_27 rfl ?_
    obtain rfl := Option.some.inj hf
    exact h_iret rfl rfl rfl (Nat.le_refl _) (Nat.le_refl _) dX9_sign_28
  · replace hf := hif_n c5 hf
    refine h_aload_n dX9_sign_11 rfl 0 rfl ?_
    obtain ⟨t6, h7, hf⟩ := hbd_s hf
    refine h_getR h7 rfl (Nat.le_of_ble_eq_true rfl) rfl q_994 rfl dX9_sign_12 ?_
    refine h_aload_n dX9_sign_15 rfl 0 rfl ?_
    obtain ⟨t8, h9, hf⟩ := hbd_s hf
    refine h_getI h9 rfl (Nat.le_of_ble_eq_true rfl) rfl q_984 rfl dX9_sign_16 ?_
    obtain ⟨t10, h11, hf⟩ := hbd_s hf
    refine h_bald h11 dX9_sign_19 ?_
    refine h_sipush (v := 255) dX9_sign_20 rfl ?_
    refine h_iand dX9_sign_23 ?_
    refine h_goto (tgt := 28) dX9_sign_24 (by decide) ?_
    obtain rfl := Option.some.inj hf
    exact h_iret rfl rfl rfl (Nat.le_refl _) (Nat.le_refl _) dX9_sign_28
abbrev x_X9_blanks (d : Nat) (S0 : hS) (args : List Value) (r : hS) (cs : Nat → Nat) : hX := ((none, 1, d, 0, 0, false), (S0, args, none, r), cs)
theorem v_X9_blanks : hVW yX9_blanks cX9_blanks 1 none RX9 0 := ⟨q_1177, q_s37, q_9, q_1178, by decide +kernel, by decide⟩
def f_X9_blanks_L0 : Nat → Nat → hS → (hS → Option (hS)) → Option (hS)
  | 0, _, _, _ => none
  | n + 1, x0, S, k0 =>
    hck (S.K x0 = 10) <|
    hb2 (f_X9_sign x0 S) fun t3 S2 =>
    if t3 = 32 then
      (hbd (gI S2 x0 9 24) fun t5 =>
       hbd (sI S2 x0 9 24 (t5 + 1)) fun S7 =>
       f_X9_blanks_L0 n x0 S7 k0)
    else
      (k0 S2)
def f_X9_blanks (a0 : Nat) (S : hS) : Option (hS) :=
  f_X9_blanks_L0 hfuel a0 S
    (fun S10 =>
      some S10
    )
set_option maxRecDepth 100000 in
set_option maxHeartbeats 4000000 in
theorem w_X9_blanks_L0 {d : Nat} {S0 : hS} {args : List Value} {cs : Nat → Nat} {r : hS} (hd : 2 ≤ d) : ∀ (n : Nat) (x0 : Nat) (S : hS) (k0 : (hS → Option (hS))) , f_X9_blanks_L0 n x0 S k0 = some r → (∀ (T : hS), k0 T = some r → HW cX9_blanks RX9 (x_X9_blanks d S0 args r cs) 0 0 T 22 [] []) → HW cX9_blanks RX9 (x_X9_blanks d S0 args r cs) 0 0 S 0 [(0, .ref x0)] [] := by
  intro n
  induction n with
  | zero =>
    intro x0 S k0 hf
    cases hf
  | succ n ih =>
    intro x0 S k0 hf hk0
    rw [f_X9_blanks_L0] at hf
    refine h_aload_n dX9_blanks_0 rfl 0 rfl ?_
    obtain ⟨g9, hf⟩ := hck_s hf
    obtain ⟨t3, S2, h1, hf⟩ := hb2_s hf
    refine h_Vi [] (rest := []) (m_X9_sign (d := 1) (cs := cs) (Nat.le_refl _) h1) v_X9_sign q_1179 rfl (Nat.le_trans (by decide) hd) g9 rfl rfl (Nat.le_of_ble_eq_true rfl) dX9_blanks_1 (Nat.le_refl _) (Nat.le_refl _) ?_
    refine h_bipush (v := 32) dX9_blanks_4 rfl ?_
    refine h_icmp_ne (tgt := 22) dX9_blanks_6 (by decide) (fun c4 => ?_) (fun c4 => ?_)
    · replace hf := hif_n c4 hf
      refine h_sub (lv2 := []) [] rfl ?_
      exact hk0 S2 hf
    · replace hf := hif_p c4 hf
      refine h_aload_n dX9_blanks_9 rfl 0 rfl ?_
      refine h_dup dX9_blanks_10 rfl ?_
      obtain ⟨t5, h6, hf⟩ := hbd_s hf
      refine h_getI h6 rfl (Nat.le_of_ble_eq_true rfl) rfl q_984 rfl dX9_blanks_11 ?_
      refine h_iconst (v := 1) dX9_blanks_14 rfl ?_
      refine h_iadd dX9_blanks_15 ?_
      obtain ⟨S7, h8, hf⟩ := hbd_s hf
      refine h_putI h8 rfl (Nat.le_of_ble_eq_true rfl) rfl q_984 rfl rfl (by decide +kernel) dX9_blanks_16 ?_
      refine h_goto (tgt := 0) dX9_blanks_19 (by decide) ?_
      exact ih x0 S7 k0  hf hk0
set_option maxRecDepth 100000 in
set_option maxHeartbeats 4000000 in
theorem m_X9_blanks {d : Nat} {cs : Nat → Nat} {a0 : Nat} {S : hS} {r : hS} (hd : 2 ≤ d) (hf : f_X9_blanks a0 S = some r) : HM yX9_blanks cX9_blanks 1 none d 0 0 cs [.ref a0] S (none) r := by
  unfold f_X9_blanks at hf
  refine HM.ofHW false (by decide) (fun h => by cases h) (Nat.le_of_ble_eq_true rfl) ?_
  show HW cX9_blanks RX9 (x_X9_blanks d S [.ref a0] r cs) 0 0 S 0 [(0, .ref a0)] []
  refine w_X9_blanks_L0 hd hfuel a0 S _  hf ?_
  · intro S10 hf
    obtain rfl := Option.some.inj hf
    exact h_vret rfl rfl rfl (Nat.le_refl _) (Nat.le_refl _) dX9_blanks_22
abbrev x_X9_isDigit (d : Nat) (S0 : hS) (args : List Value) (r : Int32 × hS) (cs : Nat → Nat) : hX := (((some .boolean), 1, d, 0, 0, false), (S0, args, some (.int r.1), r.2), cs)
theorem v_X9_isDigit : hVW yX9_isDigit cX9_isDigit 1 (some .boolean) RX9 0 := ⟨q_1221, q_s45, q_9, q_1222, by decide +kernel, by decide⟩
def f_X9_isDigit (a0 : Nat) (S : hS) : Option (Int32 × hS) :=
  hck (S.K a0 = 10) <|
  hb2 (f_X9_sign a0 S) fun t3 S2 =>
  hb2 (f_X9_in (Int32.toInt64 t3) 48 57 S2) fun t6 S5 =>
  hck (t6 = 0 ∨ t6 = 1) <|
  some (t6, S5)
set_option maxRecDepth 100000 in
set_option maxHeartbeats 4000000 in
theorem m_X9_isDigit {d : Nat} {cs : Nat → Nat} {a0 : Nat} {S : hS} {r : Int32 × hS} (hd : 2 ≤ d) (hf : f_X9_isDigit a0 S = some r) : HM yX9_isDigit cX9_isDigit 1 (some .boolean) d 0 0 cs [.ref a0] S (some (.int r.1)) r.2 := by
  unfold f_X9_isDigit at hf
  refine HM.ofHW false (by decide) (fun h => by cases h) (Nat.le_of_ble_eq_true rfl) ?_
  show HW cX9_isDigit RX9 (x_X9_isDigit d S [.ref a0] r cs) 0 0 S 0 [(0, .ref a0)] []
  refine h_aload_n dX9_isDigit_0 rfl 0 rfl ?_
  obtain ⟨g7, hf⟩ := hck_s hf
  obtain ⟨t3, S2, h1, hf⟩ := hb2_s hf
  refine h_Vi [] (rest := []) (m_X9_sign (d := 1) (cs := cs) (Nat.le_refl _) h1) v_X9_sign q_1179 rfl (Nat.le_trans (by decide) hd) g7 rfl rfl (Nat.le_of_ble_eq_true rfl) dX9_isDigit_1 (Nat.le_refl _) (Nat.le_refl _) ?_
  refine h_i2l dX9_isDigit_4 ?_
  refine h_ldc2 (v := 48) dX9_isDigit_5 q_1223 ?_
  refine h_ldc2 (v := 57) dX9_isDigit_8 q_1224 ?_
  obtain ⟨t6, S5, h4, hf⟩ := hb2_s hf
  refine h_Si [.long (Int32.toInt64 t3), .long 48, .long 57] (rest := []) (m_X9_in (d := 1) (cs := cs) (Nat.le_refl _) h4) v_X9_in q_1225 rfl (Nat.le_trans (by decide) hd) rfl (Nat.le_of_ble_eq_true rfl) dX9_isDigit_11 (Nat.le_refl _) (Nat.le_refl _) ?_
  obtain ⟨hz, hf⟩ := hck_s hf
  obtain rfl := Option.some.inj hf
  exact h_zret rfl hz rfl rfl (Nat.le_refl _) (Nat.le_refl _) dX9_isDigit_14
abbrev x_X9_stood (d : Nat) (S0 : hS) (args : List Value) (r : Int32 × hS) (cs : Nat → Nat) : hX := (((some .boolean), 5, d, 0, 0, false), (S0, args, some (.int r.1), r.2), cs)
theorem v_X9_stood : hVW yX9_stood cX9_stood 5 (some .boolean) RX9 1 := ⟨q_1194, q_s39, q_9, q_1195, by decide +kernel, by decide⟩
def f_X9_stood_L5 : Nat → Nat → Int32 → hS → (Int32 → Option (Int32 × hS)) → Option (Int32 × hS)
  | 0, _, _, _, _ => none
  | n + 1, x0, x2, S, k0 =>
    hbd (gI S x0 9 23) fun t1 =>
    if t1 ≤ x2 then
      (k0 x2)
    else
      (hbd (gR S x0 9 34) fun t4 =>
       hbd (gA S t4 11 x2) fun t6 =>
       if t6 < 97 then
         (k0 x2)
       else
         (hbd (gR S x0 9 34) fun t9 =>
          hbd (gA S t9 11 x2) fun t11 =>
          if 122 < t11 then
            (k0 x2)
          else
            (f_X9_stood_L5 n x0 (x2 + 1) S k0)))
def f_X9_stood_L63 : Nat → Nat → Nat → Int32 → Int32 → hS → (Int32 → hS → Option (Int32 × hS)) → Option (Int32 × hS)
  | 0, _, _, _, _, _, _ => none
  | n + 1, x0, x1, x3, x4, S, k0 =>
    hbd (gTL x1) fun t1 =>
    if t1 ≤ x4 then
      (k0 x3 S)
    else
      (if x3 = 0 then
         (k0 x3 S)
       else
         (hbd (gR S x0 9 34) fun t5 =>
          hbd (gI S x0 9 24) fun t7 =>
          hbd (gA S t5 11 (t7 + x4)) fun t9 =>
          hbd (gTC x1 x4) fun t11 =>
          hj (γ := Int32 → Option (Int32 × hS)) (fun (v14 : Int32) =>
            f_X9_stood_L63 n x0 x1 v14 (x4 + 1) S k0
            ) fun J13 =>
          if t9 = t11 then
            (J13 1)
          else
            (J13 0)))
def f_X9_stood (a0 : Nat) (a1 : Nat) (S : hS) : Option (Int32 × hS) :=
  hbd (gI S a0 9 24) fun t16 =>
  f_X9_stood_L5 hfuel a0 t16 S
    (fun u18 =>
      hbd (gI S a0 9 24) fun t19 =>
      hbd (gTL a1) fun t21 =>
      hj (γ := Int32 → Option (Int32 × hS)) (fun (v24 : Int32) =>
        f_X9_stood_L63 hfuel a0 a1 v24 0 S
          (fun u25 S26 =>
            hck (u25 = 0 ∨ u25 = 1) <|
            some (u25, S26)
          )
        ) fun J23 =>
      if (u18 - t19) = t21 then
        (J23 1)
      else
        (J23 0)
    )
set_option maxRecDepth 100000 in
set_option maxHeartbeats 4000000 in
theorem w_X9_stood_L5 {d : Nat} {S0 : hS} {args : List Value} {cs : Nat → Nat} {r : Int32 × hS} (hd : 5 ≤ d) : ∀ (n : Nat) (x0 : Nat) (x2 : Int32) (S : hS) (k0 : (Int32 → Option (Int32 × hS))) (z1 : Nat), f_X9_stood_L5 n x0 x2 S k0 = some r → (∀ (y2 : Int32), k0 y2 = some r → HW cX9_stood RX9 (x_X9_stood d S0 args r cs) 0 0 S 41 [(0, .ref x0), (1, .ref (cs z1)), (2, .int y2)] []) → HW cX9_stood RX9 (x_X9_stood d S0 args r cs) 0 0 S 5 [(0, .ref x0), (1, .ref (cs z1)), (2, .int x2)] [] := by
  intro n
  induction n with
  | zero =>
    intro x0 x2 S k0 z1 hf
    cases hf
  | succ n ih =>
    intro x0 x2 S k0 z1 hf hk0
    rw [f_X9_stood_L5] at hf
    refine h_iload_n dX9_stood_5 rfl 2 rfl ?_
    refine h_aload_n dX9_stood_6 rfl 0 rfl ?_
    obtain ⟨t1, h2, hf⟩ := hbd_s hf
    refine h_getI h2 rfl (Nat.le_of_ble_eq_true rfl) rfl q_983 rfl dX9_stood_7 ?_
    refine h_icmp_ge (tgt := 41) dX9_stood_10 (by decide) (fun c3 => ?_) (fun c3 => ?_)
    · replace hf := hif_p c3 hf
      exact hk0 x2  hf
    · replace hf := hif_n c3 hf
      refine h_aload_n dX9_stood_13 rfl 0 rfl ?_
      obtain ⟨t4, h5, hf⟩ := hbd_s hf
      refine h_getR h5 rfl (Nat.le_of_ble_eq_true rfl) rfl q_994 rfl dX9_stood_14 ?_
      refine h_iload_n dX9_stood_17 rfl 2 rfl ?_
      obtain ⟨t6, h7, hf⟩ := hbd_s hf
      refine h_bald h7 dX9_stood_18 ?_
      refine h_bipush (v := 97) dX9_stood_19 rfl ?_
      refine h_icmp_lt (tgt := 41) dX9_stood_21 (by decide) (fun c8 => ?_) (fun c8 => ?_)
      · replace hf := hif_p c8 hf
        exact hk0 x2  hf
      · replace hf := hif_n c8 hf
        refine h_aload_n dX9_stood_24 rfl 0 rfl ?_
        obtain ⟨t9, h10, hf⟩ := hbd_s hf
        refine h_getR h10 rfl (Nat.le_of_ble_eq_true rfl) rfl q_994 rfl dX9_stood_25 ?_
        refine h_iload_n dX9_stood_28 rfl 2 rfl ?_
        obtain ⟨t11, h12, hf⟩ := hbd_s hf
        refine h_bald h12 dX9_stood_29 ?_
        refine h_bipush (v := 122) dX9_stood_30 rfl ?_
        refine h_icmp_gt (tgt := 41) dX9_stood_32 (by decide) (fun c13 => ?_) (fun c13 => ?_)
        · replace hf := hif_p c13 hf
          exact hk0 x2  hf
        · replace hf := hif_n c13 hf
          refine h_iinc (q := 2) (v := x2 + 1) (lv2 := [(2, .int (x2 + 1)), (0, .ref x0), (1, .ref (cs z1))]) dX9_stood_35 rfl rfl (Nat.le_of_ble_eq_true rfl) rfl ?_
          refine h_goto (tgt := 5) dX9_stood_38 (by decide) ?_
          refine h_sub (lv2 := [(0, .ref x0), (1, .ref (cs z1)), (2, .int (x2 + 1))]) [1, 2, 0] rfl ?_
          exact ih x0 (x2 + 1) S k0 z1 hf hk0
set_option maxRecDepth 100000 in
set_option maxHeartbeats 4000000 in
theorem w_X9_stood_L63 {d : Nat} {S0 : hS} {args : List Value} {cs : Nat → Nat} {r : Int32 × hS} (hd : 5 ≤ d) : ∀ (n : Nat) (x0 : Nat) (x1 : Nat) (x3 : Int32) (x4 : Int32) (S : hS) (k0 : (Int32 → hS → Option (Int32 × hS))) , f_X9_stood_L63 n x0 x1 x3 x4 S k0 = some r → (∀ (y3 : Int32) (T : hS), k0 y3 T = some r → HW cX9_stood RX9 (x_X9_stood d S0 args r cs) 0 0 T 109 [(3, .int y3)] []) → HW cX9_stood RX9 (x_X9_stood d S0 args r cs) 0 0 S 63 [(0, .ref x0), (1, .ref (cs x1)), (3, .int x3), (4, .int x4)] [] := by
  intro n
  induction n with
  | zero =>
    intro x0 x1 x3 x4 S k0 hf
    cases hf
  | succ n ih =>
    intro x0 x1 x3 x4 S k0 hf hk0
    rw [f_X9_stood_L63] at hf
    refine h_iload dX9_stood_63 3 rfl ?_
    refine h_aload_n dX9_stood_65 rfl 1 rfl ?_
    obtain ⟨t1, h2, hf⟩ := hbd_s hf
    refine h_Ti [] (rest := [.int x4]) (m_J0_length_8abf5 (d := 2) (cs := cs) (Nat.le_refl _) h2) v_J0_length_8abf5 (gTL_s h2).1 q_1196 rfl (Nat.le_trans (by decide) hd) rfl (Nat.le_of_ble_eq_true rfl) dX9_stood_66 (Nat.le_refl _) (Nat.le_refl _) ?_
    refine h_icmp_ge (tgt := 109) dX9_stood_69 (by decide) (fun c3 => ?_) (fun c3 => ?_)
    · replace hf := hif_p c3 hf
      refine h_sub (lv2 := [(3, .int x3)]) [2] rfl ?_
      exact hk0 x3 S hf
    · replace hf := hif_n c3 hf
      refine h_iload_n dX9_stood_72 rfl 2 rfl ?_
      refine h_if_eq (tgt := 109) dX9_stood_73 (by decide) (fun c4 => ?_) (fun c4 => ?_)
      · replace hf := hif_p c4 hf
        refine h_sub (lv2 := [(3, .int x3)]) [2] rfl ?_
        exact hk0 x3 S hf
      · replace hf := hif_n c4 hf
        refine h_aload_n dX9_stood_76 rfl 0 rfl ?_
        obtain ⟨t5, h6, hf⟩ := hbd_s hf
        refine h_getR h6 rfl (Nat.le_of_ble_eq_true rfl) rfl q_994 rfl dX9_stood_77 ?_
        refine h_aload_n dX9_stood_80 rfl 0 rfl ?_
        obtain ⟨t7, h8, hf⟩ := hbd_s hf
        refine h_getI h8 rfl (Nat.le_of_ble_eq_true rfl) rfl q_984 rfl dX9_stood_81 ?_
        refine h_iload dX9_stood_84 3 rfl ?_
        refine h_iadd dX9_stood_86 ?_
        obtain ⟨t9, h10, hf⟩ := hbd_s hf
        refine h_bald h10 dX9_stood_87 ?_
        refine h_aload_n dX9_stood_88 rfl 1 rfl ?_
        refine h_iload dX9_stood_89 3 rfl ?_
        obtain ⟨t11, h12, hf⟩ := hbd_s hf
        refine h_Ti [.int x4] (rest := [.int t9]) (m_J0_charAt_5068e (d := 4) (cs := cs) (Nat.le_refl _) h12) v_J0_charAt_5068e (gTC_s h12).1 q_1197 rfl (Nat.le_trans (by decide) hd) rfl (Nat.le_of_ble_eq_true rfl) dX9_stood_91 (Nat.le_refl _) (Nat.le_refl _) ?_
        refine hj_s (fun J13 => ∀ (v14 : Int32), J13 v14 = some r → HW cX9_stood RX9 (x_X9_stood d S0 args r cs) 0 0 S 102 [(0, .ref x0), (1, .ref (cs x1)), (4, .int x4)] [.int v14]) hf ?_ ?_
        · intro v14 hf
          refine h_istore_n (lv2 := [(3, .int v14), (0, .ref x0), (1, .ref (cs x1)), (4, .int x4)]) dX9_stood_102 rfl (Nat.le_of_ble_eq_true rfl) rfl ?_
          refine h_iinc (q := 3) (v := x4 + 1) (lv2 := [(4, .int (x4 + 1)), (3, .int v14), (0, .ref x0), (1, .ref (cs x1))]) dX9_stood_103 rfl rfl (Nat.le_of_ble_eq_true rfl) rfl ?_
          refine h_goto (tgt := 63) dX9_stood_106 (by decide) ?_
          refine h_sub (lv2 := [(0, .ref x0), (1, .ref (cs x1)), (3, .int v14), (4, .int (x4 + 1))]) [2, 3, 1, 0] rfl ?_
          exact ih x0 x1 v14 (x4 + 1) S k0  hf hk0
        · intro J13 hJ13 hf
          refine h_icmp_ne (tgt := 101) dX9_stood_94 (by decide) (fun c15 => ?_) (fun c15 => ?_)
          · replace hf := hif_n c15 hf
            refine h_iconst (v := 0) dX9_stood_101 rfl ?_
            refine h_sub (lv2 := [(0, .ref x0), (1, .ref (cs x1)), (4, .int x4)]) [0, 1, 3] rfl ?_
            exact hJ13 0 hf
          · replace hf := hif_p c15 hf
            refine h_iconst (v := 1) dX9_stood_97 rfl ?_
            refine h_goto (tgt := 102) dX9_stood_98 (by decide) ?_
            refine h_sub (lv2 := [(0, .ref x0), (1, .ref (cs x1)), (4, .int x4)]) [0, 1, 3] rfl ?_
            exact hJ13 1 hf
set_option maxRecDepth 100000 in
set_option maxHeartbeats 4000000 in
theorem m_X9_stood {d : Nat} {cs : Nat → Nat} {a0 : Nat} {a1 : Nat} {S : hS} {r : Int32 × hS} (hd : 5 ≤ d) (hf : f_X9_stood a0 a1 S = some r) : HM yX9_stood cX9_stood 5 (some .boolean) d 0 0 cs [.ref a0, .ref (cs a1)] S (some (.int r.1)) r.2 := by
  unfold f_X9_stood at hf
  refine HM.ofHW false (by decide) (fun h => by cases h) (Nat.le_of_ble_eq_true rfl) ?_
  show HW cX9_stood RX9 (x_X9_stood d S [.ref a0, .ref (cs a1)] r cs) 0 0 S 0 [(0, .ref a0), (1, .ref (cs a1))] []
  refine h_aload_n dX9_stood_0 rfl 0 rfl ?_
  obtain ⟨t16, h17, hf⟩ := hbd_s hf
  refine h_getI h17 rfl (Nat.le_of_ble_eq_true rfl) rfl q_984 rfl dX9_stood_1 ?_
  refine h_istore_n (lv2 := [(2, .int t16), (0, .ref a0), (1, .ref (cs a1))]) dX9_stood_4 rfl (Nat.le_of_ble_eq_true rfl) rfl ?_
  refine h_sub (lv2 := [(0, .ref a0), (1, .ref (cs a1)), (2, .int t16)]) [1, 2, 0] rfl ?_
  refine w_X9_stood_L5 hd hfuel a0 t16 S _ a1 hf ?_
  · intro u18 hf
    refine h_iload_n dX9_stood_41 rfl 2 rfl ?_
    refine h_aload_n dX9_stood_42 rfl 0 rfl ?_
    obtain ⟨t19, h20, hf⟩ := hbd_s hf
    refine h_getI h20 rfl (Nat.le_of_ble_eq_true rfl) rfl q_984 rfl dX9_stood_43 ?_
    refine h_isub dX9_stood_46 ?_
    refine h_aload_n dX9_stood_47 rfl 1 rfl ?_
    obtain ⟨t21, h22, hf⟩ := hbd_s hf
    refine h_Ti [] (rest := [.int (u18 - t19)]) (m_J0_length_8abf5 (d := 2) (cs := cs) (Nat.le_refl _) h22) v_J0_length_8abf5 (gTL_s h22).1 q_1196 rfl (Nat.le_trans (by decide) hd) rfl (Nat.le_of_ble_eq_true rfl) dX9_stood_48 (Nat.le_refl _) (Nat.le_refl _) ?_
    refine hj_s (fun J23 => ∀ (v24 : Int32), J23 v24 = some r → HW cX9_stood RX9 (x_X9_stood d S [.ref a0, .ref (cs a1)] r cs) 0 0 S 59 [(0, .ref a0), (1, .ref (cs a1))] [.int v24]) hf ?_ ?_
    · intro v24 hf
      refine h_istore_n (lv2 := [(3, .int v24), (0, .ref a0), (1, .ref (cs a1))]) dX9_stood_59 rfl (Nat.le_of_ble_eq_true rfl) rfl ?_
      refine h_iconst (v := 0) dX9_stood_60 rfl ?_
      refine h_istore (lv2 := [(4, .int 0), (3, .int v24), (0, .ref a0), (1, .ref (cs a1))]) dX9_stood_61 (Nat.le_of_ble_eq_true rfl) rfl ?_
      refine h_sub (lv2 := [(0, .ref a0), (1, .ref (cs a1)), (3, .int v24), (4, .int 0)]) [2, 3, 1, 0] rfl ?_
      refine w_X9_stood_L63 hd hfuel a0 a1 v24 0 S _  hf ?_
      · intro u25 S26 hf
        refine h_iload_n dX9_stood_109 rfl 0 rfl ?_
        obtain ⟨hz, hf⟩ := hck_s hf
        obtain rfl := Option.some.inj hf
        exact h_zret rfl hz rfl rfl (Nat.le_refl _) (Nat.le_refl _) dX9_stood_110
    · intro J23 hJ23 hf
      refine h_icmp_ne (tgt := 58) dX9_stood_51 (by decide) (fun c27 => ?_) (fun c27 => ?_)
      · replace hf := hif_n c27 hf
        refine h_iconst (v := 0) dX9_stood_58 rfl ?_
        refine h_sub (lv2 := [(0, .ref a0), (1, .ref (cs a1))]) [0, 1] rfl ?_
        exact hJ23 0 hf
      · replace hf := hif_p c27 hf
        refine h_iconst (v := 1) dX9_stood_54 rfl ?_
        refine h_goto (tgt := 59) dX9_stood_55 (by decide) ?_
        refine h_sub (lv2 := [(0, .ref a0), (1, .ref (cs a1))]) [0, 1] rfl ?_
        exact hJ23 1 hf
abbrev x_X9_takes (d : Nat) (S0 : hS) (args : List Value) (r : Int32 × hS) (cs : Nat → Nat) : hX := (((some .boolean), 3, d, 0, 0, false), (S0, args, some (.int r.1), r.2), cs)
theorem v_X9_takes : hVW yX9_takes cX9_takes 3 (some .boolean) RX9 1 := ⟨q_1291, q_s56, q_9, q_1292, by decide +kernel, by decide⟩
def f_X9_takes (a0 : Nat) (a1 : Nat) (S : hS) : Option (Int32 × hS) :=
  hck (S.K a0 = 10) <|
  hbd (f_X9_blanks a0 S) fun S2 =>
  hck (S2.K a0 = 10) <|
  hb2 (f_X9_stood a0 a1 S2) fun t5 S4 =>
  hbd (gI S4 a0 9 24) fun t6 =>
  hj (γ := Int32 → hS → Option (Int32 × hS)) (fun (v9 : Int32) (S10 : hS) =>
    hbd (sI S10 a0 9 24 (t6 + v9)) fun S11 =>
    hck (t5 = 0 ∨ t5 = 1) <|
    some (t5, S11)
    ) fun J8 =>
  if t5 = 0 then
    (J8 0 S4)
  else
    (hbd (gTL a1) fun t14 =>
     J8 t14 S4)
set_option maxRecDepth 100000 in
set_option maxHeartbeats 4000000 in
theorem m_X9_takes {d : Nat} {cs : Nat → Nat} {a0 : Nat} {a1 : Nat} {S : hS} {r : Int32 × hS} (hd : 6 ≤ d) (hf : f_X9_takes a0 a1 S = some r) : HM yX9_takes cX9_takes 3 (some .boolean) d 0 0 cs [.ref a0, .ref (cs a1)] S (some (.int r.1)) r.2 := by
  unfold f_X9_takes at hf
  refine HM.ofHW false (by decide) (fun h => by cases h) (Nat.le_of_ble_eq_true rfl) ?_
  show HW cX9_takes RX9 (x_X9_takes d S [.ref a0, .ref (cs a1)] r cs) 0 0 S 0 [(0, .ref a0), (1, .ref (cs a1))] []
  refine h_aload_n dX9_takes_0 rfl 0 rfl ?_
  obtain ⟨g17, hf⟩ := hck_s hf
  obtain ⟨S2, h1, hf⟩ := hbd_s hf
  refine h_Vv [] (rest := []) (m_X9_blanks (d := 2) (cs := cs) (Nat.le_refl _) h1) v_X9_blanks q_1175 rfl (Nat.le_trans (by decide) hd) g17 rfl rfl (Nat.le_of_ble_eq_true rfl) dX9_takes_1 (Nat.le_refl _) (Nat.le_refl _) ?_
  refine h_aload_n dX9_takes_4 rfl 0 rfl ?_
  refine h_aload_n dX9_takes_5 rfl 1 rfl ?_
  obtain ⟨g16, hf⟩ := hck_s hf
  obtain ⟨t5, S4, h3, hf⟩ := hb2_s hf
  refine h_Vi [.ref (cs a1)] (rest := []) (m_X9_stood (d := 5) (cs := cs) (Nat.le_refl _) h3) v_X9_stood q_1192 rfl (Nat.le_trans (by decide) hd) g16 rfl rfl (Nat.le_of_ble_eq_true rfl) dX9_takes_6 (Nat.le_refl _) (Nat.le_refl _) ?_
  refine h_istore_n (lv2 := [(2, .int t5), (0, .ref a0), (1, .ref (cs a1))]) dX9_takes_9 rfl (Nat.le_of_ble_eq_true rfl) rfl ?_
  refine h_aload_n dX9_takes_10 rfl 1 rfl ?_
  refine h_dup dX9_takes_11 rfl ?_
  obtain ⟨t6, h7, hf⟩ := hbd_s hf
  refine h_getI h7 rfl (Nat.le_of_ble_eq_true rfl) rfl q_984 rfl dX9_takes_12 ?_
  refine h_iload_n dX9_takes_15 rfl 0 rfl ?_
  refine hj_s (fun J8 => ∀ (v9 : Int32) (S10 : hS), J8 v9 S10 = some r → HW cX9_takes RX9 (x_X9_takes d S [.ref a0, .ref (cs a1)] r cs) 0 0 S10 27 [(2, .int t5)] [.int v9, .int t6, .ref a0]) hf ?_ ?_
  · intro v9 S10 hf
    refine h_iadd dX9_takes_27 ?_
    obtain ⟨S11, h12, hf⟩ := hbd_s hf
    refine h_putI h12 rfl (Nat.le_of_ble_eq_true rfl) rfl q_984 rfl rfl (by decide +kernel) dX9_takes_28 ?_
    refine h_iload_n dX9_takes_31 rfl 0 rfl ?_
    obtain ⟨hz, hf⟩ := hck_s hf
    obtain rfl := Option.some.inj hf
    exact h_zret rfl hz rfl rfl (Nat.le_refl _) (Nat.le_refl _) dX9_takes_32
  · intro J8 hJ8 hf
    refine h_if_eq (tgt := 26) dX9_takes_16 (by decide) (fun c13 => ?_) (fun c13 => ?_)
    · replace hf := hif_p c13 hf
      refine h_iconst (v := 0) dX9_takes_26 rfl ?_
      refine h_sub (lv2 := [(2, .int t5)]) [0] rfl ?_
      exact hJ8 0 S4 hf
    · replace hf := hif_n c13 hf
      refine h_aload_n dX9_takes_19 rfl 2 rfl ?_
      obtain ⟨t14, h15, hf⟩ := hbd_s hf
      refine h_Ti [] (rest := [.int t6, .ref a0]) (m_J0_length_8abf5 (d := 2) (cs := cs) (Nat.le_refl _) h15) v_J0_length_8abf5 (gTL_s h15).1 q_1196 rfl (Nat.le_trans (by decide) hd) rfl (Nat.le_of_ble_eq_true rfl) dX9_takes_20 (Nat.le_refl _) (Nat.le_refl _) ?_
      refine h_goto (tgt := 27) dX9_takes_23 (by decide) ?_
      refine h_sub (lv2 := [(2, .int t5)]) [0] rfl ?_
      exact hJ8 t14 S4 hf
abbrev x_X9_entry (d : Nat) (S0 : hS) (args : List Value) (r : hS) (cs : Nat → Nat) : hX := ((none, 3, d, 0, 0, false), (S0, args, none, r), cs)
theorem v_X9_entry : hVW yX9_entry cX9_entry 3 none RX9 2 := ⟨q_1274, q_s55, q_9, q_1275, by decide +kernel, by decide⟩
def f_X9_entry (a0 : Nat) (a1 : Int32) (a2 : Int32) (S : hS) : Option (hS) :=
  hbd (gI S a0 9 25) fun t1 =>
  if t1 = 0 then
    (hbd (gR S a0 9 35) fun t4 =>
     hbd (gI S a0 9 26) fun t6 =>
     hbd (gI S a0 9 28) fun t8 =>
     hbd (sA S t4 ((300 * t6) + t8) a1) fun S10 =>
     hbd (gR S10 a0 9 36) fun t12 =>
     hbd (gI S10 a0 9 26) fun t14 =>
     hbd (gI S10 a0 9 28) fun t16 =>
     hbd (sA S10 t12 ((300 * t14) + t16) a2) fun S18 =>
     hbd (gI S18 a0 9 28) fun t20 =>
     hbd (sI S18 a0 9 28 (t20 + 1)) fun S22 =>
     some S22)
  else
    (some S)
set_option maxRecDepth 100000 in
set_option maxHeartbeats 4000000 in
theorem m_X9_entry {d : Nat} {cs : Nat → Nat} {a0 : Nat} {a1 : Int32} {a2 : Int32} {S : hS} {r : hS} (hd : 1 ≤ d) (hf : f_X9_entry a0 a1 a2 S = some r) : HM yX9_entry cX9_entry 3 none d 0 0 cs [.ref a0, .int a1, .int a2] S (none) r := by
  unfold f_X9_entry at hf
  refine HM.ofHW false (by decide) (fun h => by cases h) (Nat.le_of_ble_eq_true rfl) ?_
  show HW cX9_entry RX9 (x_X9_entry d S [.ref a0, .int a1, .int a2] r cs) 0 0 S 0 [(0, .ref a0), (1, .int a1), (2, .int a2)] []
  refine h_aload_n dX9_entry_0 rfl 0 rfl ?_
  obtain ⟨t1, h2, hf⟩ := hbd_s hf
  refine h_getI h2 rfl (Nat.le_of_ble_eq_true rfl) rfl q_985 rfl dX9_entry_1 ?_
  refine h_if_ne (tgt := 55) dX9_entry_4 (by decide) (fun c3 => ?_) (fun c3 => ?_)
  · replace hf := hif_n c3 hf
    obtain rfl := Option.some.inj hf
    exact h_vret rfl rfl rfl (Nat.le_refl _) (Nat.le_refl _) dX9_entry_55
  · replace hf := hif_p c3 hf
    refine h_aload_n dX9_entry_7 rfl 0 rfl ?_
    obtain ⟨t4, h5, hf⟩ := hbd_s hf
    refine h_getR h5 rfl (Nat.le_of_ble_eq_true rfl) rfl q_995 rfl dX9_entry_8 ?_
    refine h_sipush (v := 300) dX9_entry_11 rfl ?_
    refine h_aload_n dX9_entry_14 rfl 0 rfl ?_
    obtain ⟨t6, h7, hf⟩ := hbd_s hf
    refine h_getI h7 rfl (Nat.le_of_ble_eq_true rfl) rfl q_986 rfl dX9_entry_15 ?_
    refine h_imul dX9_entry_18 ?_
    refine h_aload_n dX9_entry_19 rfl 0 rfl ?_
    obtain ⟨t8, h9, hf⟩ := hbd_s hf
    refine h_getI h9 rfl (Nat.le_of_ble_eq_true rfl) rfl q_988 rfl dX9_entry_20 ?_
    refine h_iadd dX9_entry_23 ?_
    refine h_iload_n dX9_entry_24 rfl 1 rfl ?_
    obtain ⟨S10, h11, hf⟩ := hbd_s hf
    refine h_iast h11 dX9_entry_25 ?_
    refine h_aload_n dX9_entry_26 rfl 0 rfl ?_
    obtain ⟨t12, h13, hf⟩ := hbd_s hf
    refine h_getR h13 rfl (Nat.le_of_ble_eq_true rfl) rfl q_996 rfl dX9_entry_27 ?_
    refine h_sipush (v := 300) dX9_entry_30 rfl ?_
    refine h_aload_n dX9_entry_33 rfl 0 rfl ?_
    obtain ⟨t14, h15, hf⟩ := hbd_s hf
    refine h_getI h15 rfl (Nat.le_of_ble_eq_true rfl) rfl q_986 rfl dX9_entry_34 ?_
    refine h_imul dX9_entry_37 ?_
    refine h_aload_n dX9_entry_38 rfl 0 rfl ?_
    obtain ⟨t16, h17, hf⟩ := hbd_s hf
    refine h_getI h17 rfl (Nat.le_of_ble_eq_true rfl) rfl q_988 rfl dX9_entry_39 ?_
    refine h_iadd dX9_entry_42 ?_
    refine h_iload_n dX9_entry_43 rfl 2 rfl ?_
    obtain ⟨S18, h19, hf⟩ := hbd_s hf
    refine h_iast h19 dX9_entry_44 ?_
    refine h_aload_n dX9_entry_45 rfl 0 rfl ?_
    refine h_dup dX9_entry_46 rfl ?_
    obtain ⟨t20, h21, hf⟩ := hbd_s hf
    refine h_getI h21 rfl (Nat.le_of_ble_eq_true rfl) rfl q_988 rfl dX9_entry_47 ?_
    refine h_iconst (v := 1) dX9_entry_50 rfl ?_
    refine h_iadd dX9_entry_51 ?_
    obtain ⟨S22, h23, hf⟩ := hbd_s hf
    refine h_putI h23 rfl (Nat.le_of_ble_eq_true rfl) rfl q_988 rfl rfl (by decide +kernel) dX9_entry_52 ?_
    obtain rfl := Option.some.inj hf
    exact h_vret rfl rfl rfl (Nat.le_refl _) (Nat.le_refl _) dX9_entry_55
abbrev x_X9_isCounted (d : Nat) (S0 : hS) (args : List Value) (r : hS) (cs : Nat → Nat) : hX := ((none, 2, d, 0, 0, false), (S0, args, none, r), cs)
theorem v_X9_isCounted : hVW yX9_isCounted cX9_isCounted 2 none RX9 1 := ⟨q_1270, q_s54, q_9, q_1271, by decide +kernel, by decide⟩
def f_X9_isCounted (a0 : Nat) (a1 : Int32) (S : hS) : Option (hS) :=
  hbd (gI S a0 9 30) fun t1 =>
  hj (γ := hS → Option (hS)) (fun (S4 : hS) =>
    hbd (gI S4 a0 9 30) fun t5 =>
    hbd (sI S4 a0 9 30 (t5 + 1)) fun S7 =>
    some S7
    ) fun J3 =>
  if t1 = 60 then
    (hck (S.K a0 = 10) <|
     hbd (f_X9_fails a0 3 a1 S) fun S11 =>
     J3 S11)
  else
    (J3 S)
set_option maxRecDepth 100000 in
set_option maxHeartbeats 4000000 in
theorem m_X9_isCounted {d : Nat} {cs : Nat → Nat} {a0 : Nat} {a1 : Int32} {S : hS} {r : hS} (hd : 2 ≤ d) (hf : f_X9_isCounted a0 a1 S = some r) : HM yX9_isCounted cX9_isCounted 2 none d 0 0 cs [.ref a0, .int a1] S (none) r := by
  unfold f_X9_isCounted at hf
  refine HM.ofHW false (by decide) (fun h => by cases h) (Nat.le_of_ble_eq_true rfl) ?_
  show HW cX9_isCounted RX9 (x_X9_isCounted d S [.ref a0, .int a1] r cs) 0 0 S 0 [(0, .ref a0), (1, .int a1)] []
  refine h_aload_n dX9_isCounted_0 rfl 0 rfl ?_
  obtain ⟨t1, h2, hf⟩ := hbd_s hf
  refine h_getI h2 rfl (Nat.le_of_ble_eq_true rfl) rfl q_990 rfl dX9_isCounted_1 ?_
  refine h_bipush (v := 60) dX9_isCounted_4 rfl ?_
  refine hj_s (fun J3 => ∀ (S4 : hS), J3 S4 = some r → HW cX9_isCounted RX9 (x_X9_isCounted d S [.ref a0, .int a1] r cs) 0 0 S4 15 [(0, .ref a0)] []) hf ?_ ?_
  · intro S4 hf
    refine h_aload_n dX9_isCounted_15 rfl 0 rfl ?_
    refine h_dup dX9_isCounted_16 rfl ?_
    obtain ⟨t5, h6, hf⟩ := hbd_s hf
    refine h_getI h6 rfl (Nat.le_of_ble_eq_true rfl) rfl q_990 rfl dX9_isCounted_17 ?_
    refine h_iconst (v := 1) dX9_isCounted_20 rfl ?_
    refine h_iadd dX9_isCounted_21 ?_
    obtain ⟨S7, h8, hf⟩ := hbd_s hf
    refine h_putI h8 rfl (Nat.le_of_ble_eq_true rfl) rfl q_990 rfl rfl (by decide +kernel) dX9_isCounted_22 ?_
    obtain rfl := Option.some.inj hf
    exact h_vret rfl rfl rfl (Nat.le_refl _) (Nat.le_refl _) dX9_isCounted_25
  · intro J3 hJ3 hf
    refine h_icmp_ne (tgt := 15) dX9_isCounted_6 (by decide) (fun c9 => ?_) (fun c9 => ?_)
    · replace hf := hif_n c9 hf
      refine h_sub (lv2 := [(0, .ref a0)]) [0] rfl ?_
      exact hJ3 S hf
    · replace hf := hif_p c9 hf
      refine h_aload_n dX9_isCounted_9 rfl 0 rfl ?_
      refine h_iconst (v := 3) dX9_isCounted_10 rfl ?_
      refine h_iload_n dX9_isCounted_11 rfl 1 rfl ?_
      obtain ⟨g12, hf⟩ := hck_s hf
      obtain ⟨S11, h10, hf⟩ := hbd_s hf
      refine h_Vv [.int 3, .int a1] (rest := []) (m_X9_fails (d := 1) (cs := cs) (Nat.le_refl _) h10) v_X9_fails q_1198 rfl (Nat.le_trans (by decide) hd) g12 rfl rfl (Nat.le_of_ble_eq_true rfl) dX9_isCounted_12 (Nat.le_refl _) (Nat.le_refl _) ?_
      refine h_sub (lv2 := [(0, .ref a0)]) [0] rfl ?_
      exact hJ3 S11 hf
abbrev x_X9_digits (d : Nat) (S0 : hS) (args : List Value) (r : Int32 × hS) (cs : Nat → Nat) : hX := (((some .int), 4, d, 0, 0, false), (S0, args, some (.int r.1), r.2), cs)
theorem v_X9_digits : hVW yX9_digits cX9_digits 4 (some .int) RX9 1 := ⟨q_1217, q_s44, q_9, q_1218, by decide +kernel, by decide⟩
def f_X9_digits_L25 : Nat → Nat → Int32 → Int32 → hS → (Int32 → hS → Option (Int32 × hS)) → Option (Int32 × hS)
  | 0, _, _, _, _, _ => none
  | n + 1, x0, x2, x3, S, k0 =>
    hck (S.K x0 = 10) <|
    hb2 (f_X9_isDigit x0 S) fun t3 S2 =>
    if t3 = 0 then
      (k0 x3 S2)
    else
      (hbd (gI S2 x0 9 24) fun t5 =>
       hj (γ := Int32 → hS → Option (Int32 × hS)) (fun (v8 : Int32) (S9 : hS) =>
         hbd (gI S9 x0 9 24) fun t10 =>
         hbd (sI S9 x0 9 24 (t10 + 1)) fun S12 =>
         f_X9_digits_L25 n x0 x2 v8 S12 k0
         ) fun J7 =>
       if 5 ≤ (t5 - x2) then
         (J7 x3 S2)
       else
         (hck (S2.K x0 = 10) <|
          hb2 (f_X9_sign x0 S2) fun t17 S16 =>
          J7 (((10 * x3) + t17) - 48) S16))
def f_X9_digits (a0 : Nat) (a1 : Int32) (S : hS) : Option (Int32 × hS) :=
  hck (S.K a0 = 10) <|
  hb2 (f_X9_isDigit a0 S) fun t22 S21 =>
  if t22 = 0 then
    (hbd (gI S21 a0 9 24) fun t36 =>
     hck (S21.K a0 = 10) <|
     hbd (f_X9_fails a0 0 t36 S21) fun S39 =>
     some (0, S39))
  else
    (hbd (gI S21 a0 9 24) fun t24 =>
     f_X9_digits_L25 hfuel a0 t24 0 S21
       (fun u26 S27 =>
         hbd (gI S27 a0 9 24) fun t28 =>
         hj (γ := Unit → Option (Int32 × hS)) (fun (_ : Unit) =>
           hck (S27.K a0 = 10) <|
           hbd (f_X9_fails a0 1 t24 S27) fun S32 =>
           some (u26, S32)
           ) fun J30 =>
         if 5 < (t28 - t24) then
           (J30 ())
         else
           (if u26 ≤ a1 then
              (some (u26, S27))
            else
              (J30 ()))
       ))
set_option maxRecDepth 100000 in
set_option maxHeartbeats 4000000 in
theorem w_X9_digits_L25 {d : Nat} {S0 : hS} {args : List Value} {cs : Nat → Nat} {r : Int32 × hS} (hd : 3 ≤ d) : ∀ (n : Nat) (x0 : Nat) (x2 : Int32) (x3 : Int32) (S : hS) (k0 : (Int32 → hS → Option (Int32 × hS))) (z1 : Int32), f_X9_digits_L25 n x0 x2 x3 S k0 = some r → (∀ (y3 : Int32) (T : hS), k0 y3 T = some r → HW cX9_digits RX9 (x_X9_digits d S0 args r cs) 0 0 T 72 [(0, .ref x0), (1, .int z1), (2, .int x2), (3, .int y3)] []) → HW cX9_digits RX9 (x_X9_digits d S0 args r cs) 0 0 S 25 [(0, .ref x0), (1, .int z1), (2, .int x2), (3, .int x3)] [] := by
  intro n
  induction n with
  | zero =>
    intro x0 x2 x3 S k0 z1 hf
    cases hf
  | succ n ih =>
    intro x0 x2 x3 S k0 z1 hf hk0
    rw [f_X9_digits_L25] at hf
    refine h_aload_n dX9_digits_25 rfl 0 rfl ?_
    obtain ⟨g19, hf⟩ := hck_s hf
    obtain ⟨t3, S2, h1, hf⟩ := hb2_s hf
    refine h_Vi [] (rest := []) (m_X9_isDigit (d := 2) (cs := cs) (Nat.le_refl _) h1) v_X9_isDigit q_1219 rfl (Nat.le_trans (by decide) hd) g19 rfl rfl (Nat.le_of_ble_eq_true rfl) dX9_digits_26 (Nat.le_refl _) (Nat.le_refl _) ?_
    refine h_if_eq (tgt := 72) dX9_digits_29 (by decide) (fun c4 => ?_) (fun c4 => ?_)
    · replace hf := hif_p c4 hf
      exact hk0 x3 S2 hf
    · replace hf := hif_n c4 hf
      refine h_aload_n dX9_digits_32 rfl 0 rfl ?_
      obtain ⟨t5, h6, hf⟩ := hbd_s hf
      refine h_getI h6 rfl (Nat.le_of_ble_eq_true rfl) rfl q_984 rfl dX9_digits_33 ?_
      refine h_iload_n dX9_digits_36 rfl 2 rfl ?_
      refine h_isub dX9_digits_37 ?_
      refine h_iconst (v := 5) dX9_digits_38 rfl ?_
      refine hj_s (fun J7 => ∀ (v8 : Int32) (S9 : hS), J7 v8 S9 = some r → HW cX9_digits RX9 (x_X9_digits d S0 args r cs) 0 0 S9 58 [(0, .ref x0), (1, .int z1), (2, .int x2)] [.int v8]) hf ?_ ?_
      · intro v8 S9 hf
        refine h_istore_n (lv2 := [(3, .int v8), (0, .ref x0), (1, .int z1), (2, .int x2)]) dX9_digits_58 rfl (Nat.le_of_ble_eq_true rfl) rfl ?_
        refine h_aload_n dX9_digits_59 rfl 1 rfl ?_
        refine h_dup dX9_digits_60 rfl ?_
        obtain ⟨t10, h11, hf⟩ := hbd_s hf
        refine h_getI h11 rfl (Nat.le_of_ble_eq_true rfl) rfl q_984 rfl dX9_digits_61 ?_
        refine h_iconst (v := 1) dX9_digits_64 rfl ?_
        refine h_iadd dX9_digits_65 ?_
        obtain ⟨S12, h13, hf⟩ := hbd_s hf
        refine h_putI h13 rfl (Nat.le_of_ble_eq_true rfl) rfl q_984 rfl rfl (by decide +kernel) dX9_digits_66 ?_
        refine h_goto (tgt := 25) dX9_digits_69 (by decide) ?_
        refine h_sub (lv2 := [(0, .ref x0), (1, .int z1), (2, .int x2), (3, .int v8)]) [1, 2, 3, 0] rfl ?_
        exact ih x0 x2 v8 S12 k0 z1 hf hk0
      · intro J7 hJ7 hf
        refine h_icmp_ge (tgt := 57) dX9_digits_39 (by decide) (fun c14 => ?_) (fun c14 => ?_)
        · replace hf := hif_p c14 hf
          refine h_iload_n dX9_digits_57 rfl 3 rfl ?_
          refine h_sub (lv2 := [(0, .ref x0), (1, .int z1), (2, .int x2)]) [0, 1, 2] rfl ?_
          exact hJ7 x3 S2 hf
        · replace hf := hif_n c14 hf
          refine h_bipush (v := 10) dX9_digits_42 rfl ?_
          refine h_iload_n dX9_digits_44 rfl 3 rfl ?_
          refine h_imul dX9_digits_45 ?_
          refine h_aload_n dX9_digits_46 rfl 0 rfl ?_
          obtain ⟨g18, hf⟩ := hck_s hf
          obtain ⟨t17, S16, h15, hf⟩ := hb2_s hf
          refine h_Vi [] (rest := [.int (10 * x3)]) (m_X9_sign (d := 1) (cs := cs) (Nat.le_refl _) h15) v_X9_sign q_1179 rfl (Nat.le_trans (by decide) hd) g18 rfl rfl (Nat.le_of_ble_eq_true rfl) dX9_digits_47 (Nat.le_refl _) (Nat.le_refl _) ?_
          refine h_iadd dX9_digits_50 ?_
          refine h_bipush (v := 48) dX9_digits_51 rfl ?_
          refine h_isub dX9_digits_53 ?_
          refine h_goto (tgt := 58) dX9_digits_54 (by decide) ?_
          refine h_sub (lv2 := [(0, .ref x0), (1, .int z1), (2, .int x2)]) [0, 1, 2] rfl ?_
          exact hJ7 (((10 * x3) + t17) - 48) S16 hf
set_option maxRecDepth 100000 in
set_option maxHeartbeats 4000000 in
theorem m_X9_digits {d : Nat} {cs : Nat → Nat} {a0 : Nat} {a1 : Int32} {S : hS} {r : Int32 × hS} (hd : 3 ≤ d) (hf : f_X9_digits a0 a1 S = some r) : HM yX9_digits cX9_digits 4 (some .int) d 0 0 cs [.ref a0, .int a1] S (some (.int r.1)) r.2 := by
  unfold f_X9_digits at hf
  refine HM.ofHW false (by decide) (fun h => by cases h) (Nat.le_of_ble_eq_true rfl) ?_
  show HW cX9_digits RX9 (x_X9_digits d S [.ref a0, .int a1] r cs) 0 0 S 0 [(0, .ref a0), (1, .int a1)] []
  refine h_aload_n dX9_digits_0 rfl 0 rfl ?_
  obtain ⟨g41, hf⟩ := hck_s hf
  obtain ⟨t22, S21, h20, hf⟩ := hb2_s hf
  refine h_Vi [] (rest := []) (m_X9_isDigit (d := 2) (cs := cs) (Nat.le_refl _) h20) v_X9_isDigit q_1219 rfl (Nat.le_trans (by decide) hd) g41 rfl rfl (Nat.le_of_ble_eq_true rfl) dX9_digits_1 (Nat.le_refl _) (Nat.le_refl _) ?_
  refine h_if_ne (tgt := 18) dX9_digits_4 (by decide) (fun c23 => ?_) (fun c23 => ?_)
  · replace hf := hif_n c23 hf
    refine h_aload_n dX9_digits_18 rfl 0 rfl ?_
    obtain ⟨t24, h25, hf⟩ := hbd_s hf
    refine h_getI h25 rfl (Nat.le_of_ble_eq_true rfl) rfl q_984 rfl dX9_digits_19 ?_
    refine h_istore_n (lv2 := [(2, .int t24), (0, .ref a0), (1, .int a1)]) dX9_digits_22 rfl (Nat.le_of_ble_eq_true rfl) rfl ?_
    refine h_iconst (v := 0) dX9_digits_23 rfl ?_
    refine h_istore_n (lv2 := [(3, .int 0), (2, .int t24), (0, .ref a0), (1, .int a1)]) dX9_digits_24 rfl (Nat.le_of_ble_eq_true rfl) rfl ?_
    refine h_sub (lv2 := [(0, .ref a0), (1, .int a1), (2, .int t24), (3, .int 0)]) [2, 3, 1, 0] rfl ?_
    refine w_X9_digits_L25 hd hfuel a0 t24 0 S21 _ a1 hf ?_
    · intro u26 S27 hf
      refine h_aload_n dX9_digits_72 rfl 0 rfl ?_
      obtain ⟨t28, h29, hf⟩ := hbd_s hf
      refine h_getI h29 rfl (Nat.le_of_ble_eq_true rfl) rfl q_984 rfl dX9_digits_73 ?_
      refine h_iload_n dX9_digits_76 rfl 2 rfl ?_
      refine h_isub dX9_digits_77 ?_
      refine h_iconst (v := 5) dX9_digits_78 rfl ?_
      refine hj_s (fun J30 => ∀ (w : Unit), J30 w = some r → HW cX9_digits RX9 (x_X9_digits d S [.ref a0, .int a1] r cs) 0 0 S27 87 [(0, .ref a0), (2, .int t24), (3, .int u26)] []) hf ?_ ?_
      · intro w hf
        refine h_aload_n dX9_digits_87 rfl 0 rfl ?_
        refine h_iconst (v := 1) dX9_digits_88 rfl ?_
        refine h_iload_n dX9_digits_89 rfl 1 rfl ?_
        obtain ⟨g33, hf⟩ := hck_s hf
        obtain ⟨S32, h31, hf⟩ := hbd_s hf
        refine h_Vv [.int 1, .int t24] (rest := []) (m_X9_fails (d := 1) (cs := cs) (Nat.le_refl _) h31) v_X9_fails q_1198 rfl (Nat.le_trans (by decide) hd) g33 rfl rfl (Nat.le_of_ble_eq_true rfl) dX9_digits_90 (Nat.le_refl _) (Nat.le_refl _) ?_
        refine h_iload_n dX9_digits_93 rfl 2 rfl ?_
        obtain rfl := Option.some.inj hf
        exact h_iret rfl rfl rfl (Nat.le_refl _) (Nat.le_refl _) dX9_digits_94
      · intro J30 hJ30 hf
        refine h_icmp_gt (tgt := 87) dX9_digits_79 (by decide) (fun c34 => ?_) (fun c34 => ?_)
        · replace hf := hif_p c34 hf
          refine h_sub (lv2 := [(0, .ref a0), (2, .int t24), (3, .int u26)]) [0, 2, 3] rfl ?_
          exact hJ30 () hf
        · replace hf := hif_n c34 hf
          refine h_iload_n dX9_digits_82 rfl 3 rfl ?_
          refine h_iload_n dX9_digits_83 rfl 1 rfl ?_
          refine h_icmp_le (tgt := 93) dX9_digits_84 (by decide) (fun c35 => ?_) (fun c35 => ?_)
          · replace hf := hif_p c35 hf
            refine h_iload_n dX9_digits_93 rfl 3 rfl ?_
            obtain rfl := Option.some.inj hf
            exact h_iret rfl rfl rfl (Nat.le_refl _) (Nat.le_refl _) dX9_digits_94
          · replace hf := hif_n c35 hf
            refine h_sub (lv2 := [(0, .ref a0), (2, .int t24), (3, .int u26)]) [0, 2, 3] rfl ?_
            exact hJ30 () hf
  · replace hf := hif_p c23 hf
    refine h_aload_n dX9_digits_7 rfl 0 rfl ?_
    refine h_iconst (v := 0) dX9_digits_8 rfl ?_
    refine h_aload_n dX9_digits_9 rfl 0 rfl ?_
    obtain ⟨t36, h37, hf⟩ := hbd_s hf
    refine h_getI h37 rfl (Nat.le_of_ble_eq_true rfl) rfl q_984 rfl dX9_digits_10 ?_
    obtain ⟨g40, hf⟩ := hck_s hf
    obtain ⟨S39, h38, hf⟩ := hbd_s hf
    refine h_Vv [.int 0, .int t36] (rest := []) (m_X9_fails (d := 1) (cs := cs) (Nat.le_refl _) h38) v_X9_fails q_1198 rfl (Nat.le_trans (by decide) hd) g40 rfl rfl (Nat.le_of_ble_eq_true rfl) dX9_digits_13 (Nat.le_refl _) (Nat.le_refl _) ?_
    refine h_iconst (v := 0) dX9_digits_16 rfl ?_
    obtain rfl := Option.some.inj hf
    exact h_iret rfl rfl rfl (Nat.le_refl _) (Nat.le_refl _) dX9_digits_17
abbrev x_X9_value (d : Nat) (S0 : hS) (args : List Value) (r : hS) (cs : Nat → Nat) : hX := ((none, 3, d, 0, 0, false), (S0, args, none, r), cs)
theorem v_X9_value : hVW yX9_value cX9_value 3 none RX9 0 := ⟨q_1266, q_s53, q_9, q_1267, by decide +kernel, by decide⟩
def f_X9_value_L37 : Nat → Nat → Int32 → hS → (Int32 → hS → Option (hS)) → Option (hS)
  | 0, _, _, _, _ => none
  | n + 1, x0, x2, S, k0 =>
    hbd (gI S x0 9 32) fun t1 =>
    if t1 ≤ x2 then
      (k0 x2 S)
    else
      (hb2 (f_X9_wordOf x2 S) fun t6 S5 =>
       hck (S5.K x0 = 10) <|
       hb2 (f_X9_stood x0 t6 S5) fun t9 S8 =>
       if t9 = 0 then
         (f_X9_value_L37 n x0 (x2 + 1) S8 k0)
       else
         (k0 x2 S8))
def f_X9_value (a0 : Nat) (S : hS) : Option (hS) :=
  hck (S.K a0 = 10) <|
  hbd (f_X9_blanks a0 S) fun S13 =>
  hbd (gI S13 a0 9 24) fun t14 =>
  hck (S13.K a0 = 10) <|
  hb2 (f_X9_isDigit a0 S13) fun t18 S17 =>
  if t18 = 0 then
    (f_X9_value_L37 hfuel a0 0 S17
       (fun u20 S21 =>
         hbd (gI S21 a0 9 32) fun t22 =>
         if u20 = t22 then
           (hck (S21.K a0 = 10) <|
            hbd (f_X9_fails a0 0 t14 S21) fun S41 =>
            some S41)
         else
           (hck (S21.K a0 = 10) <|
            hbd (f_X9_isCounted a0 t14 S21) fun S26 =>
            hbd (gI S26 a0 9 24) fun t27 =>
            hb2 (f_X9_wordOf u20 S26) fun t31 S30 =>
            hbd (gTL t31) fun t32 =>
            hbd (sI S30 a0 9 24 (t27 + t32)) fun S34 =>
            hck (S34.K a0 = 10) <|
            hbd (f_X9_entry a0 1 u20 S34) fun S37 =>
            some S37)
       ))
  else
    (hck (S17.K a0 = 10) <|
     hb2 (f_X9_digits a0 99999 S17) fun t45 S44 =>
     hck (S44.K a0 = 10) <|
     hbd (f_X9_isCounted a0 t14 S44) fun S47 =>
     hck (S47.K a0 = 10) <|
     hbd (f_X9_entry a0 0 t45 S47) fun S49 =>
     some S49)
set_option maxRecDepth 100000 in
set_option maxHeartbeats 4000000 in
theorem w_X9_value_L37 {d : Nat} {S0 : hS} {args : List Value} {cs : Nat → Nat} {r : hS} (hd : 6 ≤ d) : ∀ (n : Nat) (x0 : Nat) (x2 : Int32) (S : hS) (k0 : (Int32 → hS → Option (hS))) (z1 : Int32), f_X9_value_L37 n x0 x2 S k0 = some r → (∀ (y2 : Int32) (T : hS), k0 y2 T = some r → HW cX9_value RX9 (x_X9_value d S0 args r cs) 0 0 T 62 [(0, .ref x0), (1, .int z1), (2, .int y2)] []) → HW cX9_value RX9 (x_X9_value d S0 args r cs) 0 0 S 37 [(0, .ref x0), (1, .int z1), (2, .int x2)] [] := by
  intro n
  induction n with
  | zero =>
    intro x0 x2 S k0 z1 hf
    cases hf
  | succ n ih =>
    intro x0 x2 S k0 z1 hf hk0
    rw [f_X9_value_L37] at hf
    refine h_iload_n dX9_value_37 rfl 2 rfl ?_
    refine h_aload_n dX9_value_38 rfl 0 rfl ?_
    obtain ⟨t1, h2, hf⟩ := hbd_s hf
    refine h_getI h2 rfl (Nat.le_of_ble_eq_true rfl) rfl q_992 rfl dX9_value_39 ?_
    refine h_icmp_ge (tgt := 62) dX9_value_42 (by decide) (fun c3 => ?_) (fun c3 => ?_)
    · replace hf := hif_p c3 hf
      exact hk0 x2 S hf
    · replace hf := hif_n c3 hf
      refine h_aload_n dX9_value_45 rfl 0 rfl ?_
      refine h_iload_n dX9_value_46 rfl 2 rfl ?_
      obtain ⟨t6, S5, h4, hf⟩ := hb2_s hf
      refine h_Sr (r := some (cs t6)) [.int x2] (rest := [.ref x0]) (m_X9_wordOf (d := 1) (cs := cs) (Nat.le_refl _) h4) v_X9_wordOf q_1276 rfl (Nat.le_trans (by decide) hd) rfl (Nat.le_of_ble_eq_true rfl) dX9_value_47 (Nat.le_refl _) (Nat.le_refl _) ?_
      show HW cX9_value RX9 (x_X9_value d S0 args r cs) 0 0 S5 50 [(0, .ref x0), (1, .int z1), (2, .int x2)] [.ref (cs t6), .ref x0]
      obtain ⟨g11, hf⟩ := hck_s hf
      obtain ⟨t9, S8, h7, hf⟩ := hb2_s hf
      refine h_Vi [.ref (cs t6)] (rest := []) (m_X9_stood (d := 5) (cs := cs) (Nat.le_refl _) h7) v_X9_stood q_1192 rfl (Nat.le_trans (by decide) hd) g11 rfl rfl (Nat.le_of_ble_eq_true rfl) dX9_value_50 (Nat.le_refl _) (Nat.le_refl _) ?_
      refine h_if_ne (tgt := 62) dX9_value_53 (by decide) (fun c10 => ?_) (fun c10 => ?_)
      · replace hf := hif_n c10 hf
        exact hk0 x2 S8 hf
      · replace hf := hif_p c10 hf
        refine h_iinc (q := 2) (v := x2 + 1) (lv2 := [(2, .int (x2 + 1)), (0, .ref x0), (1, .int z1)]) dX9_value_56 rfl rfl (Nat.le_of_ble_eq_true rfl) rfl ?_
        refine h_goto (tgt := 37) dX9_value_59 (by decide) ?_
        refine h_sub (lv2 := [(0, .ref x0), (1, .int z1), (2, .int (x2 + 1))]) [1, 2, 0] rfl ?_
        exact ih x0 (x2 + 1) S8 k0 z1 hf hk0
set_option maxRecDepth 100000 in
set_option maxHeartbeats 4000000 in
theorem m_X9_value {d : Nat} {cs : Nat → Nat} {a0 : Nat} {S : hS} {r : hS} (hd : 6 ≤ d) (hf : f_X9_value a0 S = some r) : HM yX9_value cX9_value 3 none d 0 0 cs [.ref a0] S (none) r := by
  unfold f_X9_value at hf
  refine HM.ofHW false (by decide) (fun h => by cases h) (Nat.le_of_ble_eq_true rfl) ?_
  show HW cX9_value RX9 (x_X9_value d S [.ref a0] r cs) 0 0 S 0 [(0, .ref a0)] []
  refine h_aload_n dX9_value_0 rfl 0 rfl ?_
  obtain ⟨g54, hf⟩ := hck_s hf
  obtain ⟨S13, h12, hf⟩ := hbd_s hf
  refine h_Vv [] (rest := []) (m_X9_blanks (d := 2) (cs := cs) (Nat.le_refl _) h12) v_X9_blanks q_1175 rfl (Nat.le_trans (by decide) hd) g54 rfl rfl (Nat.le_of_ble_eq_true rfl) dX9_value_1 (Nat.le_refl _) (Nat.le_refl _) ?_
  refine h_aload_n dX9_value_4 rfl 0 rfl ?_
  obtain ⟨t14, h15, hf⟩ := hbd_s hf
  refine h_getI h15 rfl (Nat.le_of_ble_eq_true rfl) rfl q_984 rfl dX9_value_5 ?_
  refine h_istore_n (lv2 := [(1, .int t14), (0, .ref a0)]) dX9_value_8 rfl (Nat.le_of_ble_eq_true rfl) rfl ?_
  refine h_aload_n dX9_value_9 rfl 1 rfl ?_
  obtain ⟨g53, hf⟩ := hck_s hf
  obtain ⟨t18, S17, h16, hf⟩ := hb2_s hf
  refine h_Vi [] (rest := []) (m_X9_isDigit (d := 2) (cs := cs) (Nat.le_refl _) h16) v_X9_isDigit q_1219 rfl (Nat.le_trans (by decide) hd) g53 rfl rfl (Nat.le_of_ble_eq_true rfl) dX9_value_10 (Nat.le_refl _) (Nat.le_refl _) ?_
  refine h_if_eq (tgt := 35) dX9_value_13 (by decide) (fun c19 => ?_) (fun c19 => ?_)
  · replace hf := hif_p c19 hf
    refine h_iconst (v := 0) dX9_value_35 rfl ?_
    refine h_istore_n (lv2 := [(2, .int 0), (1, .int t14), (0, .ref a0)]) dX9_value_36 rfl (Nat.le_of_ble_eq_true rfl) rfl ?_
    refine h_sub (lv2 := [(0, .ref a0), (1, .int t14), (2, .int 0)]) [2, 1, 0] rfl ?_
    refine w_X9_value_L37 hd hfuel a0 0 S17 _ t14 hf ?_
    · intro u20 S21 hf
      refine h_iload_n dX9_value_62 rfl 2 rfl ?_
      refine h_aload_n dX9_value_63 rfl 0 rfl ?_
      obtain ⟨t22, h23, hf⟩ := hbd_s hf
      refine h_getI h23 rfl (Nat.le_of_ble_eq_true rfl) rfl q_992 rfl dX9_value_64 ?_
      refine h_icmp_ne (tgt := 77) dX9_value_67 (by decide) (fun c24 => ?_) (fun c24 => ?_)
      · replace hf := hif_n c24 hf
        refine h_aload_n dX9_value_77 rfl 0 rfl ?_
        refine h_iload_n dX9_value_78 rfl 1 rfl ?_
        obtain ⟨g39, hf⟩ := hck_s hf
        obtain ⟨S26, h25, hf⟩ := hbd_s hf
        refine h_Vv [.int t14] (rest := []) (m_X9_isCounted (d := 2) (cs := cs) (Nat.le_refl _) h25) v_X9_isCounted q_1268 rfl (Nat.le_trans (by decide) hd) g39 rfl rfl (Nat.le_of_ble_eq_true rfl) dX9_value_79 (Nat.le_refl _) (Nat.le_refl _) ?_
        refine h_aload_n dX9_value_82 rfl 0 rfl ?_
        refine h_dup dX9_value_83 rfl ?_
        obtain ⟨t27, h28, hf⟩ := hbd_s hf
        refine h_getI h28 rfl (Nat.le_of_ble_eq_true rfl) rfl q_984 rfl dX9_value_84 ?_
        refine h_iload_n dX9_value_87 rfl 2 rfl ?_
        obtain ⟨t31, S30, h29, hf⟩ := hb2_s hf
        refine h_Sr (r := some (cs t31)) [.int u20] (rest := [.int t27, .ref a0]) (m_X9_wordOf (d := 1) (cs := cs) (Nat.le_refl _) h29) v_X9_wordOf q_1276 rfl (Nat.le_trans (by decide) hd) rfl (Nat.le_of_ble_eq_true rfl) dX9_value_88 (Nat.le_refl _) (Nat.le_refl _) ?_
        show HW cX9_value RX9 (x_X9_value d S [.ref a0] r cs) 0 0 S30 91 [(0, .ref a0), (1, .int t14), (2, .int u20)] [.ref (cs t31), .int t27, .ref a0]
        obtain ⟨t32, h33, hf⟩ := hbd_s hf
        refine h_Ti [] (rest := [.int t27, .ref a0]) (m_J0_length_8abf5 (d := 2) (cs := cs) (Nat.le_refl _) h33) v_J0_length_8abf5 (gTL_s h33).1 q_1196 rfl (Nat.le_trans (by decide) hd) rfl (Nat.le_of_ble_eq_true rfl) dX9_value_91 (Nat.le_refl _) (Nat.le_refl _) ?_
        refine h_iadd dX9_value_94 ?_
        obtain ⟨S34, h35, hf⟩ := hbd_s hf
        refine h_putI h35 rfl (Nat.le_of_ble_eq_true rfl) rfl q_984 rfl rfl (by decide +kernel) dX9_value_95 ?_
        refine h_aload_n dX9_value_98 rfl 0 rfl ?_
        refine h_iconst (v := 1) dX9_value_99 rfl ?_
        refine h_iload_n dX9_value_100 rfl 2 rfl ?_
        obtain ⟨g38, hf⟩ := hck_s hf
        obtain ⟨S37, h36, hf⟩ := hbd_s hf
        refine h_Vv [.int 1, .int u20] (rest := []) (m_X9_entry (d := 1) (cs := cs) (Nat.le_refl _) h36) v_X9_entry q_1272 rfl (Nat.le_trans (by decide) hd) g38 rfl rfl (Nat.le_of_ble_eq_true rfl) dX9_value_101 (Nat.le_refl _) (Nat.le_refl _) ?_
        obtain rfl := Option.some.inj hf
        exact h_vret rfl rfl rfl (Nat.le_refl _) (Nat.le_refl _) dX9_value_104
      · replace hf := hif_p c24 hf
        refine h_aload_n dX9_value_70 rfl 0 rfl ?_
        refine h_iconst (v := 0) dX9_value_71 rfl ?_
        refine h_iload_n dX9_value_72 rfl 1 rfl ?_
        obtain ⟨g42, hf⟩ := hck_s hf
        obtain ⟨S41, h40, hf⟩ := hbd_s hf
        refine h_Vv [.int 0, .int t14] (rest := []) (m_X9_fails (d := 1) (cs := cs) (Nat.le_refl _) h40) v_X9_fails q_1198 rfl (Nat.le_trans (by decide) hd) g42 rfl rfl (Nat.le_of_ble_eq_true rfl) dX9_value_73 (Nat.le_refl _) (Nat.le_refl _) ?_
        obtain rfl := Option.some.inj hf
        exact h_vret rfl rfl rfl (Nat.le_refl _) (Nat.le_refl _) dX9_value_76
  · replace hf := hif_n c19 hf
    refine h_aload_n dX9_value_16 rfl 1 rfl ?_
    refine h_ldc (v := 99999) dX9_value_17 q_1214 ?_
    obtain ⟨g52, hf⟩ := hck_s hf
    obtain ⟨t45, S44, h43, hf⟩ := hb2_s hf
    refine h_Vi [.int 99999] (rest := []) (m_X9_digits (d := 3) (cs := cs) (Nat.le_refl _) h43) v_X9_digits q_1215 rfl (Nat.le_trans (by decide) hd) g52 rfl rfl (Nat.le_of_ble_eq_true rfl) dX9_value_19 (Nat.le_refl _) (Nat.le_refl _) ?_
    refine h_istore_n (lv2 := [(2, .int t45), (1, .int t14), (0, .ref a0)]) dX9_value_22 rfl (Nat.le_of_ble_eq_true rfl) rfl ?_
    refine h_aload_n dX9_value_23 rfl 2 rfl ?_
    refine h_iload_n dX9_value_24 rfl 1 rfl ?_
    obtain ⟨g51, hf⟩ := hck_s hf
    obtain ⟨S47, h46, hf⟩ := hbd_s hf
    refine h_Vv [.int t14] (rest := []) (m_X9_isCounted (d := 2) (cs := cs) (Nat.le_refl _) h46) v_X9_isCounted q_1268 rfl (Nat.le_trans (by decide) hd) g51 rfl rfl (Nat.le_of_ble_eq_true rfl) dX9_value_25 (Nat.le_refl _) (Nat.le_refl _) ?_
    refine h_aload_n dX9_value_28 rfl 2 rfl ?_
    refine h_iconst (v := 0) dX9_value_29 rfl ?_
    refine h_iload_n dX9_value_30 rfl 0 rfl ?_
    obtain ⟨g50, hf⟩ := hck_s hf
    obtain ⟨S49, h48, hf⟩ := hbd_s hf
    refine h_Vv [.int 0, .int t45] (rest := []) (m_X9_entry (d := 1) (cs := cs) (Nat.le_refl _) h48) v_X9_entry q_1272 rfl (Nat.le_trans (by decide) hd) g50 rfl rfl (Nat.le_of_ble_eq_true rfl) dX9_value_31 (Nat.le_refl _) (Nat.le_refl _) ?_
    obtain rfl := Option.some.inj hf
    exact h_vret rfl rfl rfl (Nat.le_refl _) (Nat.le_refl _) dX9_value_34
abbrev x_X9_term (d : Nat) (S0 : hS) (args : List Value) (r : hS) (cs : Nat → Nat) : hX := ((none, 2, d, 0, 0, false), (S0, args, none, r), cs)
theorem v_X9_term : hVW yX9_term cX9_term 2 none RX9 0 := ⟨q_1262, q_s52, q_9, q_1263, by decide +kernel, by decide⟩
def f_X9_term_L8 : Nat → Nat → hS → (hS → Option (hS)) → Option (hS)
  | 0, _, _, _ => none
  | n + 1, x0, S, k0 =>
    hbd (gI S x0 9 25) fun t1 =>
    if t1 = 0 then
      (hck (S.K x0 = 10) <|
       hb2 (f_X9_sign x0 S) fun t6 S5 =>
       hj (γ := hS → Option (hS)) (fun (S8 : hS) =>
         hck (S8.K x0 = 10) <|
         hb2 (f_X9_sign x0 S8) fun t11 S10 =>
         hj (γ := Int32 → hS → Option (hS)) (fun (v13 : Int32) (S14 : hS) =>
           hbd (gI S14 x0 9 24) fun t15 =>
           hbd (sI S14 x0 9 24 (t15 + 1)) fun S17 =>
           hck (S17.K x0 = 10) <|
           hbd (f_X9_value x0 S17) fun S20 =>
           hck (S20.K x0 = 10) <|
           hbd (f_X9_entry x0 v13 0 S20) fun S22 =>
           hck (S22.K x0 = 10) <|
           hbd (f_X9_blanks x0 S22) fun S24 =>
           f_X9_term_L8 n x0 S24 k0
           ) fun J12 =>
         if t11 = 42 then
           (J12 13 S10)
         else
           (hck (S10.K x0 = 10) <|
            hb2 (f_X9_sign x0 S10) fun t31 S30 =>
            if t31 = 47 then
              (J12 14 S30)
            else
              (J12 15 S30))
         ) fun J7 =>
       if t6 = 42 then
         (J7 S5)
       else
         (hck (S5.K x0 = 10) <|
          hb2 (f_X9_sign x0 S5) fun t38 S37 =>
          if t38 = 47 then
            (J7 S37)
          else
            (hck (S37.K x0 = 10) <|
             hb2 (f_X9_sign x0 S37) fun t42 S41 =>
             if t42 = 37 then
               (J7 S41)
             else
               (k0 S41))))
    else
      (k0 S)
def f_X9_term (a0 : Nat) (S : hS) : Option (hS) :=
  hck (S.K a0 = 10) <|
  hbd (f_X9_value a0 S) fun S48 =>
  hck (S48.K a0 = 10) <|
  hbd (f_X9_blanks a0 S48) fun S50 =>
  f_X9_term_L8 hfuel a0 S50
    (fun S51 =>
      some S51
    )
set_option maxRecDepth 100000 in
set_option maxHeartbeats 4000000 in
theorem w_X9_term_L8 {d : Nat} {S0 : hS} {args : List Value} {cs : Nat → Nat} {r : hS} (hd : 7 ≤ d) : ∀ (n : Nat) (x0 : Nat) (S : hS) (k0 : (hS → Option (hS))) , f_X9_term_L8 n x0 S k0 = some r → (∀ (T : hS), k0 T = some r → HW cX9_term RX9 (x_X9_term d S0 args r cs) 0 0 T 100 [] []) → HW cX9_term RX9 (x_X9_term d S0 args r cs) 0 0 S 8 [(0, .ref x0)] [] := by
  intro n
  induction n with
  | zero =>
    intro x0 S k0 hf
    cases hf
  | succ n ih =>
    intro x0 S k0 hf hk0
    rw [f_X9_term_L8] at hf
    refine h_aload_n dX9_term_8 rfl 0 rfl ?_
    obtain ⟨t1, h2, hf⟩ := hbd_s hf
    refine h_getI h2 rfl (Nat.le_of_ble_eq_true rfl) rfl q_985 rfl dX9_term_9 ?_
    refine h_if_ne (tgt := 100) dX9_term_12 (by decide) (fun c3 => ?_) (fun c3 => ?_)
    · replace hf := hif_n c3 hf
      refine h_sub (lv2 := []) [] rfl ?_
      exact hk0 S hf
    · replace hf := hif_p c3 hf
      refine h_aload_n dX9_term_15 rfl 0 rfl ?_
      obtain ⟨g46, hf⟩ := hck_s hf
      obtain ⟨t6, S5, h4, hf⟩ := hb2_s hf
      refine h_Vi [] (rest := []) (m_X9_sign (d := 1) (cs := cs) (Nat.le_refl _) h4) v_X9_sign q_1179 rfl (Nat.le_trans (by decide) hd) g46 rfl rfl (Nat.le_of_ble_eq_true rfl) dX9_term_16 (Nat.le_refl _) (Nat.le_refl _) ?_
      refine h_bipush (v := 42) dX9_term_19 rfl ?_
      refine hj_s (fun J7 => ∀ (S8 : hS), J7 S8 = some r → HW cX9_term RX9 (x_X9_term d S0 args r cs) 0 0 S8 42 [(0, .ref x0)] []) hf ?_ ?_
      · intro S8 hf
        refine h_aload_n dX9_term_42 rfl 0 rfl ?_
        obtain ⟨g34, hf⟩ := hck_s hf
        obtain ⟨t11, S10, h9, hf⟩ := hb2_s hf
        refine h_Vi [] (rest := []) (m_X9_sign (d := 1) (cs := cs) (Nat.le_refl _) h9) v_X9_sign q_1179 rfl (Nat.le_trans (by decide) hd) g34 rfl rfl (Nat.le_of_ble_eq_true rfl) dX9_term_43 (Nat.le_refl _) (Nat.le_refl _) ?_
        refine h_bipush (v := 42) dX9_term_46 rfl ?_
        refine hj_s (fun J12 => ∀ (v13 : Int32) (S14 : hS), J12 v13 S14 = some r → HW cX9_term RX9 (x_X9_term d S0 args r cs) 0 0 S14 72 [(0, .ref x0)] [.int v13]) hf ?_ ?_
        · intro v13 S14 hf
          refine h_istore_n (lv2 := [(1, .int v13), (0, .ref x0)]) dX9_term_72 rfl (Nat.le_of_ble_eq_true rfl) rfl ?_
          refine h_aload_n dX9_term_73 rfl 1 rfl ?_
          refine h_dup dX9_term_74 rfl ?_
          obtain ⟨t15, h16, hf⟩ := hbd_s hf
          refine h_getI h16 rfl (Nat.le_of_ble_eq_true rfl) rfl q_984 rfl dX9_term_75 ?_
          refine h_iconst (v := 1) dX9_term_78 rfl ?_
          refine h_iadd dX9_term_79 ?_
          obtain ⟨S17, h18, hf⟩ := hbd_s hf
          refine h_putI h18 rfl (Nat.le_of_ble_eq_true rfl) rfl q_984 rfl rfl (by decide +kernel) dX9_term_80 ?_
          refine h_aload_n dX9_term_83 rfl 1 rfl ?_
          obtain ⟨g27, hf⟩ := hck_s hf
          obtain ⟨S20, h19, hf⟩ := hbd_s hf
          refine h_Vv [] (rest := []) (m_X9_value (d := 6) (cs := cs) (Nat.le_refl _) h19) v_X9_value q_1264 rfl (Nat.le_trans (by decide) hd) g27 rfl rfl (Nat.le_of_ble_eq_true rfl) dX9_term_84 (Nat.le_refl _) (Nat.le_refl _) ?_
          refine h_aload_n dX9_term_87 rfl 1 rfl ?_
          refine h_iload_n dX9_term_88 rfl 0 rfl ?_
          refine h_iconst (v := 0) dX9_term_89 rfl ?_
          obtain ⟨g26, hf⟩ := hck_s hf
          obtain ⟨S22, h21, hf⟩ := hbd_s hf
          refine h_Vv [.int v13, .int 0] (rest := []) (m_X9_entry (d := 1) (cs := cs) (Nat.le_refl _) h21) v_X9_entry q_1272 rfl (Nat.le_trans (by decide) hd) g26 rfl rfl (Nat.le_of_ble_eq_true rfl) dX9_term_90 (Nat.le_refl _) (Nat.le_refl _) ?_
          refine h_aload_n dX9_term_93 rfl 1 rfl ?_
          obtain ⟨g25, hf⟩ := hck_s hf
          obtain ⟨S24, h23, hf⟩ := hbd_s hf
          refine h_Vv [] (rest := []) (m_X9_blanks (d := 2) (cs := cs) (Nat.le_refl _) h23) v_X9_blanks q_1175 rfl (Nat.le_trans (by decide) hd) g25 rfl rfl (Nat.le_of_ble_eq_true rfl) dX9_term_94 (Nat.le_refl _) (Nat.le_refl _) ?_
          refine h_goto (tgt := 8) dX9_term_97 (by decide) ?_
          refine h_sub (lv2 := [(0, .ref x0)]) [1] rfl ?_
          exact ih x0 S24 k0  hf hk0
        · intro J12 hJ12 hf
          refine h_icmp_ne (tgt := 56) dX9_term_48 (by decide) (fun c28 => ?_) (fun c28 => ?_)
          · replace hf := hif_n c28 hf
            refine h_aload_n dX9_term_56 rfl 0 rfl ?_
            obtain ⟨g33, hf⟩ := hck_s hf
            obtain ⟨t31, S30, h29, hf⟩ := hb2_s hf
            refine h_Vi [] (rest := []) (m_X9_sign (d := 1) (cs := cs) (Nat.le_refl _) h29) v_X9_sign q_1179 rfl (Nat.le_trans (by decide) hd) g33 rfl rfl (Nat.le_of_ble_eq_true rfl) dX9_term_57 (Nat.le_refl _) (Nat.le_refl _) ?_
            refine h_bipush (v := 47) dX9_term_60 rfl ?_
            refine h_icmp_ne (tgt := 70) dX9_term_62 (by decide) (fun c32 => ?_) (fun c32 => ?_)
            · replace hf := hif_n c32 hf
              refine h_bipush (v := 15) dX9_term_70 rfl ?_
              exact hJ12 15 S30 hf
            · replace hf := hif_p c32 hf
              refine h_bipush (v := 14) dX9_term_65 rfl ?_
              refine h_goto (tgt := 72) dX9_term_67 (by decide) ?_
              exact hJ12 14 S30 hf
          · replace hf := hif_p c28 hf
            refine h_bipush (v := 13) dX9_term_51 rfl ?_
            refine h_goto (tgt := 72) dX9_term_53 (by decide) ?_
            exact hJ12 13 S10 hf
      · intro J7 hJ7 hf
        refine h_icmp_eq (tgt := 42) dX9_term_21 (by decide) (fun c35 => ?_) (fun c35 => ?_)
        · replace hf := hif_p c35 hf
          exact hJ7 S5 hf
        · replace hf := hif_n c35 hf
          refine h_aload_n dX9_term_24 rfl 0 rfl ?_
          obtain ⟨g45, hf⟩ := hck_s hf
          obtain ⟨t38, S37, h36, hf⟩ := hb2_s hf
          refine h_Vi [] (rest := []) (m_X9_sign (d := 1) (cs := cs) (Nat.le_refl _) h36) v_X9_sign q_1179 rfl (Nat.le_trans (by decide) hd) g45 rfl rfl (Nat.le_of_ble_eq_true rfl) dX9_term_25 (Nat.le_refl _) (Nat.le_refl _) ?_
          refine h_bipush (v := 47) dX9_term_28 rfl ?_
          refine h_icmp_eq (tgt := 42) dX9_term_30 (by decide) (fun c39 => ?_) (fun c39 => ?_)
          · replace hf := hif_p c39 hf
            exact hJ7 S37 hf
          · replace hf := hif_n c39 hf
            refine h_aload_n dX9_term_33 rfl 0 rfl ?_
            obtain ⟨g44, hf⟩ := hck_s hf
            obtain ⟨t42, S41, h40, hf⟩ := hb2_s hf
            refine h_Vi [] (rest := []) (m_X9_sign (d := 1) (cs := cs) (Nat.le_refl _) h40) v_X9_sign q_1179 rfl (Nat.le_trans (by decide) hd) g44 rfl rfl (Nat.le_of_ble_eq_true rfl) dX9_term_34 (Nat.le_refl _) (Nat.le_refl _) ?_
            refine h_bipush (v := 37) dX9_term_37 rfl ?_
            refine h_icmp_ne (tgt := 100) dX9_term_39 (by decide) (fun c43 => ?_) (fun c43 => ?_)
            · replace hf := hif_n c43 hf
              refine h_sub (lv2 := []) [] rfl ?_
              exact hk0 S41 hf
            · replace hf := hif_p c43 hf
              exact hJ7 S41 hf
set_option maxRecDepth 100000 in
set_option maxHeartbeats 4000000 in
theorem m_X9_term {d : Nat} {cs : Nat → Nat} {a0 : Nat} {S : hS} {r : hS} (hd : 7 ≤ d) (hf : f_X9_term a0 S = some r) : HM yX9_term cX9_term 2 none d 0 0 cs [.ref a0] S (none) r := by
  unfold f_X9_term at hf
  refine HM.ofHW false (by decide) (fun h => by cases h) (Nat.le_of_ble_eq_true rfl) ?_
  show HW cX9_term RX9 (x_X9_term d S [.ref a0] r cs) 0 0 S 0 [(0, .ref a0)] []
  refine h_aload_n dX9_term_0 rfl 0 rfl ?_
  obtain ⟨g53, hf⟩ := hck_s hf
  obtain ⟨S48, h47, hf⟩ := hbd_s hf
  refine h_Vv [] (rest := []) (m_X9_value (d := 6) (cs := cs) (Nat.le_refl _) h47) v_X9_value q_1264 rfl (Nat.le_trans (by decide) hd) g53 rfl rfl (Nat.le_of_ble_eq_true rfl) dX9_term_1 (Nat.le_refl _) (Nat.le_refl _) ?_
  refine h_aload_n dX9_term_4 rfl 0 rfl ?_
  obtain ⟨g52, hf⟩ := hck_s hf
  obtain ⟨S50, h49, hf⟩ := hbd_s hf
  refine h_Vv [] (rest := []) (m_X9_blanks (d := 2) (cs := cs) (Nat.le_refl _) h49) v_X9_blanks q_1175 rfl (Nat.le_trans (by decide) hd) g52 rfl rfl (Nat.le_of_ble_eq_true rfl) dX9_term_5 (Nat.le_refl _) (Nat.le_refl _) ?_
  refine w_X9_term_L8 hd hfuel a0 S50 _  hf ?_
  · intro S51 hf
    obtain rfl := Option.some.inj hf
    exact h_vret rfl rfl rfl (Nat.le_refl _) (Nat.le_refl _) dX9_term_100
abbrev x_X9_sum (d : Nat) (S0 : hS) (args : List Value) (r : hS) (cs : Nat → Nat) : hX := ((none, 2, d, 0, 0, false), (S0, args, none, r), cs)
theorem v_X9_sum : hVW yX9_sum cX9_sum 2 none RX9 0 := ⟨q_1258, q_s51, q_9, q_1259, by decide +kernel, by decide⟩
def f_X9_sum_L4 : Nat → Nat → hS → (hS → Option (hS)) → Option (hS)
  | 0, _, _, _ => none
  | n + 1, x0, S, k0 =>
    hbd (gI S x0 9 25) fun t1 =>
    if t1 = 0 then
      (hck (S.K x0 = 10) <|
       hb2 (f_X9_sign x0 S) fun t6 S5 =>
       hj (γ := hS → Option (hS)) (fun (S8 : hS) =>
         hck (S8.K x0 = 10) <|
         hb2 (f_X9_sign x0 S8) fun t11 S10 =>
         hj (γ := Int32 → Option (hS)) (fun (v13 : Int32) =>
           hbd (gI S10 x0 9 24) fun t14 =>
           hbd (sI S10 x0 9 24 (t14 + 1)) fun S16 =>
           hck (S16.K x0 = 10) <|
           hbd (f_X9_term x0 S16) fun S19 =>
           hck (S19.K x0 = 10) <|
           hbd (f_X9_entry x0 v13 0 S19) fun S21 =>
           f_X9_sum_L4 n x0 S21 k0
           ) fun J12 =>
         if t11 = 43 then
           (J12 2)
         else
           (J12 3)
         ) fun J7 =>
       if t6 = 43 then
         (J7 S5)
       else
         (hck (S5.K x0 = 10) <|
          hb2 (f_X9_sign x0 S5) fun t29 S28 =>
          if t29 = 45 then
            (J7 S28)
          else
            (k0 S28)))
    else
      (k0 S)
def f_X9_sum (a0 : Nat) (S : hS) : Option (hS) :=
  hck (S.K a0 = 10) <|
  hbd (f_X9_term a0 S) fun S34 =>
  f_X9_sum_L4 hfuel a0 S34
    (fun S35 =>
      some S35
    )
set_option maxRecDepth 100000 in
set_option maxHeartbeats 4000000 in
theorem w_X9_sum_L4 {d : Nat} {S0 : hS} {args : List Value} {cs : Nat → Nat} {r : hS} (hd : 8 ≤ d) : ∀ (n : Nat) (x0 : Nat) (S : hS) (k0 : (hS → Option (hS))) , f_X9_sum_L4 n x0 S k0 = some r → (∀ (T : hS), k0 T = some r → HW cX9_sum RX9 (x_X9_sum d S0 args r cs) 0 0 T 67 [] []) → HW cX9_sum RX9 (x_X9_sum d S0 args r cs) 0 0 S 4 [(0, .ref x0)] [] := by
  intro n
  induction n with
  | zero =>
    intro x0 S k0 hf
    cases hf
  | succ n ih =>
    intro x0 S k0 hf hk0
    rw [f_X9_sum_L4] at hf
    refine h_aload_n dX9_sum_4 rfl 0 rfl ?_
    obtain ⟨t1, h2, hf⟩ := hbd_s hf
    refine h_getI h2 rfl (Nat.le_of_ble_eq_true rfl) rfl q_985 rfl dX9_sum_5 ?_
    refine h_if_ne (tgt := 67) dX9_sum_8 (by decide) (fun c3 => ?_) (fun c3 => ?_)
    · replace hf := hif_n c3 hf
      refine h_sub (lv2 := []) [] rfl ?_
      exact hk0 S hf
    · replace hf := hif_p c3 hf
      refine h_aload_n dX9_sum_11 rfl 0 rfl ?_
      obtain ⟨g32, hf⟩ := hck_s hf
      obtain ⟨t6, S5, h4, hf⟩ := hb2_s hf
      refine h_Vi [] (rest := []) (m_X9_sign (d := 1) (cs := cs) (Nat.le_refl _) h4) v_X9_sign q_1179 rfl (Nat.le_trans (by decide) hd) g32 rfl rfl (Nat.le_of_ble_eq_true rfl) dX9_sum_12 (Nat.le_refl _) (Nat.le_refl _) ?_
      refine h_bipush (v := 43) dX9_sum_15 rfl ?_
      refine hj_s (fun J7 => ∀ (S8 : hS), J7 S8 = some r → HW cX9_sum RX9 (x_X9_sum d S0 args r cs) 0 0 S8 29 [(0, .ref x0)] []) hf ?_ ?_
      · intro S8 hf
        refine h_aload_n dX9_sum_29 rfl 0 rfl ?_
        obtain ⟨g25, hf⟩ := hck_s hf
        obtain ⟨t11, S10, h9, hf⟩ := hb2_s hf
        refine h_Vi [] (rest := []) (m_X9_sign (d := 1) (cs := cs) (Nat.le_refl _) h9) v_X9_sign q_1179 rfl (Nat.le_trans (by decide) hd) g25 rfl rfl (Nat.le_of_ble_eq_true rfl) dX9_sum_30 (Nat.le_refl _) (Nat.le_refl _) ?_
        refine h_bipush (v := 43) dX9_sum_33 rfl ?_
        refine hj_s (fun J12 => ∀ (v13 : Int32), J12 v13 = some r → HW cX9_sum RX9 (x_X9_sum d S0 args r cs) 0 0 S10 43 [(0, .ref x0)] [.int v13]) hf ?_ ?_
        · intro v13 hf
          refine h_istore_n (lv2 := [(1, .int v13), (0, .ref x0)]) dX9_sum_43 rfl (Nat.le_of_ble_eq_true rfl) rfl ?_
          refine h_aload_n dX9_sum_44 rfl 1 rfl ?_
          refine h_dup dX9_sum_45 rfl ?_
          obtain ⟨t14, h15, hf⟩ := hbd_s hf
          refine h_getI h15 rfl (Nat.le_of_ble_eq_true rfl) rfl q_984 rfl dX9_sum_46 ?_
          refine h_iconst (v := 1) dX9_sum_49 rfl ?_
          refine h_iadd dX9_sum_50 ?_
          obtain ⟨S16, h17, hf⟩ := hbd_s hf
          refine h_putI h17 rfl (Nat.le_of_ble_eq_true rfl) rfl q_984 rfl rfl (by decide +kernel) dX9_sum_51 ?_
          refine h_aload_n dX9_sum_54 rfl 1 rfl ?_
          obtain ⟨g23, hf⟩ := hck_s hf
          obtain ⟨S19, h18, hf⟩ := hbd_s hf
          refine h_Vv [] (rest := []) (m_X9_term (d := 7) (cs := cs) (Nat.le_refl _) h18) v_X9_term q_1260 rfl (Nat.le_trans (by decide) hd) g23 rfl rfl (Nat.le_of_ble_eq_true rfl) dX9_sum_55 (Nat.le_refl _) (Nat.le_refl _) ?_
          refine h_aload_n dX9_sum_58 rfl 1 rfl ?_
          refine h_iload_n dX9_sum_59 rfl 0 rfl ?_
          refine h_iconst (v := 0) dX9_sum_60 rfl ?_
          obtain ⟨g22, hf⟩ := hck_s hf
          obtain ⟨S21, h20, hf⟩ := hbd_s hf
          refine h_Vv [.int v13, .int 0] (rest := []) (m_X9_entry (d := 1) (cs := cs) (Nat.le_refl _) h20) v_X9_entry q_1272 rfl (Nat.le_trans (by decide) hd) g22 rfl rfl (Nat.le_of_ble_eq_true rfl) dX9_sum_61 (Nat.le_refl _) (Nat.le_refl _) ?_
          refine h_goto (tgt := 4) dX9_sum_64 (by decide) ?_
          refine h_sub (lv2 := [(0, .ref x0)]) [1] rfl ?_
          exact ih x0 S21 k0  hf hk0
        · intro J12 hJ12 hf
          refine h_icmp_ne (tgt := 42) dX9_sum_35 (by decide) (fun c24 => ?_) (fun c24 => ?_)
          · replace hf := hif_n c24 hf
            refine h_iconst (v := 3) dX9_sum_42 rfl ?_
            exact hJ12 3 hf
          · replace hf := hif_p c24 hf
            refine h_iconst (v := 2) dX9_sum_38 rfl ?_
            refine h_goto (tgt := 43) dX9_sum_39 (by decide) ?_
            exact hJ12 2 hf
      · intro J7 hJ7 hf
        refine h_icmp_eq (tgt := 29) dX9_sum_17 (by decide) (fun c26 => ?_) (fun c26 => ?_)
        · replace hf := hif_p c26 hf
          exact hJ7 S5 hf
        · replace hf := hif_n c26 hf
          refine h_aload_n dX9_sum_20 rfl 0 rfl ?_
          obtain ⟨g31, hf⟩ := hck_s hf
          obtain ⟨t29, S28, h27, hf⟩ := hb2_s hf
          refine h_Vi [] (rest := []) (m_X9_sign (d := 1) (cs := cs) (Nat.le_refl _) h27) v_X9_sign q_1179 rfl (Nat.le_trans (by decide) hd) g31 rfl rfl (Nat.le_of_ble_eq_true rfl) dX9_sum_21 (Nat.le_refl _) (Nat.le_refl _) ?_
          refine h_bipush (v := 45) dX9_sum_24 rfl ?_
          refine h_icmp_ne (tgt := 67) dX9_sum_26 (by decide) (fun c30 => ?_) (fun c30 => ?_)
          · replace hf := hif_n c30 hf
            refine h_sub (lv2 := []) [] rfl ?_
            exact hk0 S28 hf
          · replace hf := hif_p c30 hf
            exact hJ7 S28 hf
set_option maxRecDepth 100000 in
set_option maxHeartbeats 4000000 in
theorem m_X9_sum {d : Nat} {cs : Nat → Nat} {a0 : Nat} {S : hS} {r : hS} (hd : 8 ≤ d) (hf : f_X9_sum a0 S = some r) : HM yX9_sum cX9_sum 2 none d 0 0 cs [.ref a0] S (none) r := by
  unfold f_X9_sum at hf
  refine HM.ofHW false (by decide) (fun h => by cases h) (Nat.le_of_ble_eq_true rfl) ?_
  show HW cX9_sum RX9 (x_X9_sum d S [.ref a0] r cs) 0 0 S 0 [(0, .ref a0)] []
  refine h_aload_n dX9_sum_0 rfl 0 rfl ?_
  obtain ⟨g36, hf⟩ := hck_s hf
  obtain ⟨S34, h33, hf⟩ := hbd_s hf
  refine h_Vv [] (rest := []) (m_X9_term (d := 7) (cs := cs) (Nat.le_refl _) h33) v_X9_term q_1260 rfl (Nat.le_trans (by decide) hd) g36 rfl rfl (Nat.le_of_ble_eq_true rfl) dX9_sum_1 (Nat.le_refl _) (Nat.le_refl _) ?_
  refine w_X9_sum_L4 hd hfuel a0 S34 _  hf ?_
  · intro S35 hf
    obtain rfl := Option.some.inj hf
    exact h_vret rfl rfl rfl (Nat.le_refl _) (Nat.le_refl _) dX9_sum_67
abbrev x_X9_compared (d : Nat) (S0 : hS) (args : List Value) (r : hS) (cs : Nat → Nat) : hX := ((none, 3, d, 0, 0, false), (S0, args, none, r), cs)
theorem v_X9_compared : hVW yX9_compared cX9_compared 3 none RX9 0 := ⟨q_1308, q_s60, q_9, q_1309, by decide +kernel, by decide⟩
def f_X9_compared (a0 : Nat) (S : hS) : Option (hS) :=
  hck (S.K a0 = 10) <|
  hbd (f_X9_sum a0 S) fun S2 =>
  hck (S2.K a0 = 10) <|
  hb2 (f_X9_sign a0 S2) fun t5 S4 =>
  hj (γ := Unit → Option (hS)) (fun (_ : Unit) =>
    hbd (gI S4 a0 9 24) fun t7 =>
    hck (S4.K a0 = 10) <|
    hbd (f_X9_isCounted a0 t7 S4) fun S10 =>
    hbd (gI S10 a0 9 24) fun t11 =>
    hbd (sI S10 a0 9 24 (t11 + 1)) fun S13 =>
    hj (γ := Int32 → hS → Option (hS)) (fun (v16 : Int32) (S17 : hS) =>
      hbd (gI S17 a0 9 24) fun t18 =>
      hj (γ := Int32 → Option (hS)) (fun (v21 : Int32) =>
        hbd (sI S17 a0 9 24 (t18 + v21)) fun S22 =>
        hck (S22.K a0 = 10) <|
        hbd (f_X9_sum a0 S22) fun S25 =>
        hj (γ := Int32 → Option (hS)) (fun (v27 : Int32) =>
          hck (S25.K a0 = 10) <|
          hbd (f_X9_entry a0 v27 0 S25) fun S29 =>
          some S29
          ) fun J26 =>
        if t5 = 61 then
          (J26 6)
        else
          (if t5 = 60 then
             (if v16 = 0 then
                (J26 4)
              else
                (J26 5))
           else
             (if v16 = 0 then
                (J26 8)
              else
                (J26 7)))
        ) fun J20 =>
      if v16 = 0 then
        (J20 0)
      else
        (J20 1)
      ) fun J15 =>
    hj (γ := hS → Option (hS)) (fun (S38 : hS) =>
      J15 0 S38
      ) fun J37 =>
    if t5 = 61 then
      (J37 S13)
    else
      (hck (S13.K a0 = 10) <|
       hb2 (f_X9_sign a0 S13) fun t42 S41 =>
       if t42 = 61 then
         (J15 1 S41)
       else
         (J37 S41))
    ) fun J6 =>
  if t5 = 60 then
    (J6 ())
  else
    (if t5 = 61 then
       (J6 ())
     else
       (if t5 = 62 then
          (J6 ())
        else
          (hbd (gI S4 a0 9 24) fun t49 =>
           hck (S4.K a0 = 10) <|
           hbd (f_X9_fails a0 0 t49 S4) fun S52 =>
           some S52)))
set_option maxRecDepth 100000 in
set_option maxHeartbeats 4000000 in
theorem m_X9_compared {d : Nat} {cs : Nat → Nat} {a0 : Nat} {S : hS} {r : hS} (hd : 9 ≤ d) (hf : f_X9_compared a0 S = some r) : HM yX9_compared cX9_compared 3 none d 0 0 cs [.ref a0] S (none) r := by
  unfold f_X9_compared at hf
  refine HM.ofHW false (by decide) (fun h => by cases h) (Nat.le_of_ble_eq_true rfl) ?_
  show HW cX9_compared RX9 (x_X9_compared d S [.ref a0] r cs) 0 0 S 0 [(0, .ref a0)] []
  refine h_aload_n dX9_compared_0 rfl 0 rfl ?_
  obtain ⟨g55, hf⟩ := hck_s hf
  obtain ⟨S2, h1, hf⟩ := hbd_s hf
  refine h_Vv [] (rest := []) (m_X9_sum (d := 8) (cs := cs) (Nat.le_refl _) h1) v_X9_sum q_1256 rfl (Nat.le_trans (by decide) hd) g55 rfl rfl (Nat.le_of_ble_eq_true rfl) dX9_compared_1 (Nat.le_refl _) (Nat.le_refl _) ?_
  refine h_aload_n dX9_compared_4 rfl 0 rfl ?_
  obtain ⟨g54, hf⟩ := hck_s hf
  obtain ⟨t5, S4, h3, hf⟩ := hb2_s hf
  refine h_Vi [] (rest := []) (m_X9_sign (d := 1) (cs := cs) (Nat.le_refl _) h3) v_X9_sign q_1179 rfl (Nat.le_trans (by decide) hd) g54 rfl rfl (Nat.le_of_ble_eq_true rfl) dX9_compared_5 (Nat.le_refl _) (Nat.le_refl _) ?_
  refine h_istore_n (lv2 := [(1, .int t5), (0, .ref a0)]) dX9_compared_8 rfl (Nat.le_of_ble_eq_true rfl) rfl ?_
  refine h_iload_n dX9_compared_9 rfl 0 rfl ?_
  refine h_bipush (v := 60) dX9_compared_10 rfl ?_
  refine hj_s (fun J6 => ∀ (w : Unit), J6 w = some r → HW cX9_compared RX9 (x_X9_compared d S [.ref a0] r cs) 0 0 S4 37 [(0, .ref a0), (1, .int t5)] []) hf ?_ ?_
  · intro w hf
    refine h_aload_n dX9_compared_37 rfl 0 rfl ?_
    refine h_aload_n dX9_compared_38 rfl 0 rfl ?_
    obtain ⟨t7, h8, hf⟩ := hbd_s hf
    refine h_getI h8 rfl (Nat.le_of_ble_eq_true rfl) rfl q_984 rfl dX9_compared_39 ?_
    obtain ⟨g45, hf⟩ := hck_s hf
    obtain ⟨S10, h9, hf⟩ := hbd_s hf
    refine h_Vv [.int t7] (rest := []) (m_X9_isCounted (d := 2) (cs := cs) (Nat.le_refl _) h9) v_X9_isCounted q_1268 rfl (Nat.le_trans (by decide) hd) g45 rfl rfl (Nat.le_of_ble_eq_true rfl) dX9_compared_42 (Nat.le_refl _) (Nat.le_refl _) ?_
    refine h_aload_n dX9_compared_45 rfl 0 rfl ?_
    refine h_dup dX9_compared_46 rfl ?_
    obtain ⟨t11, h12, hf⟩ := hbd_s hf
    refine h_getI h12 rfl (Nat.le_of_ble_eq_true rfl) rfl q_984 rfl dX9_compared_47 ?_
    refine h_iconst (v := 1) dX9_compared_50 rfl ?_
    refine h_iadd dX9_compared_51 ?_
    obtain ⟨S13, h14, hf⟩ := hbd_s hf
    refine h_putI h14 rfl (Nat.le_of_ble_eq_true rfl) rfl q_984 rfl rfl (by decide +kernel) dX9_compared_52 ?_
    refine h_iload_n dX9_compared_55 rfl 1 rfl ?_
    refine h_bipush (v := 61) dX9_compared_56 rfl ?_
    refine hj_s (fun J15 => ∀ (v16 : Int32) (S17 : hS), J15 v16 S17 = some r → HW cX9_compared RX9 (x_X9_compared d S [.ref a0] r cs) 0 0 S17 75 [(0, .ref a0), (1, .int t5)] [.int v16]) hf ?_ ?_
    · intro v16 S17 hf
      refine h_istore_n (lv2 := [(2, .int v16), (0, .ref a0), (1, .int t5)]) dX9_compared_75 rfl (Nat.le_of_ble_eq_true rfl) rfl ?_
      refine h_aload_n dX9_compared_76 rfl 1 rfl ?_
      refine h_dup dX9_compared_77 rfl ?_
      obtain ⟨t18, h19, hf⟩ := hbd_s hf
      refine h_getI h19 rfl (Nat.le_of_ble_eq_true rfl) rfl q_984 rfl dX9_compared_78 ?_
      refine h_iload_n dX9_compared_81 rfl 0 rfl ?_
      refine hj_s (fun J20 => ∀ (v21 : Int32), J20 v21 = some r → HW cX9_compared RX9 (x_X9_compared d S [.ref a0] r cs) 0 0 S17 90 [(0, .ref a0), (1, .int t5), (2, .int v16)] [.int v21, .int t18, .ref a0]) hf ?_ ?_
      · intro v21 hf
        refine h_iadd dX9_compared_90 ?_
        obtain ⟨S22, h23, hf⟩ := hbd_s hf
        refine h_putI h23 rfl (Nat.le_of_ble_eq_true rfl) rfl q_984 rfl rfl (by decide +kernel) dX9_compared_91 ?_
        refine h_aload_n dX9_compared_94 rfl 0 rfl ?_
        obtain ⟨g35, hf⟩ := hck_s hf
        obtain ⟨S25, h24, hf⟩ := hbd_s hf
        refine h_Vv [] (rest := []) (m_X9_sum (d := 8) (cs := cs) (Nat.le_refl _) h24) v_X9_sum q_1256 rfl (Nat.le_trans (by decide) hd) g35 rfl rfl (Nat.le_of_ble_eq_true rfl) dX9_compared_95 (Nat.le_refl _) (Nat.le_refl _) ?_
        refine h_aload_n dX9_compared_98 rfl 0 rfl ?_
        refine h_iload_n dX9_compared_99 rfl 1 rfl ?_
        refine h_bipush (v := 61) dX9_compared_100 rfl ?_
        refine hj_s (fun J26 => ∀ (v27 : Int32), J26 v27 = some r → HW cX9_compared RX9 (x_X9_compared d S [.ref a0] r cs) 0 0 S25 139 [] [.int v27, .ref a0]) hf ?_ ?_
        · intro v27 hf
          refine h_iconst (v := 0) dX9_compared_139 rfl ?_
          obtain ⟨g30, hf⟩ := hck_s hf
          obtain ⟨S29, h28, hf⟩ := hbd_s hf
          refine h_Vv [.int v27, .int 0] (rest := []) (m_X9_entry (d := 1) (cs := cs) (Nat.le_refl _) h28) v_X9_entry q_1272 rfl (Nat.le_trans (by decide) hd) g30 rfl rfl (Nat.le_of_ble_eq_true rfl) dX9_compared_140 (Nat.le_refl _) (Nat.le_refl _) ?_
          obtain rfl := Option.some.inj hf
          exact h_vret rfl rfl rfl (Nat.le_refl _) (Nat.le_refl _) dX9_compared_143
        · intro J26 hJ26 hf
          refine h_icmp_ne (tgt := 110) dX9_compared_102 (by decide) (fun c31 => ?_) (fun c31 => ?_)
          · replace hf := hif_n c31 hf
            refine h_iload_n dX9_compared_110 rfl 1 rfl ?_
            refine h_bipush (v := 60) dX9_compared_111 rfl ?_
            refine h_icmp_ne (tgt := 128) dX9_compared_113 (by decide) (fun c32 => ?_) (fun c32 => ?_)
            · replace hf := hif_n c32 hf
              refine h_iload_n dX9_compared_128 rfl 2 rfl ?_
              refine h_if_eq (tgt := 137) dX9_compared_129 (by decide) (fun c33 => ?_) (fun c33 => ?_)
              · replace hf := hif_p c33 hf
                refine h_bipush (v := 8) dX9_compared_137 rfl ?_
                refine h_sub (lv2 := []) [] rfl ?_
                exact hJ26 8 hf
              · replace hf := hif_n c33 hf
                refine h_bipush (v := 7) dX9_compared_132 rfl ?_
                refine h_goto (tgt := 139) dX9_compared_134 (by decide) ?_
                refine h_sub (lv2 := []) [] rfl ?_
                exact hJ26 7 hf
            · replace hf := hif_p c32 hf
              refine h_iload_n dX9_compared_116 rfl 2 rfl ?_
              refine h_if_eq (tgt := 124) dX9_compared_117 (by decide) (fun c34 => ?_) (fun c34 => ?_)
              · replace hf := hif_p c34 hf
                refine h_iconst (v := 4) dX9_compared_124 rfl ?_
                refine h_goto (tgt := 139) dX9_compared_125 (by decide) ?_
                refine h_sub (lv2 := []) [] rfl ?_
                exact hJ26 4 hf
              · replace hf := hif_n c34 hf
                refine h_iconst (v := 5) dX9_compared_120 rfl ?_
                refine h_goto (tgt := 139) dX9_compared_121 (by decide) ?_
                refine h_sub (lv2 := []) [] rfl ?_
                exact hJ26 5 hf
          · replace hf := hif_p c31 hf
            refine h_bipush (v := 6) dX9_compared_105 rfl ?_
            refine h_goto (tgt := 139) dX9_compared_107 (by decide) ?_
            refine h_sub (lv2 := []) [] rfl ?_
            exact hJ26 6 hf
      · intro J20 hJ20 hf
        refine h_if_eq (tgt := 89) dX9_compared_82 (by decide) (fun c36 => ?_) (fun c36 => ?_)
        · replace hf := hif_p c36 hf
          refine h_iconst (v := 0) dX9_compared_89 rfl ?_
          refine h_sub (lv2 := [(0, .ref a0), (1, .int t5), (2, .int v16)]) [1, 2, 0] rfl ?_
          exact hJ20 0 hf
        · replace hf := hif_n c36 hf
          refine h_iconst (v := 1) dX9_compared_85 rfl ?_
          refine h_goto (tgt := 90) dX9_compared_86 (by decide) ?_
          refine h_sub (lv2 := [(0, .ref a0), (1, .int t5), (2, .int v16)]) [1, 2, 0] rfl ?_
          exact hJ20 1 hf
    · intro J15 hJ15 hf
      refine hj_s (fun J37 => ∀ (S38 : hS), J37 S38 = some r → HW cX9_compared RX9 (x_X9_compared d S [.ref a0] r cs) 0 0 S38 74 [(0, .ref a0), (1, .int t5)] []) hf ?_ ?_
      · intro S38 hf
        refine h_iconst (v := 0) dX9_compared_74 rfl ?_
        exact hJ15 0 S38 hf
      · intro J37 hJ37 hf
        refine h_icmp_eq (tgt := 74) dX9_compared_58 (by decide) (fun c39 => ?_) (fun c39 => ?_)
        · replace hf := hif_p c39 hf
          exact hJ37 S13 hf
        · replace hf := hif_n c39 hf
          refine h_aload_n dX9_compared_61 rfl 0 rfl ?_
          obtain ⟨g44, hf⟩ := hck_s hf
          obtain ⟨t42, S41, h40, hf⟩ := hb2_s hf
          refine h_Vi [] (rest := []) (m_X9_sign (d := 1) (cs := cs) (Nat.le_refl _) h40) v_X9_sign q_1179 rfl (Nat.le_trans (by decide) hd) g44 rfl rfl (Nat.le_of_ble_eq_true rfl) dX9_compared_62 (Nat.le_refl _) (Nat.le_refl _) ?_
          refine h_bipush (v := 61) dX9_compared_65 rfl ?_
          refine h_icmp_ne (tgt := 74) dX9_compared_67 (by decide) (fun c43 => ?_) (fun c43 => ?_)
          · replace hf := hif_n c43 hf
            exact hJ37 S41 hf
          · replace hf := hif_p c43 hf
            refine h_iconst (v := 1) dX9_compared_70 rfl ?_
            refine h_goto (tgt := 75) dX9_compared_71 (by decide) ?_
            exact hJ15 1 S41 hf
  · intro J6 hJ6 hf
    refine h_icmp_eq (tgt := 37) dX9_compared_12 (by decide) (fun c46 => ?_) (fun c46 => ?_)
    · replace hf := hif_p c46 hf
      refine h_sub (lv2 := [(0, .ref a0), (1, .int t5)]) [1, 0] rfl ?_
      exact hJ6 () hf
    · replace hf := hif_n c46 hf
      refine h_iload_n dX9_compared_15 rfl 0 rfl ?_
      refine h_bipush (v := 61) dX9_compared_16 rfl ?_
      refine h_icmp_eq (tgt := 37) dX9_compared_18 (by decide) (fun c47 => ?_) (fun c47 => ?_)
      · replace hf := hif_p c47 hf
        refine h_sub (lv2 := [(0, .ref a0), (1, .int t5)]) [1, 0] rfl ?_
        exact hJ6 () hf
      · replace hf := hif_n c47 hf
        refine h_iload_n dX9_compared_21 rfl 0 rfl ?_
        refine h_bipush (v := 62) dX9_compared_22 rfl ?_
        refine h_icmp_eq (tgt := 37) dX9_compared_24 (by decide) (fun c48 => ?_) (fun c48 => ?_)
        · replace hf := hif_p c48 hf
          refine h_sub (lv2 := [(0, .ref a0), (1, .int t5)]) [1, 0] rfl ?_
          exact hJ6 () hf
        · replace hf := hif_n c48 hf
          refine h_aload_n dX9_compared_27 rfl 1 rfl ?_
          refine h_iconst (v := 0) dX9_compared_28 rfl ?_
          refine h_aload_n dX9_compared_29 rfl 1 rfl ?_
          obtain ⟨t49, h50, hf⟩ := hbd_s hf
          refine h_getI h50 rfl (Nat.le_of_ble_eq_true rfl) rfl q_984 rfl dX9_compared_30 ?_
          obtain ⟨g53, hf⟩ := hck_s hf
          obtain ⟨S52, h51, hf⟩ := hbd_s hf
          refine h_Vv [.int 0, .int t49] (rest := []) (m_X9_fails (d := 1) (cs := cs) (Nat.le_refl _) h51) v_X9_fails q_1198 rfl (Nat.le_trans (by decide) hd) g53 rfl rfl (Nat.le_of_ble_eq_true rfl) dX9_compared_33 (Nat.le_refl _) (Nat.le_refl _) ?_
          obtain rfl := Option.some.inj hf
          exact h_vret rfl rfl rfl (Nat.le_refl _) (Nat.le_refl _) dX9_compared_36
abbrev x_X9_top (d : Nat) (S0 : hS) (args : List Value) (r : Int32 × hS) (cs : Nat → Nat) : hX := (((some .int), 1, d, 0, 0, false), (S0, args, some (.int r.1), r.2), cs)
theorem v_X9_top : hVW yX9_top cX9_top 1 (some .int) RX9 0 := ⟨q_1316, q_s62, q_9, q_1317, by decide +kernel, by decide⟩
def f_X9_top (a0 : Nat) (S : hS) : Option (Int32 × hS) :=
  hbd (gI S a0 9 31) fun t1 =>
  if t1 = 0 then
    (some ((-1), S))
  else
    (hbd (gR S a0 9 41) fun t4 =>
     hbd (gI S a0 9 31) fun t6 =>
     hbd (gA S t4 12 (t6 - 1)) fun t8 =>
     some (t8, S))
set_option maxRecDepth 100000 in
set_option maxHeartbeats 4000000 in
theorem m_X9_top {d : Nat} {cs : Nat → Nat} {a0 : Nat} {S : hS} {r : Int32 × hS} (hd : 1 ≤ d) (hf : f_X9_top a0 S = some r) : HM yX9_top cX9_top 1 (some .int) d 0 0 cs [.ref a0] S (some (.int r.1)) r.2 := by
  unfold f_X9_top at hf
  refine HM.ofHW false (by decide) (fun h => by cases h) (Nat.le_of_ble_eq_true rfl) ?_
  show HW cX9_top RX9 (x_X9_top d S [.ref a0] r cs) 0 0 S 0 [(0, .ref a0)] []
  refine h_aload_n dX9_top_0 rfl 0 rfl ?_
  obtain ⟨t1, h2, hf⟩ := hbd_s hf
  refine h_getI h2 rfl (Nat.le_of_ble_eq_true rfl) rfl q_991 rfl dX9_top_1 ?_
  refine h_if_ne (tgt := 11) dX9_top_4 (by decide) (fun c3 => ?_) (fun c3 => ?_)
  · replace hf := hif_n c3 hf
    refine h_aload_n dX9_top_11 rfl 0 rfl ?_
    obtain ⟨t4, h5, hf⟩ := hbd_s hf
    refine h_getR h5 rfl (Nat.le_of_ble_eq_true rfl) rfl q_1001 rfl dX9_top_12 ?_
    refine h_aload_n dX9_top_15 rfl 0 rfl ?_
    obtain ⟨t6, h7, hf⟩ := hbd_s hf
    refine h_getI h7 rfl (Nat.le_of_ble_eq_true rfl) rfl q_991 rfl dX9_top_16 ?_
    refine h_iconst (v := 1) dX9_top_19 rfl ?_
    refine h_isub dX9_top_20 ?_
    obtain ⟨t8, h9, hf⟩ := hbd_s hf
    refine h_iald h9 dX9_top_21 ?_
    obtain rfl := Option.some.inj hf
    exact h_iret rfl rfl rfl (Nat.le_refl _) (Nat.le_refl _) dX9_top_22
  · replace hf := hif_p c3 hf
    refine h_iconst (v := (-1)) dX9_top_7 rfl ?_
    refine h_goto (tgt := 22) dX9_top_8 (by decide) ?_
    obtain rfl := Option.some.inj hf
    exact h_iret rfl rfl rfl (Nat.le_refl _) (Nat.le_refl _) dX9_top_22
