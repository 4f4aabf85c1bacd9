abbrev x_X9_opens (d : Nat) (S0 : hS) (args : List Value) (r : hS) (cs : Nat → Nat) : hX := ((none, 2, d, 0, 0, false), (S0, args, none, r), cs)
theorem v_X9_opens : hVW yX9_opens cX9_opens 2 none RX9 1 := ⟨q_1304, q_s59, q_9, q_1305, by decide +kernel, by decide⟩
def f_X9_opens (a0 : Nat) (a1 : Int32) (S : hS) : Option (hS) :=
  hj (γ := hS → Option (hS)) (fun (S2 : hS) =>
    hbd (gR S2 a0 9 41) fun t3 =>
    hbd (gI S2 a0 9 31) fun t5 =>
    hbd (sA S2 t3 t5 a1) fun S7 =>
    hbd (gI S7 a0 9 31) fun t9 =>
    hbd (sI S7 a0 9 31 (t9 + 1)) fun S11 =>
    some S11
    ) fun J1 =>
  hj (γ := Unit → Option (hS)) (fun (_ : Unit) =>
    hbd (gI S a0 9 29) fun t14 =>
    hj (γ := hS → Option (hS)) (fun (S17 : hS) =>
      hbd (gI S17 a0 9 29) fun t18 =>
      hbd (sI S17 a0 9 29 (t18 + 1)) fun S20 =>
      J1 S20
      ) fun J16 =>
    if t14 = 10 then
      (hbd (gI S a0 9 24) fun t23 =>
       hck (S.K a0 = 10) <|
       hbd (f_X9_fails a0 2 t23 S) fun S26 =>
       J16 S26)
    else
      (J16 S)
    ) fun J13 =>
  if a1 = 9 then
    (J13 ())
  else
    (if a1 = 12 then
       (J13 ())
     else
       (J1 S))
set_option maxRecDepth 100000 in
set_option maxHeartbeats 4000000 in
theorem m_X9_opens {d : Nat} {cs : Nat → Nat} {a0 : Nat} {a1 : Int32} {S : hS} {r : hS} (hd : 2 ≤ d) (hf : f_X9_opens a0 a1 S = some r) : HM yX9_opens cX9_opens 2 none d 0 0 cs [.ref a0, .int a1] S (none) r := by
  unfold f_X9_opens at hf
  refine HM.ofHW false (by decide) (fun h => by cases h) (Nat.le_of_ble_eq_true rfl) ?_
  show HW cX9_opens RX9 (x_X9_opens d S [.ref a0, .int a1] r cs) 0 0 S 0 [(0, .ref a0), (1, .int a1)] []
  refine h_iload_n dX9_opens_0 rfl 1 rfl ?_
  refine h_bipush (v := 9) dX9_opens_1 rfl ?_
  refine hj_s (fun J1 => ∀ (S2 : hS), J1 S2 = some r → HW cX9_opens RX9 (x_X9_opens d S [.ref a0, .int a1] r cs) 0 0 S2 40 [(0, .ref a0), (1, .int a1)] []) hf ?_ ?_
  · intro S2 hf
    refine h_aload_n dX9_opens_40 rfl 0 rfl ?_
    obtain ⟨t3, h4, hf⟩ := hbd_s hf
    refine h_getR h4 rfl (Nat.le_of_ble_eq_true rfl) rfl q_1001 rfl dX9_opens_41 ?_
    refine h_aload_n dX9_opens_44 rfl 0 rfl ?_
    obtain ⟨t5, h6, hf⟩ := hbd_s hf
    refine h_getI h6 rfl (Nat.le_of_ble_eq_true rfl) rfl q_991 rfl dX9_opens_45 ?_
    refine h_iload_n dX9_opens_48 rfl 1 rfl ?_
    obtain ⟨S7, h8, hf⟩ := hbd_s hf
    refine h_iast h8 dX9_opens_49 ?_
    refine h_aload_n dX9_opens_50 rfl 0 rfl ?_
    refine h_dup dX9_opens_51 rfl ?_
    obtain ⟨t9, h10, hf⟩ := hbd_s hf
    refine h_getI h10 rfl (Nat.le_of_ble_eq_true rfl) rfl q_991 rfl dX9_opens_52 ?_
    refine h_iconst (v := 1) dX9_opens_55 rfl ?_
    refine h_iadd dX9_opens_56 ?_
    obtain ⟨S11, h12, hf⟩ := hbd_s hf
    refine h_putI h12 rfl (Nat.le_of_ble_eq_true rfl) rfl q_991 rfl rfl (by decide +kernel) dX9_opens_57 ?_
    obtain rfl := Option.some.inj hf
    exact h_vret rfl rfl rfl (Nat.le_refl _) (Nat.le_refl _) dX9_opens_60
  · intro J1 hJ1 hf
    refine hj_s (fun J13 => ∀ (w : Unit), J13 w = some r → HW cX9_opens RX9 (x_X9_opens d S [.ref a0, .int a1] r cs) 0 0 S 12 [(0, .ref a0), (1, .int a1)] []) hf ?_ ?_
    · intro w hf
      refine h_aload_n dX9_opens_12 rfl 0 rfl ?_
      obtain ⟨t14, h15, hf⟩ := hbd_s hf
      refine h_getI h15 rfl (Nat.le_of_ble_eq_true rfl) rfl q_989 rfl dX9_opens_13 ?_
      refine h_bipush (v := 10) dX9_opens_16 rfl ?_
      refine hj_s (fun J16 => ∀ (S17 : hS), J16 S17 = some r → HW cX9_opens RX9 (x_X9_opens d S [.ref a0, .int a1] r cs) 0 0 S17 30 [(0, .ref a0), (1, .int a1)] []) hf ?_ ?_
      · intro S17 hf
        refine h_aload_n dX9_opens_30 rfl 0 rfl ?_
        refine h_dup dX9_opens_31 rfl ?_
        obtain ⟨t18, h19, hf⟩ := hbd_s hf
        refine h_getI h19 rfl (Nat.le_of_ble_eq_true rfl) rfl q_989 rfl dX9_opens_32 ?_
        refine h_iconst (v := 1) dX9_opens_35 rfl ?_
        refine h_iadd dX9_opens_36 ?_
        obtain ⟨S20, h21, hf⟩ := hbd_s hf
        refine h_putI h21 rfl (Nat.le_of_ble_eq_true rfl) rfl q_989 rfl rfl (by decide +kernel) dX9_opens_37 ?_
        exact hJ1 S20 hf
      · intro J16 hJ16 hf
        refine h_icmp_ne (tgt := 30) dX9_opens_18 (by decide) (fun c22 => ?_) (fun c22 => ?_)
        · replace hf := hif_n c22 hf
          exact hJ16 S hf
        · replace hf := hif_p c22 hf
          refine h_aload_n dX9_opens_21 rfl 0 rfl ?_
          refine h_iconst (v := 2) dX9_opens_22 rfl ?_
          refine h_aload_n dX9_opens_23 rfl 0 rfl ?_
          obtain ⟨t23, h24, hf⟩ := hbd_s hf
          refine h_getI h24 rfl (Nat.le_of_ble_eq_true rfl) rfl q_984 rfl dX9_opens_24 ?_
          obtain ⟨g27, hf⟩ := hck_s hf
          obtain ⟨S26, h25, hf⟩ := hbd_s hf
          refine h_Vv [.int 2, .int t23] (rest := []) (m_X9_fails (d := 1) (cs := cs) (Nat.le_refl _) h25) v_X9_fails q_1198 rfl (Nat.le_trans (by decide) hd) g27 rfl rfl (Nat.le_of_ble_eq_true rfl) dX9_opens_27 (Nat.le_refl _) (Nat.le_refl _) ?_
          exact hJ16 S26 hf
    · intro J13 hJ13 hf
      refine h_icmp_eq (tgt := 12) dX9_opens_3 (by decide) (fun c28 => ?_) (fun c28 => ?_)
      · replace hf := hif_p c28 hf
        exact hJ13 () hf
      · replace hf := hif_n c28 hf
        refine h_iload_n dX9_opens_6 rfl 1 rfl ?_
        refine h_bipush (v := 12) dX9_opens_7 rfl ?_
        refine h_icmp_ne (tgt := 40) dX9_opens_9 (by decide) (fun c29 => ?_) (fun c29 => ?_)
        · replace hf := hif_n c29 hf
          exact hJ1 S hf
        · replace hf := hif_p c29 hf
          exact hJ13 () hf
abbrev x_X9_answers (d : Nat) (S0 : hS) (args : List Value) (r : hS) (cs : Nat → Nat) : hX := ((none, 2, d, 0, 0, false), (S0, args, none, r), cs)
theorem v_X9_answers : hVW yX9_answers cX9_answers 2 none RX9 1 := ⟨q_1312, q_s61, q_9, q_1313, by decide +kernel, by decide⟩
def f_X9_answers_L0 : Nat → Nat → Int32 → hS → (hS → Option (hS)) → Option (hS)
  | 0, _, _, _, _ => none
  | n + 1, x0, x1, S, k0 =>
    hck (S.K x0 = 10) <|
    hb2 (f_X9_top x0 S) fun t3 S2 =>
    if t3 = x1 then
      (hbd (gI S2 x0 9 25) fun t5 =>
       if t5 = 0 then
         (hck (S2.K x0 = 10) <|
          hbd (f_X9_entry x0 x1 0 S2) fun S9 =>
          hbd (gI S9 x0 9 31) fun t10 =>
          hbd (sI S9 x0 9 31 (t10 - 1)) fun S12 =>
          hbd (gI S12 x0 9 29) fun t14 =>
          hj (γ := Int32 → Option (hS)) (fun (v17 : Int32) =>
            hbd (sI S12 x0 9 29 (t14 - v17)) fun S18 =>
            f_X9_answers_L0 n x0 x1 S18 k0
            ) fun J16 =>
          if x1 = 9 then
            (J16 1)
          else
            (J16 0))
       else
         (k0 S2))
    else
      (k0 S2)
def f_X9_answers (a0 : Nat) (a1 : Int32) (S : hS) : Option (hS) :=
  f_X9_answers_L0 hfuel a0 a1 S
    (fun S23 =>
      some S23
    )
set_option maxRecDepth 100000 in
set_option maxHeartbeats 4000000 in
theorem w_X9_answers_L0 {d : Nat} {S0 : hS} {args : List Value} {cs : Nat → Nat} {r : hS} (hd : 2 ≤ d) : ∀ (n : Nat) (x0 : Nat) (x1 : Int32) (S : hS) (k0 : (hS → Option (hS))) , f_X9_answers_L0 n x0 x1 S k0 = some r → (∀ (T : hS), k0 T = some r → HW cX9_answers RX9 (x_X9_answers d S0 args r cs) 0 0 T 54 [] []) → HW cX9_answers RX9 (x_X9_answers d S0 args r cs) 0 0 S 0 [(0, .ref x0), (1, .int x1)] [] := by
  intro n
  induction n with
  | zero =>
    intro x0 x1 S k0 hf
    cases hf
  | succ n ih =>
    intro x0 x1 S k0 hf hk0
    rw [f_X9_answers_L0] at hf
    refine h_aload_n dX9_answers_0 rfl 0 rfl ?_
    obtain ⟨g22, hf⟩ := hck_s hf
    obtain ⟨t3, S2, h1, hf⟩ := hb2_s hf
    refine h_Vi [] (rest := []) (m_X9_top (d := 1) (cs := cs) (Nat.le_refl _) h1) v_X9_top q_1314 rfl (Nat.le_trans (by decide) hd) g22 rfl rfl (Nat.le_of_ble_eq_true rfl) dX9_answers_1 (Nat.le_refl _) (Nat.le_refl _) ?_
    refine h_iload_n dX9_answers_4 rfl 1 rfl ?_
    refine h_icmp_ne (tgt := 54) dX9_answers_5 (by decide) (fun c4 => ?_) (fun c4 => ?_)
    · replace hf := hif_n c4 hf
      refine h_sub (lv2 := []) [] rfl ?_
      exact hk0 S2 hf
    · replace hf := hif_p c4 hf
      refine h_aload_n dX9_answers_8 rfl 0 rfl ?_
      obtain ⟨t5, h6, hf⟩ := hbd_s hf
      refine h_getI h6 rfl (Nat.le_of_ble_eq_true rfl) rfl q_985 rfl dX9_answers_9 ?_
      refine h_if_ne (tgt := 54) dX9_answers_12 (by decide) (fun c7 => ?_) (fun c7 => ?_)
      · replace hf := hif_n c7 hf
        refine h_sub (lv2 := []) [] rfl ?_
        exact hk0 S2 hf
      · replace hf := hif_p c7 hf
        refine h_aload_n dX9_answers_15 rfl 0 rfl ?_
        refine h_iload_n dX9_answers_16 rfl 1 rfl ?_
        refine h_iconst (v := 0) dX9_answers_17 rfl ?_
        obtain ⟨g21, hf⟩ := hck_s hf
        obtain ⟨S9, h8, hf⟩ := hbd_s hf
        refine h_Vv [.int x1, .int 0] (rest := []) (m_X9_entry (d := 1) (cs := cs) (Nat.le_refl _) h8) v_X9_entry q_1272 rfl (Nat.le_trans (by decide) hd) g21 rfl rfl (Nat.le_of_ble_eq_true rfl) dX9_answers_18 (Nat.le_refl _) (Nat.le_refl _) ?_
        refine h_aload_n dX9_answers_21 rfl 0 rfl ?_
        refine h_dup dX9_answers_22 rfl ?_
        obtain ⟨t10, h11, hf⟩ := hbd_s hf
        refine h_getI h11 rfl (Nat.le_of_ble_eq_true rfl) rfl q_991 rfl dX9_answers_23 ?_
        refine h_iconst (v := 1) dX9_answers_26 rfl ?_
        refine h_isub dX9_answers_27 ?_
        obtain ⟨S12, h13, hf⟩ := hbd_s hf
        refine h_putI h13 rfl (Nat.le_of_ble_eq_true rfl) rfl q_991 rfl rfl (by decide +kernel) dX9_answers_28 ?_
        refine h_aload_n dX9_answers_31 rfl 0 rfl ?_
        refine h_dup dX9_answers_32 rfl ?_
        obtain ⟨t14, h15, hf⟩ := hbd_s hf
        refine h_getI h15 rfl (Nat.le_of_ble_eq_true rfl) rfl q_989 rfl dX9_answers_33 ?_
        refine h_iload_n dX9_answers_36 rfl 1 rfl ?_
        refine h_bipush (v := 9) dX9_answers_37 rfl ?_
        refine hj_s (fun J16 => ∀ (v17 : Int32), J16 v17 = some r → HW cX9_answers RX9 (x_X9_answers d S0 args r cs) 0 0 S12 47 [(0, .ref x0), (1, .int x1)] [.int v17, .int t14, .ref x0]) hf ?_ ?_
        · intro v17 hf
          refine h_isub dX9_answers_47 ?_
          obtain ⟨S18, h19, hf⟩ := hbd_s hf
          refine h_putI h19 rfl (Nat.le_of_ble_eq_true rfl) rfl q_989 rfl rfl (by decide +kernel) dX9_answers_48 ?_
          refine h_goto (tgt := 0) dX9_answers_51 (by decide) ?_
          exact ih x0 x1 S18 k0  hf hk0
        · intro J16 hJ16 hf
          refine h_icmp_ne (tgt := 46) dX9_answers_39 (by decide) (fun c20 => ?_) (fun c20 => ?_)
          · replace hf := hif_n c20 hf
            refine h_iconst (v := 0) dX9_answers_46 rfl ?_
            exact hJ16 0 hf
          · replace hf := hif_p c20 hf
            refine h_iconst (v := 1) dX9_answers_42 rfl ?_
            refine h_goto (tgt := 47) dX9_answers_43 (by decide) ?_
            exact hJ16 1 hf
set_option maxRecDepth 100000 in
set_option maxHeartbeats 4000000 in
theorem m_X9_answers {d : Nat} {cs : Nat → Nat} {a0 : Nat} {a1 : Int32} {S : hS} {r : hS} (hd : 2 ≤ d) (hf : f_X9_answers a0 a1 S = some r) : HM yX9_answers cX9_answers 2 none d 0 0 cs [.ref a0, .int a1] S (none) r := by
  unfold f_X9_answers at hf
  refine HM.ofHW false (by decide) (fun h => by cases h) (Nat.le_of_ble_eq_true rfl) ?_
  show HW cX9_answers RX9 (x_X9_answers d S [.ref a0, .int a1] r cs) 0 0 S 0 [(0, .ref a0), (1, .int a1)] []
  refine w_X9_answers_L0 hd hfuel a0 a1 S _  hf ?_
  · intro S23 hf
    obtain rfl := Option.some.inj hf
    exact h_vret rfl rfl rfl (Nat.le_refl _) (Nat.le_refl _) dX9_answers_54
abbrev x_X9_fact (d : Nat) (S0 : hS) (args : List Value) (r : Int32 × hS) (cs : Nat → Nat) : hX := (((some .boolean), 1, d, 0, 0, false), (S0, args, some (.int r.1), r.2), cs)
theorem v_X9_fact : hVW yX9_fact cX9_fact 1 (some .boolean) RX9 0 := ⟨q_1299, q_s58, q_9, q_1300, by decide +kernel, by decide⟩
def f_X9_fact (a0 : Nat) (S : hS) : Option (Int32 × hS) :=
  hck (S.K a0 = 10) <|
  hbd (f_X9_blanks a0 S) fun S2 =>
  hck (S2.K a0 = 10) <|
  hb2 (f_X9_stood a0 5 S2) fun t5 S4 =>
  if t5 = 0 then
    (hck (S4.K a0 = 10) <|
     hb2 (f_X9_sign a0 S4) fun t9 S8 =>
     if t9 = 91 then
       (hck (S8.K a0 = 10) <|
        hbd (f_X9_opens a0 12 S8) fun S15 =>
        hbd (gI S15 a0 9 24) fun t16 =>
        hbd (sI S15 a0 9 24 (t16 + 1)) fun S18 =>
        some (0, S18))
     else
       (hck (S8.K a0 = 10) <|
        hbd (f_X9_compared a0 S8) fun S12 =>
        some (1, S12)))
  else
    (hck (S4.K a0 = 10) <|
     hbd (f_X9_opens a0 9 S4) fun S23 =>
     hbd (gI S23 a0 9 24) fun t24 =>
     hbd (sI S23 a0 9 24 (t24 + 3)) fun S26 =>
     some (0, S26))
set_option maxRecDepth 100000 in
set_option maxHeartbeats 4000000 in
theorem m_X9_fact {d : Nat} {cs : Nat → Nat} {a0 : Nat} {S : hS} {r : Int32 × hS} (hd : 10 ≤ d) (hf : f_X9_fact a0 S = some r) : HM yX9_fact cX9_fact 1 (some .boolean) d 0 0 cs [.ref a0] S (some (.int r.1)) r.2 := by
  unfold f_X9_fact at hf
  refine HM.ofHW false (by decide) (fun h => by cases h) (Nat.le_of_ble_eq_true rfl) ?_
  show HW cX9_fact RX9 (x_X9_fact d S [.ref a0] r cs) 0 0 S 0 [(0, .ref a0)] []
  refine h_aload_n dX9_fact_0 rfl 0 rfl ?_
  obtain ⟨g30, hf⟩ := hck_s hf
  obtain ⟨S2, h1, hf⟩ := hbd_s hf
  refine h_Vv [] (rest := []) (m_X9_blanks (d := 2) (cs := cs) (Nat.le_refl _) h1) v_X9_blanks q_1175 rfl (Nat.le_trans (by decide) hd) g30 rfl rfl (Nat.le_of_ble_eq_true rfl) dX9_fact_1 (Nat.le_refl _) (Nat.le_refl _) ?_
  refine h_aload_n dX9_fact_4 rfl 0 rfl ?_
  refine h_ldcwS dX9_fact_5 (List.mem_of_getElem? (i := 27) rfl) ?_
  obtain ⟨g29, hf⟩ := hck_s hf
  obtain ⟨t5, S4, h3, hf⟩ := hb2_s hf
  refine h_Vi [.ref (cs 5)] (rest := []) (m_X9_stood (d := 5) (cs := cs) (Nat.le_refl _) h3) v_X9_stood q_1192 rfl (Nat.le_trans (by decide) hd) g29 rfl rfl (Nat.le_of_ble_eq_true rfl) dX9_fact_8 (Nat.le_refl _) (Nat.le_refl _) ?_
  refine h_if_eq (tgt := 32) dX9_fact_11 (by decide) (fun c6 => ?_) (fun c6 => ?_)
  · replace hf := hif_p c6 hf
    refine h_aload_n dX9_fact_32 rfl 0 rfl ?_
    obtain ⟨g21, hf⟩ := hck_s hf
    obtain ⟨t9, S8, h7, hf⟩ := hb2_s hf
    refine h_Vi [] (rest := []) (m_X9_sign (d := 1) (cs := cs) (Nat.le_refl _) h7) v_X9_sign q_1179 rfl (Nat.le_trans (by decide) hd) g21 rfl rfl (Nat.le_of_ble_eq_true rfl) dX9_fact_33 (Nat.le_refl _) (Nat.le_refl _) ?_
    refine h_bipush (v := 91) dX9_fact_36 rfl ?_
    refine h_icmp_ne (tgt := 59) dX9_fact_38 (by decide) (fun c10 => ?_) (fun c10 => ?_)
    · replace hf := hif_n c10 hf
      refine h_aload_n dX9_fact_59 rfl 0 rfl ?_
      obtain ⟨g13, hf⟩ := hck_s hf
      obtain ⟨S12, h11, hf⟩ := hbd_s hf
      refine h_Vv [] (rest := []) (m_X9_compared (d := 9) (cs := cs) (Nat.le_refl _) h11) v_X9_compared q_1306 rfl (Nat.le_trans (by decide) hd) g13 rfl rfl (Nat.le_of_ble_eq_true rfl) dX9_fact_60 (Nat.le_refl _) (Nat.le_refl _) ?_
      refine h_iconst (v := 1) dX9_fact_63 rfl ?_
      obtain rfl := Option.some.inj hf
      exact h_zret rfl (by decide) rfl rfl (Nat.le_refl _) (Nat.le_refl _) dX9_fact_64
    · replace hf := hif_p c10 hf
      refine h_aload_n dX9_fact_41 rfl 0 rfl ?_
      refine h_bipush (v := 12) dX9_fact_42 rfl ?_
      obtain ⟨g20, hf⟩ := hck_s hf
      obtain ⟨S15, h14, hf⟩ := hbd_s hf
      refine h_Vv [.int 12] (rest := []) (m_X9_opens (d := 2) (cs := cs) (Nat.le_refl _) h14) v_X9_opens q_1302 rfl (Nat.le_trans (by decide) hd) g20 rfl rfl (Nat.le_of_ble_eq_true rfl) dX9_fact_44 (Nat.le_refl _) (Nat.le_refl _) ?_
      refine h_aload_n dX9_fact_47 rfl 0 rfl ?_
      refine h_dup dX9_fact_48 rfl ?_
      obtain ⟨t16, h17, hf⟩ := hbd_s hf
      refine h_getI h17 rfl (Nat.le_of_ble_eq_true rfl) rfl q_984 rfl dX9_fact_49 ?_
      refine h_iconst (v := 1) dX9_fact_52 rfl ?_
      refine h_iadd dX9_fact_53 ?_
      obtain ⟨S18, h19, hf⟩ := hbd_s hf
      refine h_putI h19 rfl (Nat.le_of_ble_eq_true rfl) rfl q_984 rfl rfl (by decide +kernel) dX9_fact_54 ?_
      refine h_iconst (v := 0) dX9_fact_57 rfl ?_
      obtain rfl := Option.some.inj hf
      exact h_zret rfl (by decide) rfl rfl (Nat.le_refl _) (Nat.le_refl _) dX9_fact_58
  · replace hf := hif_n c6 hf
    refine h_aload_n dX9_fact_14 rfl 0 rfl ?_
    refine h_bipush (v := 9) dX9_fact_15 rfl ?_
    obtain ⟨g28, hf⟩ := hck_s hf
    obtain ⟨S23, h22, hf⟩ := hbd_s hf
    refine h_Vv [.int 9] (rest := []) (m_X9_opens (d := 2) (cs := cs) (Nat.le_refl _) h22) v_X9_opens q_1302 rfl (Nat.le_trans (by decide) hd) g28 rfl rfl (Nat.le_of_ble_eq_true rfl) dX9_fact_17 (Nat.le_refl _) (Nat.le_refl _) ?_
    refine h_aload_n dX9_fact_20 rfl 0 rfl ?_
    refine h_dup dX9_fact_21 rfl ?_
    obtain ⟨t24, h25, hf⟩ := hbd_s hf
    refine h_getI h25 rfl (Nat.le_of_ble_eq_true rfl) rfl q_984 rfl dX9_fact_22 ?_
    refine h_iconst (v := 3) dX9_fact_25 rfl ?_
    refine h_iadd dX9_fact_26 ?_
    obtain ⟨S26, h27, hf⟩ := hbd_s hf
    refine h_putI h27 rfl (Nat.le_of_ble_eq_true rfl) rfl q_984 rfl rfl (by decide +kernel) dX9_fact_27 ?_
    refine h_iconst (v := 0) dX9_fact_30 rfl ?_
    obtain rfl := Option.some.inj hf
    exact h_zret rfl (by decide) rfl rfl (Nat.le_refl _) (Nat.le_refl _) dX9_fact_31
abbrev x_X9_test (d : Nat) (S0 : hS) (args : List Value) (r : hS) (cs : Nat → Nat) : hX := ((none, 5, d, 0, 0, false), (S0, args, none, r), cs)
theorem v_X9_test : hVW yX9_test cX9_test 5 none RX9 0 := ⟨q_1295, q_s57, q_9, q_1296, by decide +kernel, by decide⟩
def f_X9_test_L9 : Nat → Nat → Int32 → Int32 → hS → (hS → Option (hS)) → Option (hS)
  | 0, _, _, _, _, _ => none
  | n + 1, x0, x1, x2, S, k0 =>
    if x2 = 0 then
      (k0 S)
    else
      (hbd (gI S x0 9 25) fun t2 =>
       if t2 = 0 then
         (if x1 = 0 then
            (hck (S.K x0 = 10) <|
             hbd (f_X9_answers x0 9 S) fun S7 =>
             hck (S7.K x0 = 10) <|
             hbd (f_X9_blanks x0 S7) fun S9 =>
             hck (S9.K x0 = 10) <|
             hb2 (f_X9_stood x0 8 S9) fun t12 S11 =>
             hck (S11.K x0 = 10) <|
             hb2 (f_X9_stood x0 9 S11) fun t15 S14 =>
             hck (S14.K x0 = 10) <|
             hbd (f_X9_answers x0 10 S14) fun S17 =>
             hj (γ := Unit → Option (hS)) (fun (_ : Unit) =>
               hj (γ := hS → Option (hS)) (fun (S20 : hS) =>
                 hj (γ := Int32 → Option (hS)) (fun (v22 : Int32) =>
                   hck (S20.K x0 = 10) <|
                   hbd (f_X9_opens x0 v22 S20) fun S24 =>
                   hbd (gI S24 x0 9 24) fun t25 =>
                   hj (γ := Int32 → Option (hS)) (fun (v28 : Int32) =>
                     hbd (sI S24 x0 9 24 (t25 + v28)) fun S29 =>
                     f_X9_test_L9 n x0 1 x2 S29 k0
                     ) fun J27 =>
                   if t12 = 0 then
                     (J27 2)
                   else
                     (J27 3)
                   ) fun J21 =>
                 if t12 = 0 then
                   (J21 11)
                 else
                   (J21 10)
                 ) fun J19 =>
               if t15 = 0 then
                 (J19 S17)
               else
                 (hck (S17.K x0 = 10) <|
                  hbd (f_X9_answers x0 11 S17) fun S36 =>
                  J19 S36)
               ) fun J18 =>
             if t12 = 0 then
               (if t15 = 0 then
                  (hck (S17.K x0 = 10) <|
                   hbd (f_X9_answers x0 11 S17) fun S41 =>
                   hck (S41.K x0 = 10) <|
                   hb2 (f_X9_top x0 S41) fun t44 S43 =>
                   if t44 = 12 then
                     (hck (S43.K x0 = 10) <|
                      hb2 (f_X9_sign x0 S43) fun t48 S47 =>
                      hj (γ := hS → Option (hS)) (fun (S50 : hS) =>
                        hbd (gI S50 x0 9 24) fun t51 =>
                        hbd (sI S50 x0 9 24 (t51 + 1)) fun S53 =>
                        hbd (gI S53 x0 9 31) fun t55 =>
                        hbd (sI S53 x0 9 31 (t55 - 1)) fun S57 =>
                        hbd (gI S57 x0 9 29) fun t59 =>
                        hbd (sI S57 x0 9 29 (t59 - 1)) fun S61 =>
                        f_X9_test_L9 n x0 x1 x2 S61 k0
                        ) fun J49 =>
                      if t48 = 93 then
                        (J49 S47)
                      else
                        (hbd (gI S47 x0 9 24) fun t64 =>
                         hck (S47.K x0 = 10) <|
                         hbd (f_X9_fails x0 0 t64 S47) fun S67 =>
                         J49 S67))
                   else
                     (f_X9_test_L9 n x0 x1 0 S43 k0))
                else
                  (J18 ()))
             else
               (J18 ()))
          else
            (hck (S.K x0 = 10) <|
             hb2 (f_X9_fact x0 S) fun t79 S78 =>
             hj (γ := Int32 → Option (hS)) (fun (v81 : Int32) =>
               f_X9_test_L9 n x0 v81 x2 S78 k0
               ) fun J80 =>
             if t79 = 0 then
               (J80 1)
             else
               (J80 0)))
       else
         (k0 S))
def f_X9_test (a0 : Nat) (S : hS) : Option (hS) :=
  hbd (sI S a0 9 31 0) fun S84 =>
  f_X9_test_L9 hfuel a0 1 1 S84
    (fun S86 =>
      some S86
    )
set_option maxRecDepth 100000 in
set_option maxHeartbeats 4000000 in
theorem w_X9_test_L9 {d : Nat} {S0 : hS} {args : List Value} {cs : Nat → Nat} {r : hS} (hd : 11 ≤ d) : ∀ (n : Nat) (x0 : Nat) (x1 : Int32) (x2 : Int32) (S : hS) (k0 : (hS → Option (hS))) , f_X9_test_L9 n x0 x1 x2 S k0 = some r → (∀ (T : hS), k0 T = some r → HW cX9_test RX9 (x_X9_test d S0 args r cs) 0 0 T 202 [] []) → HW cX9_test RX9 (x_X9_test d S0 args r cs) 0 0 S 9 [(0, .ref x0), (1, .int x1), (2, .int x2)] [] := by
  intro n
  induction n with
  | zero =>
    intro x0 x1 x2 S k0 hf
    cases hf
  | succ n ih =>
    intro x0 x1 x2 S k0 hf hk0
    rw [f_X9_test_L9] at hf
    refine h_iload_n dX9_test_9 rfl 2 rfl ?_
    refine h_if_eq (tgt := 202) dX9_test_10 (by decide) (fun c1 => ?_) (fun c1 => ?_)
    · replace hf := hif_p c1 hf
      refine h_sub (lv2 := []) [] rfl ?_
      exact hk0 S hf
    · replace hf := hif_n c1 hf
      refine h_aload_n dX9_test_13 rfl 0 rfl ?_
      obtain ⟨t2, h3, hf⟩ := hbd_s hf
      refine h_getI h3 rfl (Nat.le_of_ble_eq_true rfl) rfl q_985 rfl dX9_test_14 ?_
      refine h_if_ne (tgt := 202) dX9_test_17 (by decide) (fun c4 => ?_) (fun c4 => ?_)
      · replace hf := hif_n c4 hf
        refine h_sub (lv2 := []) [] rfl ?_
        exact hk0 S hf
      · replace hf := hif_p c4 hf
        refine h_iload_n dX9_test_20 rfl 1 rfl ?_
        refine h_if_eq (tgt := 40) dX9_test_21 (by decide) (fun c5 => ?_) (fun c5 => ?_)
        · replace hf := hif_p c5 hf
          refine h_aload_n dX9_test_40 rfl 0 rfl ?_
          refine h_bipush (v := 9) dX9_test_41 rfl ?_
          obtain ⟨g76, hf⟩ := hck_s hf
          obtain ⟨S7, h6, hf⟩ := hbd_s hf
          refine h_Vv [.int 9] (rest := []) (m_X9_answers (d := 2) (cs := cs) (Nat.le_refl _) h6) v_X9_answers q_1310 rfl (Nat.le_trans (by decide) hd) g76 rfl rfl (Nat.le_of_ble_eq_true rfl) dX9_test_43 (Nat.le_refl _) (Nat.le_refl _) ?_
          refine h_aload_n dX9_test_46 rfl 0 rfl ?_
          obtain ⟨g75, hf⟩ := hck_s hf
          obtain ⟨S9, h8, hf⟩ := hbd_s hf
          refine h_Vv [] (rest := []) (m_X9_blanks (d := 2) (cs := cs) (Nat.le_refl _) h8) v_X9_blanks q_1175 rfl (Nat.le_trans (by decide) hd) g75 rfl rfl (Nat.le_of_ble_eq_true rfl) dX9_test_47 (Nat.le_refl _) (Nat.le_refl _) ?_
          refine h_aload_n dX9_test_50 rfl 0 rfl ?_
          refine h_ldcwS dX9_test_51 (List.mem_of_getElem? (i := 28) rfl) ?_
          obtain ⟨g74, hf⟩ := hck_s hf
          obtain ⟨t12, S11, h10, hf⟩ := hb2_s hf
          refine h_Vi [.ref (cs 8)] (rest := []) (m_X9_stood (d := 5) (cs := cs) (Nat.le_refl _) h10) v_X9_stood q_1192 rfl (Nat.le_trans (by decide) hd) g74 rfl rfl (Nat.le_of_ble_eq_true rfl) dX9_test_54 (Nat.le_refl _) (Nat.le_refl _) ?_
          refine h_istore_n (lv2 := [(3, .int t12), (0, .ref x0), (1, .int x1), (2, .int x2)]) dX9_test_57 rfl (Nat.le_of_ble_eq_true rfl) rfl ?_
          refine h_aload_n dX9_test_58 rfl 1 rfl ?_
          refine h_ldcwS dX9_test_59 (List.mem_of_getElem? (i := 29) rfl) ?_
          obtain ⟨g73, hf⟩ := hck_s hf
          obtain ⟨t15, S14, h13, hf⟩ := hb2_s hf
          refine h_Vi [.ref (cs 9)] (rest := []) (m_X9_stood (d := 5) (cs := cs) (Nat.le_refl _) h13) v_X9_stood q_1192 rfl (Nat.le_trans (by decide) hd) g73 rfl rfl (Nat.le_of_ble_eq_true rfl) dX9_test_62 (Nat.le_refl _) (Nat.le_refl _) ?_
          refine h_istore (lv2 := [(4, .int t15), (3, .int t12), (0, .ref x0), (1, .int x1), (2, .int x2)]) dX9_test_65 (Nat.le_of_ble_eq_true rfl) rfl ?_
          refine h_aload_n dX9_test_67 rfl 2 rfl ?_
          refine h_bipush (v := 10) dX9_test_68 rfl ?_
          obtain ⟨g72, hf⟩ := hck_s hf
          obtain ⟨S17, h16, hf⟩ := hbd_s hf
          refine h_Vv [.int 10] (rest := []) (m_X9_answers (d := 2) (cs := cs) (Nat.le_refl _) h16) v_X9_answers q_1310 rfl (Nat.le_trans (by decide) hd) g72 rfl rfl (Nat.le_of_ble_eq_true rfl) dX9_test_70 (Nat.le_refl _) (Nat.le_refl _) ?_
          refine h_iload_n dX9_test_73 rfl 1 rfl ?_
          refine hj_s (fun J18 => ∀ (w : Unit), J18 w = some r → HW cX9_test RX9 (x_X9_test d S0 args r cs) 0 0 S17 82 [(0, .ref x0), (2, .int x2), (3, .int t12), (4, .int t15)] []) hf ?_ ?_
          · intro w hf
            refine h_iload dX9_test_82 3 rfl ?_
            refine hj_s (fun J19 => ∀ (S20 : hS), J19 S20 = some r → HW cX9_test RX9 (x_X9_test d S0 args r cs) 0 0 S20 93 [(0, .ref x0), (2, .int x2), (3, .int t12)] []) hf ?_ ?_
            · intro S20 hf
              refine h_aload_n dX9_test_93 rfl 0 rfl ?_
              refine h_iload_n dX9_test_94 rfl 2 rfl ?_
              refine hj_s (fun J21 => ∀ (v22 : Int32), J21 v22 = some r → HW cX9_test RX9 (x_X9_test d S0 args r cs) 0 0 S20 105 [(0, .ref x0), (2, .int x2), (3, .int t12)] [.int v22, .ref x0]) hf ?_ ?_
              · intro v22 hf
                obtain ⟨g32, hf⟩ := hck_s hf
                obtain ⟨S24, h23, hf⟩ := hbd_s hf
                refine h_Vv [.int v22] (rest := []) (m_X9_opens (d := 2) (cs := cs) (Nat.le_refl _) h23) v_X9_opens q_1302 rfl (Nat.le_trans (by decide) hd) g32 rfl rfl (Nat.le_of_ble_eq_true rfl) dX9_test_105 (Nat.le_refl _) (Nat.le_refl _) ?_
                refine h_aload_n dX9_test_108 rfl 0 rfl ?_
                refine h_dup dX9_test_109 rfl ?_
                obtain ⟨t25, h26, hf⟩ := hbd_s hf
                refine h_getI h26 rfl (Nat.le_of_ble_eq_true rfl) rfl q_984 rfl dX9_test_110 ?_
                refine h_iload_n dX9_test_113 rfl 2 rfl ?_
                refine hj_s (fun J27 => ∀ (v28 : Int32), J27 v28 = some r → HW cX9_test RX9 (x_X9_test d S0 args r cs) 0 0 S24 122 [(0, .ref x0), (2, .int x2)] [.int v28, .int t25, .ref x0]) hf ?_ ?_
                · intro v28 hf
                  refine h_iadd dX9_test_122 ?_
                  obtain ⟨S29, h30, hf⟩ := hbd_s hf
                  refine h_putI h30 rfl (Nat.le_of_ble_eq_true rfl) rfl q_984 rfl rfl (by decide +kernel) dX9_test_123 ?_
                  refine h_iconst (v := 1) dX9_test_126 rfl ?_
                  refine h_istore_n (lv2 := [(1, .int 1), (0, .ref x0), (2, .int x2)]) dX9_test_127 rfl (Nat.le_of_ble_eq_true rfl) rfl ?_
                  refine h_goto (tgt := 199) dX9_test_128 (by decide) ?_
                  refine h_goto (tgt := 9) dX9_test_199 (by decide) ?_
                  refine h_sub (lv2 := [(0, .ref x0), (1, .int 1), (2, .int x2)]) [1, 0, 2] rfl ?_
                  exact ih x0 1 x2 S29 k0  hf hk0
                · intro J27 hJ27 hf
                  refine h_if_eq (tgt := 121) dX9_test_114 (by decide) (fun c31 => ?_) (fun c31 => ?_)
                  · replace hf := hif_p c31 hf
                    refine h_iconst (v := 2) dX9_test_121 rfl ?_
                    refine h_sub (lv2 := [(0, .ref x0), (2, .int x2)]) [0, 1] rfl ?_
                    exact hJ27 2 hf
                  · replace hf := hif_n c31 hf
                    refine h_iconst (v := 3) dX9_test_117 rfl ?_
                    refine h_goto (tgt := 122) dX9_test_118 (by decide) ?_
                    refine h_sub (lv2 := [(0, .ref x0), (2, .int x2)]) [0, 1] rfl ?_
                    exact hJ27 3 hf
              · intro J21 hJ21 hf
                refine h_if_eq (tgt := 103) dX9_test_95 (by decide) (fun c33 => ?_) (fun c33 => ?_)
                · replace hf := hif_p c33 hf
                  refine h_bipush (v := 11) dX9_test_103 rfl ?_
                  exact hJ21 11 hf
                · replace hf := hif_n c33 hf
                  refine h_bipush (v := 10) dX9_test_98 rfl ?_
                  refine h_goto (tgt := 105) dX9_test_100 (by decide) ?_
                  exact hJ21 10 hf
            · intro J19 hJ19 hf
              refine h_if_eq (tgt := 93) dX9_test_84 (by decide) (fun c34 => ?_) (fun c34 => ?_)
              · replace hf := hif_p c34 hf
                refine h_sub (lv2 := [(0, .ref x0), (2, .int x2), (3, .int t12)]) [0, 1, 2] rfl ?_
                exact hJ19 S17 hf
              · replace hf := hif_n c34 hf
                refine h_aload_n dX9_test_87 rfl 0 rfl ?_
                refine h_bipush (v := 11) dX9_test_88 rfl ?_
                obtain ⟨g37, hf⟩ := hck_s hf
                obtain ⟨S36, h35, hf⟩ := hbd_s hf
                refine h_Vv [.int 11] (rest := []) (m_X9_answers (d := 2) (cs := cs) (Nat.le_refl _) h35) v_X9_answers q_1310 rfl (Nat.le_trans (by decide) hd) g37 rfl rfl (Nat.le_of_ble_eq_true rfl) dX9_test_90 (Nat.le_refl _) (Nat.le_refl _) ?_
                refine h_sub (lv2 := [(0, .ref x0), (2, .int x2), (3, .int t12)]) [0, 1, 2] rfl ?_
                exact hJ19 S36 hf
          · intro J18 hJ18 hf
            refine h_if_ne (tgt := 82) dX9_test_74 (by decide) (fun c38 => ?_) (fun c38 => ?_)
            · replace hf := hif_n c38 hf
              refine h_sub (lv2 := [(0, .ref x0), (2, .int x2), (3, .int t12), (4, .int t15)]) [2, 4, 1, 0] rfl ?_
              exact hJ18 () hf
            · replace hf := hif_p c38 hf
              refine h_iload dX9_test_77 0 rfl ?_
              refine h_if_eq (tgt := 131) dX9_test_79 (by decide) (fun c39 => ?_) (fun c39 => ?_)
              · replace hf := hif_p c39 hf
                refine h_aload_n dX9_test_131 rfl 2 rfl ?_
                refine h_bipush (v := 11) dX9_test_132 rfl ?_
                obtain ⟨g71, hf⟩ := hck_s hf
                obtain ⟨S41, h40, hf⟩ := hbd_s hf
                refine h_Vv [.int 11] (rest := []) (m_X9_answers (d := 2) (cs := cs) (Nat.le_refl _) h40) v_X9_answers q_1310 rfl (Nat.le_trans (by decide) hd) g71 rfl rfl (Nat.le_of_ble_eq_true rfl) dX9_test_134 (Nat.le_refl _) (Nat.le_refl _) ?_
                refine h_aload_n dX9_test_137 rfl 2 rfl ?_
                obtain ⟨g70, hf⟩ := hck_s hf
                obtain ⟨t44, S43, h42, hf⟩ := hb2_s hf
                refine h_Vi [] (rest := []) (m_X9_top (d := 1) (cs := cs) (Nat.le_refl _) h42) v_X9_top q_1314 rfl (Nat.le_trans (by decide) hd) g70 rfl rfl (Nat.le_of_ble_eq_true rfl) dX9_test_138 (Nat.le_refl _) (Nat.le_refl _) ?_
                refine h_bipush (v := 12) dX9_test_141 rfl ?_
                refine h_icmp_ne (tgt := 197) dX9_test_143 (by decide) (fun c45 => ?_) (fun c45 => ?_)
                · replace hf := hif_n c45 hf
                  refine h_iconst (v := 0) dX9_test_197 rfl ?_
                  refine h_istore_n (lv2 := [(2, .int 0), (4, .int t15), (3, .int t12), (0, .ref x0), (1, .int x1)]) dX9_test_198 rfl (Nat.le_of_ble_eq_true rfl) rfl ?_
                  refine h_goto (tgt := 9) dX9_test_199 (by decide) ?_
                  refine h_sub (lv2 := [(0, .ref x0), (1, .int x1), (2, .int 0)]) [3, 4, 0] rfl ?_
                  exact ih x0 x1 0 S43 k0  hf hk0
                · replace hf := hif_p c45 hf
                  refine h_aload_n dX9_test_146 rfl 2 rfl ?_
                  obtain ⟨g69, hf⟩ := hck_s hf
                  obtain ⟨t48, S47, h46, hf⟩ := hb2_s hf
                  refine h_Vi [] (rest := []) (m_X9_sign (d := 1) (cs := cs) (Nat.le_refl _) h46) v_X9_sign q_1179 rfl (Nat.le_trans (by decide) hd) g69 rfl rfl (Nat.le_of_ble_eq_true rfl) dX9_test_147 (Nat.le_refl _) (Nat.le_refl _) ?_
                  refine h_bipush (v := 93) dX9_test_150 rfl ?_
                  refine hj_s (fun J49 => ∀ (S50 : hS), J49 S50 = some r → HW cX9_test RX9 (x_X9_test d S0 args r cs) 0 0 S50 164 [(0, .ref x0), (1, .int x1), (2, .int x2)] []) hf ?_ ?_
                  · intro S50 hf
                    refine h_aload_n dX9_test_164 rfl 0 rfl ?_
                    refine h_dup dX9_test_165 rfl ?_
                    obtain ⟨t51, h52, hf⟩ := hbd_s hf
                    refine h_getI h52 rfl (Nat.le_of_ble_eq_true rfl) rfl q_984 rfl dX9_test_166 ?_
                    refine h_iconst (v := 1) dX9_test_169 rfl ?_
                    refine h_iadd dX9_test_170 ?_
                    obtain ⟨S53, h54, hf⟩ := hbd_s hf
                    refine h_putI h54 rfl (Nat.le_of_ble_eq_true rfl) rfl q_984 rfl rfl (by decide +kernel) dX9_test_171 ?_
                    refine h_aload_n dX9_test_174 rfl 0 rfl ?_
                    refine h_dup dX9_test_175 rfl ?_
                    obtain ⟨t55, h56, hf⟩ := hbd_s hf
                    refine h_getI h56 rfl (Nat.le_of_ble_eq_true rfl) rfl q_991 rfl dX9_test_176 ?_
                    refine h_iconst (v := 1) dX9_test_179 rfl ?_
                    refine h_isub dX9_test_180 ?_
                    obtain ⟨S57, h58, hf⟩ := hbd_s hf
                    refine h_putI h58 rfl (Nat.le_of_ble_eq_true rfl) rfl q_991 rfl rfl (by decide +kernel) dX9_test_181 ?_
                    refine h_aload_n dX9_test_184 rfl 0 rfl ?_
                    refine h_dup dX9_test_185 rfl ?_
                    obtain ⟨t59, h60, hf⟩ := hbd_s hf
                    refine h_getI h60 rfl (Nat.le_of_ble_eq_true rfl) rfl q_989 rfl dX9_test_186 ?_
                    refine h_iconst (v := 1) dX9_test_189 rfl ?_
                    refine h_isub dX9_test_190 ?_
                    obtain ⟨S61, h62, hf⟩ := hbd_s hf
                    refine h_putI h62 rfl (Nat.le_of_ble_eq_true rfl) rfl q_989 rfl rfl (by decide +kernel) dX9_test_191 ?_
                    refine h_goto (tgt := 199) dX9_test_194 (by decide) ?_
                    refine h_goto (tgt := 9) dX9_test_199 (by decide) ?_
                    exact ih x0 x1 x2 S61 k0  hf hk0
                  · intro J49 hJ49 hf
                    refine h_icmp_eq (tgt := 164) dX9_test_152 (by decide) (fun c63 => ?_) (fun c63 => ?_)
                    · replace hf := hif_p c63 hf
                      refine h_sub (lv2 := [(0, .ref x0), (1, .int x1), (2, .int x2)]) [2, 3, 4] rfl ?_
                      exact hJ49 S47 hf
                    · replace hf := hif_n c63 hf
                      refine h_aload_n dX9_test_155 rfl 2 rfl ?_
                      refine h_iconst (v := 0) dX9_test_156 rfl ?_
                      refine h_aload_n dX9_test_157 rfl 2 rfl ?_
                      obtain ⟨t64, h65, hf⟩ := hbd_s hf
                      refine h_getI h65 rfl (Nat.le_of_ble_eq_true rfl) rfl q_984 rfl dX9_test_158 ?_
                      obtain ⟨g68, hf⟩ := hck_s hf
                      obtain ⟨S67, h66, hf⟩ := hbd_s hf
                      refine h_Vv [.int 0, .int t64] (rest := []) (m_X9_fails (d := 1) (cs := cs) (Nat.le_refl _) h66) v_X9_fails q_1198 rfl (Nat.le_trans (by decide) hd) g68 rfl rfl (Nat.le_of_ble_eq_true rfl) dX9_test_161 (Nat.le_refl _) (Nat.le_refl _) ?_
                      refine h_sub (lv2 := [(0, .ref x0), (1, .int x1), (2, .int x2)]) [2, 3, 4] rfl ?_
                      exact hJ49 S67 hf
              · replace hf := hif_n c39 hf
                refine h_sub (lv2 := [(0, .ref x0), (2, .int x2), (3, .int t12), (4, .int t15)]) [2, 4, 1, 0] rfl ?_
                exact hJ18 () hf
        · replace hf := hif_n c5 hf
          refine h_aload_n dX9_test_24 rfl 0 rfl ?_
          obtain ⟨g83, hf⟩ := hck_s hf
          obtain ⟨t79, S78, h77, hf⟩ := hb2_s hf
          refine h_Vi [] (rest := []) (m_X9_fact (d := 10) (cs := cs) (Nat.le_refl _) h77) v_X9_fact q_1297 rfl (Nat.le_trans (by decide) hd) g83 rfl rfl (Nat.le_of_ble_eq_true rfl) dX9_test_25 (Nat.le_refl _) (Nat.le_refl _) ?_
          refine hj_s (fun J80 => ∀ (v81 : Int32), J80 v81 = some r → HW cX9_test RX9 (x_X9_test d S0 args r cs) 0 0 S78 36 [(0, .ref x0), (2, .int x2)] [.int v81]) hf ?_ ?_
          · intro v81 hf
            refine h_istore_n (lv2 := [(1, .int v81), (0, .ref x0), (2, .int x2)]) dX9_test_36 rfl (Nat.le_of_ble_eq_true rfl) rfl ?_
            refine h_goto (tgt := 9) dX9_test_37 (by decide) ?_
            refine h_sub (lv2 := [(0, .ref x0), (1, .int v81), (2, .int x2)]) [1, 0, 2] rfl ?_
            exact ih x0 v81 x2 S78 k0  hf hk0
          · intro J80 hJ80 hf
            refine h_if_ne (tgt := 35) dX9_test_28 (by decide) (fun c82 => ?_) (fun c82 => ?_)
            · replace hf := hif_n c82 hf
              refine h_iconst (v := 0) dX9_test_35 rfl ?_
              refine h_sub (lv2 := [(0, .ref x0), (2, .int x2)]) [0, 2] rfl ?_
              exact hJ80 0 hf
            · replace hf := hif_p c82 hf
              refine h_iconst (v := 1) dX9_test_31 rfl ?_
              refine h_goto (tgt := 36) dX9_test_32 (by decide) ?_
              refine h_sub (lv2 := [(0, .ref x0), (2, .int x2)]) [0, 2] rfl ?_
              exact hJ80 1 hf
set_option maxRecDepth 100000 in
set_option maxHeartbeats 4000000 in
theorem m_X9_test {d : Nat} {cs : Nat → Nat} {a0 : Nat} {S : hS} {r : hS} (hd : 11 ≤ d) (hf : f_X9_test a0 S = some r) : HM yX9_test cX9_test 5 none d 0 0 cs [.ref a0] S (none) r := by
  unfold f_X9_test at hf
  refine HM.ofHW false (by decide) (fun h => by cases h) (Nat.le_of_ble_eq_true rfl) ?_
  show HW cX9_test RX9 (x_X9_test d S [.ref a0] r cs) 0 0 S 0 [(0, .ref a0)] []
  refine h_aload_n dX9_test_0 rfl 0 rfl ?_
  refine h_iconst (v := 0) dX9_test_1 rfl ?_
  obtain ⟨S84, h85, hf⟩ := hbd_s hf
  refine h_putI h85 rfl (Nat.le_of_ble_eq_true rfl) rfl q_991 rfl rfl (by decide +kernel) dX9_test_2 ?_
  refine h_iconst (v := 1) dX9_test_5 rfl ?_
  refine h_istore_n (lv2 := [(1, .int 1), (0, .ref a0)]) dX9_test_6 rfl (Nat.le_of_ble_eq_true rfl) rfl ?_
  refine h_iconst (v := 1) dX9_test_7 rfl ?_
  refine h_istore_n (lv2 := [(2, .int 1), (1, .int 1), (0, .ref a0)]) dX9_test_8 rfl (Nat.le_of_ble_eq_true rfl) rfl ?_
  refine h_sub (lv2 := [(0, .ref a0), (1, .int 1), (2, .int 1)]) [2, 1, 0] rfl ?_
  refine w_X9_test_L9 hd hfuel a0 1 1 S84 _  hf ?_
  · intro S86 hf
    obtain rfl := Option.some.inj hf
    exact h_vret rfl rfl rfl (Nat.le_refl _) (Nat.le_refl _) dX9_test_202
abbrev x_X9_amount (d : Nat) (S0 : hS) (args : List Value) (r : Int32 × hS) (cs : Nat → Nat) : hX := (((some .int), 5, d, 0, 0, false), (S0, args, some (.int r.1), r.2), cs)
theorem v_X9_amount : hVW yX9_amount cX9_amount 5 (some .int) RX9 2 := ⟨q_1212, q_s43, q_9, q_1213, by decide +kernel, by decide⟩
def f_X9_amount (a0 : Nat) (a1 : Int32) (a2 : Int32) (S : hS) : Option (Int32 × hS) :=
  hck (S.K a0 = 10) <|
  hbd (f_X9_blanks a0 S) fun S2 =>
  hbd (gI S2 a0 9 24) fun t3 =>
  hbd (gI S2 a0 9 25) fun t5 =>
  hj (γ := Int32 → hS → Option (Int32 × hS)) (fun (v8 : Int32) (S9 : hS) =>
    hbd (gI S9 a0 9 25) fun t10 =>
    if t10 = 0 then
      (hb2 (f_X9_in (Int32.toInt64 v8) (Int32.toInt64 a1) (Int32.toInt64 a2) S9) fun t15 S14 =>
       if t15 = 0 then
         (hck (S14.K a0 = 10) <|
          hbd (f_X9_fails a0 1 t3 S14) fun S18 =>
          some (v8, S18))
       else
         (some (v8, S14)))
    else
      (some (v8, S9))
    ) fun J7 =>
  if t5 = 0 then
    (hck (S2.K a0 = 10) <|
     hb2 (f_X9_digits a0 99999 S2) fun t23 S22 =>
     J7 t23 S22)
  else
    (J7 0 S2)
set_option maxRecDepth 100000 in
set_option maxHeartbeats 4000000 in
theorem m_X9_amount {d : Nat} {cs : Nat → Nat} {a0 : Nat} {a1 : Int32} {a2 : Int32} {S : hS} {r : Int32 × hS} (hd : 4 ≤ d) (hf : f_X9_amount a0 a1 a2 S = some r) : HM yX9_amount cX9_amount 5 (some .int) d 0 0 cs [.ref a0, .int a1, .int a2] S (some (.int r.1)) r.2 := by
  unfold f_X9_amount at hf
  refine HM.ofHW false (by decide) (fun h => by cases h) (Nat.le_of_ble_eq_true rfl) ?_
  show HW cX9_amount RX9 (x_X9_amount d S [.ref a0, .int a1, .int a2] r cs) 0 0 S 0 [(0, .ref a0), (1, .int a1), (2, .int a2)] []
  refine h_aload_n dX9_amount_0 rfl 0 rfl ?_
  obtain ⟨g25, hf⟩ := hck_s hf
  obtain ⟨S2, h1, hf⟩ := hbd_s hf
  refine h_Vv [] (rest := []) (m_X9_blanks (d := 2) (cs := cs) (Nat.le_refl _) h1) v_X9_blanks q_1175 rfl (Nat.le_trans (by decide) hd) g25 rfl rfl (Nat.le_of_ble_eq_true rfl) dX9_amount_1 (Nat.le_refl _) (Nat.le_refl _) ?_
  refine h_aload_n dX9_amount_4 rfl 0 rfl ?_
  obtain ⟨t3, h4, hf⟩ := hbd_s hf
  refine h_getI h4 rfl (Nat.le_of_ble_eq_true rfl) rfl q_984 rfl dX9_amount_5 ?_
  refine h_istore_n (lv2 := [(3, .int t3), (0, .ref a0), (1, .int a1), (2, .int a2)]) dX9_amount_8 rfl (Nat.le_of_ble_eq_true rfl) rfl ?_
  refine h_aload_n dX9_amount_9 rfl 1 rfl ?_
  obtain ⟨t5, h6, hf⟩ := hbd_s hf
  refine h_getI h6 rfl (Nat.le_of_ble_eq_true rfl) rfl q_985 rfl dX9_amount_10 ?_
  refine hj_s (fun J7 => ∀ (v8 : Int32) (S9 : hS), J7 v8 S9 = some r → HW cX9_amount RX9 (x_X9_amount d S [.ref a0, .int a1, .int a2] r cs) 0 0 S9 26 [(0, .ref a0), (1, .int a1), (2, .int a2), (3, .int t3)] [.int v8]) hf ?_ ?_
  · intro v8 S9 hf
    refine h_istore (lv2 := [(4, .int v8), (0, .ref a0), (1, .int a1), (2, .int a2), (3, .int t3)]) dX9_amount_26 (Nat.le_of_ble_eq_true rfl) rfl ?_
    refine h_aload_n dX9_amount_28 rfl 1 rfl ?_
    obtain ⟨t10, h11, hf⟩ := hbd_s hf
    refine h_getI h11 rfl (Nat.le_of_ble_eq_true rfl) rfl q_985 rfl dX9_amount_29 ?_
    refine h_if_ne (tgt := 54) dX9_amount_32 (by decide) (fun c12 => ?_) (fun c12 => ?_)
    · replace hf := hif_n c12 hf
      refine h_iload dX9_amount_54 0 rfl ?_
      obtain rfl := Option.some.inj hf
      exact h_iret rfl rfl rfl (Nat.le_refl _) (Nat.le_refl _) dX9_amount_56
    · replace hf := hif_p c12 hf
      refine h_iload dX9_amount_35 0 rfl ?_
      refine h_i2l dX9_amount_37 ?_
      refine h_iload_n dX9_amount_38 rfl 2 rfl ?_
      refine h_i2l dX9_amount_39 ?_
      refine h_iload_n dX9_amount_40 rfl 3 rfl ?_
      refine h_i2l dX9_amount_41 ?_
      obtain ⟨t15, S14, h13, hf⟩ := hb2_s hf
      refine h_Si [.long (Int32.toInt64 v8), .long (Int32.toInt64 a1), .long (Int32.toInt64 a2)] (rest := []) (m_X9_in (d := 1) (cs := cs) (Nat.le_refl _) h13) v_X9_in q_1225 rfl (Nat.le_trans (by decide) hd) rfl (Nat.le_of_ble_eq_true rfl) dX9_amount_42 (Nat.le_refl _) (Nat.le_refl _) ?_
      refine h_if_ne (tgt := 54) dX9_amount_45 (by decide) (fun c16 => ?_) (fun c16 => ?_)
      · replace hf := hif_n c16 hf
        refine h_iload dX9_amount_54 0 rfl ?_
        obtain rfl := Option.some.inj hf
        exact h_iret rfl rfl rfl (Nat.le_refl _) (Nat.le_refl _) dX9_amount_56
      · replace hf := hif_p c16 hf
        refine h_aload_n dX9_amount_48 rfl 1 rfl ?_
        refine h_iconst (v := 1) dX9_amount_49 rfl ?_
        refine h_iload_n dX9_amount_50 rfl 4 rfl ?_
        obtain ⟨g19, hf⟩ := hck_s hf
        obtain ⟨S18, h17, hf⟩ := hbd_s hf
        refine h_Vv [.int 1, .int t3] (rest := []) (m_X9_fails (d := 1) (cs := cs) (Nat.le_refl _) h17) v_X9_fails q_1198 rfl (Nat.le_trans (by decide) hd) g19 rfl rfl (Nat.le_of_ble_eq_true rfl) dX9_amount_51 (Nat.le_refl _) (Nat.le_refl _) ?_
        refine h_iload dX9_amount_54 0 rfl ?_
        obtain rfl := Option.some.inj hf
        exact h_iret rfl rfl rfl (Nat.le_refl _) (Nat.le_refl _) dX9_amount_56
  · intro J7 hJ7 hf
    refine h_if_ne (tgt := 25) dX9_amount_13 (by decide) (fun c20 => ?_) (fun c20 => ?_)
    · replace hf := hif_n c20 hf
      refine h_iconst (v := 0) dX9_amount_25 rfl ?_
      refine h_sub (lv2 := [(0, .ref a0), (1, .int a1), (2, .int a2), (3, .int t3)]) [1, 2, 3, 0] rfl ?_
      exact hJ7 0 S2 hf
    · replace hf := hif_p c20 hf
      refine h_aload_n dX9_amount_16 rfl 1 rfl ?_
      refine h_ldc (v := 99999) dX9_amount_17 q_1214 ?_
      obtain ⟨g24, hf⟩ := hck_s hf
      obtain ⟨t23, S22, h21, hf⟩ := hb2_s hf
      refine h_Vi [.int 99999] (rest := []) (m_X9_digits (d := 3) (cs := cs) (Nat.le_refl _) h21) v_X9_digits q_1215 rfl (Nat.le_trans (by decide) hd) g24 rfl rfl (Nat.le_of_ble_eq_true rfl) dX9_amount_19 (Nat.le_refl _) (Nat.le_refl _) ?_
      refine h_goto (tgt := 26) dX9_amount_22 (by decide) ?_
      refine h_sub (lv2 := [(0, .ref a0), (1, .int a1), (2, .int a2), (3, .int t3)]) [1, 2, 3, 0] rfl ?_
      exact hJ7 t23 S22 hf
abbrev x_X9_spotted (d : Nat) (S0 : hS) (args : List Value) (r : Int32 × hS) (cs : Nat → Nat) : hX := (((some .int), 2, d, 0, 0, false), (S0, args, some (.int r.1), r.2), cs)
theorem v_X9_spotted : hVW yX9_spotted cX9_spotted 2 (some .int) RX9 0 := ⟨q_1234, q_s47, q_9, q_1235, by decide +kernel, by decide⟩
def f_X9_spotted (a0 : Nat) (S : hS) : Option (Int32 × hS) :=
  hbd (gR S a0 9 13) fun t1 =>
  hbd (gA S t1 12 0) fun t3 =>
  hck (S.K a0 = 10) <|
  hb2 (f_X9_amount a0 0 (t3 - 1) S) fun t7 S6 =>
  hbd (gR S6 a0 9 13) fun t8 =>
  hbd (gA S6 t8 12 1) fun t10 =>
  hck (S6.K a0 = 10) <|
  hb2 (f_X9_amount a0 0 (t10 - 1) S6) fun t14 S13 =>
  some ((10 * t14) + t7, S13)
set_option maxRecDepth 100000 in
set_option maxHeartbeats 4000000 in
theorem m_X9_spotted {d : Nat} {cs : Nat → Nat} {a0 : Nat} {S : hS} {r : Int32 × hS} (hd : 5 ≤ d) (hf : f_X9_spotted a0 S = some r) : HM yX9_spotted cX9_spotted 2 (some .int) d 0 0 cs [.ref a0] S (some (.int r.1)) r.2 := by
  unfold f_X9_spotted at hf
  refine HM.ofHW false (by decide) (fun h => by cases h) (Nat.le_of_ble_eq_true rfl) ?_
  show HW cX9_spotted RX9 (x_X9_spotted d S [.ref a0] r cs) 0 0 S 0 [(0, .ref a0)] []
  refine h_aload_n dX9_spotted_0 rfl 0 rfl ?_
  refine h_iconst (v := 0) dX9_spotted_1 rfl ?_
  refine h_aload_n dX9_spotted_2 rfl 0 rfl ?_
  obtain ⟨t1, h2, hf⟩ := hbd_s hf
  refine h_getR h2 rfl (Nat.le_of_ble_eq_true rfl) rfl q_973 rfl dX9_spotted_3 ?_
  refine h_iconst (v := 0) dX9_spotted_6 rfl ?_
  obtain ⟨t3, h4, hf⟩ := hbd_s hf
  refine h_iald h4 dX9_spotted_7 ?_
  refine h_iconst (v := 1) dX9_spotted_8 rfl ?_
  refine h_isub dX9_spotted_9 ?_
  obtain ⟨g16, hf⟩ := hck_s hf
  obtain ⟨t7, S6, h5, hf⟩ := hb2_s hf
  refine h_Vi [.int 0, .int (t3 - 1)] (rest := []) (m_X9_amount (d := 4) (cs := cs) (Nat.le_refl _) h5) v_X9_amount q_1210 rfl (Nat.le_trans (by decide) hd) g16 rfl rfl (Nat.le_of_ble_eq_true rfl) dX9_spotted_10 (Nat.le_refl _) (Nat.le_refl _) ?_
  refine h_istore_n (lv2 := [(1, .int t7), (0, .ref a0)]) dX9_spotted_13 rfl (Nat.le_of_ble_eq_true rfl) rfl ?_
  refine h_bipush (v := 10) dX9_spotted_14 rfl ?_
  refine h_aload_n dX9_spotted_16 rfl 1 rfl ?_
  refine h_iconst (v := 0) dX9_spotted_17 rfl ?_
  refine h_aload_n dX9_spotted_18 rfl 1 rfl ?_
  obtain ⟨t8, h9, hf⟩ := hbd_s hf
  refine h_getR h9 rfl (Nat.le_of_ble_eq_true rfl) rfl q_973 rfl dX9_spotted_19 ?_
  refine h_iconst (v := 1) dX9_spotted_22 rfl ?_
  obtain ⟨t10, h11, hf⟩ := hbd_s hf
  refine h_iald h11 dX9_spotted_23 ?_
  refine h_iconst (v := 1) dX9_spotted_24 rfl ?_
  refine h_isub dX9_spotted_25 ?_
  obtain ⟨g15, hf⟩ := hck_s hf
  obtain ⟨t14, S13, h12, hf⟩ := hb2_s hf
  refine h_Vi [.int 0, .int (t10 - 1)] (rest := [.int 10]) (m_X9_amount (d := 4) (cs := cs) (Nat.le_refl _) h12) v_X9_amount q_1210 rfl (Nat.le_trans (by decide) hd) g15 rfl rfl (Nat.le_of_ble_eq_true rfl) dX9_spotted_26 (Nat.le_refl _) (Nat.le_refl _) ?_
  refine h_imul dX9_spotted_29 ?_
  refine h_iload_n dX9_spotted_30 rfl 0 rfl ?_
  refine h_iadd dX9_spotted_31 ?_
  obtain rfl := Option.some.inj hf
  exact h_iret rfl rfl rfl (Nat.le_refl _) (Nat.le_refl _) dX9_spotted_32
abbrev x_X9_readsGuest (d : Nat) (S0 : hS) (args : List Value) (r : hS) (cs : Nat → Nat) : hX := ((none, 5, d, 0, 0, false), (S0, args, none, r), cs)
theorem v_X9_readsGuest : hVW yX9_readsGuest cX9_readsGuest 5 none RX9 0 := ⟨q_1230, q_s46, q_9, q_1231, by decide +kernel, by decide⟩
def f_X9_readsGuest_L24 : Nat → Nat → Int32 → Int32 → Int32 → Int32 → hS → (hS → Option (hS)) → Option (hS)
  | 0, _, _, _, _, _, _, _ => none
  | n + 1, x0, x1, x2, x3, x4, S, k0 =>
    if x3 ≤ x4 then
      (k0 S)
    else
      (hbd (gI S x0 9 25) fun t2 =>
       if t2 = 0 then
         (hbd (gR S x0 9 15) fun t5 =>
          hbd (gA S t5 12 x4) fun t7 =>
          if t7 = x2 then
            (hck (S.K x0 = 10) <|
             hbd (f_X9_fails x0 5 x1 S) fun S11 =>
             f_X9_readsGuest_L24 n x0 x1 x2 x3 (x4 + 1) S11 k0)
          else
            (f_X9_readsGuest_L24 n x0 x1 x2 x3 (x4 + 1) S k0))
       else
         (k0 S))
def f_X9_readsGuest (a0 : Nat) (S : hS) : Option (hS) :=
  hck (S.K a0 = 10) <|
  hbd (f_X9_blanks a0 S) fun S14 =>
  hbd (gI S14 a0 9 24) fun t15 =>
  hck (S14.K a0 = 10) <|
  hb2 (f_X9_spotted a0 S14) fun t19 S18 =>
  hbd (gR S18 a0 9 13) fun t20 =>
  hbd (gA S18 t20 12 2) fun t22 =>
  f_X9_readsGuest_L24 hfuel a0 t15 t19 t22 0 S18
    (fun S24 =>
      hbd (gR S24 a0 9 15) fun t25 =>
      hbd (sA S24 t25 t22 t19) fun S27 =>
      hbd (gR S27 a0 9 16) fun t29 =>
      hck (S27.K a0 = 10) <|
      hb2 (f_X9_amount a0 0 99 S27) fun t33 S32 =>
      hbd (sA S32 t29 t22 t33) fun S34 =>
      hbd (gR S34 a0 9 17) fun t36 =>
      hck (S34.K a0 = 10) <|
      hb2 (f_X9_amount a0 0 9 S34) fun t40 S39 =>
      hbd (sA S39 t36 t22 t40) fun S41 =>
      hbd (gR S41 a0 9 13) fun t43 =>
      hbd (gA S41 t43 12 2) fun t45 =>
      hbd (sA S41 t43 2 (t45 + 1)) fun S47 =>
      some S47
    )
set_option maxRecDepth 100000 in
set_option maxHeartbeats 4000000 in
theorem w_X9_readsGuest_L24 {d : Nat} {S0 : hS} {args : List Value} {cs : Nat → Nat} {r : hS} (hd : 6 ≤ d) : ∀ (n : Nat) (x0 : Nat) (x1 : Int32) (x2 : Int32) (x3 : Int32) (x4 : Int32) (S : hS) (k0 : (hS → Option (hS))) , f_X9_readsGuest_L24 n x0 x1 x2 x3 x4 S k0 = some r → (∀ (T : hS), k0 T = some r → HW cX9_readsGuest RX9 (x_X9_readsGuest d S0 args r cs) 0 0 T 60 [(0, .ref x0), (2, .int x2), (3, .int x3)] []) → HW cX9_readsGuest RX9 (x_X9_readsGuest d S0 args r cs) 0 0 S 24 [(0, .ref x0), (1, .int x1), (2, .int x2), (3, .int x3), (4, .int x4)] [] := by
  intro n
  induction n with
  | zero =>
    intro x0 x1 x2 x3 x4 S k0 hf
    cases hf
  | succ n ih =>
    intro x0 x1 x2 x3 x4 S k0 hf hk0
    rw [f_X9_readsGuest_L24] at hf
    refine h_iload dX9_readsGuest_24 4 rfl ?_
    refine h_iload_n dX9_readsGuest_26 rfl 3 rfl ?_
    refine h_icmp_ge (tgt := 60) dX9_readsGuest_27 (by decide) (fun c1 => ?_) (fun c1 => ?_)
    · replace hf := hif_p c1 hf
      refine h_sub (lv2 := [(0, .ref x0), (2, .int x2), (3, .int x3)]) [0, 2, 3] rfl ?_
      exact hk0 S hf
    · replace hf := hif_n c1 hf
      refine h_aload_n dX9_readsGuest_30 rfl 0 rfl ?_
      obtain ⟨t2, h3, hf⟩ := hbd_s hf
      refine h_getI h3 rfl (Nat.le_of_ble_eq_true rfl) rfl q_985 rfl dX9_readsGuest_31 ?_
      refine h_if_ne (tgt := 60) dX9_readsGuest_34 (by decide) (fun c4 => ?_) (fun c4 => ?_)
      · replace hf := hif_n c4 hf
        refine h_sub (lv2 := [(0, .ref x0), (2, .int x2), (3, .int x3)]) [0, 2, 3] rfl ?_
        exact hk0 S hf
      · replace hf := hif_p c4 hf
        refine h_aload_n dX9_readsGuest_37 rfl 0 rfl ?_
        obtain ⟨t5, h6, hf⟩ := hbd_s hf
        refine h_getR h6 rfl (Nat.le_of_ble_eq_true rfl) rfl q_975 rfl dX9_readsGuest_38 ?_
        refine h_iload dX9_readsGuest_41 4 rfl ?_
        obtain ⟨t7, h8, hf⟩ := hbd_s hf
        refine h_iald h8 dX9_readsGuest_43 ?_
        refine h_iload_n dX9_readsGuest_44 rfl 2 rfl ?_
        refine h_icmp_ne (tgt := 54) dX9_readsGuest_45 (by decide) (fun c9 => ?_) (fun c9 => ?_)
        · replace hf := hif_n c9 hf
          refine h_iinc (q := 4) (v := x4 + 1) (lv2 := [(4, .int (x4 + 1)), (0, .ref x0), (1, .int x1), (2, .int x2), (3, .int x3)]) dX9_readsGuest_54 rfl rfl (Nat.le_of_ble_eq_true rfl) rfl ?_
          refine h_goto (tgt := 24) dX9_readsGuest_57 (by decide) ?_
          refine h_sub (lv2 := [(0, .ref x0), (1, .int x1), (2, .int x2), (3, .int x3), (4, .int (x4 + 1))]) [1, 2, 3, 4, 0] rfl ?_
          exact ih x0 x1 x2 x3 (x4 + 1) S k0  hf hk0
        · replace hf := hif_p c9 hf
          refine h_aload_n dX9_readsGuest_48 rfl 0 rfl ?_
          refine h_iconst (v := 5) dX9_readsGuest_49 rfl ?_
          refine h_iload_n dX9_readsGuest_50 rfl 1 rfl ?_
          obtain ⟨g12, hf⟩ := hck_s hf
          obtain ⟨S11, h10, hf⟩ := hbd_s hf
          refine h_Vv [.int 5, .int x1] (rest := []) (m_X9_fails (d := 1) (cs := cs) (Nat.le_refl _) h10) v_X9_fails q_1198 rfl (Nat.le_trans (by decide) hd) g12 rfl rfl (Nat.le_of_ble_eq_true rfl) dX9_readsGuest_51 (Nat.le_refl _) (Nat.le_refl _) ?_
          refine h_iinc (q := 4) (v := x4 + 1) (lv2 := [(4, .int (x4 + 1)), (0, .ref x0), (1, .int x1), (2, .int x2), (3, .int x3)]) dX9_readsGuest_54 rfl rfl (Nat.le_of_ble_eq_true rfl) rfl ?_
          refine h_goto (tgt := 24) dX9_readsGuest_57 (by decide) ?_
          refine h_sub (lv2 := [(0, .ref x0), (1, .int x1), (2, .int x2), (3, .int x3), (4, .int (x4 + 1))]) [1, 2, 3, 4, 0] rfl ?_
          exact ih x0 x1 x2 x3 (x4 + 1) S11 k0  hf hk0
set_option maxRecDepth 100000 in
set_option maxHeartbeats 4000000 in
theorem m_X9_readsGuest {d : Nat} {cs : Nat → Nat} {a0 : Nat} {S : hS} {r : hS} (hd : 6 ≤ d) (hf : f_X9_readsGuest a0 S = some r) : HM yX9_readsGuest cX9_readsGuest 5 none d 0 0 cs [.ref a0] S (none) r := by
  unfold f_X9_readsGuest at hf
  refine HM.ofHW false (by decide) (fun h => by cases h) (Nat.le_of_ble_eq_true rfl) ?_
  show HW cX9_readsGuest RX9 (x_X9_readsGuest d S [.ref a0] r cs) 0 0 S 0 [(0, .ref a0)] []
  refine h_aload_n dX9_readsGuest_0 rfl 0 rfl ?_
  obtain ⟨g52, hf⟩ := hck_s hf
  obtain ⟨S14, h13, hf⟩ := hbd_s hf
  refine h_Vv [] (rest := []) (m_X9_blanks (d := 2) (cs := cs) (Nat.le_refl _) h13) v_X9_blanks q_1175 rfl (Nat.le_trans (by decide) hd) g52 rfl rfl (Nat.le_of_ble_eq_true rfl) dX9_readsGuest_1 (Nat.le_refl _) (Nat.le_refl _) ?_
  refine h_aload_n dX9_readsGuest_4 rfl 0 rfl ?_
  obtain ⟨t15, h16, hf⟩ := hbd_s hf
  refine h_getI h16 rfl (Nat.le_of_ble_eq_true rfl) rfl q_984 rfl dX9_readsGuest_5 ?_
  refine h_istore_n (lv2 := [(1, .int t15), (0, .ref a0)]) dX9_readsGuest_8 rfl (Nat.le_of_ble_eq_true rfl) rfl ?_
  refine h_aload_n dX9_readsGuest_9 rfl 1 rfl ?_
  obtain ⟨g51, hf⟩ := hck_s hf
  obtain ⟨t19, S18, h17, hf⟩ := hb2_s hf
  refine h_Vi [] (rest := []) (m_X9_spotted (d := 5) (cs := cs) (Nat.le_refl _) h17) v_X9_spotted q_1232 rfl (Nat.le_trans (by decide) hd) g51 rfl rfl (Nat.le_of_ble_eq_true rfl) dX9_readsGuest_10 (Nat.le_refl _) (Nat.le_refl _) ?_
  refine h_istore_n (lv2 := [(2, .int t19), (1, .int t15), (0, .ref a0)]) dX9_readsGuest_13 rfl (Nat.le_of_ble_eq_true rfl) rfl ?_
  refine h_aload_n dX9_readsGuest_14 rfl 2 rfl ?_
  obtain ⟨t20, h21, hf⟩ := hbd_s hf
  refine h_getR h21 rfl (Nat.le_of_ble_eq_true rfl) rfl q_973 rfl dX9_readsGuest_15 ?_
  refine h_iconst (v := 2) dX9_readsGuest_18 rfl ?_
  obtain ⟨t22, h23, hf⟩ := hbd_s hf
  refine h_iald h23 dX9_readsGuest_19 ?_
  refine h_istore_n (lv2 := [(3, .int t22), (2, .int t19), (1, .int t15), (0, .ref a0)]) dX9_readsGuest_20 rfl (Nat.le_of_ble_eq_true rfl) rfl ?_
  refine h_iconst (v := 0) dX9_readsGuest_21 rfl ?_
  refine h_istore (lv2 := [(4, .int 0), (3, .int t22), (2, .int t19), (1, .int t15), (0, .ref a0)]) dX9_readsGuest_22 (Nat.le_of_ble_eq_true rfl) rfl ?_
  refine h_sub (lv2 := [(0, .ref a0), (1, .int t15), (2, .int t19), (3, .int t22), (4, .int 0)]) [4, 3, 2, 1, 0] rfl ?_
  refine w_X9_readsGuest_L24 hd hfuel a0 t15 t19 t22 0 S18 _  hf ?_
  · intro S24 hf
    refine h_aload_n dX9_readsGuest_60 rfl 0 rfl ?_
    obtain ⟨t25, h26, hf⟩ := hbd_s hf
    refine h_getR h26 rfl (Nat.le_of_ble_eq_true rfl) rfl q_975 rfl dX9_readsGuest_61 ?_
    refine h_iload_n dX9_readsGuest_64 rfl 2 rfl ?_
    refine h_iload_n dX9_readsGuest_65 rfl 1 rfl ?_
    obtain ⟨S27, h28, hf⟩ := hbd_s hf
    refine h_iast h28 dX9_readsGuest_66 ?_
    refine h_aload_n dX9_readsGuest_67 rfl 0 rfl ?_
    obtain ⟨t29, h30, hf⟩ := hbd_s hf
    refine h_getR h30 rfl (Nat.le_of_ble_eq_true rfl) rfl q_976 rfl dX9_readsGuest_68 ?_
    refine h_iload_n dX9_readsGuest_71 rfl 2 rfl ?_
    refine h_aload_n dX9_readsGuest_72 rfl 0 rfl ?_
    refine h_iconst (v := 0) dX9_readsGuest_73 rfl ?_
    refine h_bipush (v := 99) dX9_readsGuest_74 rfl ?_
    obtain ⟨g50, hf⟩ := hck_s hf
    obtain ⟨t33, S32, h31, hf⟩ := hb2_s hf
    refine h_Vi [.int 0, .int 99] (rest := [.int t22, .ref t29]) (m_X9_amount (d := 4) (cs := cs) (Nat.le_refl _) h31) v_X9_amount q_1210 rfl (Nat.le_trans (by decide) hd) g50 rfl rfl (Nat.le_of_ble_eq_true rfl) dX9_readsGuest_76 (Nat.le_refl _) (Nat.le_refl _) ?_
    obtain ⟨S34, h35, hf⟩ := hbd_s hf
    refine h_iast h35 dX9_readsGuest_79 ?_
    refine h_aload_n dX9_readsGuest_80 rfl 0 rfl ?_
    obtain ⟨t36, h37, hf⟩ := hbd_s hf
    refine h_getR h37 rfl (Nat.le_of_ble_eq_true rfl) rfl q_977 rfl dX9_readsGuest_81 ?_
    refine h_iload_n dX9_readsGuest_84 rfl 2 rfl ?_
    refine h_aload_n dX9_readsGuest_85 rfl 0 rfl ?_
    refine h_iconst (v := 0) dX9_readsGuest_86 rfl ?_
    refine h_bipush (v := 9) dX9_readsGuest_87 rfl ?_
    obtain ⟨g49, hf⟩ := hck_s hf
    obtain ⟨t40, S39, h38, hf⟩ := hb2_s hf
    refine h_Vi [.int 0, .int 9] (rest := [.int t22, .ref t36]) (m_X9_amount (d := 4) (cs := cs) (Nat.le_refl _) h38) v_X9_amount q_1210 rfl (Nat.le_trans (by decide) hd) g49 rfl rfl (Nat.le_of_ble_eq_true rfl) dX9_readsGuest_89 (Nat.le_refl _) (Nat.le_refl _) ?_
    obtain ⟨S41, h42, hf⟩ := hbd_s hf
    refine h_iast h42 dX9_readsGuest_92 ?_
    refine h_aload_n dX9_readsGuest_93 rfl 0 rfl ?_
    obtain ⟨t43, h44, hf⟩ := hbd_s hf
    refine h_getR h44 rfl (Nat.le_of_ble_eq_true rfl) rfl q_973 rfl dX9_readsGuest_94 ?_
    refine h_iconst (v := 2) dX9_readsGuest_97 rfl ?_
    refine h_dup2 dX9_readsGuest_98 rfl rfl ?_
    obtain ⟨t45, h46, hf⟩ := hbd_s hf
    refine h_iald h46 dX9_readsGuest_99 ?_
    refine h_iconst (v := 1) dX9_readsGuest_100 rfl ?_
    refine h_iadd dX9_readsGuest_101 ?_
    obtain ⟨S47, h48, hf⟩ := hbd_s hf
    refine h_iast h48 dX9_readsGuest_102 ?_
    obtain rfl := Option.some.inj hf
    exact h_vret rfl rfl rfl (Nat.le_refl _) (Nat.le_refl _) dX9_readsGuest_103
abbrev x_X9_hallPart (d : Nat) (S0 : hS) (args : List Value) (r : hS) (cs : Nat → Nat) : hX := ((none, 4, d, 0, 0, false), (S0, args, none, r), cs)
theorem v_X9_hallPart : hVW yX9_hallPart cX9_hallPart 4 none RX9 1 := ⟨q_1208, q_s42, q_9, q_1209, by decide +kernel, by decide⟩
def f_X9_hallPart (a0 : Nat) (a1 : Int32) (S : hS) : Option (hS) :=
  if a1 = 0 then
    (hbd (gR S a0 9 13) fun t94 =>
     hck (S.K a0 = 10) <|
     hb2 (f_X9_amount a0 1 10 S) fun t98 S97 =>
     hbd (sA S97 t94 0 t98) fun S99 =>
     hbd (gR S99 a0 9 13) fun t101 =>
     hck (S99.K a0 = 10) <|
     hb2 (f_X9_amount a0 1 8 S99) fun t105 S104 =>
     hbd (sA S104 t101 1 t105) fun S106 =>
     some S106)
  else
    (if a1 = 1 then
       (hck (S.K a0 = 10) <|
        hbd (f_X9_readsGuest a0 S) fun S92 =>
        some S92)
     else
       (if a1 = 2 then
          (hbd (gR S a0 9 13) fun t57 =>
           hbd (gA S t57 12 3) fun t59 =>
           hbd (gR S a0 9 18) fun t61 =>
           hck (S.K a0 = 10) <|
           hb2 (f_X9_spotted a0 S) fun t65 S64 =>
           hbd (sA S64 t61 t59 t65) fun S66 =>
           hbd (gR S66 a0 9 19) fun t68 =>
           hck (S66.K a0 = 10) <|
           hb2 (f_X9_amount a0 1 4 S66) fun t72 S71 =>
           hbd (sA S71 t68 t59 t72) fun S73 =>
           hbd (gR S73 a0 9 20) fun t75 =>
           hck (S73.K a0 = 10) <|
           hb2 (f_X9_amount a0 1 99 S73) fun t79 S78 =>
           hbd (sA S78 t75 t59 t79) fun S80 =>
           hbd (gR S80 a0 9 13) fun t82 =>
           hbd (gA S80 t82 12 3) fun t84 =>
           hbd (sA S80 t82 3 (t84 + 1)) fun S86 =>
           some S86)
        else
          (if a1 = 3 then
             (hbd (gR S a0 9 13) fun t31 =>
              hbd (gA S t31 12 4) fun t33 =>
              hbd (gR S a0 9 21) fun t35 =>
              hck (S.K a0 = 10) <|
              hb2 (f_X9_spotted a0 S) fun t39 S38 =>
              hbd (sA S38 t35 t33 t39) fun S40 =>
              hbd (gR S40 a0 9 22) fun t42 =>
              hck (S40.K a0 = 10) <|
              hb2 (f_X9_amount a0 1 99 S40) fun t46 S45 =>
              hbd (sA S45 t42 t33 t46) fun S47 =>
              hbd (gR S47 a0 9 13) fun t49 =>
              hbd (gA S47 t49 12 4) fun t51 =>
              hbd (sA S47 t49 4 (t51 + 1)) fun S53 =>
              some S53)
           else
             (if a1 = 4 then
                (hbd (gR S a0 9 13) fun t21 =>
                 hck (S.K a0 = 10) <|
                 hb2 (f_X9_spotted a0 S) fun t25 S24 =>
                 hbd (sA S24 t21 5 t25) fun S26 =>
                 hbd (sZ S26 a0 9 33 1) fun S28 =>
                 some S28)
              else
                (hck (S.K a0 = 10) <|
                 hb2 (f_X9_spotted a0 S) fun t8 S7 =>
                 hck (S7.K a0 = 10) <|
                 hb2 (f_X9_amount a0 0 9999 S7) fun t11 S10 =>
                 hbd (gI S10 a0 9 25) fun t12 =>
                 if t12 = 0 then
                   (hbd (gR S10 a0 9 14) fun t15 =>
                    hbd (sA S10 t15 t8 t11) fun S17 =>
                    some S17)
                 else
                   (some S10))))))
set_option maxRecDepth 100000 in
set_option maxHeartbeats 4000000 in
theorem m_X9_hallPart {d : Nat} {cs : Nat → Nat} {a0 : Nat} {a1 : Int32} {S : hS} {r : hS} (hd : 7 ≤ d) (hf : f_X9_hallPart a0 a1 S = some r) : HM yX9_hallPart cX9_hallPart 4 none d 0 0 cs [.ref a0, .int a1] S (none) r := by
  unfold f_X9_hallPart at hf
  refine HM.ofHW false (by decide) (fun h => by cases h) (Nat.le_of_ble_eq_true rfl) ?_
  show HW cX9_hallPart RX9 (x_X9_hallPart d S [.ref a0, .int a1] r cs) 0 0 S 0 [(0, .ref a0), (1, .int a1)] []
  refine h_iload_n dX9_hallPart_0 rfl 1 rfl ?_
  refine h_if_ne (tgt := 33) dX9_hallPart_1 (by decide) (fun c1 => ?_) (fun c1 => ?_)
  · replace hf := hif_n c1 hf
    refine h_iload_n dX9_hallPart_33 rfl 1 rfl ?_
    refine h_iconst (v := 1) dX9_hallPart_34 rfl ?_
    refine h_icmp_ne (tgt := 45) dX9_hallPart_35 (by decide) (fun c2 => ?_) (fun c2 => ?_)
    · replace hf := hif_n c2 hf
      refine h_iload_n dX9_hallPart_45 rfl 1 rfl ?_
      refine h_iconst (v := 2) dX9_hallPart_46 rfl ?_
      refine h_icmp_ne (tgt := 105) dX9_hallPart_47 (by decide) (fun c3 => ?_) (fun c3 => ?_)
      · replace hf := hif_n c3 hf
        refine h_iload_n dX9_hallPart_105 rfl 1 rfl ?_
        refine h_iconst (v := 3) dX9_hallPart_106 rfl ?_
        refine h_icmp_ne (tgt := 153) dX9_hallPart_107 (by decide) (fun c4 => ?_) (fun c4 => ?_)
        · replace hf := hif_n c4 hf
          refine h_iload_n dX9_hallPart_153 rfl 1 rfl ?_
          refine h_iconst (v := 4) dX9_hallPart_154 rfl ?_
          refine h_icmp_ne (tgt := 176) dX9_hallPart_155 (by decide) (fun c5 => ?_) (fun c5 => ?_)
          · replace hf := hif_n c5 hf
            refine h_aload_n dX9_hallPart_176 rfl 0 rfl ?_
            obtain ⟨g20, hf⟩ := hck_s hf
            obtain ⟨t8, S7, h6, hf⟩ := hb2_s hf
            refine h_Vi [] (rest := []) (m_X9_spotted (d := 5) (cs := cs) (Nat.le_refl _) h6) v_X9_spotted q_1232 rfl (Nat.le_trans (by decide) hd) g20 rfl rfl (Nat.le_of_ble_eq_true rfl) dX9_hallPart_177 (Nat.le_refl _) (Nat.le_refl _) ?_
            refine h_istore_n (lv2 := [(2, .int t8), (0, .ref a0), (1, .int a1)]) dX9_hallPart_180 rfl (Nat.le_of_ble_eq_true rfl) rfl ?_
            refine h_aload_n dX9_hallPart_181 rfl 1 rfl ?_
            refine h_iconst (v := 0) dX9_hallPart_182 rfl ?_
            refine h_sipush (v := 9999) dX9_hallPart_183 rfl ?_
            obtain ⟨g19, hf⟩ := hck_s hf
            obtain ⟨t11, S10, h9, hf⟩ := hb2_s hf
            refine h_Vi [.int 0, .int 9999] (rest := []) (m_X9_amount (d := 4) (cs := cs) (Nat.le_refl _) h9) v_X9_amount q_1210 rfl (Nat.le_trans (by decide) hd) g19 rfl rfl (Nat.le_of_ble_eq_true rfl) dX9_hallPart_186 (Nat.le_refl _) (Nat.le_refl _) ?_
            refine h_istore_n (lv2 := [(3, .int t11), (2, .int t8), (0, .ref a0), (1, .int a1)]) dX9_hallPart_189 rfl (Nat.le_of_ble_eq_true rfl) rfl ?_
            refine h_aload_n dX9_hallPart_190 rfl 2 rfl ?_
            obtain ⟨t12, h13, hf⟩ := hbd_s hf
            refine h_getI h13 rfl (Nat.le_of_ble_eq_true rfl) rfl q_985 rfl dX9_hallPart_191 ?_
            refine h_if_ne (tgt := 204) dX9_hallPart_194 (by decide) (fun c14 => ?_) (fun c14 => ?_)
            · replace hf := hif_n c14 hf
              obtain rfl := Option.some.inj hf
              exact h_vret rfl rfl rfl (Nat.le_refl _) (Nat.le_refl _) dX9_hallPart_204
            · replace hf := hif_p c14 hf
              refine h_aload_n dX9_hallPart_197 rfl 2 rfl ?_
              obtain ⟨t15, h16, hf⟩ := hbd_s hf
              refine h_getR h16 rfl (Nat.le_of_ble_eq_true rfl) rfl q_974 rfl dX9_hallPart_198 ?_
              refine h_iload_n dX9_hallPart_201 rfl 1 rfl ?_
              refine h_iload_n dX9_hallPart_202 rfl 0 rfl ?_
              obtain ⟨S17, h18, hf⟩ := hbd_s hf
              refine h_iast h18 dX9_hallPart_203 ?_
              obtain rfl := Option.some.inj hf
              exact h_vret rfl rfl rfl (Nat.le_refl _) (Nat.le_refl _) dX9_hallPart_204
          · replace hf := hif_p c5 hf
            refine h_aload_n dX9_hallPart_158 rfl 0 rfl ?_
            obtain ⟨t21, h22, hf⟩ := hbd_s hf
            refine h_getR h22 rfl (Nat.le_of_ble_eq_true rfl) rfl q_973 rfl dX9_hallPart_159 ?_
            refine h_iconst (v := 5) dX9_hallPart_162 rfl ?_
            refine h_aload_n dX9_hallPart_163 rfl 0 rfl ?_
            obtain ⟨g30, hf⟩ := hck_s hf
            obtain ⟨t25, S24, h23, hf⟩ := hb2_s hf
            refine h_Vi [] (rest := [.int 5, .ref t21]) (m_X9_spotted (d := 5) (cs := cs) (Nat.le_refl _) h23) v_X9_spotted q_1232 rfl (Nat.le_trans (by decide) hd) g30 rfl rfl (Nat.le_of_ble_eq_true rfl) dX9_hallPart_164 (Nat.le_refl _) (Nat.le_refl _) ?_
            obtain ⟨S26, h27, hf⟩ := hbd_s hf
            refine h_iast h27 dX9_hallPart_167 ?_
            refine h_aload_n dX9_hallPart_168 rfl 0 rfl ?_
            refine h_iconst (v := 1) dX9_hallPart_169 rfl ?_
            obtain ⟨S28, h29, hf⟩ := hbd_s hf
            refine h_putZ h29 rfl (Nat.le_of_ble_eq_true rfl) rfl q_993 rfl rfl (by decide +kernel) dX9_hallPart_170 ?_
            refine h_goto (tgt := 204) dX9_hallPart_173 (by decide) ?_
            obtain rfl := Option.some.inj hf
            exact h_vret rfl rfl rfl (Nat.le_refl _) (Nat.le_refl _) dX9_hallPart_204
        · replace hf := hif_p c4 hf
          refine h_aload_n dX9_hallPart_110 rfl 0 rfl ?_
          obtain ⟨t31, h32, hf⟩ := hbd_s hf
          refine h_getR h32 rfl (Nat.le_of_ble_eq_true rfl) rfl q_973 rfl dX9_hallPart_111 ?_
          refine h_iconst (v := 4) dX9_hallPart_114 rfl ?_
          obtain ⟨t33, h34, hf⟩ := hbd_s hf
          refine h_iald h34 dX9_hallPart_115 ?_
          refine h_istore_n (lv2 := [(2, .int t33), (0, .ref a0), (1, .int a1)]) dX9_hallPart_116 rfl (Nat.le_of_ble_eq_true rfl) rfl ?_
          refine h_aload_n dX9_hallPart_117 rfl 1 rfl ?_
          obtain ⟨t35, h36, hf⟩ := hbd_s hf
          refine h_getR h36 rfl (Nat.le_of_ble_eq_true rfl) rfl q_981 rfl dX9_hallPart_118 ?_
          refine h_iload_n dX9_hallPart_121 rfl 0 rfl ?_
          refine h_aload_n dX9_hallPart_122 rfl 1 rfl ?_
          obtain ⟨g56, hf⟩ := hck_s hf
          obtain ⟨t39, S38, h37, hf⟩ := hb2_s hf
          refine h_Vi [] (rest := [.int t33, .ref t35]) (m_X9_spotted (d := 5) (cs := cs) (Nat.le_refl _) h37) v_X9_spotted q_1232 rfl (Nat.le_trans (by decide) hd) g56 rfl rfl (Nat.le_of_ble_eq_true rfl) dX9_hallPart_123 (Nat.le_refl _) (Nat.le_refl _) ?_
          obtain ⟨S40, h41, hf⟩ := hbd_s hf
          refine h_iast h41 dX9_hallPart_126 ?_
          refine h_aload_n dX9_hallPart_127 rfl 1 rfl ?_
          obtain ⟨t42, h43, hf⟩ := hbd_s hf
          refine h_getR h43 rfl (Nat.le_of_ble_eq_true rfl) rfl q_982 rfl dX9_hallPart_128 ?_
          refine h_iload_n dX9_hallPart_131 rfl 0 rfl ?_
          refine h_aload_n dX9_hallPart_132 rfl 1 rfl ?_
          refine h_iconst (v := 1) dX9_hallPart_133 rfl ?_
          refine h_bipush (v := 99) dX9_hallPart_134 rfl ?_
          obtain ⟨g55, hf⟩ := hck_s hf
          obtain ⟨t46, S45, h44, hf⟩ := hb2_s hf
          refine h_Vi [.int 1, .int 99] (rest := [.int t33, .ref t42]) (m_X9_amount (d := 4) (cs := cs) (Nat.le_refl _) h44) v_X9_amount q_1210 rfl (Nat.le_trans (by decide) hd) g55 rfl rfl (Nat.le_of_ble_eq_true rfl) dX9_hallPart_136 (Nat.le_refl _) (Nat.le_refl _) ?_
          obtain ⟨S47, h48, hf⟩ := hbd_s hf
          refine h_iast h48 dX9_hallPart_139 ?_
          refine h_aload_n dX9_hallPart_140 rfl 1 rfl ?_
          obtain ⟨t49, h50, hf⟩ := hbd_s hf
          refine h_getR h50 rfl (Nat.le_of_ble_eq_true rfl) rfl q_973 rfl dX9_hallPart_141 ?_
          refine h_iconst (v := 4) dX9_hallPart_144 rfl ?_
          refine h_dup2 dX9_hallPart_145 rfl rfl ?_
          obtain ⟨t51, h52, hf⟩ := hbd_s hf
          refine h_iald h52 dX9_hallPart_146 ?_
          refine h_iconst (v := 1) dX9_hallPart_147 rfl ?_
          refine h_iadd dX9_hallPart_148 ?_
          obtain ⟨S53, h54, hf⟩ := hbd_s hf
          refine h_iast h54 dX9_hallPart_149 ?_
          refine h_goto (tgt := 204) dX9_hallPart_150 (by decide) ?_
          obtain rfl := Option.some.inj hf
          exact h_vret rfl rfl rfl (Nat.le_refl _) (Nat.le_refl _) dX9_hallPart_204
      · replace hf := hif_p c3 hf
        refine h_aload_n dX9_hallPart_50 rfl 0 rfl ?_
        obtain ⟨t57, h58, hf⟩ := hbd_s hf
        refine h_getR h58 rfl (Nat.le_of_ble_eq_true rfl) rfl q_973 rfl dX9_hallPart_51 ?_
        refine h_iconst (v := 3) dX9_hallPart_54 rfl ?_
        obtain ⟨t59, h60, hf⟩ := hbd_s hf
        refine h_iald h60 dX9_hallPart_55 ?_
        refine h_istore_n (lv2 := [(2, .int t59), (0, .ref a0), (1, .int a1)]) dX9_hallPart_56 rfl (Nat.le_of_ble_eq_true rfl) rfl ?_
        refine h_aload_n dX9_hallPart_57 rfl 1 rfl ?_
        obtain ⟨t61, h62, hf⟩ := hbd_s hf
        refine h_getR h62 rfl (Nat.le_of_ble_eq_true rfl) rfl q_978 rfl dX9_hallPart_58 ?_
        refine h_iload_n dX9_hallPart_61 rfl 0 rfl ?_
        refine h_aload_n dX9_hallPart_62 rfl 1 rfl ?_
        obtain ⟨g90, hf⟩ := hck_s hf
        obtain ⟨t65, S64, h63, hf⟩ := hb2_s hf
        refine h_Vi [] (rest := [.int t59, .ref t61]) (m_X9_spotted (d := 5) (cs := cs) (Nat.le_refl _) h63) v_X9_spotted q_1232 rfl (Nat.le_trans (by decide) hd) g90 rfl rfl (Nat.le_of_ble_eq_true rfl) dX9_hallPart_63 (Nat.le_refl _) (Nat.le_refl _) ?_
        obtain ⟨S66, h67, hf⟩ := hbd_s hf
        refine h_iast h67 dX9_hallPart_66 ?_
        refine h_aload_n dX9_hallPart_67 rfl 1 rfl ?_
        obtain ⟨t68, h69, hf⟩ := hbd_s hf
        refine h_getR h69 rfl (Nat.le_of_ble_eq_true rfl) rfl q_979 rfl dX9_hallPart_68 ?_
        refine h_iload_n dX9_hallPart_71 rfl 0 rfl ?_
        refine h_aload_n dX9_hallPart_72 rfl 1 rfl ?_
        refine h_iconst (v := 1) dX9_hallPart_73 rfl ?_
        refine h_iconst (v := 4) dX9_hallPart_74 rfl ?_
        obtain ⟨g89, hf⟩ := hck_s hf
        obtain ⟨t72, S71, h70, hf⟩ := hb2_s hf
        refine h_Vi [.int 1, .int 4] (rest := [.int t59, .ref t68]) (m_X9_amount (d := 4) (cs := cs) (Nat.le_refl _) h70) v_X9_amount q_1210 rfl (Nat.le_trans (by decide) hd) g89 rfl rfl (Nat.le_of_ble_eq_true rfl) dX9_hallPart_75 (Nat.le_refl _) (Nat.le_refl _) ?_
        obtain ⟨S73, h74, hf⟩ := hbd_s hf
        refine h_iast h74 dX9_hallPart_78 ?_
        refine h_aload_n dX9_hallPart_79 rfl 1 rfl ?_
        obtain ⟨t75, h76, hf⟩ := hbd_s hf
        refine h_getR h76 rfl (Nat.le_of_ble_eq_true rfl) rfl q_980 rfl dX9_hallPart_80 ?_
        refine h_iload_n dX9_hallPart_83 rfl 0 rfl ?_
        refine h_aload_n dX9_hallPart_84 rfl 1 rfl ?_
        refine h_iconst (v := 1) dX9_hallPart_85 rfl ?_
        refine h_bipush (v := 99) dX9_hallPart_86 rfl ?_
        obtain ⟨g88, hf⟩ := hck_s hf
        obtain ⟨t79, S78, h77, hf⟩ := hb2_s hf
        refine h_Vi [.int 1, .int 99] (rest := [.int t59, .ref t75]) (m_X9_amount (d := 4) (cs := cs) (Nat.le_refl _) h77) v_X9_amount q_1210 rfl (Nat.le_trans (by decide) hd) g88 rfl rfl (Nat.le_of_ble_eq_true rfl) dX9_hallPart_88 (Nat.le_refl _) (Nat.le_refl _) ?_
        obtain ⟨S80, h81, hf⟩ := hbd_s hf
        refine h_iast h81 dX9_hallPart_91 ?_
        refine h_aload_n dX9_hallPart_92 rfl 1 rfl ?_
        obtain ⟨t82, h83, hf⟩ := hbd_s hf
        refine h_getR h83 rfl (Nat.le_of_ble_eq_true rfl) rfl q_973 rfl dX9_hallPart_93 ?_
        refine h_iconst (v := 3) dX9_hallPart_96 rfl ?_
        refine h_dup2 dX9_hallPart_97 rfl rfl ?_
        obtain ⟨t84, h85, hf⟩ := hbd_s hf
        refine h_iald h85 dX9_hallPart_98 ?_
        refine h_iconst (v := 1) dX9_hallPart_99 rfl ?_
        refine h_iadd dX9_hallPart_100 ?_
        obtain ⟨S86, h87, hf⟩ := hbd_s hf
        refine h_iast h87 dX9_hallPart_101 ?_
        refine h_goto (tgt := 204) dX9_hallPart_102 (by decide) ?_
        obtain rfl := Option.some.inj hf
        exact h_vret rfl rfl rfl (Nat.le_refl _) (Nat.le_refl _) dX9_hallPart_204
    · replace hf := hif_p c2 hf
      refine h_aload_n dX9_hallPart_38 rfl 0 rfl ?_
      obtain ⟨g93, hf⟩ := hck_s hf
      obtain ⟨S92, h91, hf⟩ := hbd_s hf
      refine h_Vv [] (rest := []) (m_X9_readsGuest (d := 6) (cs := cs) (Nat.le_refl _) h91) v_X9_readsGuest q_1228 rfl (Nat.le_trans (by decide) hd) g93 rfl rfl (Nat.le_of_ble_eq_true rfl) dX9_hallPart_39 (Nat.le_refl _) (Nat.le_refl _) ?_
      refine h_goto (tgt := 204) dX9_hallPart_42 (by decide) ?_
      obtain rfl := Option.some.inj hf
      exact h_vret rfl rfl rfl (Nat.le_refl _) (Nat.le_refl _) dX9_hallPart_204
  · replace hf := hif_p c1 hf
    refine h_aload_n dX9_hallPart_4 rfl 0 rfl ?_
    obtain ⟨t94, h95, hf⟩ := hbd_s hf
    refine h_getR h95 rfl (Nat.le_of_ble_eq_true rfl) rfl q_973 rfl dX9_hallPart_5 ?_
    refine h_iconst (v := 0) dX9_hallPart_8 rfl ?_
    refine h_aload_n dX9_hallPart_9 rfl 0 rfl ?_
    refine h_iconst (v := 1) dX9_hallPart_10 rfl ?_
    refine h_bipush (v := 10) dX9_hallPart_11 rfl ?_
    obtain ⟨g109, hf⟩ := hck_s hf
    obtain ⟨t98, S97, h96, hf⟩ := hb2_s hf
    refine h_Vi [.int 1, .int 10] (rest := [.int 0, .ref t94]) (m_X9_amount (d := 4) (cs := cs) (Nat.le_refl _) h96) v_X9_amount q_1210 rfl (Nat.le_trans (by decide) hd) g109 rfl rfl (Nat.le_of_ble_eq_true rfl) dX9_hallPart_13 (Nat.le_refl _) (Nat.le_refl _) ?_
    obtain ⟨S99, h100, hf⟩ := hbd_s hf
    refine h_iast h100 dX9_hallPart_16 ?_
    refine h_aload_n dX9_hallPart_17 rfl 0 rfl ?_
    obtain ⟨t101, h102, hf⟩ := hbd_s hf
    refine h_getR h102 rfl (Nat.le_of_ble_eq_true rfl) rfl q_973 rfl dX9_hallPart_18 ?_
    refine h_iconst (v := 1) dX9_hallPart_21 rfl ?_
    refine h_aload_n dX9_hallPart_22 rfl 0 rfl ?_
    refine h_iconst (v := 1) dX9_hallPart_23 rfl ?_
    refine h_bipush (v := 8) dX9_hallPart_24 rfl ?_
    obtain ⟨g108, hf⟩ := hck_s hf
    obtain ⟨t105, S104, h103, hf⟩ := hb2_s hf
    refine h_Vi [.int 1, .int 8] (rest := [.int 1, .ref t101]) (m_X9_amount (d := 4) (cs := cs) (Nat.le_refl _) h103) v_X9_amount q_1210 rfl (Nat.le_trans (by decide) hd) g108 rfl rfl (Nat.le_of_ble_eq_true rfl) dX9_hallPart_26 (Nat.le_refl _) (Nat.le_refl _) ?_
    obtain ⟨S106, h107, hf⟩ := hbd_s hf
    refine h_iast h107 dX9_hallPart_29 ?_
    refine h_goto (tgt := 204) dX9_hallPart_30 (by decide) ?_
    obtain rfl := Option.some.inj hf
    exact h_vret rfl rfl rfl (Nat.le_refl _) (Nat.le_refl _) dX9_hallPart_204
abbrev x_X9_isFull (d : Nat) (S0 : hS) (args : List Value) (r : Int32 × hS) (cs : Nat → Nat) : hX := (((some .boolean), 4, d, 0, 0, false), (S0, args, some (.int r.1), r.2), cs)
theorem v_X9_isFull : hVW yX9_isFull cX9_isFull 4 (some .boolean) RX9 2 := ⟨q_1204, q_s41, q_9, q_1205, by decide +kernel, by decide⟩
def f_X9_isFull (a0 : Nat) (a1 : Int32) (a2 : Int32) (S : hS) : Option (Int32 × hS) :=
  hbd (gR S a0 9 13) fun t1 =>
  hbd (gA S t1 12 0) fun t3 =>
  hj (γ := Int32 → Option (Int32 × hS)) (fun (v6 : Int32) =>
    if a2 = 32 then
      (some (1, S))
    else
      (hj (γ := Int32 → Option (Int32 × hS)) (fun (v9 : Int32) =>
         if v9 = v6 then
           (some (1, S))
         else
           (if a1 = 1 then
              (hbd (gR S a0 9 13) fun t12 =>
               hbd (gA S t12 12 2) fun t14 =>
               if t14 = 12 then
                 (some (1, S))
               else
                 (some (0, S)))
            else
              (if a1 = 2 then
                 (hbd (gR S a0 9 13) fun t18 =>
                  hbd (gA S t18 12 3) fun t20 =>
                  if t20 = 6 then
                    (some (1, S))
                  else
                    (some (0, S)))
               else
                 (if a1 = 3 then
                    (hbd (gR S a0 9 13) fun t24 =>
                     hbd (gA S t24 12 4) fun t26 =>
                     if t26 = 8 then
                       (some (1, S))
                     else
                       (some (0, S)))
                  else
                    (if a1 = 4 then
                       (hbd (gI S a0 9 33) fun t30 =>
                        hck (t30 = 0 ∨ t30 = 1) <|
                        some (t30, S))
                     else
                       (some (0, S))))))
         ) fun J8 =>
       if a1 = 0 then
         (J8 1)
       else
         (J8 0))
    ) fun J5 =>
  if t3 ≤ 0 then
    (J5 0)
  else
    (J5 1)
set_option maxRecDepth 100000 in
set_option maxHeartbeats 4000000 in
theorem m_X9_isFull {d : Nat} {cs : Nat → Nat} {a0 : Nat} {a1 : Int32} {a2 : Int32} {S : hS} {r : Int32 × hS} (hd : 1 ≤ d) (hf : f_X9_isFull a0 a1 a2 S = some r) : HM yX9_isFull cX9_isFull 4 (some .boolean) d 0 0 cs [.ref a0, .int a1, .int a2] S (some (.int r.1)) r.2 := by
  unfold f_X9_isFull at hf
  refine HM.ofHW false (by decide) (fun h => by cases h) (Nat.le_of_ble_eq_true rfl) ?_
  show HW cX9_isFull RX9 (x_X9_isFull d S [.ref a0, .int a1, .int a2] r cs) 0 0 S 0 [(0, .ref a0), (1, .int a1), (2, .int a2)] []
  refine h_aload_n dX9_isFull_0 rfl 0 rfl ?_
  obtain ⟨t1, h2, hf⟩ := hbd_s hf
  refine h_getR h2 rfl (Nat.le_of_ble_eq_true rfl) rfl q_973 rfl dX9_isFull_1 ?_
  refine h_iconst (v := 0) dX9_isFull_4 rfl ?_
  obtain ⟨t3, h4, hf⟩ := hbd_s hf
  refine h_iald h4 dX9_isFull_5 ?_
  refine hj_s (fun J5 => ∀ (v6 : Int32), J5 v6 = some r → HW cX9_isFull RX9 (x_X9_isFull d S [.ref a0, .int a1, .int a2] r cs) 0 0 S 14 [(0, .ref a0), (1, .int a1), (2, .int a2)] [.int v6]) hf ?_ ?_
  · intro v6 hf
    refine h_istore_n (lv2 := [(3, .int v6), (0, .ref a0), (1, .int a1), (2, .int a2)]) dX9_isFull_14 rfl (Nat.le_of_ble_eq_true rfl) rfl ?_
    refine h_iload_n dX9_isFull_15 rfl 3 rfl ?_
    refine h_bipush (v := 32) dX9_isFull_16 rfl ?_
    refine h_icmp_eq (tgt := 34) dX9_isFull_18 (by decide) (fun c7 => ?_) (fun c7 => ?_)
    · replace hf := hif_p c7 hf
      refine h_iconst (v := 1) dX9_isFull_34 rfl ?_
      obtain rfl := Option.some.inj hf
      exact h_zret rfl (by decide) rfl rfl (Nat.le_refl _) (Nat.le_refl _) dX9_isFull_35
    · replace hf := hif_n c7 hf
      refine h_iload_n dX9_isFull_21 rfl 2 rfl ?_
      refine hj_s (fun J8 => ∀ (v9 : Int32), J8 v9 = some r → HW cX9_isFull RX9 (x_X9_isFull d S [.ref a0, .int a1, .int a2] r cs) 0 0 S 30 [(0, .ref a0), (1, .int a1), (3, .int v6)] [.int v9]) hf ?_ ?_
      · intro v9 hf
        refine h_iload_n dX9_isFull_30 rfl 2 rfl ?_
        refine h_icmp_ne (tgt := 36) dX9_isFull_31 (by decide) (fun c10 => ?_) (fun c10 => ?_)
        · replace hf := hif_n c10 hf
          refine h_iload_n dX9_isFull_36 rfl 1 rfl ?_
          by_cases c11 : a1 = 1
          · replace hf := hif_p c11 hf
            refine h_tabIn (tgt := 68) 1 (by rw [c11]; rfl) dX9_isFull_37 (by decide) (by decide) rfl (by decide) ?_
            refine h_aload_n dX9_isFull_68 rfl 0 rfl ?_
            obtain ⟨t12, h13, hf⟩ := hbd_s hf
            refine h_getR h13 rfl (Nat.le_of_ble_eq_true rfl) rfl q_973 rfl dX9_isFull_69 ?_
            refine h_iconst (v := 2) dX9_isFull_72 rfl ?_
            obtain ⟨t14, h15, hf⟩ := hbd_s hf
            refine h_iald h15 dX9_isFull_73 ?_
            refine h_bipush (v := 12) dX9_isFull_74 rfl ?_
            refine h_icmp_ne (tgt := 83) dX9_isFull_76 (by decide) (fun c16 => ?_) (fun c16 => ?_)
            · replace hf := hif_n c16 hf
              refine h_iconst (v := 0) dX9_isFull_83 rfl ?_
              obtain rfl := Option.some.inj hf
              exact h_zret rfl (by decide) rfl rfl (Nat.le_refl _) (Nat.le_refl _) dX9_isFull_84
            · replace hf := hif_p c16 hf
              refine h_iconst (v := 1) dX9_isFull_79 rfl ?_
              refine h_goto (tgt := 84) dX9_isFull_80 (by decide) ?_
              obtain rfl := Option.some.inj hf
              exact h_zret rfl (by decide) rfl rfl (Nat.le_refl _) (Nat.le_refl _) dX9_isFull_84
          · replace hf := hif_n c11 hf
            by_cases c17 : a1 = 2
            · replace hf := hif_p c17 hf
              refine h_tabIn (tgt := 85) 2 (by rw [c17]; rfl) dX9_isFull_37 (by decide) (by decide) rfl (by decide) ?_
              refine h_aload_n dX9_isFull_85 rfl 0 rfl ?_
              obtain ⟨t18, h19, hf⟩ := hbd_s hf
              refine h_getR h19 rfl (Nat.le_of_ble_eq_true rfl) rfl q_973 rfl dX9_isFull_86 ?_
              refine h_iconst (v := 3) dX9_isFull_89 rfl ?_
              obtain ⟨t20, h21, hf⟩ := hbd_s hf
              refine h_iald h21 dX9_isFull_90 ?_
              refine h_bipush (v := 6) dX9_isFull_91 rfl ?_
              refine h_icmp_ne (tgt := 100) dX9_isFull_93 (by decide) (fun c22 => ?_) (fun c22 => ?_)
              · replace hf := hif_n c22 hf
                refine h_iconst (v := 0) dX9_isFull_100 rfl ?_
                obtain rfl := Option.some.inj hf
                exact h_zret rfl (by decide) rfl rfl (Nat.le_refl _) (Nat.le_refl _) dX9_isFull_101
              · replace hf := hif_p c22 hf
                refine h_iconst (v := 1) dX9_isFull_96 rfl ?_
                refine h_goto (tgt := 101) dX9_isFull_97 (by decide) ?_
                obtain rfl := Option.some.inj hf
                exact h_zret rfl (by decide) rfl rfl (Nat.le_refl _) (Nat.le_refl _) dX9_isFull_101
            · replace hf := hif_n c17 hf
              by_cases c23 : a1 = 3
              · replace hf := hif_p c23 hf
                refine h_tabIn (tgt := 102) 3 (by rw [c23]; rfl) dX9_isFull_37 (by decide) (by decide) rfl (by decide) ?_
                refine h_aload_n dX9_isFull_102 rfl 0 rfl ?_
                obtain ⟨t24, h25, hf⟩ := hbd_s hf
                refine h_getR h25 rfl (Nat.le_of_ble_eq_true rfl) rfl q_973 rfl dX9_isFull_103 ?_
                refine h_iconst (v := 4) dX9_isFull_106 rfl ?_
                obtain ⟨t26, h27, hf⟩ := hbd_s hf
                refine h_iald h27 dX9_isFull_107 ?_
                refine h_bipush (v := 8) dX9_isFull_108 rfl ?_
                refine h_icmp_ne (tgt := 117) dX9_isFull_110 (by decide) (fun c28 => ?_) (fun c28 => ?_)
                · replace hf := hif_n c28 hf
                  refine h_iconst (v := 0) dX9_isFull_117 rfl ?_
                  obtain rfl := Option.some.inj hf
                  exact h_zret rfl (by decide) rfl rfl (Nat.le_refl _) (Nat.le_refl _) dX9_isFull_118
                · replace hf := hif_p c28 hf
                  refine h_iconst (v := 1) dX9_isFull_113 rfl ?_
                  refine h_goto (tgt := 118) dX9_isFull_114 (by decide) ?_
                  obtain rfl := Option.some.inj hf
                  exact h_zret rfl (by decide) rfl rfl (Nat.le_refl _) (Nat.le_refl _) dX9_isFull_118
              · replace hf := hif_n c23 hf
                by_cases c29 : a1 = 4
                · replace hf := hif_p c29 hf
                  refine h_tabIn (tgt := 119) 4 (by rw [c29]; rfl) dX9_isFull_37 (by decide) (by decide) rfl (by decide) ?_
                  refine h_aload_n dX9_isFull_119 rfl 0 rfl ?_
                  obtain ⟨t30, h31, hf⟩ := hbd_s hf
                  refine h_getI h31 rfl (Nat.le_of_ble_eq_true rfl) rfl q_993 rfl dX9_isFull_120 ?_
                  obtain ⟨hz, hf⟩ := hck_s hf
                  obtain rfl := Option.some.inj hf
                  exact h_zret rfl hz rfl rfl (Nat.le_refl _) (Nat.le_refl _) dX9_isFull_123
                · replace hf := hif_n c29 hf
                  refine h_tabOut (tgt := 124) dX9_isFull_37 (by have g0 := hne_t (a := 1) c11 rfl; have g1 := hne_t (a := 2) c17 rfl; have g2 := hne_t (a := 3) c23 rfl; have g3 := hne_t (a := 4) c29 rfl; omega) (by decide) ?_
                  refine h_iconst (v := 0) dX9_isFull_124 rfl ?_
                  obtain rfl := Option.some.inj hf
                  exact h_zret rfl (by decide) rfl rfl (Nat.le_refl _) (Nat.le_refl _) dX9_isFull_125
        · replace hf := hif_p c10 hf
          refine h_iconst (v := 1) dX9_isFull_34 rfl ?_
          obtain rfl := Option.some.inj hf
          exact h_zret rfl (by decide) rfl rfl (Nat.le_refl _) (Nat.le_refl _) dX9_isFull_35
      · intro J8 hJ8 hf
        refine h_if_ne (tgt := 29) dX9_isFull_22 (by decide) (fun c32 => ?_) (fun c32 => ?_)
        · replace hf := hif_n c32 hf
          refine h_iconst (v := 0) dX9_isFull_29 rfl ?_
          refine h_sub (lv2 := [(0, .ref a0), (1, .int a1), (3, .int v6)]) [1, 2, 0] rfl ?_
          exact hJ8 0 hf
        · replace hf := hif_p c32 hf
          refine h_iconst (v := 1) dX9_isFull_25 rfl ?_
          refine h_goto (tgt := 30) dX9_isFull_26 (by decide) ?_
          refine h_sub (lv2 := [(0, .ref a0), (1, .int a1), (3, .int v6)]) [1, 2, 0] rfl ?_
          exact hJ8 1 hf
  · intro J5 hJ5 hf
    refine h_if_le (tgt := 13) dX9_isFull_6 (by decide) (fun c33 => ?_) (fun c33 => ?_)
    · replace hf := hif_p c33 hf
      refine h_iconst (v := 0) dX9_isFull_13 rfl ?_
      exact hJ5 0 hf
    · replace hf := hif_n c33 hf
      refine h_iconst (v := 1) dX9_isFull_9 rfl ?_
      refine h_goto (tgt := 14) dX9_isFull_10 (by decide) ?_
      exact hJ5 1 hf
