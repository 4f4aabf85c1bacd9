abbrev x_X9_spotIn (d : Nat) (S0 : hS) (args : List Value) (r : Int32 × hS) (cs : Nat → Nat) : hX := (((some .int), 4, d, 0, 0, false), (S0, args, some (.int r.1), r.2), cs)
theorem v_X9_spotIn : hVW yX9_spotIn cX9_spotIn 4 (some .int) RX9 2 := ⟨q_1446, q_s83, q_9, q_1447, by decide +kernel, by decide⟩
def f_X9_spotIn_L6 : Nat → Nat → Int32 → Int32 → Int32 → hS → (hS → Option (Int32 × hS)) → Option (Int32 × hS)
  | 0, _, _, _, _, _, _ => none
  | n + 1, x0, x1, x2, x3, S, k0 =>
    if x2 ≤ x3 then
      (k0 S)
    else
      (hck (S.K x0 = 10) <|
       hbd (f_X9_minute x0 x1 S) fun S3 =>
       f_X9_spotIn_L6 n x0 x1 x2 (x3 + 1) S3 k0)
def f_X9_spotIn (a0 : Nat) (a1 : Int32) (a2 : Int32) (S : hS) : Option (Int32 × hS) :=
  hck (S.K a0 = 10) <|
  hbd (f_X9_keeps a0 S) fun S6 =>
  f_X9_spotIn_L6 hfuel a0 a1 a2 0 S6
    (fun S7 =>
      hbd (gR S7 a0 9 1) fun t8 =>
      hbd (gA S7 t8 12 5) fun t10 =>
      hck (S7.K a0 = 10) <|
      hbd (f_X9_laysBack a0 S7) fun S13 =>
      some (t10, S13)
    )
set_option maxRecDepth 100000 in
set_option maxHeartbeats 4000000 in
theorem w_X9_spotIn_L6 {d : Nat} {S0 : hS} {args : List Value} {cs : Nat → Nat} {r : Int32 × hS} (hd : 8 ≤ d) : ∀ (n : Nat) (x0 : Nat) (x1 : Int32) (x2 : Int32) (x3 : Int32) (S : hS) (k0 : (hS → Option (Int32 × hS))) , f_X9_spotIn_L6 n x0 x1 x2 x3 S k0 = some r → (∀ (T : hS), k0 T = some r → HW cX9_spotIn RX9 (x_X9_spotIn d S0 args r cs) 0 0 T 22 [(0, .ref x0)] []) → HW cX9_spotIn RX9 (x_X9_spotIn d S0 args r cs) 0 0 S 6 [(0, .ref x0), (1, .int x1), (2, .int x2), (3, .int x3)] [] := by
  intro n
  induction n with
  | zero =>
    intro x0 x1 x2 x3 S k0 hf
    cases hf
  | succ n ih =>
    intro x0 x1 x2 x3 S k0 hf hk0
    rw [f_X9_spotIn_L6] at hf
    refine h_iload_n dX9_spotIn_6 rfl 3 rfl ?_
    refine h_iload_n dX9_spotIn_7 rfl 2 rfl ?_
    refine h_icmp_ge (tgt := 22) dX9_spotIn_8 (by decide) (fun c1 => ?_) (fun c1 => ?_)
    · replace hf := hif_p c1 hf
      refine h_sub (lv2 := [(0, .ref x0)]) [0] rfl ?_
      exact hk0 S hf
    · replace hf := hif_n c1 hf
      refine h_aload_n dX9_spotIn_11 rfl 0 rfl ?_
      refine h_iload_n dX9_spotIn_12 rfl 1 rfl ?_
      obtain ⟨g4, hf⟩ := hck_s hf
      obtain ⟨S3, h2, hf⟩ := hbd_s hf
      refine h_Vv [.int x1] (rest := []) (m_X9_minute (d := 7) (cs := cs) (Nat.le_refl _) h2) v_X9_minute q_1386 rfl (Nat.le_trans (by decide) hd) g4 rfl rfl (Nat.le_of_ble_eq_true rfl) dX9_spotIn_13 (Nat.le_refl _) (Nat.le_refl _) ?_
      refine h_iinc (q := 3) (v := x3 + 1) (lv2 := [(3, .int (x3 + 1)), (0, .ref x0), (1, .int x1), (2, .int x2)]) dX9_spotIn_16 rfl rfl (Nat.le_of_ble_eq_true rfl) rfl ?_
      refine h_goto (tgt := 6) dX9_spotIn_19 (by decide) ?_
      refine h_sub (lv2 := [(0, .ref x0), (1, .int x1), (2, .int x2), (3, .int (x3 + 1))]) [1, 2, 3, 0] rfl ?_
      exact ih x0 x1 x2 (x3 + 1) S3 k0  hf hk0
set_option maxRecDepth 100000 in
set_option maxHeartbeats 4000000 in
theorem m_X9_spotIn {d : Nat} {cs : Nat → Nat} {a0 : Nat} {a1 : Int32} {a2 : Int32} {S : hS} {r : Int32 × hS} (hd : 8 ≤ d) (hf : f_X9_spotIn a0 a1 a2 S = some r) : HM yX9_spotIn cX9_spotIn 4 (some .int) d 0 0 cs [.ref a0, .int a1, .int a2] S (some (.int r.1)) r.2 := by
  unfold f_X9_spotIn at hf
  refine HM.ofHW false (by decide) (fun h => by cases h) (Nat.le_of_ble_eq_true rfl) ?_
  show HW cX9_spotIn RX9 (x_X9_spotIn d S [.ref a0, .int a1, .int a2] r cs) 0 0 S 0 [(0, .ref a0), (1, .int a1), (2, .int a2)] []
  refine h_aload_n dX9_spotIn_0 rfl 0 rfl ?_
  obtain ⟨g15, hf⟩ := hck_s hf
  obtain ⟨S6, h5, hf⟩ := hbd_s hf
  refine h_Vv [] (rest := []) (m_X9_keeps (d := 2) (cs := cs) (Nat.le_refl _) h5) v_X9_keeps q_1448 rfl (Nat.le_trans (by decide) hd) g15 rfl rfl (Nat.le_of_ble_eq_true rfl) dX9_spotIn_1 (Nat.le_refl _) (Nat.le_refl _) ?_
  refine h_iconst (v := 0) dX9_spotIn_4 rfl ?_
  refine h_istore_n (lv2 := [(3, .int 0), (0, .ref a0), (1, .int a1), (2, .int a2)]) dX9_spotIn_5 rfl (Nat.le_of_ble_eq_true rfl) rfl ?_
  refine h_sub (lv2 := [(0, .ref a0), (1, .int a1), (2, .int a2), (3, .int 0)]) [1, 2, 3, 0] rfl ?_
  refine w_X9_spotIn_L6 hd hfuel a0 a1 a2 0 S6 _  hf ?_
  · intro S7 hf
    refine h_aload_n dX9_spotIn_22 rfl 0 rfl ?_
    obtain ⟨t8, h9, hf⟩ := hbd_s hf
    refine h_getR h9 rfl (Nat.le_of_ble_eq_true rfl) rfl q_961 rfl dX9_spotIn_23 ?_
    refine h_iconst (v := 5) dX9_spotIn_26 rfl ?_
    obtain ⟨t10, h11, hf⟩ := hbd_s hf
    refine h_iald h11 dX9_spotIn_27 ?_
    refine h_istore_n (lv2 := [(3, .int t10), (0, .ref a0)]) dX9_spotIn_28 rfl (Nat.le_of_ble_eq_true rfl) rfl ?_
    refine h_aload_n dX9_spotIn_29 rfl 1 rfl ?_
    obtain ⟨g14, hf⟩ := hck_s hf
    obtain ⟨S13, h12, hf⟩ := hbd_s hf
    refine h_Vv [] (rest := []) (m_X9_laysBack (d := 2) (cs := cs) (Nat.le_refl _) h12) v_X9_laysBack q_1452 rfl (Nat.le_trans (by decide) hd) g14 rfl rfl (Nat.le_of_ble_eq_true rfl) dX9_spotIn_30 (Nat.le_refl _) (Nat.le_refl _) ?_
    refine h_iload_n dX9_spotIn_33 rfl 0 rfl ?_
    obtain rfl := Option.some.inj hf
    exact h_iret rfl rfl rfl (Nat.le_refl _) (Nat.le_refl _) dX9_spotIn_34
abbrev x_X9_isAsked (d : Nat) (S0 : hS) (args : List Value) (r : Int32 × hS) (cs : Nat → Nat) : hX := (((some .boolean), 4, d, 0, 0, false), (S0, args, some (.int r.1), r.2), cs)
theorem v_X9_isAsked : hVW yX9_isAsked cX9_isAsked 4 (some .boolean) RX9 3 := ⟨q_1442, q_s82, q_9, q_1443, by decide +kernel, by decide⟩
def f_X9_isAsked (a0 : Nat) (a1 : Int32) (a2 : Int32) (a3 : Int32) (S : hS) : Option (Int32 × hS) :=
  hck (S.K a0 = 10) <|
  hb2 (f_X9_isHall a0 S) fun t3 S2 =>
  hj (γ := hS → Option (Int32 × hS)) (fun (S5 : hS) =>
    some (0, S5)
    ) fun J4 =>
  if t3 = 0 then
    (J4 S2)
  else
    (hck (S2.K a0 = 10) <|
     hb2 (f_X9_isLaw a0 a1 S2) fun t9 S8 =>
     if t9 = 0 then
       (J4 S8)
     else
       (hb2 (f_X9_in (Int32.toInt64 a2) 0 (Int32.toInt64 a3) S8) fun t13 S12 =>
        if t13 = 0 then
          (J4 S12)
        else
          (some (1, S12))))
set_option maxRecDepth 100000 in
set_option maxHeartbeats 4000000 in
theorem m_X9_isAsked {d : Nat} {cs : Nat → Nat} {a0 : Nat} {a1 : Int32} {a2 : Int32} {a3 : Int32} {S : hS} {r : Int32 × hS} (hd : 3 ≤ d) (hf : f_X9_isAsked a0 a1 a2 a3 S = some r) : HM yX9_isAsked cX9_isAsked 4 (some .boolean) d 0 0 cs [.ref a0, .int a1, .int a2, .int a3] S (some (.int r.1)) r.2 := by
  unfold f_X9_isAsked at hf
  refine HM.ofHW false (by decide) (fun h => by cases h) (Nat.le_of_ble_eq_true rfl) ?_
  show HW cX9_isAsked RX9 (x_X9_isAsked d S [.ref a0, .int a1, .int a2, .int a3] r cs) 0 0 S 0 [(0, .ref a0), (1, .int a1), (2, .int a2), (3, .int a3)] []
  refine h_aload_n dX9_isAsked_0 rfl 0 rfl ?_
  obtain ⟨g16, hf⟩ := hck_s hf
  obtain ⟨t3, S2, h1, hf⟩ := hb2_s hf
  refine h_Vi [] (rest := []) (m_X9_isHall (d := 1) (cs := cs) (Nat.le_refl _) h1) v_X9_isHall q_1377 rfl (Nat.le_trans (by decide) hd) g16 rfl rfl (Nat.le_of_ble_eq_true rfl) dX9_isAsked_1 (Nat.le_refl _) (Nat.le_refl _) ?_
  refine hj_s (fun J4 => ∀ (S5 : hS), J4 S5 = some r → HW cX9_isAsked RX9 (x_X9_isAsked d S [.ref a0, .int a1, .int a2, .int a3] r cs) 0 0 S5 30 [] []) hf ?_ ?_
  · intro S5 hf
    refine h_iconst (v := 0) dX9_isAsked_30 rfl ?_
    obtain rfl := Option.some.inj hf
    exact h_zret rfl (by decide) rfl rfl (Nat.le_refl _) (Nat.le_refl _) dX9_isAsked_31
  · intro J4 hJ4 hf
    refine h_if_eq (tgt := 30) dX9_isAsked_4 (by decide) (fun c6 => ?_) (fun c6 => ?_)
    · replace hf := hif_p c6 hf
      refine h_sub (lv2 := []) [] rfl ?_
      exact hJ4 S2 hf
    · replace hf := hif_n c6 hf
      refine h_aload_n dX9_isAsked_7 rfl 0 rfl ?_
      refine h_iload_n dX9_isAsked_8 rfl 1 rfl ?_
      obtain ⟨g15, hf⟩ := hck_s hf
      obtain ⟨t9, S8, h7, hf⟩ := hb2_s hf
      refine h_Vi [.int a1] (rest := []) (m_X9_isLaw (d := 2) (cs := cs) (Nat.le_refl _) h7) v_X9_isLaw q_1381 rfl (Nat.le_trans (by decide) hd) g15 rfl rfl (Nat.le_of_ble_eq_true rfl) dX9_isAsked_9 (Nat.le_refl _) (Nat.le_refl _) ?_
      refine h_if_eq (tgt := 30) dX9_isAsked_12 (by decide) (fun c10 => ?_) (fun c10 => ?_)
      · replace hf := hif_p c10 hf
        refine h_sub (lv2 := []) [] rfl ?_
        exact hJ4 S8 hf
      · replace hf := hif_n c10 hf
        refine h_iload_n dX9_isAsked_15 rfl 2 rfl ?_
        refine h_i2l dX9_isAsked_16 ?_
        refine h_lconst (v := 0) dX9_isAsked_17 rfl ?_
        refine h_iload_n dX9_isAsked_18 rfl 3 rfl ?_
        refine h_i2l dX9_isAsked_19 ?_
        obtain ⟨t13, S12, h11, hf⟩ := hb2_s hf
        refine h_Si [.long (Int32.toInt64 a2), .long 0, .long (Int32.toInt64 a3)] (rest := []) (m_X9_in (d := 1) (cs := cs) (Nat.le_refl _) h11) v_X9_in q_1225 rfl (Nat.le_trans (by decide) hd) rfl (Nat.le_of_ble_eq_true rfl) dX9_isAsked_20 (Nat.le_refl _) (Nat.le_refl _) ?_
        refine h_if_eq (tgt := 30) dX9_isAsked_23 (by decide) (fun c14 => ?_) (fun c14 => ?_)
        · replace hf := hif_p c14 hf
          refine h_sub (lv2 := []) [] rfl ?_
          exact hJ4 S12 hf
        · replace hf := hif_n c14 hf
          refine h_iconst (v := 1) dX9_isAsked_26 rfl ?_
          refine h_goto (tgt := 31) dX9_isAsked_27 (by decide) ?_
          obtain rfl := Option.some.inj hf
          exact h_zret rfl (by decide) rfl rfl (Nat.le_refl _) (Nat.le_refl _) dX9_isAsked_31
abbrev x_X9_part (d : Nat) (S0 : hS) (args : List Value) (r : Int32 × hS) (cs : Nat → Nat) : hX := (((some .int), 2, d, 0, 0, false), (S0, args, some (.int r.1), r.2), cs)
theorem v_X9_part : hSW yX9_part cX9_part 2 (some .int) 2 := ⟨q_1457, q_9, q_1458, by decide +kernel, by decide⟩
def f_X9_part (a0 : Int32) (a1 : Int32) (S : hS) : Option (Int32 × hS) :=
  if a1 = 0 then
    (some (a0 - a0 / 10 * 10, S))
  else
    (some (a0 / 10, S))
set_option maxRecDepth 100000 in
set_option maxHeartbeats 4000000 in
theorem m_X9_part {d : Nat} {cs : Nat → Nat} {a0 : Int32} {a1 : Int32} {S : hS} {r : Int32 × hS} (hd : 1 ≤ d) (hf : f_X9_part a0 a1 S = some r) : HM yX9_part cX9_part 2 (some .int) d 0 0 cs [.int a0, .int a1] S (some (.int r.1)) r.2 := by
  unfold f_X9_part at hf
  refine HM.ofHW false (by decide) (fun h => by cases h) (Nat.le_of_ble_eq_true rfl) ?_
  show HW cX9_part RX9 (x_X9_part d S [.int a0, .int a1] r cs) 0 0 S 0 [(0, .int a0), (1, .int a1)] []
  refine h_iload_n dX9_part_0 rfl 1 rfl ?_
  refine h_if_ne (tgt := 11) dX9_part_1 (by decide) (fun c1 => ?_) (fun c1 => ?_)
  · replace hf := hif_n c1 hf
    refine h_iload_n dX9_part_11 rfl 0 rfl ?_
    refine h_bipush (v := 10) dX9_part_12 rfl ?_
    refine h_idiv dX9_part_14 (by decide) ?_
    obtain rfl := Option.some.inj hf
    exact h_iret rfl rfl rfl (Nat.le_refl _) (Nat.le_refl _) dX9_part_15
  · replace hf := hif_p c1 hf
    refine h_iload_n dX9_part_4 rfl 0 rfl ?_
    refine h_bipush (v := 10) dX9_part_5 rfl ?_
    refine h_irem dX9_part_7 (by decide) ?_
    refine h_goto (tgt := 15) dX9_part_8 (by decide) ?_
    obtain rfl := Option.some.inj hf
    exact h_iret rfl rfl rfl (Nat.le_refl _) (Nat.le_refl _) dX9_part_15
abbrev x_X9_there (d : Nat) (S0 : hS) (args : List Value) (r : Int32 × hS) (cs : Nat → Nat) : hX := (((some .int), 4, d, 0, 0, false), (S0, args, some (.int r.1), r.2), cs)
theorem v_X9_there : hVW yX9_there cX9_there 4 (some .int) RX9 3 := ⟨q_1437, q_1438, q_9, q_1439, by decide +kernel, by decide⟩
def f_X9_there (a0 : Nat) (a1 : Int32) (a2 : Int32) (a3 : Int32) (S : hS) : Option (Int32 × hS) :=
  hck (S.K a0 = 10) <|
  hb2 (f_X9_isAsked a0 a1 a2 60 S) fun t3 S2 =>
  hj (γ := hS → Option (Int32 × hS)) (fun (S5 : hS) =>
    some ((-1), S5)
    ) fun J4 =>
  if t3 = 0 then
    (J4 S2)
  else
    (hb2 (f_X9_in (Int32.toInt64 a3) 0 1 S2) fun t9 S8 =>
     if t9 = 0 then
       (J4 S8)
     else
       (hck (S8.K a0 = 10) <|
        hb2 (f_X9_spotIn a0 a1 a2 S8) fun t13 S12 =>
        hb2 (f_X9_part t13 a3 S12) fun t16 S15 =>
        some (t16, S15)))
set_option maxRecDepth 100000 in
set_option maxHeartbeats 4000000 in
theorem m_X9_there {d : Nat} {cs : Nat → Nat} {a0 : Nat} {a1 : Int32} {a2 : Int32} {a3 : Int32} {S : hS} {r : Int32 × hS} (hd : 9 ≤ d) (hf : f_X9_there a0 a1 a2 a3 S = some r) : HM yX9_there cX9_there 4 (some .int) d 0 0 cs [.ref a0, .int a1, .int a2, .int a3] S (some (.int r.1)) r.2 := by
  unfold f_X9_there at hf
  refine HM.ofHW false (by decide) (fun h => by cases h) (Nat.le_of_ble_eq_true rfl) ?_
  show HW cX9_there RX9 (x_X9_there d S [.ref a0, .int a1, .int a2, .int a3] r cs) 0 0 S 0 [(0, .ref a0), (1, .int a1), (2, .int a2), (3, .int a3)] []
  refine h_aload_n dX9_there_0 rfl 0 rfl ?_
  refine h_iload_n dX9_there_1 rfl 1 rfl ?_
  refine h_iload_n dX9_there_2 rfl 2 rfl ?_
  refine h_bipush (v := 60) dX9_there_3 rfl ?_
  obtain ⟨g18, hf⟩ := hck_s hf
  obtain ⟨t3, S2, h1, hf⟩ := hb2_s hf
  refine h_Vi [.int a1, .int a2, .int 60] (rest := []) (m_X9_isAsked (d := 3) (cs := cs) (Nat.le_refl _) h1) v_X9_isAsked q_1440 rfl (Nat.le_trans (by decide) hd) g18 rfl rfl (Nat.le_of_ble_eq_true rfl) dX9_there_5 (Nat.le_refl _) (Nat.le_refl _) ?_
  refine hj_s (fun J4 => ∀ (S5 : hS), J4 S5 = some r → HW cX9_there RX9 (x_X9_there d S [.ref a0, .int a1, .int a2, .int a3] r cs) 0 0 S5 21 [] []) hf ?_ ?_
  · intro S5 hf
    refine h_iconst (v := (-1)) dX9_there_21 rfl ?_
    refine h_goto (tgt := 35) dX9_there_22 (by decide) ?_
    obtain rfl := Option.some.inj hf
    exact h_iret rfl rfl rfl (Nat.le_refl _) (Nat.le_refl _) dX9_there_35
  · intro J4 hJ4 hf
    refine h_if_eq (tgt := 21) dX9_there_8 (by decide) (fun c6 => ?_) (fun c6 => ?_)
    · replace hf := hif_p c6 hf
      refine h_sub (lv2 := []) [] rfl ?_
      exact hJ4 S2 hf
    · replace hf := hif_n c6 hf
      refine h_iload_n dX9_there_11 rfl 3 rfl ?_
      refine h_i2l dX9_there_12 ?_
      refine h_lconst (v := 0) dX9_there_13 rfl ?_
      refine h_lconst (v := 1) dX9_there_14 rfl ?_
      obtain ⟨t9, S8, h7, hf⟩ := hb2_s hf
      refine h_Si [.long (Int32.toInt64 a3), .long 0, .long 1] (rest := []) (m_X9_in (d := 1) (cs := cs) (Nat.le_refl _) h7) v_X9_in q_1225 rfl (Nat.le_trans (by decide) hd) rfl (Nat.le_of_ble_eq_true rfl) dX9_there_15 (Nat.le_refl _) (Nat.le_refl _) ?_
      refine h_if_ne (tgt := 25) dX9_there_18 (by decide) (fun c10 => ?_) (fun c10 => ?_)
      · replace hf := hif_n c10 hf
        refine h_aload_n dX9_there_25 rfl 0 rfl ?_
        refine h_iload_n dX9_there_26 rfl 1 rfl ?_
        refine h_iload_n dX9_there_27 rfl 2 rfl ?_
        obtain ⟨g17, hf⟩ := hck_s hf
        obtain ⟨t13, S12, h11, hf⟩ := hb2_s hf
        refine h_Vi [.int a1, .int a2] (rest := []) (m_X9_spotIn (d := 8) (cs := cs) (Nat.le_refl _) h11) v_X9_spotIn q_1444 rfl (Nat.le_trans (by decide) hd) g17 rfl rfl (Nat.le_of_ble_eq_true rfl) dX9_there_28 (Nat.le_refl _) (Nat.le_refl _) ?_
        refine h_iload_n dX9_there_31 rfl 3 rfl ?_
        obtain ⟨t16, S15, h14, hf⟩ := hb2_s hf
        refine h_Si [.int t13, .int a3] (rest := []) (m_X9_part (d := 1) (cs := cs) (Nat.le_refl _) h14) v_X9_part q_1456 rfl (Nat.le_trans (by decide) hd) rfl (Nat.le_of_ble_eq_true rfl) dX9_there_32 (Nat.le_refl _) (Nat.le_refl _) ?_
        obtain rfl := Option.some.inj hf
        exact h_iret rfl rfl rfl (Nat.le_refl _) (Nat.le_refl _) dX9_there_35
      · replace hf := hif_p c10 hf
        refine h_sub (lv2 := []) [] rfl ?_
        exact hJ4 S8 hf
abbrev x_X9_fillsDeaf (d : Nat) (S0 : hS) (args : List Value) (r : hS) (cs : Nat → Nat) : hX := ((none, 4, d, 0, 0, false), (S0, args, none, r), cs)
theorem v_X9_fillsDeaf : hVW yX9_fillsDeaf cX9_fillsDeaf 4 none RX9 2 := ⟨q_1465, q_s86, q_9, q_1466, by decide +kernel, by decide⟩
def f_X9_fillsDeaf_L6 : Nat → Nat → Int32 → Int32 → Int32 → hS → (hS → Option (hS)) → Option (hS)
  | 0, _, _, _, _, _, _ => none
  | n + 1, x0, x1, x2, x3, S, k0 =>
    if x2 ≤ x3 then
      (k0 S)
    else
      (hck (S.K x0 = 10) <|
       hbd (f_X9_minute x0 x1 S) fun S3 =>
       f_X9_fillsDeaf_L6 n x0 x1 x2 (x3 + 1) S3 k0)
def f_X9_fillsDeaf_L24 : Nat → Nat → Int32 → hS → (hS → Option (hS)) → Option (hS)
  | 0, _, _, _, _ => none
  | n + 1, x0, x3, S, k0 =>
    if 12 ≤ x3 then
      (k0 S)
    else
      (hbd (gR S x0 9 49) fun t2 =>
       hbd (gR S x0 9 6) fun t4 =>
       hbd (gA S t4 12 x3) fun t6 =>
       hbd (gR S x0 9 47) fun t8 =>
       hbd (gA S t8 12 x3) fun t10 =>
       hbd (sA S t2 x3 (t6 - t10)) fun S12 =>
       f_X9_fillsDeaf_L24 n x0 (x3 + 1) S12 k0)
def f_X9_fillsDeaf (a0 : Nat) (a1 : Int32) (a2 : Int32) (S : hS) : Option (hS) :=
  hck (S.K a0 = 10) <|
  hbd (f_X9_keeps a0 S) fun S15 =>
  f_X9_fillsDeaf_L6 hfuel a0 a1 a2 0 S15
    (fun S16 =>
      f_X9_fillsDeaf_L24 hfuel a0 0 S16
        (fun S17 =>
          hck (S17.K a0 = 10) <|
          hbd (f_X9_laysBack a0 S17) fun S19 =>
          some S19
        )
    )
set_option maxRecDepth 100000 in
set_option maxHeartbeats 4000000 in
theorem w_X9_fillsDeaf_L6 {d : Nat} {S0 : hS} {args : List Value} {cs : Nat → Nat} {r : hS} (hd : 8 ≤ d) : ∀ (n : Nat) (x0 : Nat) (x1 : Int32) (x2 : Int32) (x3 : Int32) (S : hS) (k0 : (hS → Option (hS))) , f_X9_fillsDeaf_L6 n x0 x1 x2 x3 S k0 = some r → (∀ (T : hS), k0 T = some r → HW cX9_fillsDeaf RX9 (x_X9_fillsDeaf d S0 args r cs) 0 0 T 22 [(0, .ref x0)] []) → HW cX9_fillsDeaf RX9 (x_X9_fillsDeaf d S0 args r cs) 0 0 S 6 [(0, .ref x0), (1, .int x1), (2, .int x2), (3, .int x3)] [] := by
  intro n
  induction n with
  | zero =>
    intro x0 x1 x2 x3 S k0 hf
    cases hf
  | succ n ih =>
    intro x0 x1 x2 x3 S k0 hf hk0
    rw [f_X9_fillsDeaf_L6] at hf
    refine h_iload_n dX9_fillsDeaf_6 rfl 3 rfl ?_
    refine h_iload_n dX9_fillsDeaf_7 rfl 2 rfl ?_
    refine h_icmp_ge (tgt := 22) dX9_fillsDeaf_8 (by decide) (fun c1 => ?_) (fun c1 => ?_)
    · replace hf := hif_p c1 hf
      refine h_sub (lv2 := [(0, .ref x0)]) [0] rfl ?_
      exact hk0 S hf
    · replace hf := hif_n c1 hf
      refine h_aload_n dX9_fillsDeaf_11 rfl 0 rfl ?_
      refine h_iload_n dX9_fillsDeaf_12 rfl 1 rfl ?_
      obtain ⟨g4, hf⟩ := hck_s hf
      obtain ⟨S3, h2, hf⟩ := hbd_s hf
      refine h_Vv [.int x1] (rest := []) (m_X9_minute (d := 7) (cs := cs) (Nat.le_refl _) h2) v_X9_minute q_1386 rfl (Nat.le_trans (by decide) hd) g4 rfl rfl (Nat.le_of_ble_eq_true rfl) dX9_fillsDeaf_13 (Nat.le_refl _) (Nat.le_refl _) ?_
      refine h_iinc (q := 3) (v := x3 + 1) (lv2 := [(3, .int (x3 + 1)), (0, .ref x0), (1, .int x1), (2, .int x2)]) dX9_fillsDeaf_16 rfl rfl (Nat.le_of_ble_eq_true rfl) rfl ?_
      refine h_goto (tgt := 6) dX9_fillsDeaf_19 (by decide) ?_
      refine h_sub (lv2 := [(0, .ref x0), (1, .int x1), (2, .int x2), (3, .int (x3 + 1))]) [1, 2, 3, 0] rfl ?_
      exact ih x0 x1 x2 (x3 + 1) S3 k0  hf hk0
set_option maxRecDepth 100000 in
set_option maxHeartbeats 4000000 in
theorem w_X9_fillsDeaf_L24 {d : Nat} {S0 : hS} {args : List Value} {cs : Nat → Nat} {r : hS} (hd : 8 ≤ d) : ∀ (n : Nat) (x0 : Nat) (x3 : Int32) (S : hS) (k0 : (hS → Option (hS))) , f_X9_fillsDeaf_L24 n x0 x3 S k0 = some r → (∀ (T : hS), k0 T = some r → HW cX9_fillsDeaf RX9 (x_X9_fillsDeaf d S0 args r cs) 0 0 T 55 [(0, .ref x0)] []) → HW cX9_fillsDeaf RX9 (x_X9_fillsDeaf d S0 args r cs) 0 0 S 24 [(0, .ref x0), (3, .int x3)] [] := by
  intro n
  induction n with
  | zero =>
    intro x0 x3 S k0 hf
    cases hf
  | succ n ih =>
    intro x0 x3 S k0 hf hk0
    rw [f_X9_fillsDeaf_L24] at hf
    refine h_iload_n dX9_fillsDeaf_24 rfl 1 rfl ?_
    refine h_bipush (v := 12) dX9_fillsDeaf_25 rfl ?_
    refine h_icmp_ge (tgt := 55) dX9_fillsDeaf_27 (by decide) (fun c1 => ?_) (fun c1 => ?_)
    · replace hf := hif_p c1 hf
      refine h_sub (lv2 := [(0, .ref x0)]) [0] rfl ?_
      exact hk0 S hf
    · replace hf := hif_n c1 hf
      refine h_aload_n dX9_fillsDeaf_30 rfl 0 rfl ?_
      obtain ⟨t2, h3, hf⟩ := hbd_s hf
      refine h_getR h3 rfl (Nat.le_of_ble_eq_true rfl) rfl q_1009 rfl dX9_fillsDeaf_31 ?_
      refine h_iload_n dX9_fillsDeaf_34 rfl 1 rfl ?_
      refine h_aload_n dX9_fillsDeaf_35 rfl 0 rfl ?_
      obtain ⟨t4, h5, hf⟩ := hbd_s hf
      refine h_getR h5 rfl (Nat.le_of_ble_eq_true rfl) rfl q_966 rfl dX9_fillsDeaf_36 ?_
      refine h_iload_n dX9_fillsDeaf_39 rfl 1 rfl ?_
      obtain ⟨t6, h7, hf⟩ := hbd_s hf
      refine h_iald h7 dX9_fillsDeaf_40 ?_
      refine h_aload_n dX9_fillsDeaf_41 rfl 0 rfl ?_
      obtain ⟨t8, h9, hf⟩ := hbd_s hf
      refine h_getR h9 rfl (Nat.le_of_ble_eq_true rfl) rfl q_1007 rfl dX9_fillsDeaf_42 ?_
      refine h_iload_n dX9_fillsDeaf_45 rfl 1 rfl ?_
      obtain ⟨t10, h11, hf⟩ := hbd_s hf
      refine h_iald h11 dX9_fillsDeaf_46 ?_
      refine h_isub dX9_fillsDeaf_47 ?_
      obtain ⟨S12, h13, hf⟩ := hbd_s hf
      refine h_iast h13 dX9_fillsDeaf_48 ?_
      refine h_iinc (q := 1) (v := x3 + 1) (lv2 := [(3, .int (x3 + 1)), (0, .ref x0)]) dX9_fillsDeaf_49 rfl rfl (Nat.le_of_ble_eq_true rfl) rfl ?_
      refine h_goto (tgt := 24) dX9_fillsDeaf_52 (by decide) ?_
      refine h_sub (lv2 := [(0, .ref x0), (3, .int (x3 + 1))]) [1, 0] rfl ?_
      exact ih x0 (x3 + 1) S12 k0  hf hk0
set_option maxRecDepth 100000 in
set_option maxHeartbeats 4000000 in
theorem m_X9_fillsDeaf {d : Nat} {cs : Nat → Nat} {a0 : Nat} {a1 : Int32} {a2 : Int32} {S : hS} {r : hS} (hd : 8 ≤ d) (hf : f_X9_fillsDeaf a0 a1 a2 S = some r) : HM yX9_fillsDeaf cX9_fillsDeaf 4 none d 0 0 cs [.ref a0, .int a1, .int a2] S (none) r := by
  unfold f_X9_fillsDeaf at hf
  refine HM.ofHW false (by decide) (fun h => by cases h) (Nat.le_of_ble_eq_true rfl) ?_
  show HW cX9_fillsDeaf RX9 (x_X9_fillsDeaf d S [.ref a0, .int a1, .int a2] r cs) 0 0 S 0 [(0, .ref a0), (1, .int a1), (2, .int a2)] []
  refine h_aload_n dX9_fillsDeaf_0 rfl 0 rfl ?_
  obtain ⟨g21, hf⟩ := hck_s hf
  obtain ⟨S15, h14, hf⟩ := hbd_s hf
  refine h_Vv [] (rest := []) (m_X9_keeps (d := 2) (cs := cs) (Nat.le_refl _) h14) v_X9_keeps q_1448 rfl (Nat.le_trans (by decide) hd) g21 rfl rfl (Nat.le_of_ble_eq_true rfl) dX9_fillsDeaf_1 (Nat.le_refl _) (Nat.le_refl _) ?_
  refine h_iconst (v := 0) dX9_fillsDeaf_4 rfl ?_
  refine h_istore_n (lv2 := [(3, .int 0), (0, .ref a0), (1, .int a1), (2, .int a2)]) dX9_fillsDeaf_5 rfl (Nat.le_of_ble_eq_true rfl) rfl ?_
  refine h_sub (lv2 := [(0, .ref a0), (1, .int a1), (2, .int a2), (3, .int 0)]) [1, 2, 3, 0] rfl ?_
  refine w_X9_fillsDeaf_L6 hd hfuel a0 a1 a2 0 S15 _  hf ?_
  · intro S16 hf
    refine h_iconst (v := 0) dX9_fillsDeaf_22 rfl ?_
    refine h_istore_n (lv2 := [(3, .int 0), (0, .ref a0)]) dX9_fillsDeaf_23 rfl (Nat.le_of_ble_eq_true rfl) rfl ?_
    refine h_sub (lv2 := [(0, .ref a0), (3, .int 0)]) [1, 0] rfl ?_
    refine w_X9_fillsDeaf_L24 hd hfuel a0 0 S16 _  hf ?_
    · intro S17 hf
      refine h_aload_n dX9_fillsDeaf_55 rfl 0 rfl ?_
      obtain ⟨g20, hf⟩ := hck_s hf
      obtain ⟨S19, h18, hf⟩ := hbd_s hf
      refine h_Vv [] (rest := []) (m_X9_laysBack (d := 2) (cs := cs) (Nat.le_refl _) h18) v_X9_laysBack q_1452 rfl (Nat.le_trans (by decide) hd) g20 rfl rfl (Nat.le_of_ble_eq_true rfl) dX9_fillsDeaf_56 (Nat.le_refl _) (Nat.le_refl _) ?_
      obtain rfl := Option.some.inj hf
      exact h_vret rfl rfl rfl (Nat.le_refl _) (Nat.le_refl _) dX9_fillsDeaf_59
abbrev x_X9_deaf (d : Nat) (S0 : hS) (args : List Value) (r : Int32 × hS) (cs : Nat → Nat) : hX := (((some .int), 4, d, 0, 0, false), (S0, args, some (.int r.1), r.2), cs)
theorem v_X9_deaf : hVW yX9_deaf cX9_deaf 4 (some .int) RX9 3 := ⟨q_1460, q_1461, q_9, q_1462, by decide +kernel, by decide⟩
def f_X9_deaf (a0 : Nat) (a1 : Int32) (a2 : Int32) (a3 : Int32) (S : hS) : Option (Int32 × hS) :=
  hck (S.K a0 = 10) <|
  hb2 (f_X9_isAsked a0 a1 a2 60 S) fun t3 S2 =>
  if t3 = 0 then
    (some ((-1), S2))
  else
    (hck (S2.K a0 = 10) <|
     hb2 (f_X9_isGuest a0 a3 S2) fun t7 S6 =>
     if t7 = 0 then
       (some ((-1), S6))
     else
       (hck (S6.K a0 = 10) <|
        hbd (f_X9_fillsDeaf a0 a1 a2 S6) fun S10 =>
        hbd (gR S10 a0 9 49) fun t11 =>
        hbd (gA S10 t11 12 a3) fun t13 =>
        some (t13, S10)))
set_option maxRecDepth 100000 in
set_option maxHeartbeats 4000000 in
theorem m_X9_deaf {d : Nat} {cs : Nat → Nat} {a0 : Nat} {a1 : Int32} {a2 : Int32} {a3 : Int32} {S : hS} {r : Int32 × hS} (hd : 9 ≤ d) (hf : f_X9_deaf a0 a1 a2 a3 S = some r) : HM yX9_deaf cX9_deaf 4 (some .int) d 0 0 cs [.ref a0, .int a1, .int a2, .int a3] S (some (.int r.1)) r.2 := by
  unfold f_X9_deaf at hf
  refine HM.ofHW false (by decide) (fun h => by cases h) (Nat.le_of_ble_eq_true rfl) ?_
  show HW cX9_deaf RX9 (x_X9_deaf d S [.ref a0, .int a1, .int a2, .int a3] r cs) 0 0 S 0 [(0, .ref a0), (1, .int a1), (2, .int a2), (3, .int a3)] []
  refine h_aload_n dX9_deaf_0 rfl 0 rfl ?_
  refine h_iload_n dX9_deaf_1 rfl 1 rfl ?_
  refine h_iload_n dX9_deaf_2 rfl 2 rfl ?_
  refine h_bipush (v := 60) dX9_deaf_3 rfl ?_
  obtain ⟨g17, hf⟩ := hck_s hf
  obtain ⟨t3, S2, h1, hf⟩ := hb2_s hf
  refine h_Vi [.int a1, .int a2, .int 60] (rest := []) (m_X9_isAsked (d := 3) (cs := cs) (Nat.le_refl _) h1) v_X9_isAsked q_1440 rfl (Nat.le_trans (by decide) hd) g17 rfl rfl (Nat.le_of_ble_eq_true rfl) dX9_deaf_5 (Nat.le_refl _) (Nat.le_refl _) ?_
  refine h_if_eq (tgt := 19) dX9_deaf_8 (by decide) (fun c4 => ?_) (fun c4 => ?_)
  · replace hf := hif_p c4 hf
    refine h_iconst (v := (-1)) dX9_deaf_19 rfl ?_
    obtain rfl := Option.some.inj hf
    exact h_iret rfl rfl rfl (Nat.le_refl _) (Nat.le_refl _) dX9_deaf_20
  · replace hf := hif_n c4 hf
    refine h_aload_n dX9_deaf_11 rfl 0 rfl ?_
    refine h_iload_n dX9_deaf_12 rfl 3 rfl ?_
    obtain ⟨g16, hf⟩ := hck_s hf
    obtain ⟨t7, S6, h5, hf⟩ := hb2_s hf
    refine h_Vi [.int a3] (rest := []) (m_X9_isGuest (d := 2) (cs := cs) (Nat.le_refl _) h5) v_X9_isGuest q_1340 rfl (Nat.le_trans (by decide) hd) g16 rfl rfl (Nat.le_of_ble_eq_true rfl) dX9_deaf_13 (Nat.le_refl _) (Nat.le_refl _) ?_
    refine h_if_ne (tgt := 21) dX9_deaf_16 (by decide) (fun c8 => ?_) (fun c8 => ?_)
    · replace hf := hif_n c8 hf
      refine h_aload_n dX9_deaf_21 rfl 0 rfl ?_
      refine h_iload_n dX9_deaf_22 rfl 1 rfl ?_
      refine h_iload_n dX9_deaf_23 rfl 2 rfl ?_
      obtain ⟨g15, hf⟩ := hck_s hf
      obtain ⟨S10, h9, hf⟩ := hbd_s hf
      refine h_Vv [.int a1, .int a2] (rest := []) (m_X9_fillsDeaf (d := 8) (cs := cs) (Nat.le_refl _) h9) v_X9_fillsDeaf q_1463 rfl (Nat.le_trans (by decide) hd) g15 rfl rfl (Nat.le_of_ble_eq_true rfl) dX9_deaf_24 (Nat.le_refl _) (Nat.le_refl _) ?_
      refine h_aload_n dX9_deaf_27 rfl 0 rfl ?_
      obtain ⟨t11, h12, hf⟩ := hbd_s hf
      refine h_getR h12 rfl (Nat.le_of_ble_eq_true rfl) rfl q_1009 rfl dX9_deaf_28 ?_
      refine h_iload_n dX9_deaf_31 rfl 3 rfl ?_
      obtain ⟨t13, h14, hf⟩ := hbd_s hf
      refine h_iald h14 dX9_deaf_32 ?_
      obtain rfl := Option.some.inj hf
      exact h_iret rfl rfl rfl (Nat.le_refl _) (Nat.le_refl _) dX9_deaf_33
    · replace hf := hif_p c8 hf
      refine h_iconst (v := (-1)) dX9_deaf_19 rfl ?_
      obtain rfl := Option.some.inj hf
      exact h_iret rfl rfl rfl (Nat.le_refl _) (Nat.le_refl _) dX9_deaf_20
abbrev x_X9_critic (d : Nat) (S0 : hS) (args : List Value) (r : Int32 × hS) (cs : Nat → Nat) : hX := (((some .int), 6, d, 0, 0, false), (S0, args, some (.int r.1), r.2), cs)
theorem v_X9_critic : hVW yX9_critic cX9_critic 6 (some .int) RX9 3 := ⟨q_1468, q_1469, q_9, q_1470, by decide +kernel, by decide⟩
def f_X9_critic_L47 : Nat → Nat → Int32 → Int32 → hS → (Int32 → Option (Int32 × hS)) → Option (Int32 × hS)
  | 0, _, _, _, _, _ => none
  | n + 1, x0, x4, x5, S, k0 =>
    hbd (gR S x0 9 1) fun t1 =>
    hbd (gA S t1 12 2) fun t3 =>
    if t3 ≤ x5 then
      (k0 x4)
    else
      (hbd (gR S x0 9 49) fun t6 =>
       hbd (gA S t6 12 x5) fun t8 =>
       hbd (gR S x0 9 49) fun t10 =>
       hbd (gA S t10 12 x4) fun t12 =>
       hj (γ := Int32 → Option (Int32 × hS)) (fun (v15 : Int32) =>
         f_X9_critic_L47 n x0 v15 (x5 + 1) S k0
         ) fun J14 =>
       if t8 ≤ t12 then
         (J14 x4)
       else
         (J14 x5))
def f_X9_critic (a0 : Nat) (a1 : Int32) (a2 : Int32) (a3 : Int32) (S : hS) : Option (Int32 × hS) :=
  hck (S.K a0 = 10) <|
  hb2 (f_X9_isAsked a0 a1 a2 60 S) fun t19 S18 =>
  if t19 = 0 then
    (some ((-1), S18))
  else
    (hb2 (f_X9_in (Int32.toInt64 a3) 0 1 S18) fun t23 S22 =>
     if t23 = 0 then
       (some ((-1), S22))
     else
       (hbd (gR S22 a0 9 1) fun t25 =>
        hbd (gA S22 t25 12 2) fun t27 =>
        if t27 = 0 then
          (some ((-2), S22))
        else
          (hck (S22.K a0 = 10) <|
           hbd (f_X9_fillsDeaf a0 a1 a2 S22) fun S31 =>
           f_X9_critic_L47 hfuel a0 0 1 S31
             (fun u32 =>
               if a3 = 0 then
                 (some (u32, S31))
               else
                 (hbd (gR S31 a0 9 49) fun t34 =>
                  hbd (gA S31 t34 12 u32) fun t36 =>
                  some (t36, S31))
             ))))
set_option maxRecDepth 100000 in
set_option maxHeartbeats 4000000 in
theorem w_X9_critic_L47 {d : Nat} {S0 : hS} {args : List Value} {cs : Nat → Nat} {r : Int32 × hS} (hd : 9 ≤ d) : ∀ (n : Nat) (x0 : Nat) (x4 : Int32) (x5 : Int32) (S : hS) (k0 : (Int32 → Option (Int32 × hS))) (z3 : Int32), f_X9_critic_L47 n x0 x4 x5 S k0 = some r → (∀ (y4 : Int32), k0 y4 = some r → HW cX9_critic RX9 (x_X9_critic d S0 args r cs) 0 0 S 90 [(0, .ref x0), (3, .int z3), (4, .int y4)] []) → HW cX9_critic RX9 (x_X9_critic d S0 args r cs) 0 0 S 47 [(0, .ref x0), (3, .int z3), (4, .int x4), (5, .int x5)] [] := by
  intro n
  induction n with
  | zero =>
    intro x0 x4 x5 S k0 z3 hf
    cases hf
  | succ n ih =>
    intro x0 x4 x5 S k0 z3 hf hk0
    rw [f_X9_critic_L47] at hf
    refine h_iload dX9_critic_47 3 rfl ?_
    refine h_aload_n dX9_critic_49 rfl 0 rfl ?_
    obtain ⟨t1, h2, hf⟩ := hbd_s hf
    refine h_getR h2 rfl (Nat.le_of_ble_eq_true rfl) rfl q_961 rfl dX9_critic_50 ?_
    refine h_iconst (v := 2) dX9_critic_53 rfl ?_
    obtain ⟨t3, h4, hf⟩ := hbd_s hf
    refine h_iald h4 dX9_critic_54 ?_
    refine h_icmp_ge (tgt := 90) dX9_critic_55 (by decide) (fun c5 => ?_) (fun c5 => ?_)
    · replace hf := hif_p c5 hf
      refine h_sub (lv2 := [(0, .ref x0), (3, .int z3), (4, .int x4)]) [0, 1, 2] rfl ?_
      exact hk0 x4  hf
    · replace hf := hif_n c5 hf
      refine h_aload_n dX9_critic_58 rfl 0 rfl ?_
      obtain ⟨t6, h7, hf⟩ := hbd_s hf
      refine h_getR h7 rfl (Nat.le_of_ble_eq_true rfl) rfl q_1009 rfl dX9_critic_59 ?_
      refine h_iload dX9_critic_62 3 rfl ?_
      obtain ⟨t8, h9, hf⟩ := hbd_s hf
      refine h_iald h9 dX9_critic_64 ?_
      refine h_aload_n dX9_critic_65 rfl 0 rfl ?_
      obtain ⟨t10, h11, hf⟩ := hbd_s hf
      refine h_getR h11 rfl (Nat.le_of_ble_eq_true rfl) rfl q_1009 rfl dX9_critic_66 ?_
      refine h_iload dX9_critic_69 2 rfl ?_
      obtain ⟨t12, h13, hf⟩ := hbd_s hf
      refine h_iald h13 dX9_critic_71 ?_
      refine hj_s (fun J14 => ∀ (v15 : Int32), J14 v15 = some r → HW cX9_critic RX9 (x_X9_critic d S0 args r cs) 0 0 S 82 [(0, .ref x0), (3, .int z3), (5, .int x5)] [.int v15]) hf ?_ ?_
      · intro v15 hf
        refine h_istore (lv2 := [(4, .int v15), (0, .ref x0), (3, .int z3), (5, .int x5)]) dX9_critic_82 (Nat.le_of_ble_eq_true rfl) rfl ?_
        refine h_iinc (q := 3) (v := x5 + 1) (lv2 := [(5, .int (x5 + 1)), (4, .int v15), (0, .ref x0), (3, .int z3)]) dX9_critic_84 rfl rfl (Nat.le_of_ble_eq_true rfl) rfl ?_
        refine h_goto (tgt := 47) dX9_critic_87 (by decide) ?_
        refine h_sub (lv2 := [(0, .ref x0), (3, .int z3), (4, .int v15), (5, .int (x5 + 1))]) [2, 3, 1, 0] rfl ?_
        exact ih x0 v15 (x5 + 1) S k0 z3 hf hk0
      · intro J14 hJ14 hf
        refine h_icmp_le (tgt := 80) dX9_critic_72 (by decide) (fun c16 => ?_) (fun c16 => ?_)
        · replace hf := hif_p c16 hf
          refine h_iload dX9_critic_80 2 rfl ?_
          refine h_sub (lv2 := [(0, .ref x0), (3, .int z3), (5, .int x5)]) [0, 1, 3] rfl ?_
          exact hJ14 x4 hf
        · replace hf := hif_n c16 hf
          refine h_iload dX9_critic_75 3 rfl ?_
          refine h_goto (tgt := 82) dX9_critic_77 (by decide) ?_
          refine h_sub (lv2 := [(0, .ref x0), (3, .int z3), (5, .int x5)]) [0, 1, 3] rfl ?_
          exact hJ14 x5 hf
set_option maxRecDepth 100000 in
set_option maxHeartbeats 4000000 in
theorem m_X9_critic {d : Nat} {cs : Nat → Nat} {a0 : Nat} {a1 : Int32} {a2 : Int32} {a3 : Int32} {S : hS} {r : Int32 × hS} (hd : 9 ≤ d) (hf : f_X9_critic a0 a1 a2 a3 S = some r) : HM yX9_critic cX9_critic 6 (some .int) d 0 0 cs [.ref a0, .int a1, .int a2, .int a3] S (some (.int r.1)) r.2 := by
  unfold f_X9_critic at hf
  refine HM.ofHW false (by decide) (fun h => by cases h) (Nat.le_of_ble_eq_true rfl) ?_
  show HW cX9_critic RX9 (x_X9_critic d S [.ref a0, .int a1, .int a2, .int a3] r cs) 0 0 S 0 [(0, .ref a0), (1, .int a1), (2, .int a2), (3, .int a3)] []
  refine h_aload_n dX9_critic_0 rfl 0 rfl ?_
  refine h_iload_n dX9_critic_1 rfl 1 rfl ?_
  refine h_iload_n dX9_critic_2 rfl 2 rfl ?_
  refine h_bipush (v := 60) dX9_critic_3 rfl ?_
  obtain ⟨g39, hf⟩ := hck_s hf
  obtain ⟨t19, S18, h17, hf⟩ := hb2_s hf
  refine h_Vi [.int a1, .int a2, .int 60] (rest := []) (m_X9_isAsked (d := 3) (cs := cs) (Nat.le_refl _) h17) v_X9_isAsked q_1440 rfl (Nat.le_trans (by decide) hd) g39 rfl rfl (Nat.le_of_ble_eq_true rfl) dX9_critic_5 (Nat.le_refl _) (Nat.le_refl _) ?_
  refine h_if_eq (tgt := 21) dX9_critic_8 (by decide) (fun c20 => ?_) (fun c20 => ?_)
  · replace hf := hif_p c20 hf
    refine h_iconst (v := (-1)) dX9_critic_21 rfl ?_
    obtain rfl := Option.some.inj hf
    exact h_iret rfl rfl rfl (Nat.le_refl _) (Nat.le_refl _) dX9_critic_22
  · replace hf := hif_n c20 hf
    refine h_iload_n dX9_critic_11 rfl 3 rfl ?_
    refine h_i2l dX9_critic_12 ?_
    refine h_lconst (v := 0) dX9_critic_13 rfl ?_
    refine h_lconst (v := 1) dX9_critic_14 rfl ?_
    obtain ⟨t23, S22, h21, hf⟩ := hb2_s hf
    refine h_Si [.long (Int32.toInt64 a3), .long 0, .long 1] (rest := []) (m_X9_in (d := 1) (cs := cs) (Nat.le_refl _) h21) v_X9_in q_1225 rfl (Nat.le_trans (by decide) hd) rfl (Nat.le_of_ble_eq_true rfl) dX9_critic_15 (Nat.le_refl _) (Nat.le_refl _) ?_
    refine h_if_ne (tgt := 23) dX9_critic_18 (by decide) (fun c24 => ?_) (fun c24 => ?_)
    · replace hf := hif_n c24 hf
      refine h_aload_n dX9_critic_23 rfl 0 rfl ?_
      obtain ⟨t25, h26, hf⟩ := hbd_s hf
      refine h_getR h26 rfl (Nat.le_of_ble_eq_true rfl) rfl q_961 rfl dX9_critic_24 ?_
      refine h_iconst (v := 2) dX9_critic_27 rfl ?_
      obtain ⟨t27, h28, hf⟩ := hbd_s hf
      refine h_iald h28 dX9_critic_28 ?_
      refine h_if_ne (tgt := 35) dX9_critic_29 (by decide) (fun c29 => ?_) (fun c29 => ?_)
      · replace hf := hif_n c29 hf
        refine h_aload_n dX9_critic_35 rfl 0 rfl ?_
        refine h_iload_n dX9_critic_36 rfl 1 rfl ?_
        refine h_iload_n dX9_critic_37 rfl 2 rfl ?_
        obtain ⟨g38, hf⟩ := hck_s hf
        obtain ⟨S31, h30, hf⟩ := hbd_s hf
        refine h_Vv [.int a1, .int a2] (rest := []) (m_X9_fillsDeaf (d := 8) (cs := cs) (Nat.le_refl _) h30) v_X9_fillsDeaf q_1463 rfl (Nat.le_trans (by decide) hd) g38 rfl rfl (Nat.le_of_ble_eq_true rfl) dX9_critic_38 (Nat.le_refl _) (Nat.le_refl _) ?_
        refine h_iconst (v := 0) dX9_critic_41 rfl ?_
        refine h_istore (lv2 := [(4, .int 0), (0, .ref a0), (1, .int a1), (2, .int a2), (3, .int a3)]) dX9_critic_42 (Nat.le_of_ble_eq_true rfl) rfl ?_
        refine h_iconst (v := 1) dX9_critic_44 rfl ?_
        refine h_istore (lv2 := [(5, .int 1), (4, .int 0), (0, .ref a0), (1, .int a1), (2, .int a2), (3, .int a3)]) dX9_critic_45 (Nat.le_of_ble_eq_true rfl) rfl ?_
        refine h_sub (lv2 := [(0, .ref a0), (3, .int a3), (4, .int 0), (5, .int 1)]) [2, 5, 1, 0] rfl ?_
        refine w_X9_critic_L47 hd hfuel a0 0 1 S31 _ a3 hf ?_
        · intro u32 hf
          refine h_iload_n dX9_critic_90 rfl 1 rfl ?_
          refine h_if_ne (tgt := 99) dX9_critic_91 (by decide) (fun c33 => ?_) (fun c33 => ?_)
          · replace hf := hif_n c33 hf
            refine h_aload_n dX9_critic_99 rfl 0 rfl ?_
            obtain ⟨t34, h35, hf⟩ := hbd_s hf
            refine h_getR h35 rfl (Nat.le_of_ble_eq_true rfl) rfl q_1009 rfl dX9_critic_100 ?_
            refine h_iload dX9_critic_103 2 rfl ?_
            obtain ⟨t36, h37, hf⟩ := hbd_s hf
            refine h_iald h37 dX9_critic_105 ?_
            obtain rfl := Option.some.inj hf
            exact h_iret rfl rfl rfl (Nat.le_refl _) (Nat.le_refl _) dX9_critic_106
          · replace hf := hif_p c33 hf
            refine h_iload dX9_critic_94 2 rfl ?_
            refine h_goto (tgt := 106) dX9_critic_96 (by decide) ?_
            obtain rfl := Option.some.inj hf
            exact h_iret rfl rfl rfl (Nat.le_refl _) (Nat.le_refl _) dX9_critic_106
      · replace hf := hif_p c29 hf
        refine h_bipush (v := (-2)) dX9_critic_32 rfl ?_
        obtain rfl := Option.some.inj hf
        exact h_iret rfl rfl rfl (Nat.le_refl _) (Nat.le_refl _) dX9_critic_34
    · replace hf := hif_p c24 hf
      refine h_iconst (v := (-1)) dX9_critic_21 rfl ?_
      obtain rfl := Option.some.inj hf
      exact h_iret rfl rfl rfl (Nat.le_refl _) (Nat.le_refl _) dX9_critic_22
abbrev x_X9_findsSeat (d : Nat) (S0 : hS) (args : List Value) (r : Int32 × hS) (cs : Nat → Nat) : hX := (((some .boolean), 8, d, 0, 0, false), (S0, args, some (.int r.1), r.2), cs)
theorem v_X9_findsSeat : hVW yX9_findsSeat cX9_findsSeat 8 (some .boolean) RX9 3 := ⟨q_1478, q_s87, q_9, q_1479, by decide +kernel, by decide⟩
def f_X9_findsSeat_L26 : Nat → Nat → Int32 → Int32 → Int32 → Int32 → Int32 → Int32 → hS → (hS → Option (Int32 × hS)) → (Int32 → hS → Option (Int32 × hS)) → Option (Int32 × hS)
  | 0, _, _, _, _, _, _, _, _, _, _ => none
  | n + 1, x0, x1, x2, x3, x4, x5, x6, S, k0, k1 =>
    if 80 ≤ x6 then
      (k0 S)
    else
      (if x5 = (-1) then
         (k0 S)
       else
         (hck (S.K x0 = 10) <|
          hb2 (f_X9_isThere x0 x6 S) fun t5 S4 =>
          if t5 = 0 then
            (f_X9_findsSeat_L26 n x0 x1 x2 x3 x4 x5 (x6 + 1) S4 k0 k1)
          else
            (hck (S4.K x0 = 10) <|
             hb2 (f_X9_whoAt x0 x6 S4) fun t9 S8 =>
             if t9 = (-1) then
               (hbd (gR S8 x0 9 3) fun t11 =>
                hbd (sA S8 t11 x4 x6) fun S13 =>
                hck (S13.K x0 = 10) <|
                hb2 (f_X9_spotIn x0 x1 x2 S13) fun t17 S16 =>
                hbd (gR S16 x0 9 3) fun t18 =>
                hbd (gA S16 t18 12 x3) fun t20 =>
                hj (γ := Int32 → Option (Int32 × hS)) (fun (v23 : Int32) =>
                  hbd (gR S16 x0 9 3) fun t24 =>
                  hbd (sA S16 t24 x4 x5) fun S26 =>
                  if v23 = 0 then
                    (f_X9_findsSeat_L26 n x0 x1 x2 x3 x4 x5 (x6 + 1) S26 k0 k1)
                  else
                    (k1 x6 S26)
                  ) fun J22 =>
                if t17 = t20 then
                  (J22 1)
                else
                  (J22 0))
             else
               (f_X9_findsSeat_L26 n x0 x1 x2 x3 x4 x5 (x6 + 1) S8 k0 k1))))
def f_X9_findsSeat_L3 : Nat → Nat → Int32 → Int32 → Int32 → Int32 → hS → (hS → Option (Int32 × hS)) → (Int32 → Int32 → hS → Option (Int32 × hS)) → Option (Int32 × hS)
  | 0, _, _, _, _, _, _, _, _ => none
  | n + 1, x0, x1, x2, x3, x4, S, k0, k1 =>
    hbd (gR S x0 9 1) fun t1 =>
    hbd (gA S t1 12 2) fun t3 =>
    if t3 ≤ x4 then
      (k0 S)
    else
      (hbd (gR S x0 9 3) fun t6 =>
       hbd (gA S t6 12 x4) fun t8 =>
       f_X9_findsSeat_L26 hfuel x0 x1 x2 x3 x4 t8 0 S
         (fun S10 =>
           f_X9_findsSeat_L3 n x0 x1 x2 x3 (x4 + 1) S10 k0 k1
         )
         (fun u11 S12 =>
           k1 x4 u11 S12
         ))
def f_X9_findsSeat (a0 : Nat) (a1 : Int32) (a2 : Int32) (a3 : Int32) (S : hS) : Option (Int32 × hS) :=
  f_X9_findsSeat_L3 hfuel a0 a1 a2 a3 0 S
    (fun S13 =>
      some (0, S13)
    )
    (fun u14 u15 S16 =>
      hbd (sI S16 a0 9 50 u14) fun S17 =>
      hbd (sI S17 a0 9 51 u15) fun S19 =>
      some (1, S19)
    )
set_option maxRecDepth 100000 in
set_option maxHeartbeats 4000000 in
theorem w_X9_findsSeat_L26 {d : Nat} {S0 : hS} {args : List Value} {cs : Nat → Nat} {r : Int32 × hS} (hd : 9 ≤ d) : ∀ (n : Nat) (x0 : Nat) (x1 : Int32) (x2 : Int32) (x3 : Int32) (x4 : Int32) (x5 : Int32) (x6 : Int32) (S : hS) (k0 : (hS → Option (Int32 × hS))) (k1 : (Int32 → hS → Option (Int32 × hS))) , f_X9_findsSeat_L26 n x0 x1 x2 x3 x4 x5 x6 S k0 k1 = some r → (∀ (T : hS), k0 T = some r → HW cX9_findsSeat RX9 (x_X9_findsSeat d S0 args r cs) 0 0 T 123 [(0, .ref x0), (1, .int x1), (2, .int x2), (3, .int x3), (4, .int x4)] []) → (∀ (y6 : Int32) (T : hS), k1 y6 T = some r → HW cX9_findsSeat RX9 (x_X9_findsSeat d S0 args r cs) 0 0 T 103 [(0, .ref x0), (4, .int x4), (6, .int y6)] []) → HW cX9_findsSeat RX9 (x_X9_findsSeat d S0 args r cs) 0 0 S 26 [(0, .ref x0), (1, .int x1), (2, .int x2), (3, .int x3), (4, .int x4), (5, .int x5), (6, .int x6)] [] := by
  intro n
  induction n with
  | zero =>
    intro x0 x1 x2 x3 x4 x5 x6 S k0 k1 hf
    cases hf
  | succ n ih =>
    intro x0 x1 x2 x3 x4 x5 x6 S k0 k1 hf hk0 hk1
    rw [f_X9_findsSeat_L26] at hf
    refine h_iload dX9_findsSeat_26 6 rfl ?_
    refine h_bipush (v := 80) dX9_findsSeat_28 rfl ?_
    refine h_icmp_ge (tgt := 123) dX9_findsSeat_30 (by decide) (fun c1 => ?_) (fun c1 => ?_)
    · replace hf := hif_p c1 hf
      refine h_sub (lv2 := [(0, .ref x0), (1, .int x1), (2, .int x2), (3, .int x3), (4, .int x4)]) [0, 1, 2, 3, 4] rfl ?_
      exact hk0 S hf
    · replace hf := hif_n c1 hf
      refine h_iload dX9_findsSeat_33 5 rfl ?_
      refine h_iconst (v := (-1)) dX9_findsSeat_35 rfl ?_
      refine h_icmp_eq (tgt := 123) dX9_findsSeat_36 (by decide) (fun c2 => ?_) (fun c2 => ?_)
      · replace hf := hif_p c2 hf
        refine h_sub (lv2 := [(0, .ref x0), (1, .int x1), (2, .int x2), (3, .int x3), (4, .int x4)]) [0, 1, 2, 3, 4] rfl ?_
        exact hk0 S hf
      · replace hf := hif_n c2 hf
        refine h_aload_n dX9_findsSeat_39 rfl 0 rfl ?_
        refine h_iload dX9_findsSeat_40 6 rfl ?_
        obtain ⟨g32, hf⟩ := hck_s hf
        obtain ⟨t5, S4, h3, hf⟩ := hb2_s hf
        refine h_Vi [.int x6] (rest := []) (m_X9_isThere (d := 3) (cs := cs) (Nat.le_refl _) h3) v_X9_isThere q_1410 rfl (Nat.le_trans (by decide) hd) g32 rfl rfl (Nat.le_of_ble_eq_true rfl) dX9_findsSeat_42 (Nat.le_refl _) (Nat.le_refl _) ?_
        refine h_if_eq (tgt := 117) dX9_findsSeat_45 (by decide) (fun c6 => ?_) (fun c6 => ?_)
        · replace hf := hif_p c6 hf
          refine h_iinc (q := 6) (v := x6 + 1) (lv2 := [(6, .int (x6 + 1)), (0, .ref x0), (1, .int x1), (2, .int x2), (3, .int x3), (4, .int x4), (5, .int x5)]) dX9_findsSeat_117 rfl rfl (Nat.le_of_ble_eq_true rfl) rfl ?_
          refine h_goto (tgt := 26) dX9_findsSeat_120 (by decide) ?_
          refine h_sub (lv2 := [(0, .ref x0), (1, .int x1), (2, .int x2), (3, .int x3), (4, .int x4), (5, .int x5), (6, .int (x6 + 1))]) [1, 2, 3, 4, 5, 6, 0] rfl ?_
          exact ih x0 x1 x2 x3 x4 x5 (x6 + 1) S4 k0 k1  hf hk0 hk1
        · replace hf := hif_n c6 hf
          refine h_aload_n dX9_findsSeat_48 rfl 0 rfl ?_
          refine h_iload dX9_findsSeat_49 6 rfl ?_
          obtain ⟨g31, hf⟩ := hck_s hf
          obtain ⟨t9, S8, h7, hf⟩ := hb2_s hf
          refine h_Vi [.int x6] (rest := []) (m_X9_whoAt (d := 1) (cs := cs) (Nat.le_refl _) h7) v_X9_whoAt q_1328 rfl (Nat.le_trans (by decide) hd) g31 rfl rfl (Nat.le_of_ble_eq_true rfl) dX9_findsSeat_51 (Nat.le_refl _) (Nat.le_refl _) ?_
          refine h_iconst (v := (-1)) dX9_findsSeat_54 rfl ?_
          refine h_icmp_ne (tgt := 117) dX9_findsSeat_55 (by decide) (fun c10 => ?_) (fun c10 => ?_)
          · replace hf := hif_n c10 hf
            refine h_iinc (q := 6) (v := x6 + 1) (lv2 := [(6, .int (x6 + 1)), (0, .ref x0), (1, .int x1), (2, .int x2), (3, .int x3), (4, .int x4), (5, .int x5)]) dX9_findsSeat_117 rfl rfl (Nat.le_of_ble_eq_true rfl) rfl ?_
            refine h_goto (tgt := 26) dX9_findsSeat_120 (by decide) ?_
            refine h_sub (lv2 := [(0, .ref x0), (1, .int x1), (2, .int x2), (3, .int x3), (4, .int x4), (5, .int x5), (6, .int (x6 + 1))]) [1, 2, 3, 4, 5, 6, 0] rfl ?_
            exact ih x0 x1 x2 x3 x4 x5 (x6 + 1) S8 k0 k1  hf hk0 hk1
          · replace hf := hif_p c10 hf
            refine h_aload_n dX9_findsSeat_58 rfl 0 rfl ?_
            obtain ⟨t11, h12, hf⟩ := hbd_s hf
            refine h_getR h12 rfl (Nat.le_of_ble_eq_true rfl) rfl q_963 rfl dX9_findsSeat_59 ?_
            refine h_iload dX9_findsSeat_62 4 rfl ?_
            refine h_iload dX9_findsSeat_64 6 rfl ?_
            obtain ⟨S13, h14, hf⟩ := hbd_s hf
            refine h_iast h14 dX9_findsSeat_66 ?_
            refine h_aload_n dX9_findsSeat_67 rfl 0 rfl ?_
            refine h_iload_n dX9_findsSeat_68 rfl 1 rfl ?_
            refine h_iload_n dX9_findsSeat_69 rfl 2 rfl ?_
            obtain ⟨g30, hf⟩ := hck_s hf
            obtain ⟨t17, S16, h15, hf⟩ := hb2_s hf
            refine h_Vi [.int x1, .int x2] (rest := []) (m_X9_spotIn (d := 8) (cs := cs) (Nat.le_refl _) h15) v_X9_spotIn q_1444 rfl (Nat.le_trans (by decide) hd) g30 rfl rfl (Nat.le_of_ble_eq_true rfl) dX9_findsSeat_70 (Nat.le_refl _) (Nat.le_refl _) ?_
            refine h_aload_n dX9_findsSeat_73 rfl 0 rfl ?_
            obtain ⟨t18, h19, hf⟩ := hbd_s hf
            refine h_getR h19 rfl (Nat.le_of_ble_eq_true rfl) rfl q_963 rfl dX9_findsSeat_74 ?_
            refine h_iload_n dX9_findsSeat_77 rfl 3 rfl ?_
            obtain ⟨t20, h21, hf⟩ := hbd_s hf
            refine h_iald h21 dX9_findsSeat_78 ?_
            refine hj_s (fun J22 => ∀ (v23 : Int32), J22 v23 = some r → HW cX9_findsSeat RX9 (x_X9_findsSeat d S0 args r cs) 0 0 S16 87 [(0, .ref x0), (1, .int x1), (2, .int x2), (3, .int x3), (4, .int x4), (5, .int x5), (6, .int x6)] [.int v23]) hf ?_ ?_
            · intro v23 hf
              refine h_istore (lv2 := [(7, .int v23), (0, .ref x0), (1, .int x1), (2, .int x2), (3, .int x3), (4, .int x4), (5, .int x5), (6, .int x6)]) dX9_findsSeat_87 (Nat.le_of_ble_eq_true rfl) rfl ?_
              refine h_aload_n dX9_findsSeat_89 rfl 1 rfl ?_
              obtain ⟨t24, h25, hf⟩ := hbd_s hf
              refine h_getR h25 rfl (Nat.le_of_ble_eq_true rfl) rfl q_963 rfl dX9_findsSeat_90 ?_
              refine h_iload dX9_findsSeat_93 5 rfl ?_
              refine h_iload dX9_findsSeat_95 6 rfl ?_
              obtain ⟨S26, h27, hf⟩ := hbd_s hf
              refine h_iast h27 dX9_findsSeat_97 ?_
              refine h_iload dX9_findsSeat_98 0 rfl ?_
              refine h_if_eq (tgt := 117) dX9_findsSeat_100 (by decide) (fun c28 => ?_) (fun c28 => ?_)
              · replace hf := hif_p c28 hf
                refine h_iinc (q := 7) (v := x6 + 1) (lv2 := [(6, .int (x6 + 1)), (7, .int v23), (0, .ref x0), (1, .int x1), (2, .int x2), (3, .int x3), (4, .int x4), (5, .int x5)]) dX9_findsSeat_117 rfl rfl (Nat.le_of_ble_eq_true rfl) rfl ?_
                refine h_goto (tgt := 26) dX9_findsSeat_120 (by decide) ?_
                refine h_sub (lv2 := [(0, .ref x0), (1, .int x1), (2, .int x2), (3, .int x3), (4, .int x4), (5, .int x5), (6, .int (x6 + 1))]) [2, 3, 4, 5, 6, 7, 0] rfl ?_
                exact ih x0 x1 x2 x3 x4 x5 (x6 + 1) S26 k0 k1  hf hk0 hk1
              · replace hf := hif_n c28 hf
                refine h_sub (lv2 := [(0, .ref x0), (4, .int x4), (6, .int x6)]) [1, 5, 7] rfl ?_
                exact hk1 x6 S26 hf
            · intro J22 hJ22 hf
              refine h_icmp_ne (tgt := 86) dX9_findsSeat_79 (by decide) (fun c29 => ?_) (fun c29 => ?_)
              · replace hf := hif_n c29 hf
                refine h_iconst (v := 0) dX9_findsSeat_86 rfl ?_
                exact hJ22 0 hf
              · replace hf := hif_p c29 hf
                refine h_iconst (v := 1) dX9_findsSeat_82 rfl ?_
                refine h_goto (tgt := 87) dX9_findsSeat_83 (by decide) ?_
                exact hJ22 1 hf
set_option maxRecDepth 100000 in
set_option maxHeartbeats 4000000 in
theorem w_X9_findsSeat_L3 {d : Nat} {S0 : hS} {args : List Value} {cs : Nat → Nat} {r : Int32 × hS} (hd : 9 ≤ d) : ∀ (n : Nat) (x0 : Nat) (x1 : Int32) (x2 : Int32) (x3 : Int32) (x4 : Int32) (S : hS) (k0 : (hS → Option (Int32 × hS))) (k1 : (Int32 → Int32 → hS → Option (Int32 × hS))) , f_X9_findsSeat_L3 n x0 x1 x2 x3 x4 S k0 k1 = some r → (∀ (T : hS), k0 T = some r → HW cX9_findsSeat RX9 (x_X9_findsSeat d S0 args r cs) 0 0 T 129 [] []) → (∀ (y4 : Int32) (y6 : Int32) (T : hS), k1 y4 y6 T = some r → HW cX9_findsSeat RX9 (x_X9_findsSeat d S0 args r cs) 0 0 T 103 [(0, .ref x0), (4, .int y4), (6, .int y6)] []) → HW cX9_findsSeat RX9 (x_X9_findsSeat d S0 args r cs) 0 0 S 3 [(0, .ref x0), (1, .int x1), (2, .int x2), (3, .int x3), (4, .int x4)] [] := by
  intro n
  induction n with
  | zero =>
    intro x0 x1 x2 x3 x4 S k0 k1 hf
    cases hf
  | succ n ih =>
    intro x0 x1 x2 x3 x4 S k0 k1 hf hk0 hk1
    rw [f_X9_findsSeat_L3] at hf
    refine h_iload dX9_findsSeat_3 4 rfl ?_
    refine h_aload_n dX9_findsSeat_5 rfl 0 rfl ?_
    obtain ⟨t1, h2, hf⟩ := hbd_s hf
    refine h_getR h2 rfl (Nat.le_of_ble_eq_true rfl) rfl q_961 rfl dX9_findsSeat_6 ?_
    refine h_iconst (v := 2) dX9_findsSeat_9 rfl ?_
    obtain ⟨t3, h4, hf⟩ := hbd_s hf
    refine h_iald h4 dX9_findsSeat_10 ?_
    refine h_icmp_ge (tgt := 129) dX9_findsSeat_11 (by decide) (fun c5 => ?_) (fun c5 => ?_)
    · replace hf := hif_p c5 hf
      refine h_sub (lv2 := []) [] rfl ?_
      exact hk0 S hf
    · replace hf := hif_n c5 hf
      refine h_aload_n dX9_findsSeat_14 rfl 0 rfl ?_
      obtain ⟨t6, h7, hf⟩ := hbd_s hf
      refine h_getR h7 rfl (Nat.le_of_ble_eq_true rfl) rfl q_963 rfl dX9_findsSeat_15 ?_
      refine h_iload dX9_findsSeat_18 4 rfl ?_
      obtain ⟨t8, h9, hf⟩ := hbd_s hf
      refine h_iald h9 dX9_findsSeat_20 ?_
      refine h_istore (lv2 := [(5, .int t8), (0, .ref x0), (1, .int x1), (2, .int x2), (3, .int x3), (4, .int x4)]) dX9_findsSeat_21 (Nat.le_of_ble_eq_true rfl) rfl ?_
      refine h_iconst (v := 0) dX9_findsSeat_23 rfl ?_
      refine h_istore (lv2 := [(6, .int 0), (5, .int t8), (0, .ref x0), (1, .int x1), (2, .int x2), (3, .int x3), (4, .int x4)]) dX9_findsSeat_24 (Nat.le_of_ble_eq_true rfl) rfl ?_
      refine h_sub (lv2 := [(0, .ref x0), (1, .int x1), (2, .int x2), (3, .int x3), (4, .int x4), (5, .int t8), (6, .int 0)]) [2, 3, 4, 5, 6, 1, 0] rfl ?_
      refine w_X9_findsSeat_L26 hd hfuel x0 x1 x2 x3 x4 t8 0 S _ _  hf ?_ ?_
      · intro S10 hf
        refine h_iinc (q := 4) (v := x4 + 1) (lv2 := [(4, .int (x4 + 1)), (0, .ref x0), (1, .int x1), (2, .int x2), (3, .int x3)]) dX9_findsSeat_123 rfl rfl (Nat.le_of_ble_eq_true rfl) rfl ?_
        refine h_goto (tgt := 3) dX9_findsSeat_126 (by decide) ?_
        refine h_sub (lv2 := [(0, .ref x0), (1, .int x1), (2, .int x2), (3, .int x3), (4, .int (x4 + 1))]) [1, 2, 3, 4, 0] rfl ?_
        exact ih x0 x1 x2 x3 (x4 + 1) S10 k0 k1  hf hk0 hk1
      · intro u11 S12 hf
        exact hk1 x4 u11 S12 hf
set_option maxRecDepth 100000 in
set_option maxHeartbeats 4000000 in
theorem m_X9_findsSeat {d : Nat} {cs : Nat → Nat} {a0 : Nat} {a1 : Int32} {a2 : Int32} {a3 : Int32} {S : hS} {r : Int32 × hS} (hd : 9 ≤ d) (hf : f_X9_findsSeat a0 a1 a2 a3 S = some r) : HM yX9_findsSeat cX9_findsSeat 8 (some .boolean) d 0 0 cs [.ref a0, .int a1, .int a2, .int a3] S (some (.int r.1)) r.2 := by
  unfold f_X9_findsSeat at hf
  refine HM.ofHW false (by decide) (fun h => by cases h) (Nat.le_of_ble_eq_true rfl) ?_
  show HW cX9_findsSeat RX9 (x_X9_findsSeat d S [.ref a0, .int a1, .int a2, .int a3] r cs) 0 0 S 0 [(0, .ref a0), (1, .int a1), (2, .int a2), (3, .int a3)] []
  refine h_iconst (v := 0) dX9_findsSeat_0 rfl ?_
  refine h_istore (lv2 := [(4, .int 0), (0, .ref a0), (1, .int a1), (2, .int a2), (3, .int a3)]) dX9_findsSeat_1 (Nat.le_of_ble_eq_true rfl) rfl ?_
  refine h_sub (lv2 := [(0, .ref a0), (1, .int a1), (2, .int a2), (3, .int a3), (4, .int 0)]) [1, 2, 3, 4, 0] rfl ?_
  refine w_X9_findsSeat_L3 hd hfuel a0 a1 a2 a3 0 S _ _  hf ?_ ?_
  · intro S13 hf
    refine h_iconst (v := 0) dX9_findsSeat_129 rfl ?_
    obtain rfl := Option.some.inj hf
    exact h_zret rfl (by decide) rfl rfl (Nat.le_refl _) (Nat.le_refl _) dX9_findsSeat_130
  · intro u14 u15 S16 hf
    refine h_aload_n dX9_findsSeat_103 rfl 0 rfl ?_
    refine h_iload dX9_findsSeat_104 1 rfl ?_
    obtain ⟨S17, h18, hf⟩ := hbd_s hf
    refine h_putI h18 rfl (Nat.le_of_ble_eq_true rfl) rfl q_1010 rfl rfl (by decide +kernel) dX9_findsSeat_106 ?_
    refine h_aload_n dX9_findsSeat_109 rfl 0 rfl ?_
    refine h_iload dX9_findsSeat_110 2 rfl ?_
    obtain ⟨S19, h20, hf⟩ := hbd_s hf
    refine h_putI h20 rfl (Nat.le_of_ble_eq_true rfl) rfl q_1011 rfl rfl (by decide +kernel) dX9_findsSeat_112 ?_
    refine h_iconst (v := 1) dX9_findsSeat_115 rfl ?_
    obtain rfl := Option.some.inj hf
    exact h_zret rfl (by decide) rfl rfl (Nat.le_refl _) (Nat.le_refl _) dX9_findsSeat_116
abbrev x_X9_seated (d : Nat) (S0 : hS) (args : List Value) (r : Int32 × hS) (cs : Nat → Nat) : hX := (((some .int), 5, d, 0, 0, false), (S0, args, some (.int r.1), r.2), cs)
theorem v_X9_seated : hVW yX9_seated cX9_seated 5 (some .int) RX9 4 := ⟨q_1472, q_1473, q_9, q_1474, by decide +kernel, by decide⟩
def f_X9_seated (a0 : Nat) (a1 : Int32) (a2 : Int32) (a3 : Int32) (a4 : Int32) (S : hS) : Option (Int32 × hS) :=
  hck (S.K a0 = 10) <|
  hb2 (f_X9_isAsked a0 a1 a2 30 S) fun t3 S2 =>
  if t3 = 0 then
    (some ((-1), S2))
  else
    (hck (S2.K a0 = 10) <|
     hb2 (f_X9_isHere a0 a3 S2) fun t7 S6 =>
     if t7 = 0 then
       (some ((-1), S6))
     else
       (hb2 (f_X9_in (Int32.toInt64 a4) 0 2 S6) fun t11 S10 =>
        if t11 = 0 then
          (some ((-1), S10))
        else
          (hck (S10.K a0 = 10) <|
           hb2 (f_X9_findsSeat a0 a1 a2 a3 S10) fun t15 S14 =>
           if t15 = 0 then
             (some ((-2), S14))
           else
             (if a4 = 0 then
                (hbd (gI S14 a0 9 50) fun t23 =>
                 some (t23, S14))
              else
                (hbd (gI S14 a0 9 51) fun t18 =>
                 hb2 (f_X9_part t18 (a4 - 1) S14) fun t22 S21 =>
                 some (t22, S21))))))
set_option maxRecDepth 100000 in
set_option maxHeartbeats 4000000 in
theorem m_X9_seated {d : Nat} {cs : Nat → Nat} {a0 : Nat} {a1 : Int32} {a2 : Int32} {a3 : Int32} {a4 : Int32} {S : hS} {r : Int32 × hS} (hd : 10 ≤ d) (hf : f_X9_seated a0 a1 a2 a3 a4 S = some r) : HM yX9_seated cX9_seated 5 (some .int) d 0 0 cs [.ref a0, .int a1, .int a2, .int a3, .int a4] S (some (.int r.1)) r.2 := by
  unfold f_X9_seated at hf
  refine HM.ofHW false (by decide) (fun h => by cases h) (Nat.le_of_ble_eq_true rfl) ?_
  show HW cX9_seated RX9 (x_X9_seated d S [.ref a0, .int a1, .int a2, .int a3, .int a4] r cs) 0 0 S 0 [(0, .ref a0), (1, .int a1), (2, .int a2), (3, .int a3), (4, .int a4)] []
  refine h_aload_n dX9_seated_0 rfl 0 rfl ?_
  refine h_iload_n dX9_seated_1 rfl 1 rfl ?_
  refine h_iload_n dX9_seated_2 rfl 2 rfl ?_
  refine h_bipush (v := 30) dX9_seated_3 rfl ?_
  obtain ⟨g27, hf⟩ := hck_s hf
  obtain ⟨t3, S2, h1, hf⟩ := hb2_s hf
  refine h_Vi [.int a1, .int a2, .int 30] (rest := []) (m_X9_isAsked (d := 3) (cs := cs) (Nat.le_refl _) h1) v_X9_isAsked q_1440 rfl (Nat.le_trans (by decide) hd) g27 rfl rfl (Nat.le_of_ble_eq_true rfl) dX9_seated_5 (Nat.le_refl _) (Nat.le_refl _) ?_
  refine h_if_eq (tgt := 32) dX9_seated_8 (by decide) (fun c4 => ?_) (fun c4 => ?_)
  · replace hf := hif_p c4 hf
    refine h_iconst (v := (-1)) dX9_seated_32 rfl ?_
    obtain rfl := Option.some.inj hf
    exact h_iret rfl rfl rfl (Nat.le_refl _) (Nat.le_refl _) dX9_seated_33
  · replace hf := hif_n c4 hf
    refine h_aload_n dX9_seated_11 rfl 0 rfl ?_
    refine h_iload_n dX9_seated_12 rfl 3 rfl ?_
    obtain ⟨g26, hf⟩ := hck_s hf
    obtain ⟨t7, S6, h5, hf⟩ := hb2_s hf
    refine h_Vi [.int a3] (rest := []) (m_X9_isHere (d := 3) (cs := cs) (Nat.le_refl _) h5) v_X9_isHere q_1356 rfl (Nat.le_trans (by decide) hd) g26 rfl rfl (Nat.le_of_ble_eq_true rfl) dX9_seated_13 (Nat.le_refl _) (Nat.le_refl _) ?_
    refine h_if_eq (tgt := 32) dX9_seated_16 (by decide) (fun c8 => ?_) (fun c8 => ?_)
    · replace hf := hif_p c8 hf
      refine h_iconst (v := (-1)) dX9_seated_32 rfl ?_
      obtain rfl := Option.some.inj hf
      exact h_iret rfl rfl rfl (Nat.le_refl _) (Nat.le_refl _) dX9_seated_33
    · replace hf := hif_n c8 hf
      refine h_iload dX9_seated_19 4 rfl ?_
      refine h_i2l dX9_seated_21 ?_
      refine h_lconst (v := 0) dX9_seated_22 rfl ?_
      refine h_ldc2 (v := 2) dX9_seated_23 q_1475 ?_
      obtain ⟨t11, S10, h9, hf⟩ := hb2_s hf
      refine h_Si [.long (Int32.toInt64 a4), .long 0, .long 2] (rest := []) (m_X9_in (d := 1) (cs := cs) (Nat.le_refl _) h9) v_X9_in q_1225 rfl (Nat.le_trans (by decide) hd) rfl (Nat.le_of_ble_eq_true rfl) dX9_seated_26 (Nat.le_refl _) (Nat.le_refl _) ?_
      refine h_if_ne (tgt := 34) dX9_seated_29 (by decide) (fun c12 => ?_) (fun c12 => ?_)
      · replace hf := hif_n c12 hf
        refine h_aload_n dX9_seated_34 rfl 0 rfl ?_
        refine h_iload_n dX9_seated_35 rfl 1 rfl ?_
        refine h_iload_n dX9_seated_36 rfl 2 rfl ?_
        refine h_iload_n dX9_seated_37 rfl 3 rfl ?_
        obtain ⟨g25, hf⟩ := hck_s hf
        obtain ⟨t15, S14, h13, hf⟩ := hb2_s hf
        refine h_Vi [.int a1, .int a2, .int a3] (rest := []) (m_X9_findsSeat (d := 9) (cs := cs) (Nat.le_refl _) h13) v_X9_findsSeat q_1476 rfl (Nat.le_trans (by decide) hd) g25 rfl rfl (Nat.le_of_ble_eq_true rfl) dX9_seated_38 (Nat.le_refl _) (Nat.le_refl _) ?_
        refine h_if_ne (tgt := 47) dX9_seated_41 (by decide) (fun c16 => ?_) (fun c16 => ?_)
        · replace hf := hif_n c16 hf
          refine h_iload dX9_seated_47 4 rfl ?_
          refine h_if_ne (tgt := 59) dX9_seated_49 (by decide) (fun c17 => ?_) (fun c17 => ?_)
          · replace hf := hif_n c17 hf
            refine h_aload_n dX9_seated_59 rfl 0 rfl ?_
            obtain ⟨t18, h19, hf⟩ := hbd_s hf
            refine h_getI h19 rfl (Nat.le_of_ble_eq_true rfl) rfl q_1011 rfl dX9_seated_60 ?_
            refine h_iload dX9_seated_63 4 rfl ?_
            refine h_iconst (v := 1) dX9_seated_65 rfl ?_
            refine h_isub dX9_seated_66 ?_
            obtain ⟨t22, S21, h20, hf⟩ := hb2_s hf
            refine h_Si [.int t18, .int (a4 - 1)] (rest := []) (m_X9_part (d := 1) (cs := cs) (Nat.le_refl _) h20) v_X9_part q_1456 rfl (Nat.le_trans (by decide) hd) rfl (Nat.le_of_ble_eq_true rfl) dX9_seated_67 (Nat.le_refl _) (Nat.le_refl _) ?_
            obtain rfl := Option.some.inj hf
            exact h_iret rfl rfl rfl (Nat.le_refl _) (Nat.le_refl _) dX9_seated_70
          · replace hf := hif_p c17 hf
            refine h_aload_n dX9_seated_52 rfl 0 rfl ?_
            obtain ⟨t23, h24, hf⟩ := hbd_s hf
            refine h_getI h24 rfl (Nat.le_of_ble_eq_true rfl) rfl q_1010 rfl dX9_seated_53 ?_
            refine h_goto (tgt := 70) dX9_seated_56 (by decide) ?_
            obtain rfl := Option.some.inj hf
            exact h_iret rfl rfl rfl (Nat.le_refl _) (Nat.le_refl _) dX9_seated_70
        · replace hf := hif_p c16 hf
          refine h_bipush (v := (-2)) dX9_seated_44 rfl ?_
          obtain rfl := Option.some.inj hf
          exact h_iret rfl rfl rfl (Nat.le_refl _) (Nat.le_refl _) dX9_seated_46
      · replace hf := hif_p c12 hf
        refine h_iconst (v := (-1)) dX9_seated_32 rfl ?_
        obtain rfl := Option.some.inj hf
        exact h_iret rfl rfl rfl (Nat.le_refl _) (Nat.le_refl _) dX9_seated_33
abbrev x_X9_changed (d : Nat) (S0 : hS) (args : List Value) (r : Int32 × hS) (cs : Nat → Nat) : hX := (((some .int), 7, d, 0, 0, false), (S0, args, some (.int r.1), r.2), cs)
theorem v_X9_changed : hVW yX9_changed cX9_changed 7 (some .int) RX9 3 := ⟨q_1481, q_1482, q_9, q_1483, by decide +kernel, by decide⟩
def f_X9_changed_L41 : Nat → Nat → Int32 → Int32 → Int32 → Int32 → Int32 → hS → (hS → Option (Int32 × hS)) → (Int32 → hS → Option (Int32 × hS)) → Option (Int32 × hS)
  | 0, _, _, _, _, _, _, _, _, _ => none
  | n + 1, x0, x1, x2, x3, x4, x5, S, k0, k1 =>
    hbd (gR S x0 9 1) fun t1 =>
    hbd (gA S t1 12 2) fun t3 =>
    if t3 ≤ x5 then
      (k0 S)
    else
      (hck (S.K x0 = 10) <|
       hb2 (f_X9_isHere x0 x4 S) fun t8 S7 =>
       if t8 = 0 then
         (f_X9_changed_L41 n x0 x1 x2 x3 x4 (x5 + 1) S7 k0 k1)
       else
         (hck (S7.K x0 = 10) <|
          hb2 (f_X9_isHere x0 x5 S7) fun t12 S11 =>
          if t12 = 0 then
            (f_X9_changed_L41 n x0 x1 x2 x3 x4 (x5 + 1) S11 k0 k1)
          else
            (hck (S11.K x0 = 10) <|
             hbd (f_X9_changes x0 x4 x5 S11) fun S15 =>
             hck (S15.K x0 = 10) <|
             hb2 (f_X9_spotIn x0 x1 x2 S15) fun t18 S17 =>
             hbd (gR S17 x0 9 3) fun t19 =>
             hbd (gA S17 t19 12 x3) fun t21 =>
             hj (γ := Int32 → Option (Int32 × hS)) (fun (v24 : Int32) =>
               hck (S17.K x0 = 10) <|
               hbd (f_X9_changes x0 x4 x5 S17) fun S26 =>
               if v24 = 0 then
                 (f_X9_changed_L41 n x0 x1 x2 x3 x4 (x5 + 1) S26 k0 k1)
               else
                 (k1 x5 S26)
               ) fun J23 =>
             if t18 = t21 then
               (J23 1)
             else
               (J23 0))))
def f_X9_changed_L24 : Nat → Nat → Int32 → Int32 → Int32 → Int32 → hS → (hS → Option (Int32 × hS)) → (Int32 → Int32 → hS → Option (Int32 × hS)) → Option (Int32 × hS)
  | 0, _, _, _, _, _, _, _, _ => none
  | n + 1, x0, x1, x2, x3, x4, S, k0, k1 =>
    hbd (gR S x0 9 1) fun t1 =>
    hbd (gA S t1 12 2) fun t3 =>
    if t3 ≤ x4 then
      (k0 S)
    else
      (f_X9_changed_L41 hfuel x0 x1 x2 x3 x4 (x4 + 1) S
         (fun S6 =>
           f_X9_changed_L24 n x0 x1 x2 x3 (x4 + 1) S6 k0 k1
         )
         (fun u7 S8 =>
           k1 x4 u7 S8
         ))
def f_X9_changed (a0 : Nat) (a1 : Int32) (a2 : Int32) (a3 : Int32) (S : hS) : Option (Int32 × hS) :=
  hck (S.K a0 = 10) <|
  hb2 (f_X9_isAsked a0 a1 a2 30 S) fun t11 S10 =>
  if t11 = 0 then
    (some ((-1), S10))
  else
    (hck (S10.K a0 = 10) <|
     hb2 (f_X9_isHere a0 a3 S10) fun t15 S14 =>
     if t15 = 0 then
       (some ((-1), S14))
     else
       (f_X9_changed_L24 hfuel a0 a1 a2 a3 0 S14
          (fun S17 =>
            some ((-2), S17)
          )
          (fun u18 u19 S20 =>
            some ((16 * u18) + u19, S20)
          )))
set_option maxRecDepth 100000 in
set_option maxHeartbeats 4000000 in
theorem w_X9_changed_L41 {d : Nat} {S0 : hS} {args : List Value} {cs : Nat → Nat} {r : Int32 × hS} (hd : 9 ≤ d) : ∀ (n : Nat) (x0 : Nat) (x1 : Int32) (x2 : Int32) (x3 : Int32) (x4 : Int32) (x5 : Int32) (S : hS) (k0 : (hS → Option (Int32 × hS))) (k1 : (Int32 → hS → Option (Int32 × hS))) , f_X9_changed_L41 n x0 x1 x2 x3 x4 x5 S k0 k1 = some r → (∀ (T : hS), k0 T = some r → HW cX9_changed RX9 (x_X9_changed d S0 args r cs) 0 0 T 128 [(0, .ref x0), (1, .int x1), (2, .int x2), (3, .int x3), (4, .int x4)] []) → (∀ (y5 : Int32) (T : hS), k1 y5 T = some r → HW cX9_changed RX9 (x_X9_changed d S0 args r cs) 0 0 T 113 [(4, .int x4), (5, .int y5)] []) → HW cX9_changed RX9 (x_X9_changed d S0 args r cs) 0 0 S 41 [(0, .ref x0), (1, .int x1), (2, .int x2), (3, .int x3), (4, .int x4), (5, .int x5)] [] := by
  intro n
  induction n with
  | zero =>
    intro x0 x1 x2 x3 x4 x5 S k0 k1 hf
    cases hf
  | succ n ih =>
    intro x0 x1 x2 x3 x4 x5 S k0 k1 hf hk0 hk1
    rw [f_X9_changed_L41] at hf
    refine h_iload dX9_changed_41 5 rfl ?_
    refine h_aload_n dX9_changed_43 rfl 0 rfl ?_
    obtain ⟨t1, h2, hf⟩ := hbd_s hf
    refine h_getR h2 rfl (Nat.le_of_ble_eq_true rfl) rfl q_961 rfl dX9_changed_44 ?_
    refine h_iconst (v := 2) dX9_changed_47 rfl ?_
    obtain ⟨t3, h4, hf⟩ := hbd_s hf
    refine h_iald h4 dX9_changed_48 ?_
    refine h_icmp_ge (tgt := 128) dX9_changed_49 (by decide) (fun c5 => ?_) (fun c5 => ?_)
    · replace hf := hif_p c5 hf
      refine h_sub (lv2 := [(0, .ref x0), (1, .int x1), (2, .int x2), (3, .int x3), (4, .int x4)]) [0, 1, 2, 3, 4] rfl ?_
      exact hk0 S hf
    · replace hf := hif_n c5 hf
      refine h_aload_n dX9_changed_52 rfl 0 rfl ?_
      refine h_iload dX9_changed_53 4 rfl ?_
      obtain ⟨g33, hf⟩ := hck_s hf
      obtain ⟨t8, S7, h6, hf⟩ := hb2_s hf
      refine h_Vi [.int x4] (rest := []) (m_X9_isHere (d := 3) (cs := cs) (Nat.le_refl _) h6) v_X9_isHere q_1356 rfl (Nat.le_trans (by decide) hd) g33 rfl rfl (Nat.le_of_ble_eq_true rfl) dX9_changed_55 (Nat.le_refl _) (Nat.le_refl _) ?_
      refine h_if_eq (tgt := 122) dX9_changed_58 (by decide) (fun c9 => ?_) (fun c9 => ?_)
      · replace hf := hif_p c9 hf
        refine h_iinc (q := 5) (v := x5 + 1) (lv2 := [(5, .int (x5 + 1)), (0, .ref x0), (1, .int x1), (2, .int x2), (3, .int x3), (4, .int x4)]) dX9_changed_122 rfl rfl (Nat.le_of_ble_eq_true rfl) rfl ?_
        refine h_goto (tgt := 41) dX9_changed_125 (by decide) ?_
        refine h_sub (lv2 := [(0, .ref x0), (1, .int x1), (2, .int x2), (3, .int x3), (4, .int x4), (5, .int (x5 + 1))]) [1, 2, 3, 4, 5, 0] rfl ?_
        exact ih x0 x1 x2 x3 x4 (x5 + 1) S7 k0 k1  hf hk0 hk1
      · replace hf := hif_n c9 hf
        refine h_aload_n dX9_changed_61 rfl 0 rfl ?_
        refine h_iload dX9_changed_62 5 rfl ?_
        obtain ⟨g32, hf⟩ := hck_s hf
        obtain ⟨t12, S11, h10, hf⟩ := hb2_s hf
        refine h_Vi [.int x5] (rest := []) (m_X9_isHere (d := 3) (cs := cs) (Nat.le_refl _) h10) v_X9_isHere q_1356 rfl (Nat.le_trans (by decide) hd) g32 rfl rfl (Nat.le_of_ble_eq_true rfl) dX9_changed_64 (Nat.le_refl _) (Nat.le_refl _) ?_
        refine h_if_eq (tgt := 122) dX9_changed_67 (by decide) (fun c13 => ?_) (fun c13 => ?_)
        · replace hf := hif_p c13 hf
          refine h_iinc (q := 5) (v := x5 + 1) (lv2 := [(5, .int (x5 + 1)), (0, .ref x0), (1, .int x1), (2, .int x2), (3, .int x3), (4, .int x4)]) dX9_changed_122 rfl rfl (Nat.le_of_ble_eq_true rfl) rfl ?_
          refine h_goto (tgt := 41) dX9_changed_125 (by decide) ?_
          refine h_sub (lv2 := [(0, .ref x0), (1, .int x1), (2, .int x2), (3, .int x3), (4, .int x4), (5, .int (x5 + 1))]) [1, 2, 3, 4, 5, 0] rfl ?_
          exact ih x0 x1 x2 x3 x4 (x5 + 1) S11 k0 k1  hf hk0 hk1
        · replace hf := hif_n c13 hf
          refine h_aload_n dX9_changed_70 rfl 0 rfl ?_
          refine h_iload dX9_changed_71 4 rfl ?_
          refine h_iload dX9_changed_73 5 rfl ?_
          obtain ⟨g31, hf⟩ := hck_s hf
          obtain ⟨S15, h14, hf⟩ := hbd_s hf
          refine h_Vv [.int x4, .int x5] (rest := []) (m_X9_changes (d := 1) (cs := cs) (Nat.le_refl _) h14) v_X9_changes q_1364 rfl (Nat.le_trans (by decide) hd) g31 rfl rfl (Nat.le_of_ble_eq_true rfl) dX9_changed_75 (Nat.le_refl _) (Nat.le_refl _) ?_
          refine h_aload_n dX9_changed_78 rfl 0 rfl ?_
          refine h_iload_n dX9_changed_79 rfl 1 rfl ?_
          refine h_iload_n dX9_changed_80 rfl 2 rfl ?_
          obtain ⟨g30, hf⟩ := hck_s hf
          obtain ⟨t18, S17, h16, hf⟩ := hb2_s hf
          refine h_Vi [.int x1, .int x2] (rest := []) (m_X9_spotIn (d := 8) (cs := cs) (Nat.le_refl _) h16) v_X9_spotIn q_1444 rfl (Nat.le_trans (by decide) hd) g30 rfl rfl (Nat.le_of_ble_eq_true rfl) dX9_changed_81 (Nat.le_refl _) (Nat.le_refl _) ?_
          refine h_aload_n dX9_changed_84 rfl 0 rfl ?_
          obtain ⟨t19, h20, hf⟩ := hbd_s hf
          refine h_getR h20 rfl (Nat.le_of_ble_eq_true rfl) rfl q_963 rfl dX9_changed_85 ?_
          refine h_iload_n dX9_changed_88 rfl 3 rfl ?_
          obtain ⟨t21, h22, hf⟩ := hbd_s hf
          refine h_iald h22 dX9_changed_89 ?_
          refine hj_s (fun J23 => ∀ (v24 : Int32), J23 v24 = some r → HW cX9_changed RX9 (x_X9_changed d S0 args r cs) 0 0 S17 98 [(0, .ref x0), (1, .int x1), (2, .int x2), (3, .int x3), (4, .int x4), (5, .int x5)] [.int v24]) hf ?_ ?_
          · intro v24 hf
            refine h_istore (lv2 := [(6, .int v24), (0, .ref x0), (1, .int x1), (2, .int x2), (3, .int x3), (4, .int x4), (5, .int x5)]) dX9_changed_98 (Nat.le_of_ble_eq_true rfl) rfl ?_
            refine h_aload_n dX9_changed_100 rfl 1 rfl ?_
            refine h_iload dX9_changed_101 5 rfl ?_
            refine h_iload dX9_changed_103 6 rfl ?_
            obtain ⟨g28, hf⟩ := hck_s hf
            obtain ⟨S26, h25, hf⟩ := hbd_s hf
            refine h_Vv [.int x4, .int x5] (rest := []) (m_X9_changes (d := 1) (cs := cs) (Nat.le_refl _) h25) v_X9_changes q_1364 rfl (Nat.le_trans (by decide) hd) g28 rfl rfl (Nat.le_of_ble_eq_true rfl) dX9_changed_105 (Nat.le_refl _) (Nat.le_refl _) ?_
            refine h_iload dX9_changed_108 0 rfl ?_
            refine h_if_eq (tgt := 122) dX9_changed_110 (by decide) (fun c27 => ?_) (fun c27 => ?_)
            · replace hf := hif_p c27 hf
              refine h_iinc (q := 6) (v := x5 + 1) (lv2 := [(5, .int (x5 + 1)), (6, .int v24), (0, .ref x0), (1, .int x1), (2, .int x2), (3, .int x3), (4, .int x4)]) dX9_changed_122 rfl rfl (Nat.le_of_ble_eq_true rfl) rfl ?_
              refine h_goto (tgt := 41) dX9_changed_125 (by decide) ?_
              refine h_sub (lv2 := [(0, .ref x0), (1, .int x1), (2, .int x2), (3, .int x3), (4, .int x4), (5, .int (x5 + 1))]) [2, 3, 4, 5, 6, 0] rfl ?_
              exact ih x0 x1 x2 x3 x4 (x5 + 1) S26 k0 k1  hf hk0 hk1
            · replace hf := hif_n c27 hf
              refine h_sub (lv2 := [(4, .int x4), (5, .int x5)]) [5, 6] rfl ?_
              exact hk1 x5 S26 hf
          · intro J23 hJ23 hf
            refine h_icmp_ne (tgt := 97) dX9_changed_90 (by decide) (fun c29 => ?_) (fun c29 => ?_)
            · replace hf := hif_n c29 hf
              refine h_iconst (v := 0) dX9_changed_97 rfl ?_
              exact hJ23 0 hf
            · replace hf := hif_p c29 hf
              refine h_iconst (v := 1) dX9_changed_93 rfl ?_
              refine h_goto (tgt := 98) dX9_changed_94 (by decide) ?_
              exact hJ23 1 hf
set_option maxRecDepth 100000 in
set_option maxHeartbeats 4000000 in
theorem w_X9_changed_L24 {d : Nat} {S0 : hS} {args : List Value} {cs : Nat → Nat} {r : Int32 × hS} (hd : 9 ≤ d) : ∀ (n : Nat) (x0 : Nat) (x1 : Int32) (x2 : Int32) (x3 : Int32) (x4 : Int32) (S : hS) (k0 : (hS → Option (Int32 × hS))) (k1 : (Int32 → Int32 → hS → Option (Int32 × hS))) , f_X9_changed_L24 n x0 x1 x2 x3 x4 S k0 k1 = some r → (∀ (T : hS), k0 T = some r → HW cX9_changed RX9 (x_X9_changed d S0 args r cs) 0 0 T 134 [] []) → (∀ (y4 : Int32) (y5 : Int32) (T : hS), k1 y4 y5 T = some r → HW cX9_changed RX9 (x_X9_changed d S0 args r cs) 0 0 T 113 [(4, .int y4), (5, .int y5)] []) → HW cX9_changed RX9 (x_X9_changed d S0 args r cs) 0 0 S 24 [(0, .ref x0), (1, .int x1), (2, .int x2), (3, .int x3), (4, .int x4)] [] := by
  intro n
  induction n with
  | zero =>
    intro x0 x1 x2 x3 x4 S k0 k1 hf
    cases hf
  | succ n ih =>
    intro x0 x1 x2 x3 x4 S k0 k1 hf hk0 hk1
    rw [f_X9_changed_L24] at hf
    refine h_iload dX9_changed_24 4 rfl ?_
    refine h_aload_n dX9_changed_26 rfl 0 rfl ?_
    obtain ⟨t1, h2, hf⟩ := hbd_s hf
    refine h_getR h2 rfl (Nat.le_of_ble_eq_true rfl) rfl q_961 rfl dX9_changed_27 ?_
    refine h_iconst (v := 2) dX9_changed_30 rfl ?_
    obtain ⟨t3, h4, hf⟩ := hbd_s hf
    refine h_iald h4 dX9_changed_31 ?_
    refine h_icmp_ge (tgt := 134) dX9_changed_32 (by decide) (fun c5 => ?_) (fun c5 => ?_)
    · replace hf := hif_p c5 hf
      refine h_sub (lv2 := []) [] rfl ?_
      exact hk0 S hf
    · replace hf := hif_n c5 hf
      refine h_iload dX9_changed_35 4 rfl ?_
      refine h_iconst (v := 1) dX9_changed_37 rfl ?_
      refine h_iadd dX9_changed_38 ?_
      refine h_istore (lv2 := [(5, .int (x4 + 1)), (0, .ref x0), (1, .int x1), (2, .int x2), (3, .int x3), (4, .int x4)]) dX9_changed_39 (Nat.le_of_ble_eq_true rfl) rfl ?_
      refine h_sub (lv2 := [(0, .ref x0), (1, .int x1), (2, .int x2), (3, .int x3), (4, .int x4), (5, .int (x4 + 1))]) [1, 2, 3, 4, 5, 0] rfl ?_
      refine w_X9_changed_L41 hd hfuel x0 x1 x2 x3 x4 (x4 + 1) S _ _  hf ?_ ?_
      · intro S6 hf
        refine h_iinc (q := 4) (v := x4 + 1) (lv2 := [(4, .int (x4 + 1)), (0, .ref x0), (1, .int x1), (2, .int x2), (3, .int x3)]) dX9_changed_128 rfl rfl (Nat.le_of_ble_eq_true rfl) rfl ?_
        refine h_goto (tgt := 24) dX9_changed_131 (by decide) ?_
        refine h_sub (lv2 := [(0, .ref x0), (1, .int x1), (2, .int x2), (3, .int x3), (4, .int (x4 + 1))]) [1, 2, 3, 4, 0] rfl ?_
        exact ih x0 x1 x2 x3 (x4 + 1) S6 k0 k1  hf hk0 hk1
      · intro u7 S8 hf
        exact hk1 x4 u7 S8 hf
set_option maxRecDepth 100000 in
set_option maxHeartbeats 4000000 in
theorem m_X9_changed {d : Nat} {cs : Nat → Nat} {a0 : Nat} {a1 : Int32} {a2 : Int32} {a3 : Int32} {S : hS} {r : Int32 × hS} (hd : 9 ≤ d) (hf : f_X9_changed a0 a1 a2 a3 S = some r) : HM yX9_changed cX9_changed 7 (some .int) d 0 0 cs [.ref a0, .int a1, .int a2, .int a3] S (some (.int r.1)) r.2 := by
  unfold f_X9_changed at hf
  refine HM.ofHW false (by decide) (fun h => by cases h) (Nat.le_of_ble_eq_true rfl) ?_
  show HW cX9_changed RX9 (x_X9_changed d S [.ref a0, .int a1, .int a2, .int a3] r cs) 0 0 S 0 [(0, .ref a0), (1, .int a1), (2, .int a2), (3, .int a3)] []
  refine h_aload_n dX9_changed_0 rfl 0 rfl ?_
  refine h_iload_n dX9_changed_1 rfl 1 rfl ?_
  refine h_iload_n dX9_changed_2 rfl 2 rfl ?_
  refine h_bipush (v := 30) dX9_changed_3 rfl ?_
  obtain ⟨g22, hf⟩ := hck_s hf
  obtain ⟨t11, S10, h9, hf⟩ := hb2_s hf
  refine h_Vi [.int a1, .int a2, .int 30] (rest := []) (m_X9_isAsked (d := 3) (cs := cs) (Nat.le_refl _) h9) v_X9_isAsked q_1440 rfl (Nat.le_trans (by decide) hd) g22 rfl rfl (Nat.le_of_ble_eq_true rfl) dX9_changed_5 (Nat.le_refl _) (Nat.le_refl _) ?_
  refine h_if_eq (tgt := 19) dX9_changed_8 (by decide) (fun c12 => ?_) (fun c12 => ?_)
  · replace hf := hif_p c12 hf
    refine h_iconst (v := (-1)) dX9_changed_19 rfl ?_
    obtain rfl := Option.some.inj hf
    exact h_iret rfl rfl rfl (Nat.le_refl _) (Nat.le_refl _) dX9_changed_20
  · replace hf := hif_n c12 hf
    refine h_aload_n dX9_changed_11 rfl 0 rfl ?_
    refine h_iload_n dX9_changed_12 rfl 3 rfl ?_
    obtain ⟨g21, hf⟩ := hck_s hf
    obtain ⟨t15, S14, h13, hf⟩ := hb2_s hf
    refine h_Vi [.int a3] (rest := []) (m_X9_isHere (d := 3) (cs := cs) (Nat.le_refl _) h13) v_X9_isHere q_1356 rfl (Nat.le_trans (by decide) hd) g21 rfl rfl (Nat.le_of_ble_eq_true rfl) dX9_changed_13 (Nat.le_refl _) (Nat.le_refl _) ?_
    refine h_if_ne (tgt := 21) dX9_changed_16 (by decide) (fun c16 => ?_) (fun c16 => ?_)
    · replace hf := hif_n c16 hf
      refine h_iconst (v := 0) dX9_changed_21 rfl ?_
      refine h_istore (lv2 := [(4, .int 0), (0, .ref a0), (1, .int a1), (2, .int a2), (3, .int a3)]) dX9_changed_22 (Nat.le_of_ble_eq_true rfl) rfl ?_
      refine h_sub (lv2 := [(0, .ref a0), (1, .int a1), (2, .int a2), (3, .int a3), (4, .int 0)]) [1, 2, 3, 4, 0] rfl ?_
      refine w_X9_changed_L24 hd hfuel a0 a1 a2 a3 0 S14 _ _  hf ?_ ?_
      · intro S17 hf
        refine h_bipush (v := (-2)) dX9_changed_134 rfl ?_
        obtain rfl := Option.some.inj hf
        exact h_iret rfl rfl rfl (Nat.le_refl _) (Nat.le_refl _) dX9_changed_136
      · intro u18 u19 S20 hf
        refine h_bipush (v := 16) dX9_changed_113 rfl ?_
        refine h_iload dX9_changed_115 0 rfl ?_
        refine h_imul dX9_changed_117 ?_
        refine h_iload dX9_changed_118 1 rfl ?_
        refine h_iadd dX9_changed_120 ?_
        obtain rfl := Option.some.inj hf
        exact h_iret rfl rfl rfl (Nat.le_refl _) (Nat.le_refl _) dX9_changed_121
    · replace hf := hif_p c16 hf
      refine h_iconst (v := (-1)) dX9_changed_19 rfl ?_
      obtain rfl := Option.some.inj hf
      exact h_iret rfl rfl rfl (Nat.le_refl _) (Nat.le_refl _) dX9_changed_20
abbrev x_X9_farWithout (d : Nat) (S0 : hS) (args : List Value) (r : Int32 × hS) (cs : Nat → Nat) : hX := (((some .int), 7, d, 0, 0, false), (S0, args, some (.int r.1), r.2), cs)
theorem v_X9_farWithout : hVW yX9_farWithout cX9_farWithout 7 (some .int) RX9 3 := ⟨q_1490, q_s88, q_9, q_1491, by decide +kernel, by decide⟩
def f_X9_farWithout (a0 : Nat) (a1 : Int32) (a2 : Int32) (a3 : Int32) (S : hS) : Option (Int32 × hS) :=
  hck (S.K a0 = 10) <|
  hb2 (f_X9_spotIn a0 a1 a2 S) fun t3 S2 =>
  hbd (gR S2 a0 9 3) fun t4 =>
  hbd (gA S2 t4 12 a3) fun t6 =>
  hbd (gR S2 a0 9 3) fun t8 =>
  hbd (sA S2 t8 a3 (-1)) fun S10 =>
  hck (S10.K a0 = 10) <|
  hb2 (f_X9_spotIn a0 a1 a2 S10) fun t14 S13 =>
  hbd (gR S13 a0 9 3) fun t15 =>
  hbd (sA S13 t15 a3 t6) fun S17 =>
  hb2 (f_X9_apart (t3 - t3 / 10 * 10) (t14 - t14 / 10 * 10) S17) fun t21 S20 =>
  hb2 (f_X9_apart (t3 / 10) (t14 / 10) S20) fun t24 S23 =>
  some (t21 + t24, S23)
set_option maxRecDepth 100000 in
set_option maxHeartbeats 4000000 in
theorem m_X9_farWithout {d : Nat} {cs : Nat → Nat} {a0 : Nat} {a1 : Int32} {a2 : Int32} {a3 : Int32} {S : hS} {r : Int32 × hS} (hd : 9 ≤ d) (hf : f_X9_farWithout a0 a1 a2 a3 S = some r) : HM yX9_farWithout cX9_farWithout 7 (some .int) d 0 0 cs [.ref a0, .int a1, .int a2, .int a3] S (some (.int r.1)) r.2 := by
  unfold f_X9_farWithout at hf
  refine HM.ofHW false (by decide) (fun h => by cases h) (Nat.le_of_ble_eq_true rfl) ?_
  show HW cX9_farWithout RX9 (x_X9_farWithout d S [.ref a0, .int a1, .int a2, .int a3] r cs) 0 0 S 0 [(0, .ref a0), (1, .int a1), (2, .int a2), (3, .int a3)] []
  refine h_aload_n dX9_farWithout_0 rfl 0 rfl ?_
  refine h_iload_n dX9_farWithout_1 rfl 1 rfl ?_
  refine h_iload_n dX9_farWithout_2 rfl 2 rfl ?_
  obtain ⟨g26, hf⟩ := hck_s hf
  obtain ⟨t3, S2, h1, hf⟩ := hb2_s hf
  refine h_Vi [.int a1, .int a2] (rest := []) (m_X9_spotIn (d := 8) (cs := cs) (Nat.le_refl _) h1) v_X9_spotIn q_1444 rfl (Nat.le_trans (by decide) hd) g26 rfl rfl (Nat.le_of_ble_eq_true rfl) dX9_farWithout_3 (Nat.le_refl _) (Nat.le_refl _) ?_
  refine h_istore (lv2 := [(4, .int t3), (0, .ref a0), (1, .int a1), (2, .int a2), (3, .int a3)]) dX9_farWithout_6 (Nat.le_of_ble_eq_true rfl) rfl ?_
  refine h_aload_n dX9_farWithout_8 rfl 1 rfl ?_
  obtain ⟨t4, h5, hf⟩ := hbd_s hf
  refine h_getR h5 rfl (Nat.le_of_ble_eq_true rfl) rfl q_963 rfl dX9_farWithout_9 ?_
  refine h_iload_n dX9_farWithout_12 rfl 4 rfl ?_
  obtain ⟨t6, h7, hf⟩ := hbd_s hf
  refine h_iald h7 dX9_farWithout_13 ?_
  refine h_istore (lv2 := [(5, .int t6), (4, .int t3), (0, .ref a0), (1, .int a1), (2, .int a2), (3, .int a3)]) dX9_farWithout_14 (Nat.le_of_ble_eq_true rfl) rfl ?_
  refine h_aload_n dX9_farWithout_16 rfl 2 rfl ?_
  obtain ⟨t8, h9, hf⟩ := hbd_s hf
  refine h_getR h9 rfl (Nat.le_of_ble_eq_true rfl) rfl q_963 rfl dX9_farWithout_17 ?_
  refine h_iload_n dX9_farWithout_20 rfl 5 rfl ?_
  refine h_iconst (v := (-1)) dX9_farWithout_21 rfl ?_
  obtain ⟨S10, h11, hf⟩ := hbd_s hf
  refine h_iast h11 dX9_farWithout_22 ?_
  refine h_aload_n dX9_farWithout_23 rfl 2 rfl ?_
  refine h_iload_n dX9_farWithout_24 rfl 3 rfl ?_
  refine h_iload_n dX9_farWithout_25 rfl 4 rfl ?_
  obtain ⟨g25, hf⟩ := hck_s hf
  obtain ⟨t14, S13, h12, hf⟩ := hb2_s hf
  refine h_Vi [.int a1, .int a2] (rest := []) (m_X9_spotIn (d := 8) (cs := cs) (Nat.le_refl _) h12) v_X9_spotIn q_1444 rfl (Nat.le_trans (by decide) hd) g25 rfl rfl (Nat.le_of_ble_eq_true rfl) dX9_farWithout_26 (Nat.le_refl _) (Nat.le_refl _) ?_
  refine h_istore (lv2 := [(6, .int t14), (5, .int t6), (4, .int t3), (0, .ref a0), (1, .int a1), (2, .int a2), (3, .int a3)]) dX9_farWithout_29 (Nat.le_of_ble_eq_true rfl) rfl ?_
  refine h_aload_n dX9_farWithout_31 rfl 3 rfl ?_
  obtain ⟨t15, h16, hf⟩ := hbd_s hf
  refine h_getR h16 rfl (Nat.le_of_ble_eq_true rfl) rfl q_963 rfl dX9_farWithout_32 ?_
  refine h_iload_n dX9_farWithout_35 rfl 6 rfl ?_
  refine h_iload dX9_farWithout_36 1 rfl ?_
  obtain ⟨S17, h18, hf⟩ := hbd_s hf
  refine h_iast h18 dX9_farWithout_38 ?_
  refine h_iload dX9_farWithout_39 2 rfl ?_
  refine h_bipush (v := 10) dX9_farWithout_41 rfl ?_
  refine h_irem dX9_farWithout_43 (by decide) ?_
  refine h_iload dX9_farWithout_44 0 rfl ?_
  refine h_bipush (v := 10) dX9_farWithout_46 rfl ?_
  refine h_irem dX9_farWithout_48 (by decide) ?_
  obtain ⟨t21, S20, h19, hf⟩ := hb2_s hf
  refine h_Si [.int (t3 - t3 / 10 * 10), .int (t14 - t14 / 10 * 10)] (rest := []) (m_X9_apart (d := 1) (cs := cs) (Nat.le_refl _) h19) v_X9_apart q_1492 rfl (Nat.le_trans (by decide) hd) rfl (Nat.le_of_ble_eq_true rfl) dX9_farWithout_49 (Nat.le_refl _) (Nat.le_refl _) ?_
  refine h_iload dX9_farWithout_52 2 rfl ?_
  refine h_bipush (v := 10) dX9_farWithout_54 rfl ?_
  refine h_idiv dX9_farWithout_56 (by decide) ?_
  refine h_iload dX9_farWithout_57 0 rfl ?_
  refine h_bipush (v := 10) dX9_farWithout_59 rfl ?_
  refine h_idiv dX9_farWithout_61 (by decide) ?_
  obtain ⟨t24, S23, h22, hf⟩ := hb2_s hf
  refine h_Si [.int (t3 / 10), .int (t14 / 10)] (rest := [.int t21]) (m_X9_apart (d := 1) (cs := cs) (Nat.le_refl _) h22) v_X9_apart q_1492 rfl (Nat.le_trans (by decide) hd) rfl (Nat.le_of_ble_eq_true rfl) dX9_farWithout_62 (Nat.le_refl _) (Nat.le_refl _) ?_
  refine h_iadd dX9_farWithout_65 ?_
  obtain rfl := Option.some.inj hf
  exact h_iret rfl rfl rfl (Nat.le_refl _) (Nat.le_refl _) dX9_farWithout_66
abbrev x_X9_without (d : Nat) (S0 : hS) (args : List Value) (r : Int32 × hS) (cs : Nat → Nat) : hX := (((some .int), 4, d, 0, 0, false), (S0, args, some (.int r.1), r.2), cs)
theorem v_X9_without : hVW yX9_without cX9_without 4 (some .int) RX9 3 := ⟨q_1485, q_1486, q_9, q_1487, by decide +kernel, by decide⟩
def f_X9_without (a0 : Nat) (a1 : Int32) (a2 : Int32) (a3 : Int32) (S : hS) : Option (Int32 × hS) :=
  hck (S.K a0 = 10) <|
  hb2 (f_X9_isAsked a0 a1 a2 60 S) fun t3 S2 =>
  hj (γ := hS → Option (Int32 × hS)) (fun (S5 : hS) =>
    some ((-1), S5)
    ) fun J4 =>
  if t3 = 0 then
    (J4 S2)
  else
    (hck (S2.K a0 = 10) <|
     hb2 (f_X9_isHere a0 a3 S2) fun t9 S8 =>
     if t9 = 0 then
       (J4 S8)
     else
       (hck (S8.K a0 = 10) <|
        hb2 (f_X9_farWithout a0 a1 a2 a3 S8) fun t13 S12 =>
        some (t13, S12)))
set_option maxRecDepth 100000 in
set_option maxHeartbeats 4000000 in
theorem m_X9_without {d : Nat} {cs : Nat → Nat} {a0 : Nat} {a1 : Int32} {a2 : Int32} {a3 : Int32} {S : hS} {r : Int32 × hS} (hd : 10 ≤ d) (hf : f_X9_without a0 a1 a2 a3 S = some r) : HM yX9_without cX9_without 4 (some .int) d 0 0 cs [.ref a0, .int a1, .int a2, .int a3] S (some (.int r.1)) r.2 := by
  unfold f_X9_without at hf
  refine HM.ofHW false (by decide) (fun h => by cases h) (Nat.le_of_ble_eq_true rfl) ?_
  show HW cX9_without RX9 (x_X9_without d S [.ref a0, .int a1, .int a2, .int a3] r cs) 0 0 S 0 [(0, .ref a0), (1, .int a1), (2, .int a2), (3, .int a3)] []
  refine h_aload_n dX9_without_0 rfl 0 rfl ?_
  refine h_iload_n dX9_without_1 rfl 1 rfl ?_
  refine h_iload_n dX9_without_2 rfl 2 rfl ?_
  refine h_bipush (v := 60) dX9_without_3 rfl ?_
  obtain ⟨g16, hf⟩ := hck_s hf
  obtain ⟨t3, S2, h1, hf⟩ := hb2_s hf
  refine h_Vi [.int a1, .int a2, .int 60] (rest := []) (m_X9_isAsked (d := 3) (cs := cs) (Nat.le_refl _) h1) v_X9_isAsked q_1440 rfl (Nat.le_trans (by decide) hd) g16 rfl rfl (Nat.le_of_ble_eq_true rfl) dX9_without_5 (Nat.le_refl _) (Nat.le_refl _) ?_
  refine hj_s (fun J4 => ∀ (S5 : hS), J4 S5 = some r → HW cX9_without RX9 (x_X9_without d S [.ref a0, .int a1, .int a2, .int a3] r cs) 0 0 S5 19 [] []) hf ?_ ?_
  · intro S5 hf
    refine h_iconst (v := (-1)) dX9_without_19 rfl ?_
    refine h_goto (tgt := 30) dX9_without_20 (by decide) ?_
    obtain rfl := Option.some.inj hf
    exact h_iret rfl rfl rfl (Nat.le_refl _) (Nat.le_refl _) dX9_without_30
  · intro J4 hJ4 hf
    refine h_if_eq (tgt := 19) dX9_without_8 (by decide) (fun c6 => ?_) (fun c6 => ?_)
    · replace hf := hif_p c6 hf
      refine h_sub (lv2 := []) [] rfl ?_
      exact hJ4 S2 hf
    · replace hf := hif_n c6 hf
      refine h_aload_n dX9_without_11 rfl 0 rfl ?_
      refine h_iload_n dX9_without_12 rfl 3 rfl ?_
      obtain ⟨g15, hf⟩ := hck_s hf
      obtain ⟨t9, S8, h7, hf⟩ := hb2_s hf
      refine h_Vi [.int a3] (rest := []) (m_X9_isHere (d := 3) (cs := cs) (Nat.le_refl _) h7) v_X9_isHere q_1356 rfl (Nat.le_trans (by decide) hd) g15 rfl rfl (Nat.le_of_ble_eq_true rfl) dX9_without_13 (Nat.le_refl _) (Nat.le_refl _) ?_
      refine h_if_ne (tgt := 23) dX9_without_16 (by decide) (fun c10 => ?_) (fun c10 => ?_)
      · replace hf := hif_n c10 hf
        refine h_aload_n dX9_without_23 rfl 0 rfl ?_
        refine h_iload_n dX9_without_24 rfl 1 rfl ?_
        refine h_iload_n dX9_without_25 rfl 2 rfl ?_
        refine h_iload_n dX9_without_26 rfl 3 rfl ?_
        obtain ⟨g14, hf⟩ := hck_s hf
        obtain ⟨t13, S12, h11, hf⟩ := hb2_s hf
        refine h_Vi [.int a1, .int a2, .int a3] (rest := []) (m_X9_farWithout (d := 9) (cs := cs) (Nat.le_refl _) h11) v_X9_farWithout q_1488 rfl (Nat.le_trans (by decide) hd) g14 rfl rfl (Nat.le_of_ble_eq_true rfl) dX9_without_27 (Nat.le_refl _) (Nat.le_refl _) ?_
        obtain rfl := Option.some.inj hf
        exact h_iret rfl rfl rfl (Nat.le_refl _) (Nat.le_refl _) dX9_without_30
      · replace hf := hif_p c10 hf
        refine h_sub (lv2 := []) [] rfl ?_
        exact hJ4 S8 hf
