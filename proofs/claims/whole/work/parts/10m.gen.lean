abbrev x_X9_findsPhrase (d : Nat) (S0 : hS) (args : List Value) (r : Int32 × hS) (cs : Nat → Nat) : hX := (((some .boolean), 5, d, 0, 0, false), (S0, args, some (.int r.1), r.2), cs)
theorem v_X9_findsPhrase : hVW yX9_findsPhrase cX9_findsPhrase 5 (some .boolean) RX9 2 := ⟨q_1528, q_s91, q_9, q_1529, by decide +kernel, by decide⟩
def f_X9_findsPhrase_L2 : Nat → Nat → Int32 → Int32 → Int32 → hS → (hS → Option (Int32 × hS)) → (Int32 → hS → Option (Int32 × hS)) → Option (Int32 × hS)
  | 0, _, _, _, _, _, _, _ => none
  | n + 1, x0, x1, x2, x3, S, k0, k1 =>
    if 80 ≤ x3 then
      (k0 S)
    else
      (hck (S.K x0 = 10) <|
       hb2 (f_X9_isThere x0 x3 S) fun t4 S3 =>
       if t4 = 0 then
         (f_X9_findsPhrase_L2 n x0 x1 x2 (x3 + 1) S3 k0 k1)
       else
         (hck (S3.K x0 = 10) <|
          hb2 (f_X9_whoAt x0 x3 S3) fun t8 S7 =>
          if t8 = (-1) then
            (hck (S7.K x0 = 10) <|
             hb2 (f_X9_heardAt x0 x3 S7) fun t12 S11 =>
             if (t12 &&& x1) = x1 then
               (if (t12 &&& x2) = 0 then
                  (k1 x3 S11)
                else
                  (f_X9_findsPhrase_L2 n x0 x1 x2 (x3 + 1) S11 k0 k1))
             else
               (f_X9_findsPhrase_L2 n x0 x1 x2 (x3 + 1) S11 k0 k1))
          else
            (f_X9_findsPhrase_L2 n x0 x1 x2 (x3 + 1) S7 k0 k1)))
def f_X9_findsPhrase (a0 : Nat) (a1 : Int32) (a2 : Int32) (S : hS) : Option (Int32 × hS) :=
  f_X9_findsPhrase_L2 hfuel a0 a1 a2 0 S
    (fun S18 =>
      some (0, S18)
    )
    (fun u19 S20 =>
      hbd (sI S20 a0 9 57 u19) fun S21 =>
      some (1, S21)
    )
set_option maxRecDepth 100000 in
set_option maxHeartbeats 4000000 in
theorem w_X9_findsPhrase_L2 {d : Nat} {S0 : hS} {args : List Value} {cs : Nat → Nat} {r : Int32 × hS} (hd : 5 ≤ d) : ∀ (n : Nat) (x0 : Nat) (x1 : Int32) (x2 : Int32) (x3 : Int32) (S : hS) (k0 : (hS → Option (Int32 × hS))) (k1 : (Int32 → hS → Option (Int32 × hS))) , f_X9_findsPhrase_L2 n x0 x1 x2 x3 S k0 k1 = some r → (∀ (T : hS), k0 T = some r → HW cX9_findsPhrase RX9 (x_X9_findsPhrase d S0 args r cs) 0 0 T 60 [] []) → (∀ (y3 : Int32) (T : hS), k1 y3 T = some r → HW cX9_findsPhrase RX9 (x_X9_findsPhrase d S0 args r cs) 0 0 T 47 [(0, .ref x0), (3, .int y3)] []) → HW cX9_findsPhrase RX9 (x_X9_findsPhrase d S0 args r cs) 0 0 S 2 [(0, .ref x0), (1, .int x1), (2, .int x2), (3, .int x3)] [] := by
  intro n
  induction n with
  | zero =>
    intro x0 x1 x2 x3 S k0 k1 hf
    cases hf
  | succ n ih =>
    intro x0 x1 x2 x3 S k0 k1 hf hk0 hk1
    rw [f_X9_findsPhrase_L2] at hf
    refine h_iload_n dX9_findsPhrase_2 rfl 3 rfl ?_
    refine h_bipush (v := 80) dX9_findsPhrase_3 rfl ?_
    refine h_icmp_ge (tgt := 60) dX9_findsPhrase_5 (by decide) (fun c1 => ?_) (fun c1 => ?_)
    · replace hf := hif_p c1 hf
      refine h_sub (lv2 := []) [] rfl ?_
      exact hk0 S hf
    · replace hf := hif_n c1 hf
      refine h_aload_n dX9_findsPhrase_8 rfl 0 rfl ?_
      refine h_iload_n dX9_findsPhrase_9 rfl 3 rfl ?_
      obtain ⟨g17, hf⟩ := hck_s hf
      obtain ⟨t4, S3, h2, hf⟩ := hb2_s hf
      refine h_Vi [.int x3] (rest := []) (m_X9_isThere (d := 3) (cs := cs) (Nat.le_refl _) h2) v_X9_isThere q_1410 rfl (Nat.le_trans (by decide) hd) g17 rfl rfl (Nat.le_of_ble_eq_true rfl) dX9_findsPhrase_10 (Nat.le_refl _) (Nat.le_refl _) ?_
      refine h_if_eq (tgt := 54) dX9_findsPhrase_13 (by decide) (fun c5 => ?_) (fun c5 => ?_)
      · replace hf := hif_p c5 hf
        refine h_iinc (q := 3) (v := x3 + 1) (lv2 := [(3, .int (x3 + 1)), (0, .ref x0), (1, .int x1), (2, .int x2)]) dX9_findsPhrase_54 rfl rfl (Nat.le_of_ble_eq_true rfl) rfl ?_
        refine h_goto (tgt := 2) dX9_findsPhrase_57 (by decide) ?_
        refine h_sub (lv2 := [(0, .ref x0), (1, .int x1), (2, .int x2), (3, .int (x3 + 1))]) [1, 2, 3, 0] rfl ?_
        exact ih x0 x1 x2 (x3 + 1) S3 k0 k1  hf hk0 hk1
      · replace hf := hif_n c5 hf
        refine h_aload_n dX9_findsPhrase_16 rfl 0 rfl ?_
        refine h_iload_n dX9_findsPhrase_17 rfl 3 rfl ?_
        obtain ⟨g16, hf⟩ := hck_s hf
        obtain ⟨t8, S7, h6, hf⟩ := hb2_s hf
        refine h_Vi [.int x3] (rest := []) (m_X9_whoAt (d := 1) (cs := cs) (Nat.le_refl _) h6) v_X9_whoAt q_1328 rfl (Nat.le_trans (by decide) hd) g16 rfl rfl (Nat.le_of_ble_eq_true rfl) dX9_findsPhrase_18 (Nat.le_refl _) (Nat.le_refl _) ?_
        refine h_iconst (v := (-1)) dX9_findsPhrase_21 rfl ?_
        refine h_icmp_ne (tgt := 54) dX9_findsPhrase_22 (by decide) (fun c9 => ?_) (fun c9 => ?_)
        · replace hf := hif_n c9 hf
          refine h_iinc (q := 3) (v := x3 + 1) (lv2 := [(3, .int (x3 + 1)), (0, .ref x0), (1, .int x1), (2, .int x2)]) dX9_findsPhrase_54 rfl rfl (Nat.le_of_ble_eq_true rfl) rfl ?_
          refine h_goto (tgt := 2) dX9_findsPhrase_57 (by decide) ?_
          refine h_sub (lv2 := [(0, .ref x0), (1, .int x1), (2, .int x2), (3, .int (x3 + 1))]) [1, 2, 3, 0] rfl ?_
          exact ih x0 x1 x2 (x3 + 1) S7 k0 k1  hf hk0 hk1
        · replace hf := hif_p c9 hf
          refine h_aload_n dX9_findsPhrase_25 rfl 0 rfl ?_
          refine h_iload_n dX9_findsPhrase_26 rfl 3 rfl ?_
          obtain ⟨g15, hf⟩ := hck_s hf
          obtain ⟨t12, S11, h10, hf⟩ := hb2_s hf
          refine h_Vi [.int x3] (rest := []) (m_X9_heardAt (d := 4) (cs := cs) (Nat.le_refl _) h10) v_X9_heardAt q_1530 rfl (Nat.le_trans (by decide) hd) g15 rfl rfl (Nat.le_of_ble_eq_true rfl) dX9_findsPhrase_27 (Nat.le_refl _) (Nat.le_refl _) ?_
          refine h_istore (lv2 := [(4, .int t12), (0, .ref x0), (1, .int x1), (2, .int x2), (3, .int x3)]) dX9_findsPhrase_30 (Nat.le_of_ble_eq_true rfl) rfl ?_
          refine h_iload dX9_findsPhrase_32 0 rfl ?_
          refine h_iload_n dX9_findsPhrase_34 rfl 2 rfl ?_
          refine h_iand dX9_findsPhrase_35 ?_
          refine h_iload_n dX9_findsPhrase_36 rfl 2 rfl ?_
          refine h_icmp_ne (tgt := 54) dX9_findsPhrase_37 (by decide) (fun c13 => ?_) (fun c13 => ?_)
          · replace hf := hif_n c13 hf
            refine h_iinc (q := 4) (v := x3 + 1) (lv2 := [(3, .int (x3 + 1)), (4, .int t12), (0, .ref x0), (1, .int x1), (2, .int x2)]) dX9_findsPhrase_54 rfl rfl (Nat.le_of_ble_eq_true rfl) rfl ?_
            refine h_goto (tgt := 2) dX9_findsPhrase_57 (by decide) ?_
            refine h_sub (lv2 := [(0, .ref x0), (1, .int x1), (2, .int x2), (3, .int (x3 + 1))]) [2, 3, 4, 0] rfl ?_
            exact ih x0 x1 x2 (x3 + 1) S11 k0 k1  hf hk0 hk1
          · replace hf := hif_p c13 hf
            refine h_iload dX9_findsPhrase_40 0 rfl ?_
            refine h_iload_n dX9_findsPhrase_42 rfl 3 rfl ?_
            refine h_iand dX9_findsPhrase_43 ?_
            refine h_if_ne (tgt := 54) dX9_findsPhrase_44 (by decide) (fun c14 => ?_) (fun c14 => ?_)
            · replace hf := hif_n c14 hf
              refine h_iinc (q := 4) (v := x3 + 1) (lv2 := [(3, .int (x3 + 1)), (4, .int t12), (0, .ref x0), (1, .int x1), (2, .int x2)]) dX9_findsPhrase_54 rfl rfl (Nat.le_of_ble_eq_true rfl) rfl ?_
              refine h_goto (tgt := 2) dX9_findsPhrase_57 (by decide) ?_
              refine h_sub (lv2 := [(0, .ref x0), (1, .int x1), (2, .int x2), (3, .int (x3 + 1))]) [2, 3, 4, 0] rfl ?_
              exact ih x0 x1 x2 (x3 + 1) S11 k0 k1  hf hk0 hk1
            · replace hf := hif_p c14 hf
              refine h_sub (lv2 := [(0, .ref x0), (3, .int x3)]) [1, 4] rfl ?_
              exact hk1 x3 S11 hf
set_option maxRecDepth 100000 in
set_option maxHeartbeats 4000000 in
theorem m_X9_findsPhrase {d : Nat} {cs : Nat → Nat} {a0 : Nat} {a1 : Int32} {a2 : Int32} {S : hS} {r : Int32 × hS} (hd : 5 ≤ d) (hf : f_X9_findsPhrase a0 a1 a2 S = some r) : HM yX9_findsPhrase cX9_findsPhrase 5 (some .boolean) d 0 0 cs [.ref a0, .int a1, .int a2] S (some (.int r.1)) r.2 := by
  unfold f_X9_findsPhrase at hf
  refine HM.ofHW false (by decide) (fun h => by cases h) (Nat.le_of_ble_eq_true rfl) ?_
  show HW cX9_findsPhrase RX9 (x_X9_findsPhrase d S [.ref a0, .int a1, .int a2] r cs) 0 0 S 0 [(0, .ref a0), (1, .int a1), (2, .int a2)] []
  refine h_iconst (v := 0) dX9_findsPhrase_0 rfl ?_
  refine h_istore_n (lv2 := [(3, .int 0), (0, .ref a0), (1, .int a1), (2, .int a2)]) dX9_findsPhrase_1 rfl (Nat.le_of_ble_eq_true rfl) rfl ?_
  refine h_sub (lv2 := [(0, .ref a0), (1, .int a1), (2, .int a2), (3, .int 0)]) [1, 2, 3, 0] rfl ?_
  refine w_X9_findsPhrase_L2 hd hfuel a0 a1 a2 0 S _ _  hf ?_ ?_
  · intro S18 hf
    refine h_iconst (v := 0) dX9_findsPhrase_60 rfl ?_
    obtain rfl := Option.some.inj hf
    exact h_zret rfl (by decide) rfl rfl (Nat.le_refl _) (Nat.le_refl _) dX9_findsPhrase_61
  · intro u19 S20 hf
    refine h_aload_n dX9_findsPhrase_47 rfl 0 rfl ?_
    refine h_iload_n dX9_findsPhrase_48 rfl 1 rfl ?_
    obtain ⟨S21, h22, hf⟩ := hbd_s hf
    refine h_putI h22 rfl (Nat.le_of_ble_eq_true rfl) rfl q_1017 rfl rfl (by decide +kernel) dX9_findsPhrase_49 ?_
    refine h_iconst (v := 1) dX9_findsPhrase_52 rfl ?_
    obtain rfl := Option.some.inj hf
    exact h_zret rfl (by decide) rfl rfl (Nat.le_refl _) (Nat.le_refl _) dX9_findsPhrase_53
abbrev x_X9_isSet (d : Nat) (S0 : hS) (args : List Value) (r : Int32 × hS) (cs : Nat → Nat) : hX := (((some .boolean), 2, d, 0, 0, false), (S0, args, some (.int r.1), r.2), cs)
theorem v_X9_isSet : hVW yX9_isSet cX9_isSet 2 (some .boolean) RX9 1 := ⟨q_1524, q_s90, q_9, q_1525, by decide +kernel, by decide⟩
def f_X9_isSet (a0 : Nat) (a1 : Int32) (S : hS) : Option (Int32 × hS) :=
  hbd (gR S a0 9 1) fun t1 =>
  hbd (gA S t1 12 2) fun t3 =>
  hb2 (f_X9_in (Int32.toInt64 a1) 0 (Int32.toInt64 ((1 <<< (t3 &&& 31)) - 1)) S) fun t7 S6 =>
  hck (t7 = 0 ∨ t7 = 1) <|
  some (t7, S6)
set_option maxRecDepth 100000 in
set_option maxHeartbeats 4000000 in
theorem m_X9_isSet {d : Nat} {cs : Nat → Nat} {a0 : Nat} {a1 : Int32} {S : hS} {r : Int32 × hS} (hd : 2 ≤ d) (hf : f_X9_isSet a0 a1 S = some r) : HM yX9_isSet cX9_isSet 2 (some .boolean) d 0 0 cs [.ref a0, .int a1] S (some (.int r.1)) r.2 := by
  unfold f_X9_isSet at hf
  refine HM.ofHW false (by decide) (fun h => by cases h) (Nat.le_of_ble_eq_true rfl) ?_
  show HW cX9_isSet RX9 (x_X9_isSet d S [.ref a0, .int a1] r cs) 0 0 S 0 [(0, .ref a0), (1, .int a1)] []
  refine h_iload_n dX9_isSet_0 rfl 1 rfl ?_
  refine h_i2l dX9_isSet_1 ?_
  refine h_lconst (v := 0) dX9_isSet_2 rfl ?_
  refine h_iconst (v := 1) dX9_isSet_3 rfl ?_
  refine h_aload_n dX9_isSet_4 rfl 0 rfl ?_
  obtain ⟨t1, h2, hf⟩ := hbd_s hf
  refine h_getR h2 rfl (Nat.le_of_ble_eq_true rfl) rfl q_961 rfl dX9_isSet_5 ?_
  refine h_iconst (v := 2) dX9_isSet_8 rfl ?_
  obtain ⟨t3, h4, hf⟩ := hbd_s hf
  refine h_iald h4 dX9_isSet_9 ?_
  refine h_ishl dX9_isSet_10 ?_
  refine h_iconst (v := 1) dX9_isSet_11 rfl ?_
  refine h_isub dX9_isSet_12 ?_
  refine h_i2l dX9_isSet_13 ?_
  obtain ⟨t7, S6, h5, hf⟩ := hb2_s hf
  refine h_Si [.long (Int32.toInt64 a1), .long 0, .long (Int32.toInt64 ((1 <<< (t3 &&& 31)) - 1))] (rest := []) (m_X9_in (d := 1) (cs := cs) (Nat.le_refl _) h5) v_X9_in q_1225 rfl (Nat.le_trans (by decide) hd) rfl (Nat.le_of_ble_eq_true rfl) dX9_isSet_14 (Nat.le_refl _) (Nat.le_refl _) ?_
  obtain ⟨hz, hf⟩ := hck_s hf
  obtain rfl := Option.some.inj hf
  exact h_zret rfl hz rfl rfl (Nat.le_refl _) (Nat.le_refl _) dX9_isSet_17
abbrev x_X9_spy (d : Nat) (S0 : hS) (args : List Value) (r : Int32 × hS) (cs : Nat → Nat) : hX := (((some .int), 8, d, 0, 0, false), (S0, args, some (.int r.1), r.2), cs)
theorem v_X9_spy : hVW yX9_spy cX9_spy 8 (some .int) RX9 5 := ⟨q_1519, q_1520, q_9, q_1521, by decide +kernel, by decide⟩
def f_X9_spy_L60 : Nat → Nat → Int32 → Int32 → Int32 → Int32 → Int32 → Int32 → hS → (Int32 → hS → Option (Int32 × hS)) → Option (Int32 × hS)
  | 0, _, _, _, _, _, _, _, _, _ => none
  | n + 1, x0, x1, x2, x3, x4, x6, x7, S, k0 =>
    if x2 < x7 then
      (k0 x6 S)
    else
      (if x6 = 0 then
         (hck (S.K x0 = 10) <|
          hbd (f_X9_minute x0 x1 S) fun S4 =>
          hck (S4.K x0 = 10) <|
          hb2 (f_X9_findsPhrase x0 x3 x4 S4) fun t7 S6 =>
          hbd (sI S6 x0 9 56 x7) fun S8 =>
          f_X9_spy_L60 n x0 x1 x2 x3 x4 t7 (x7 + 1) S8 k0)
       else
         (k0 x6 S))
def f_X9_spy (a0 : Nat) (a1 : Int32) (a2 : Int32) (a3 : Int32) (a4 : Int32) (a5 : Int32) (S : hS) : Option (Int32 × hS) :=
  hck (S.K a0 = 10) <|
  hb2 (f_X9_isAsked a0 a1 a2 30 S) fun t14 S13 =>
  if t14 = 0 then
    (some ((-1), S13))
  else
    (hck (S13.K a0 = 10) <|
     hb2 (f_X9_isSet a0 a3 S13) fun t18 S17 =>
     if t18 = 0 then
       (some ((-1), S17))
     else
       (hck (S17.K a0 = 10) <|
        hb2 (f_X9_isSet a0 a4 S17) fun t22 S21 =>
        if t22 = 0 then
          (some ((-1), S21))
        else
          (if (a3 &&& a4) = 0 then
             (hb2 (f_X9_in (Int32.toInt64 a5) 0 2 S21) fun t27 S26 =>
              if t27 = 0 then
                (some ((-1), S26))
              else
                (hck (S26.K a0 = 10) <|
                 hbd (f_X9_keeps a0 S26) fun S30 =>
                 f_X9_spy_L60 hfuel a0 a1 a2 a3 a4 0 1 S30
                   (fun u31 S32 =>
                     hck (S32.K a0 = 10) <|
                     hbd (f_X9_laysBack a0 S32) fun S34 =>
                     if u31 = 0 then
                       (some ((-2), S34))
                     else
                       (if a5 = 0 then
                          (hbd (gI S34 a0 9 56) fun t42 =>
                           some (t42, S34))
                        else
                          (hbd (gI S34 a0 9 57) fun t37 =>
                           hb2 (f_X9_part t37 (a5 - 1) S34) fun t41 S40 =>
                           some (t41, S40)))
                   )))
           else
             (some ((-1), S21)))))
set_option maxRecDepth 100000 in
set_option maxHeartbeats 4000000 in
theorem w_X9_spy_L60 {d : Nat} {S0 : hS} {args : List Value} {cs : Nat → Nat} {r : Int32 × hS} (hd : 8 ≤ d) : ∀ (n : Nat) (x0 : Nat) (x1 : Int32) (x2 : Int32) (x3 : Int32) (x4 : Int32) (x6 : Int32) (x7 : Int32) (S : hS) (k0 : (Int32 → hS → Option (Int32 × hS))) (z5 : Int32), f_X9_spy_L60 n x0 x1 x2 x3 x4 x6 x7 S k0 = some r → (∀ (y6 : Int32) (T : hS), k0 y6 T = some r → HW cX9_spy RX9 (x_X9_spy d S0 args r cs) 0 0 T 97 [(0, .ref x0), (5, .int z5), (6, .int y6)] []) → HW cX9_spy RX9 (x_X9_spy d S0 args r cs) 0 0 S 60 [(0, .ref x0), (1, .int x1), (2, .int x2), (3, .int x3), (4, .int x4), (5, .int z5), (6, .int x6), (7, .int x7)] [] := by
  intro n
  induction n with
  | zero =>
    intro x0 x1 x2 x3 x4 x6 x7 S k0 z5 hf
    cases hf
  | succ n ih =>
    intro x0 x1 x2 x3 x4 x6 x7 S k0 z5 hf hk0
    rw [f_X9_spy_L60] at hf
    refine h_iload dX9_spy_60 7 rfl ?_
    refine h_iload_n dX9_spy_62 rfl 2 rfl ?_
    refine h_icmp_gt (tgt := 97) dX9_spy_63 (by decide) (fun c1 => ?_) (fun c1 => ?_)
    · replace hf := hif_p c1 hf
      refine h_sub (lv2 := [(0, .ref x0), (5, .int z5), (6, .int x6)]) [0, 5, 6] rfl ?_
      exact hk0 x6 S hf
    · replace hf := hif_n c1 hf
      refine h_iload dX9_spy_66 6 rfl ?_
      refine h_if_ne (tgt := 97) dX9_spy_68 (by decide) (fun c2 => ?_) (fun c2 => ?_)
      · replace hf := hif_n c2 hf
        refine h_sub (lv2 := [(0, .ref x0), (5, .int z5), (6, .int x6)]) [0, 5, 6] rfl ?_
        exact hk0 x6 S hf
      · replace hf := hif_p c2 hf
        refine h_aload_n dX9_spy_71 rfl 0 rfl ?_
        refine h_iload_n dX9_spy_72 rfl 1 rfl ?_
        obtain ⟨g11, hf⟩ := hck_s hf
        obtain ⟨S4, h3, hf⟩ := hbd_s hf
        refine h_Vv [.int x1] (rest := []) (m_X9_minute (d := 7) (cs := cs) (Nat.le_refl _) h3) v_X9_minute q_1386 rfl (Nat.le_trans (by decide) hd) g11 rfl rfl (Nat.le_of_ble_eq_true rfl) dX9_spy_73 (Nat.le_refl _) (Nat.le_refl _) ?_
        refine h_aload_n dX9_spy_76 rfl 0 rfl ?_
        refine h_iload_n dX9_spy_77 rfl 3 rfl ?_
        refine h_iload dX9_spy_78 4 rfl ?_
        obtain ⟨g10, hf⟩ := hck_s hf
        obtain ⟨t7, S6, h5, hf⟩ := hb2_s hf
        refine h_Vi [.int x3, .int x4] (rest := []) (m_X9_findsPhrase (d := 5) (cs := cs) (Nat.le_refl _) h5) v_X9_findsPhrase q_1526 rfl (Nat.le_trans (by decide) hd) g10 rfl rfl (Nat.le_of_ble_eq_true rfl) dX9_spy_80 (Nat.le_refl _) (Nat.le_refl _) ?_
        refine h_istore (lv2 := [(6, .int t7), (0, .ref x0), (1, .int x1), (2, .int x2), (3, .int x3), (4, .int x4), (5, .int z5), (7, .int x7)]) dX9_spy_83 (Nat.le_of_ble_eq_true rfl) rfl ?_
        refine h_aload_n dX9_spy_85 rfl 1 rfl ?_
        refine h_iload dX9_spy_86 7 rfl ?_
        obtain ⟨S8, h9, hf⟩ := hbd_s hf
        refine h_putI h9 rfl (Nat.le_of_ble_eq_true rfl) rfl q_1016 rfl rfl (by decide +kernel) dX9_spy_88 ?_
        refine h_iinc (q := 7) (v := x7 + 1) (lv2 := [(7, .int (x7 + 1)), (6, .int t7), (0, .ref x0), (1, .int x1), (2, .int x2), (3, .int x3), (4, .int x4), (5, .int z5)]) dX9_spy_91 rfl rfl (Nat.le_of_ble_eq_true rfl) rfl ?_
        refine h_goto (tgt := 60) dX9_spy_94 (by decide) ?_
        refine h_sub (lv2 := [(0, .ref x0), (1, .int x1), (2, .int x2), (3, .int x3), (4, .int x4), (5, .int z5), (6, .int t7), (7, .int (x7 + 1))]) [2, 3, 4, 5, 6, 7, 1, 0] rfl ?_
        exact ih x0 x1 x2 x3 x4 t7 (x7 + 1) S8 k0 z5 hf hk0
set_option maxRecDepth 100000 in
set_option maxHeartbeats 4000000 in
theorem m_X9_spy {d : Nat} {cs : Nat → Nat} {a0 : Nat} {a1 : Int32} {a2 : Int32} {a3 : Int32} {a4 : Int32} {a5 : Int32} {S : hS} {r : Int32 × hS} (hd : 8 ≤ d) (hf : f_X9_spy a0 a1 a2 a3 a4 a5 S = some r) : HM yX9_spy cX9_spy 8 (some .int) d 0 0 cs [.ref a0, .int a1, .int a2, .int a3, .int a4, .int a5] S (some (.int r.1)) r.2 := by
  unfold f_X9_spy at hf
  refine HM.ofHW false (by decide) (fun h => by cases h) (Nat.le_of_ble_eq_true rfl) ?_
  show HW cX9_spy RX9 (x_X9_spy d S [.ref a0, .int a1, .int a2, .int a3, .int a4, .int a5] r cs) 0 0 S 0 [(0, .ref a0), (1, .int a1), (2, .int a2), (3, .int a3), (4, .int a4), (5, .int a5)] []
  refine h_aload_n dX9_spy_0 rfl 0 rfl ?_
  refine h_iload_n dX9_spy_1 rfl 1 rfl ?_
  refine h_iload_n dX9_spy_2 rfl 2 rfl ?_
  refine h_bipush (v := 30) dX9_spy_3 rfl ?_
  obtain ⟨g48, hf⟩ := hck_s hf
  obtain ⟨t14, S13, h12, hf⟩ := hb2_s hf
  refine h_Vi [.int a1, .int a2, .int 30] (rest := []) (m_X9_isAsked (d := 3) (cs := cs) (Nat.le_refl _) h12) v_X9_isAsked q_1440 rfl (Nat.le_trans (by decide) hd) g48 rfl rfl (Nat.le_of_ble_eq_true rfl) dX9_spy_5 (Nat.le_refl _) (Nat.le_refl _) ?_
  refine h_if_eq (tgt := 48) dX9_spy_8 (by decide) (fun c15 => ?_) (fun c15 => ?_)
  · replace hf := hif_p c15 hf
    refine h_iconst (v := (-1)) dX9_spy_48 rfl ?_
    obtain rfl := Option.some.inj hf
    exact h_iret rfl rfl rfl (Nat.le_refl _) (Nat.le_refl _) dX9_spy_49
  · replace hf := hif_n c15 hf
    refine h_aload_n dX9_spy_11 rfl 0 rfl ?_
    refine h_iload_n dX9_spy_12 rfl 3 rfl ?_
    obtain ⟨g47, hf⟩ := hck_s hf
    obtain ⟨t18, S17, h16, hf⟩ := hb2_s hf
    refine h_Vi [.int a3] (rest := []) (m_X9_isSet (d := 2) (cs := cs) (Nat.le_refl _) h16) v_X9_isSet q_1522 rfl (Nat.le_trans (by decide) hd) g47 rfl rfl (Nat.le_of_ble_eq_true rfl) dX9_spy_13 (Nat.le_refl _) (Nat.le_refl _) ?_
    refine h_if_eq (tgt := 48) dX9_spy_16 (by decide) (fun c19 => ?_) (fun c19 => ?_)
    · replace hf := hif_p c19 hf
      refine h_iconst (v := (-1)) dX9_spy_48 rfl ?_
      obtain rfl := Option.some.inj hf
      exact h_iret rfl rfl rfl (Nat.le_refl _) (Nat.le_refl _) dX9_spy_49
    · replace hf := hif_n c19 hf
      refine h_aload_n dX9_spy_19 rfl 0 rfl ?_
      refine h_iload dX9_spy_20 4 rfl ?_
      obtain ⟨g46, hf⟩ := hck_s hf
      obtain ⟨t22, S21, h20, hf⟩ := hb2_s hf
      refine h_Vi [.int a4] (rest := []) (m_X9_isSet (d := 2) (cs := cs) (Nat.le_refl _) h20) v_X9_isSet q_1522 rfl (Nat.le_trans (by decide) hd) g46 rfl rfl (Nat.le_of_ble_eq_true rfl) dX9_spy_22 (Nat.le_refl _) (Nat.le_refl _) ?_
      refine h_if_eq (tgt := 48) dX9_spy_25 (by decide) (fun c23 => ?_) (fun c23 => ?_)
      · replace hf := hif_p c23 hf
        refine h_iconst (v := (-1)) dX9_spy_48 rfl ?_
        obtain rfl := Option.some.inj hf
        exact h_iret rfl rfl rfl (Nat.le_refl _) (Nat.le_refl _) dX9_spy_49
      · replace hf := hif_n c23 hf
        refine h_iload_n dX9_spy_28 rfl 3 rfl ?_
        refine h_iload dX9_spy_29 4 rfl ?_
        refine h_iand dX9_spy_31 ?_
        refine h_if_ne (tgt := 48) dX9_spy_32 (by decide) (fun c24 => ?_) (fun c24 => ?_)
        · replace hf := hif_n c24 hf
          refine h_iconst (v := (-1)) dX9_spy_48 rfl ?_
          obtain rfl := Option.some.inj hf
          exact h_iret rfl rfl rfl (Nat.le_refl _) (Nat.le_refl _) dX9_spy_49
        · replace hf := hif_p c24 hf
          refine h_iload dX9_spy_35 5 rfl ?_
          refine h_i2l dX9_spy_37 ?_
          refine h_lconst (v := 0) dX9_spy_38 rfl ?_
          refine h_ldc2 (v := 2) dX9_spy_39 q_1475 ?_
          obtain ⟨t27, S26, h25, hf⟩ := hb2_s hf
          refine h_Si [.long (Int32.toInt64 a5), .long 0, .long 2] (rest := []) (m_X9_in (d := 1) (cs := cs) (Nat.le_refl _) h25) v_X9_in q_1225 rfl (Nat.le_trans (by decide) hd) rfl (Nat.le_of_ble_eq_true rfl) dX9_spy_42 (Nat.le_refl _) (Nat.le_refl _) ?_
          refine h_if_ne (tgt := 50) dX9_spy_45 (by decide) (fun c28 => ?_) (fun c28 => ?_)
          · replace hf := hif_n c28 hf
            refine h_aload_n dX9_spy_50 rfl 0 rfl ?_
            obtain ⟨g45, hf⟩ := hck_s hf
            obtain ⟨S30, h29, hf⟩ := hbd_s hf
            refine h_Vv [] (rest := []) (m_X9_keeps (d := 2) (cs := cs) (Nat.le_refl _) h29) v_X9_keeps q_1448 rfl (Nat.le_trans (by decide) hd) g45 rfl rfl (Nat.le_of_ble_eq_true rfl) dX9_spy_51 (Nat.le_refl _) (Nat.le_refl _) ?_
            refine h_iconst (v := 0) dX9_spy_54 rfl ?_
            refine h_istore (lv2 := [(6, .int 0), (0, .ref a0), (1, .int a1), (2, .int a2), (3, .int a3), (4, .int a4), (5, .int a5)]) dX9_spy_55 (Nat.le_of_ble_eq_true rfl) rfl ?_
            refine h_iconst (v := 1) dX9_spy_57 rfl ?_
            refine h_istore (lv2 := [(7, .int 1), (6, .int 0), (0, .ref a0), (1, .int a1), (2, .int a2), (3, .int a3), (4, .int a4), (5, .int a5)]) dX9_spy_58 (Nat.le_of_ble_eq_true rfl) rfl ?_
            refine h_sub (lv2 := [(0, .ref a0), (1, .int a1), (2, .int a2), (3, .int a3), (4, .int a4), (5, .int a5), (6, .int 0), (7, .int 1)]) [2, 3, 4, 5, 6, 7, 1, 0] rfl ?_
            refine w_X9_spy_L60 hd hfuel a0 a1 a2 a3 a4 0 1 S30 _ a5 hf ?_
            · intro u31 S32 hf
              refine h_aload_n dX9_spy_97 rfl 0 rfl ?_
              obtain ⟨g44, hf⟩ := hck_s hf
              obtain ⟨S34, h33, hf⟩ := hbd_s hf
              refine h_Vv [] (rest := []) (m_X9_laysBack (d := 2) (cs := cs) (Nat.le_refl _) h33) v_X9_laysBack q_1452 rfl (Nat.le_trans (by decide) hd) g44 rfl rfl (Nat.le_of_ble_eq_true rfl) dX9_spy_98 (Nat.le_refl _) (Nat.le_refl _) ?_
              refine h_iload dX9_spy_101 2 rfl ?_
              refine h_if_ne (tgt := 111) dX9_spy_103 (by decide) (fun c35 => ?_) (fun c35 => ?_)
              · replace hf := hif_n c35 hf
                refine h_iload dX9_spy_111 1 rfl ?_
                refine h_if_ne (tgt := 123) dX9_spy_113 (by decide) (fun c36 => ?_) (fun c36 => ?_)
                · replace hf := hif_n c36 hf
                  refine h_aload_n dX9_spy_123 rfl 0 rfl ?_
                  obtain ⟨t37, h38, hf⟩ := hbd_s hf
                  refine h_getI h38 rfl (Nat.le_of_ble_eq_true rfl) rfl q_1017 rfl dX9_spy_124 ?_
                  refine h_iload dX9_spy_127 1 rfl ?_
                  refine h_iconst (v := 1) dX9_spy_129 rfl ?_
                  refine h_isub dX9_spy_130 ?_
                  obtain ⟨t41, S40, h39, hf⟩ := hb2_s hf
                  refine h_Si [.int t37, .int (a5 - 1)] (rest := []) (m_X9_part (d := 1) (cs := cs) (Nat.le_refl _) h39) v_X9_part q_1456 rfl (Nat.le_trans (by decide) hd) rfl (Nat.le_of_ble_eq_true rfl) dX9_spy_131 (Nat.le_refl _) (Nat.le_refl _) ?_
                  obtain rfl := Option.some.inj hf
                  exact h_iret rfl rfl rfl (Nat.le_refl _) (Nat.le_refl _) dX9_spy_134
                · replace hf := hif_p c36 hf
                  refine h_aload_n dX9_spy_116 rfl 0 rfl ?_
                  obtain ⟨t42, h43, hf⟩ := hbd_s hf
                  refine h_getI h43 rfl (Nat.le_of_ble_eq_true rfl) rfl q_1016 rfl dX9_spy_117 ?_
                  refine h_goto (tgt := 134) dX9_spy_120 (by decide) ?_
                  obtain rfl := Option.some.inj hf
                  exact h_iret rfl rfl rfl (Nat.le_refl _) (Nat.le_refl _) dX9_spy_134
              · replace hf := hif_p c35 hf
                refine h_bipush (v := (-2)) dX9_spy_106 rfl ?_
                refine h_goto (tgt := 134) dX9_spy_108 (by decide) ?_
                obtain rfl := Option.some.inj hf
                exact h_iret rfl rfl rfl (Nat.le_refl _) (Nat.le_refl _) dX9_spy_134
          · replace hf := hif_p c28 hf
            refine h_iconst (v := (-1)) dX9_spy_48 rfl ?_
            obtain rfl := Option.some.inj hf
            exact h_iret rfl rfl rfl (Nat.le_refl _) (Nat.le_refl _) dX9_spy_49
abbrev x_X9_seed (d : Nat) (S0 : hS) (args : List Value) (r : Int32 × hS) (cs : Nat → Nat) : hX := (((some .int), 3, d, 0, 0, false), (S0, args, some (.int r.1), r.2), cs)
theorem v_X9_seed : hVW yX9_seed cX9_seed 3 (some .int) RX9 1 := ⟨q_1535, q_1536, q_9, q_1537, by decide +kernel, by decide⟩
def f_X9_seed (a0 : Nat) (a1 : Int32) (S : hS) : Option (Int32 × hS) :=
  if 0 ≤ a1 then
    (hbd (gR S a0 9 1) fun t2 =>
     hbd (gA S t2 12 13) fun t4 =>
     hbd (gR S a0 9 1) fun t6 =>
     hbd (sA S t6 13 a1) fun S8 =>
     some (t4, S8))
  else
    (some ((-1), S))
set_option maxRecDepth 100000 in
set_option maxHeartbeats 4000000 in
theorem m_X9_seed {d : Nat} {cs : Nat → Nat} {a0 : Nat} {a1 : Int32} {S : hS} {r : Int32 × hS} (hd : 1 ≤ d) (hf : f_X9_seed a0 a1 S = some r) : HM yX9_seed cX9_seed 3 (some .int) d 0 0 cs [.ref a0, .int a1] S (some (.int r.1)) r.2 := by
  unfold f_X9_seed at hf
  refine HM.ofHW false (by decide) (fun h => by cases h) (Nat.le_of_ble_eq_true rfl) ?_
  show HW cX9_seed RX9 (x_X9_seed d S [.ref a0, .int a1] r cs) 0 0 S 0 [(0, .ref a0), (1, .int a1)] []
  refine h_iload_n dX9_seed_0 rfl 1 rfl ?_
  refine h_if_ge (tgt := 6) dX9_seed_1 (by decide) (fun c1 => ?_) (fun c1 => ?_)
  · replace hf := hif_p c1 hf
    refine h_aload_n dX9_seed_6 rfl 0 rfl ?_
    obtain ⟨t2, h3, hf⟩ := hbd_s hf
    refine h_getR h3 rfl (Nat.le_of_ble_eq_true rfl) rfl q_961 rfl dX9_seed_7 ?_
    refine h_bipush (v := 13) dX9_seed_10 rfl ?_
    obtain ⟨t4, h5, hf⟩ := hbd_s hf
    refine h_iald h5 dX9_seed_12 ?_
    refine h_istore_n (lv2 := [(2, .int t4), (0, .ref a0), (1, .int a1)]) dX9_seed_13 rfl (Nat.le_of_ble_eq_true rfl) rfl ?_
    refine h_aload_n dX9_seed_14 rfl 1 rfl ?_
    obtain ⟨t6, h7, hf⟩ := hbd_s hf
    refine h_getR h7 rfl (Nat.le_of_ble_eq_true rfl) rfl q_961 rfl dX9_seed_15 ?_
    refine h_bipush (v := 13) dX9_seed_18 rfl ?_
    refine h_iload_n dX9_seed_20 rfl 2 rfl ?_
    obtain ⟨S8, h9, hf⟩ := hbd_s hf
    refine h_iast h9 dX9_seed_21 ?_
    refine h_iload_n dX9_seed_22 rfl 0 rfl ?_
    obtain rfl := Option.some.inj hf
    exact h_iret rfl rfl rfl (Nat.le_refl _) (Nat.le_refl _) dX9_seed_23
  · replace hf := hif_n c1 hf
    refine h_iconst (v := (-1)) dX9_seed_4 rfl ?_
    obtain rfl := Option.some.inj hf
    exact h_iret rfl rfl rfl (Nat.le_refl _) (Nat.le_refl _) dX9_seed_5
abbrev x_X9_draws (d : Nat) (S0 : hS) (args : List Value) (r : Int32 × hS) (cs : Nat → Nat) : hX := (((some .int), 2, d, 0, 0, false), (S0, args, some (.int r.1), r.2), cs)
theorem v_X9_draws : hVW yX9_draws cX9_draws 2 (some .int) RX9 1 := ⟨q_1545, q_s93, q_9, q_1546, by decide +kernel, by decide⟩
def f_X9_draws (a0 : Nat) (a1 : Int32) (S : hS) : Option (Int32 × hS) :=
  hbd (gR S a0 9 1) fun t1 =>
  hbd (gR S a0 9 1) fun t3 =>
  hbd (gA S t3 12 13) fun t5 =>
  hbd (sA S t1 13 (Int64.toInt32 ((((Int32.toInt64 t5) * 1103515245) + 12345) - (((Int32.toInt64 t5) * 1103515245) + 12345) / 2147483648 * 2147483648))) fun S7 =>
  hbd (gR S7 a0 9 1) fun t9 =>
  hbd (gA S7 t9 12 13) fun t11 =>
  hck (¬ a1 = 0) <|
  some ((t11 / 65536) - (t11 / 65536) / a1 * a1, S7)
set_option maxRecDepth 100000 in
set_option maxHeartbeats 4000000 in
theorem m_X9_draws {d : Nat} {cs : Nat → Nat} {a0 : Nat} {a1 : Int32} {S : hS} {r : Int32 × hS} (hd : 1 ≤ d) (hf : f_X9_draws a0 a1 S = some r) : HM yX9_draws cX9_draws 2 (some .int) d 0 0 cs [.ref a0, .int a1] S (some (.int r.1)) r.2 := by
  unfold f_X9_draws at hf
  refine HM.ofHW false (by decide) (fun h => by cases h) (Nat.le_of_ble_eq_true rfl) ?_
  show HW cX9_draws RX9 (x_X9_draws d S [.ref a0, .int a1] r cs) 0 0 S 0 [(0, .ref a0), (1, .int a1)] []
  refine h_aload_n dX9_draws_0 rfl 0 rfl ?_
  obtain ⟨t1, h2, hf⟩ := hbd_s hf
  refine h_getR h2 rfl (Nat.le_of_ble_eq_true rfl) rfl q_961 rfl dX9_draws_1 ?_
  refine h_bipush (v := 13) dX9_draws_4 rfl ?_
  refine h_aload_n dX9_draws_6 rfl 0 rfl ?_
  obtain ⟨t3, h4, hf⟩ := hbd_s hf
  refine h_getR h4 rfl (Nat.le_of_ble_eq_true rfl) rfl q_961 rfl dX9_draws_7 ?_
  refine h_bipush (v := 13) dX9_draws_10 rfl ?_
  obtain ⟨t5, h6, hf⟩ := hbd_s hf
  refine h_iald h6 dX9_draws_12 ?_
  refine h_i2l dX9_draws_13 ?_
  refine h_ldc2 (v := 1103515245) dX9_draws_14 q_1547 ?_
  refine h_lmul dX9_draws_17 ?_
  refine h_ldc2 (v := 12345) dX9_draws_18 q_1548 ?_
  refine h_ladd dX9_draws_21 ?_
  refine h_ldc2 (v := 2147483648) dX9_draws_22 q_1549 ?_
  refine h_lrem dX9_draws_25 (by decide) ?_
  refine h_l2i dX9_draws_26 ?_
  obtain ⟨S7, h8, hf⟩ := hbd_s hf
  refine h_iast h8 dX9_draws_27 ?_
  refine h_aload_n dX9_draws_28 rfl 0 rfl ?_
  obtain ⟨t9, h10, hf⟩ := hbd_s hf
  refine h_getR h10 rfl (Nat.le_of_ble_eq_true rfl) rfl q_961 rfl dX9_draws_29 ?_
  refine h_bipush (v := 13) dX9_draws_32 rfl ?_
  obtain ⟨t11, h12, hf⟩ := hbd_s hf
  refine h_iald h12 dX9_draws_34 ?_
  refine h_ldcw (v := 65536) dX9_draws_35 q_1550 ?_
  refine h_idiv dX9_draws_38 (by decide) ?_
  refine h_iload_n dX9_draws_39 rfl 1 rfl ?_
  obtain ⟨h13, hf⟩ := hck_s hf
  refine h_irem dX9_draws_40 h13 ?_
  obtain rfl := Option.some.inj hf
  exact h_iret rfl rfl rfl (Nat.le_refl _) (Nat.le_refl _) dX9_draws_41
abbrev x_X9_evenings (d : Nat) (S0 : hS) (args : List Value) (r : Int32 × hS) (cs : Nat → Nat) : hX := (((some .int), 11, d, 0, 0, false), (S0, args, some (.int r.1), r.2), cs)
theorem v_X9_evenings : hVW yX9_evenings cX9_evenings 11 (some .int) RX9 5 := ⟨q_1539, q_1540, q_9, q_1541, by decide +kernel, by decide⟩
def f_X9_evenings_L144 : Nat → Nat → Int32 → Int32 → Int32 → hS → (hS → Option (Int32 × hS)) → Option (Int32 × hS)
  | 0, _, _, _, _, _, _ => none
  | n + 1, x0, x1, x3, x9, S, k0 =>
    if x3 ≤ x9 then
      (k0 S)
    else
      (hck (S.K x0 = 10) <|
       hbd (f_X9_minute x0 x1 S) fun S3 =>
       f_X9_evenings_L144 n x0 x1 x3 (x9 + 1) S3 k0)
def f_X9_evenings_L90 : Nat → Nat → Int32 → hS → (hS → Option (Int32 × hS)) → Option (Int32 × hS)
  | 0, _, _, _, _ => none
  | n + 1, x0, x9, S, k0 =>
    hbd (gR S x0 9 1) fun t1 =>
    hbd (gA S t1 12 2) fun t3 =>
    if t3 ≤ x9 then
      (k0 S)
    else
      (hbd (gR S x0 9 4) fun t6 =>
       hbd (gR S x0 9 3) fun t8 =>
       hbd (gA S t8 12 x9) fun t10 =>
       hj (γ := Int32 → hS → Option (Int32 × hS)) (fun (v13 : Int32) (S14 : hS) =>
         hbd (sA S14 t6 x9 v13) fun S15 =>
         f_X9_evenings_L90 n x0 (x9 + 1) S15 k0
         ) fun J12 =>
       if t10 = (-1) then
         (hbd (gR S x0 9 4) fun t22 =>
          hbd (gA S t22 12 x9) fun t24 =>
          J12 t24 S)
       else
         (hck (S.K x0 = 10) <|
          hb2 (f_X9_draws x0 100 S) fun t20 S19 =>
          J12 t20 S19))
def f_X9_evenings_L81 : Nat → Nat → Int32 → Int32 → Int32 → Int32 → Int32 → Int32 → Int32 → hS → (Int32 → hS → Option (Int32 × hS)) → Option (Int32 × hS)
  | 0, _, _, _, _, _, _, _, _, _, _ => none
  | n + 1, x0, x1, x2, x3, x4, x5, x7, x8, S, k0 =>
    if x2 ≤ x8 then
      (k0 x7 S)
    else
      (f_X9_evenings_L90 hfuel x0 0 S
         (fun S2 =>
           f_X9_evenings_L144 hfuel x0 x1 x3 0 S2
             (fun S3 =>
               hbd (gR S3 x0 9 3) fun t4 =>
               hbd (gA S3 t4 12 x4) fun t6 =>
               hj (γ := Int32 → Option (Int32 × hS)) (fun (v9 : Int32) =>
                 hj (γ := Int32 → Option (Int32 × hS)) (fun (v11 : Int32) =>
                   hbd (gR S3 x0 9 1) fun t12 =>
                   hbd (gA S3 t12 12 13) fun t14 =>
                   hck (S3.K x0 = 10) <|
                   hbd (f_X9_laysBack x0 S3) fun S17 =>
                   hbd (gR S17 x0 9 1) fun t18 =>
                   hbd (sA S17 t18 13 t14) fun S20 =>
                   hbd (gR S20 x0 9 58) fun t22 =>
                   hbd (gR S20 x0 9 4) fun t24 =>
                   hbd (f_X9_lay t22 t24 S20) fun S27 =>
                   f_X9_evenings_L81 n x0 x1 x2 x3 x4 x5 (x7 + v11) (x8 + 1) S27 k0
                   ) fun J10 =>
                 if x5 = 0 then
                   (if v9 = 0 then
                      (J10 0)
                    else
                      (J10 1))
                 else
                   (if x5 = 1 then
                      (hbd (gR S3 x0 9 6) fun t39 =>
                       hbd (gA S3 t39 12 x4) fun t41 =>
                       hbd (gR S3 x0 9 47) fun t43 =>
                       hbd (gA S3 t43 12 x4) fun t45 =>
                       J10 (t41 - t45))
                    else
                      (hbd (gR S3 x0 9 1) fun t31 =>
                       hbd (gA S3 t31 12 8) fun t33 =>
                       hbd (gR S3 x0 9 45) fun t35 =>
                       hbd (gA S3 t35 12 8) fun t37 =>
                       J10 (t33 - t37)))
                 ) fun J8 =>
               hj (γ := Unit → Option (Int32 × hS)) (fun (_ : Unit) =>
                 J8 0
                 ) fun J48 =>
               if t6 = (-1) then
                 (J48 ())
               else
                 (hbd (gR S3 x0 9 3) fun t50 =>
                  hbd (gA S3 t50 12 x4) fun t52 =>
                  hbd (gR S3 x0 9 1) fun t54 =>
                  hbd (gA S3 t54 12 5) fun t56 =>
                  if t52 = t56 then
                    (J8 1)
                  else
                    (J48 ()))
             )
         ))
def f_X9_evenings (a0 : Nat) (a1 : Int32) (a2 : Int32) (a3 : Int32) (a4 : Int32) (a5 : Int32) (S : hS) : Option (Int32 × hS) :=
  hck (S.K a0 = 10) <|
  hb2 (f_X9_isAsked a0 a1 a3 30 S) fun t61 S60 =>
  if t61 = 0 then
    (some ((-1), S60))
  else
    (if a3 = 0 then
       (some ((-1), S60))
     else
       (hb2 (f_X9_in (Int32.toInt64 a2) 1 10 S60) fun t66 S65 =>
        if t66 = 0 then
          (some ((-1), S65))
        else
          (hck (S65.K a0 = 10) <|
           hb2 (f_X9_isGuest a0 a4 S65) fun t70 S69 =>
           if t70 = 0 then
             (some ((-1), S69))
           else
             (hb2 (f_X9_in (Int32.toInt64 a5) 0 2 S69) fun t74 S73 =>
              if t74 = 0 then
                (some ((-1), S73))
              else
                (hbd (gR S73 a0 9 1) fun t76 =>
                 hbd (gA S73 t76 12 13) fun t78 =>
                 hbd (gR S73 a0 9 4) fun t80 =>
                 hbd (gR S73 a0 9 58) fun t82 =>
                 hbd (f_X9_lay t80 t82 S73) fun S85 =>
                 hck (S85.K a0 = 10) <|
                 hbd (f_X9_keeps a0 S85) fun S87 =>
                 f_X9_evenings_L81 hfuel a0 a1 a2 a3 a4 a5 0 0 S87
                   (fun u88 S89 =>
                     hbd (gR S89 a0 9 1) fun t90 =>
                     hbd (sA S89 t90 13 t78) fun S92 =>
                     some (u88, S92)
                   ))))))
set_option maxRecDepth 100000 in
set_option maxHeartbeats 4000000 in
theorem w_X9_evenings_L144 {d : Nat} {S0 : hS} {args : List Value} {cs : Nat → Nat} {r : Int32 × hS} (hd : 8 ≤ d) : ∀ (n : Nat) (x0 : Nat) (x1 : Int32) (x3 : Int32) (x9 : Int32) (S : hS) (k0 : (hS → Option (Int32 × hS))) (z2 : Int32) (z4 : Int32) (z5 : Int32) (z6 : Int32) (z7 : Int32) (z8 : Int32), f_X9_evenings_L144 n x0 x1 x3 x9 S k0 = some r → (∀ (T : hS), k0 T = some r → HW cX9_evenings RX9 (x_X9_evenings d S0 args r cs) 0 0 T 161 [(0, .ref x0), (1, .int x1), (2, .int z2), (3, .int x3), (4, .int z4), (5, .int z5), (6, .int z6), (7, .int z7), (8, .int z8)] []) → HW cX9_evenings RX9 (x_X9_evenings d S0 args r cs) 0 0 S 144 [(0, .ref x0), (1, .int x1), (2, .int z2), (3, .int x3), (4, .int z4), (5, .int z5), (6, .int z6), (7, .int z7), (8, .int z8), (9, .int x9)] [] := by
  intro n
  induction n with
  | zero =>
    intro x0 x1 x3 x9 S k0 z2 z4 z5 z6 z7 z8 hf
    cases hf
  | succ n ih =>
    intro x0 x1 x3 x9 S k0 z2 z4 z5 z6 z7 z8 hf hk0
    rw [f_X9_evenings_L144] at hf
    refine h_iload dX9_evenings_144 9 rfl ?_
    refine h_iload_n dX9_evenings_146 rfl 3 rfl ?_
    refine h_icmp_ge (tgt := 161) dX9_evenings_147 (by decide) (fun c1 => ?_) (fun c1 => ?_)
    · replace hf := hif_p c1 hf
      refine h_sub (lv2 := [(0, .ref x0), (1, .int x1), (2, .int z2), (3, .int x3), (4, .int z4), (5, .int z5), (6, .int z6), (7, .int z7), (8, .int z8)]) [0, 1, 2, 3, 4, 5, 6, 7, 8] rfl ?_
      exact hk0 S hf
    · replace hf := hif_n c1 hf
      refine h_aload_n dX9_evenings_150 rfl 0 rfl ?_
      refine h_iload_n dX9_evenings_151 rfl 1 rfl ?_
      obtain ⟨g4, hf⟩ := hck_s hf
      obtain ⟨S3, h2, hf⟩ := hbd_s hf
      refine h_Vv [.int x1] (rest := []) (m_X9_minute (d := 7) (cs := cs) (Nat.le_refl _) h2) v_X9_minute q_1386 rfl (Nat.le_trans (by decide) hd) g4 rfl rfl (Nat.le_of_ble_eq_true rfl) dX9_evenings_152 (Nat.le_refl _) (Nat.le_refl _) ?_
      refine h_iinc (q := 9) (v := x9 + 1) (lv2 := [(9, .int (x9 + 1)), (0, .ref x0), (1, .int x1), (2, .int z2), (3, .int x3), (4, .int z4), (5, .int z5), (6, .int z6), (7, .int z7), (8, .int z8)]) dX9_evenings_155 rfl rfl (Nat.le_of_ble_eq_true rfl) rfl ?_
      refine h_goto (tgt := 144) dX9_evenings_158 (by decide) ?_
      refine h_sub (lv2 := [(0, .ref x0), (1, .int x1), (2, .int z2), (3, .int x3), (4, .int z4), (5, .int z5), (6, .int z6), (7, .int z7), (8, .int z8), (9, .int (x9 + 1))]) [1, 2, 3, 4, 5, 6, 7, 8, 9, 0] rfl ?_
      exact ih x0 x1 x3 (x9 + 1) S3 k0 z2 z4 z5 z6 z7 z8 hf hk0
set_option maxRecDepth 100000 in
set_option maxHeartbeats 4000000 in
theorem w_X9_evenings_L90 {d : Nat} {S0 : hS} {args : List Value} {cs : Nat → Nat} {r : Int32 × hS} (hd : 8 ≤ d) : ∀ (n : Nat) (x0 : Nat) (x9 : Int32) (S : hS) (k0 : (hS → Option (Int32 × hS))) (z1 : Int32) (z2 : Int32) (z3 : Int32) (z4 : Int32) (z5 : Int32) (z6 : Int32) (z7 : Int32) (z8 : Int32), f_X9_evenings_L90 n x0 x9 S k0 = some r → (∀ (T : hS), k0 T = some r → HW cX9_evenings RX9 (x_X9_evenings d S0 args r cs) 0 0 T 141 [(0, .ref x0), (1, .int z1), (2, .int z2), (3, .int z3), (4, .int z4), (5, .int z5), (6, .int z6), (7, .int z7), (8, .int z8)] []) → HW cX9_evenings RX9 (x_X9_evenings d S0 args r cs) 0 0 S 90 [(0, .ref x0), (1, .int z1), (2, .int z2), (3, .int z3), (4, .int z4), (5, .int z5), (6, .int z6), (7, .int z7), (8, .int z8), (9, .int x9)] [] := by
  intro n
  induction n with
  | zero =>
    intro x0 x9 S k0 z1 z2 z3 z4 z5 z6 z7 z8 hf
    cases hf
  | succ n ih =>
    intro x0 x9 S k0 z1 z2 z3 z4 z5 z6 z7 z8 hf hk0
    rw [f_X9_evenings_L90] at hf
    refine h_iload dX9_evenings_90 9 rfl ?_
    refine h_aload_n dX9_evenings_92 rfl 0 rfl ?_
    obtain ⟨t1, h2, hf⟩ := hbd_s hf
    refine h_getR h2 rfl (Nat.le_of_ble_eq_true rfl) rfl q_961 rfl dX9_evenings_93 ?_
    refine h_iconst (v := 2) dX9_evenings_96 rfl ?_
    obtain ⟨t3, h4, hf⟩ := hbd_s hf
    refine h_iald h4 dX9_evenings_97 ?_
    refine h_icmp_ge (tgt := 141) dX9_evenings_98 (by decide) (fun c5 => ?_) (fun c5 => ?_)
    · replace hf := hif_p c5 hf
      refine h_sub (lv2 := [(0, .ref x0), (1, .int z1), (2, .int z2), (3, .int z3), (4, .int z4), (5, .int z5), (6, .int z6), (7, .int z7), (8, .int z8)]) [0, 1, 2, 3, 4, 5, 6, 7, 8] rfl ?_
      exact hk0 S hf
    · replace hf := hif_n c5 hf
      refine h_aload_n dX9_evenings_101 rfl 0 rfl ?_
      obtain ⟨t6, h7, hf⟩ := hbd_s hf
      refine h_getR h7 rfl (Nat.le_of_ble_eq_true rfl) rfl q_964 rfl dX9_evenings_102 ?_
      refine h_iload dX9_evenings_105 9 rfl ?_
      refine h_aload_n dX9_evenings_107 rfl 0 rfl ?_
      obtain ⟨t8, h9, hf⟩ := hbd_s hf
      refine h_getR h9 rfl (Nat.le_of_ble_eq_true rfl) rfl q_963 rfl dX9_evenings_108 ?_
      refine h_iload dX9_evenings_111 9 rfl ?_
      obtain ⟨t10, h11, hf⟩ := hbd_s hf
      refine h_iald h11 dX9_evenings_113 ?_
      refine h_iconst (v := (-1)) dX9_evenings_114 rfl ?_
      refine hj_s (fun J12 => ∀ (v13 : Int32) (S14 : hS), J12 v13 S14 = some r → HW cX9_evenings RX9 (x_X9_evenings d S0 args r cs) 0 0 S14 134 [(0, .ref x0), (1, .int z1), (2, .int z2), (3, .int z3), (4, .int z4), (5, .int z5), (6, .int z6), (7, .int z7), (8, .int z8), (9, .int x9)] [.int v13, .int x9, .ref t6]) hf ?_ ?_
      · intro v13 S14 hf
        obtain ⟨S15, h16, hf⟩ := hbd_s hf
        refine h_iast h16 dX9_evenings_134 ?_
        refine h_iinc (q := 9) (v := x9 + 1) (lv2 := [(9, .int (x9 + 1)), (0, .ref x0), (1, .int z1), (2, .int z2), (3, .int z3), (4, .int z4), (5, .int z5), (6, .int z6), (7, .int z7), (8, .int z8)]) dX9_evenings_135 rfl rfl (Nat.le_of_ble_eq_true rfl) rfl ?_
        refine h_goto (tgt := 90) dX9_evenings_138 (by decide) ?_
        refine h_sub (lv2 := [(0, .ref x0), (1, .int z1), (2, .int z2), (3, .int z3), (4, .int z4), (5, .int z5), (6, .int z6), (7, .int z7), (8, .int z8), (9, .int (x9 + 1))]) [1, 2, 3, 4, 5, 6, 7, 8, 9, 0] rfl ?_
        exact ih x0 (x9 + 1) S15 k0 z1 z2 z3 z4 z5 z6 z7 z8 hf hk0
      · intro J12 hJ12 hf
        refine h_icmp_ne (tgt := 128) dX9_evenings_115 (by decide) (fun c17 => ?_) (fun c17 => ?_)
        · replace hf := hif_n c17 hf
          refine h_aload_n dX9_evenings_128 rfl 0 rfl ?_
          refine h_bipush (v := 100) dX9_evenings_129 rfl ?_
          obtain ⟨g21, hf⟩ := hck_s hf
          obtain ⟨t20, S19, h18, hf⟩ := hb2_s hf
          refine h_Vi [.int 100] (rest := [.int x9, .ref t6]) (m_X9_draws (d := 1) (cs := cs) (Nat.le_refl _) h18) v_X9_draws q_1543 rfl (Nat.le_trans (by decide) hd) g21 rfl rfl (Nat.le_of_ble_eq_true rfl) dX9_evenings_131 (Nat.le_refl _) (Nat.le_refl _) ?_
          exact hJ12 t20 S19 hf
        · replace hf := hif_p c17 hf
          refine h_aload_n dX9_evenings_118 rfl 0 rfl ?_
          obtain ⟨t22, h23, hf⟩ := hbd_s hf
          refine h_getR h23 rfl (Nat.le_of_ble_eq_true rfl) rfl q_964 rfl dX9_evenings_119 ?_
          refine h_iload dX9_evenings_122 9 rfl ?_
          obtain ⟨t24, h25, hf⟩ := hbd_s hf
          refine h_iald h25 dX9_evenings_124 ?_
          refine h_goto (tgt := 134) dX9_evenings_125 (by decide) ?_
          exact hJ12 t24 S hf
set_option maxRecDepth 100000 in
set_option maxHeartbeats 4000000 in
theorem w_X9_evenings_L81 {d : Nat} {S0 : hS} {args : List Value} {cs : Nat → Nat} {r : Int32 × hS} (hd : 8 ≤ d) : ∀ (n : Nat) (x0 : Nat) (x1 : Int32) (x2 : Int32) (x3 : Int32) (x4 : Int32) (x5 : Int32) (x7 : Int32) (x8 : Int32) (S : hS) (k0 : (Int32 → hS → Option (Int32 × hS))) (z6 : Int32), f_X9_evenings_L81 n x0 x1 x2 x3 x4 x5 x7 x8 S k0 = some r → (∀ (y7 : Int32) (T : hS), k0 y7 T = some r → HW cX9_evenings RX9 (x_X9_evenings d S0 args r cs) 0 0 T 296 [(0, .ref x0), (6, .int z6), (7, .int y7)] []) → HW cX9_evenings RX9 (x_X9_evenings d S0 args r cs) 0 0 S 81 [(0, .ref x0), (1, .int x1), (2, .int x2), (3, .int x3), (4, .int x4), (5, .int x5), (6, .int z6), (7, .int x7), (8, .int x8)] [] := by
  intro n
  induction n with
  | zero =>
    intro x0 x1 x2 x3 x4 x5 x7 x8 S k0 z6 hf
    cases hf
  | succ n ih =>
    intro x0 x1 x2 x3 x4 x5 x7 x8 S k0 z6 hf hk0
    rw [f_X9_evenings_L81] at hf
    refine h_iload dX9_evenings_81 8 rfl ?_
    refine h_iload_n dX9_evenings_83 rfl 2 rfl ?_
    refine h_icmp_ge (tgt := 296) dX9_evenings_84 (by decide) (fun c1 => ?_) (fun c1 => ?_)
    · replace hf := hif_p c1 hf
      refine h_sub (lv2 := [(0, .ref x0), (6, .int z6), (7, .int x7)]) [0, 6, 7] rfl ?_
      exact hk0 x7 S hf
    · replace hf := hif_n c1 hf
      refine h_iconst (v := 0) dX9_evenings_87 rfl ?_
      refine h_istore (lv2 := [(9, .int 0), (0, .ref x0), (1, .int x1), (2, .int x2), (3, .int x3), (4, .int x4), (5, .int x5), (6, .int z6), (7, .int x7), (8, .int x8)]) dX9_evenings_88 (Nat.le_of_ble_eq_true rfl) rfl ?_
      refine h_sub (lv2 := [(0, .ref x0), (1, .int x1), (2, .int x2), (3, .int x3), (4, .int x4), (5, .int x5), (6, .int z6), (7, .int x7), (8, .int x8), (9, .int 0)]) [1, 2, 3, 4, 5, 6, 7, 8, 9, 0] rfl ?_
      refine w_X9_evenings_L90 hd hfuel x0 0 S _ x1 x2 x3 x4 x5 z6 x7 x8 hf ?_
      · intro S2 hf
        refine h_iconst (v := 0) dX9_evenings_141 rfl ?_
        refine h_istore (lv2 := [(9, .int 0), (0, .ref x0), (1, .int x1), (2, .int x2), (3, .int x3), (4, .int x4), (5, .int x5), (6, .int z6), (7, .int x7), (8, .int x8)]) dX9_evenings_142 (Nat.le_of_ble_eq_true rfl) rfl ?_
        refine h_sub (lv2 := [(0, .ref x0), (1, .int x1), (2, .int x2), (3, .int x3), (4, .int x4), (5, .int x5), (6, .int z6), (7, .int x7), (8, .int x8), (9, .int 0)]) [1, 2, 3, 4, 5, 6, 7, 8, 9, 0] rfl ?_
        refine w_X9_evenings_L144 hd hfuel x0 x1 x3 0 S2 _ x2 x4 x5 z6 x7 x8 hf ?_
        · intro S3 hf
          refine h_aload_n dX9_evenings_161 rfl 0 rfl ?_
          obtain ⟨t4, h5, hf⟩ := hbd_s hf
          refine h_getR h5 rfl (Nat.le_of_ble_eq_true rfl) rfl q_963 rfl dX9_evenings_162 ?_
          refine h_iload dX9_evenings_165 4 rfl ?_
          obtain ⟨t6, h7, hf⟩ := hbd_s hf
          refine h_iald h7 dX9_evenings_167 ?_
          refine h_iconst (v := (-1)) dX9_evenings_168 rfl ?_
          refine hj_s (fun J8 => ∀ (v9 : Int32), J8 v9 = some r → HW cX9_evenings RX9 (x_X9_evenings d S0 args r cs) 0 0 S3 193 [(0, .ref x0), (1, .int x1), (2, .int x2), (3, .int x3), (4, .int x4), (5, .int x5), (6, .int z6), (7, .int x7), (8, .int x8)] [.int v9]) hf ?_ ?_
          · intro v9 hf
            refine h_istore (lv2 := [(9, .int v9), (0, .ref x0), (1, .int x1), (2, .int x2), (3, .int x3), (4, .int x4), (5, .int x5), (6, .int z6), (7, .int x7), (8, .int x8)]) dX9_evenings_193 (Nat.le_of_ble_eq_true rfl) rfl ?_
            refine h_iload dX9_evenings_195 8 rfl ?_
            refine h_iload dX9_evenings_197 6 rfl ?_
            refine hj_s (fun J10 => ∀ (v11 : Int32), J10 v11 = some r → HW cX9_evenings RX9 (x_X9_evenings d S0 args r cs) 0 0 S3 254 [(0, .ref x0), (1, .int x1), (2, .int x2), (3, .int x3), (4, .int x4), (5, .int x5), (6, .int z6), (8, .int x8)] [.int v11, .int x7]) hf ?_ ?_
            · intro v11 hf
              refine h_iadd dX9_evenings_254 ?_
              refine h_istore (lv2 := [(7, .int (x7 + v11)), (0, .ref x0), (1, .int x1), (2, .int x2), (3, .int x3), (4, .int x4), (5, .int x5), (6, .int z6), (8, .int x8)]) dX9_evenings_255 (Nat.le_of_ble_eq_true rfl) rfl ?_
              refine h_aload_n dX9_evenings_257 rfl 1 rfl ?_
              obtain ⟨t12, h13, hf⟩ := hbd_s hf
              refine h_getR h13 rfl (Nat.le_of_ble_eq_true rfl) rfl q_961 rfl dX9_evenings_258 ?_
              refine h_bipush (v := 13) dX9_evenings_261 rfl ?_
              obtain ⟨t14, h15, hf⟩ := hbd_s hf
              refine h_iald h15 dX9_evenings_263 ?_
              refine h_istore (lv2 := [(10, .int t14), (7, .int (x7 + v11)), (0, .ref x0), (1, .int x1), (2, .int x2), (3, .int x3), (4, .int x4), (5, .int x5), (6, .int z6), (8, .int x8)]) dX9_evenings_264 (Nat.le_of_ble_eq_true rfl) rfl ?_
              refine h_aload_n dX9_evenings_266 rfl 2 rfl ?_
              obtain ⟨g28, hf⟩ := hck_s hf
              obtain ⟨S17, h16, hf⟩ := hbd_s hf
              refine h_Vv [] (rest := []) (m_X9_laysBack (d := 2) (cs := cs) (Nat.le_refl _) h16) v_X9_laysBack q_1452 rfl (Nat.le_trans (by decide) hd) g28 rfl rfl (Nat.le_of_ble_eq_true rfl) dX9_evenings_267 (Nat.le_refl _) (Nat.le_refl _) ?_
              refine h_aload_n dX9_evenings_270 rfl 2 rfl ?_
              obtain ⟨t18, h19, hf⟩ := hbd_s hf
              refine h_getR h19 rfl (Nat.le_of_ble_eq_true rfl) rfl q_961 rfl dX9_evenings_271 ?_
              refine h_bipush (v := 13) dX9_evenings_274 rfl ?_
              refine h_iload dX9_evenings_276 0 rfl ?_
              obtain ⟨S20, h21, hf⟩ := hbd_s hf
              refine h_iast h21 dX9_evenings_278 ?_
              refine h_aload_n dX9_evenings_279 rfl 2 rfl ?_
              obtain ⟨t22, h23, hf⟩ := hbd_s hf
              refine h_getR h23 rfl (Nat.le_of_ble_eq_true rfl) rfl q_1018 rfl dX9_evenings_280 ?_
              refine h_aload_n dX9_evenings_283 rfl 2 rfl ?_
              obtain ⟨t24, h25, hf⟩ := hbd_s hf
              refine h_getR h25 rfl (Nat.le_of_ble_eq_true rfl) rfl q_964 rfl dX9_evenings_284 ?_
              obtain ⟨S27, h26, hf⟩ := hbd_s hf
              refine h_Sv [.ref t22, .ref t24] (rest := []) (m_X9_lay (d := 1) (cs := cs) (Nat.le_refl _) h26) v_X9_lay q_1240 rfl (Nat.le_trans (by decide) hd) rfl (Nat.le_of_ble_eq_true rfl) dX9_evenings_287 (Nat.le_refl _) (Nat.le_refl _) ?_
              refine h_iinc (q := 9) (v := x8 + 1) (lv2 := [(8, .int (x8 + 1)), (10, .int t14), (7, .int (x7 + v11)), (0, .ref x0), (1, .int x1), (2, .int x2), (3, .int x3), (4, .int x4), (5, .int x5), (6, .int z6)]) dX9_evenings_290 rfl rfl (Nat.le_of_ble_eq_true rfl) rfl ?_
              refine h_goto (tgt := 81) dX9_evenings_293 (by decide) ?_
              refine h_sub (lv2 := [(0, .ref x0), (1, .int x1), (2, .int x2), (3, .int x3), (4, .int x4), (5, .int x5), (6, .int z6), (7, .int (x7 + v11)), (8, .int (x8 + 1))]) [3, 4, 5, 6, 7, 8, 9, 2, 0] rfl ?_
              exact ih x0 x1 x2 x3 x4 x5 (x7 + v11) (x8 + 1) S27 k0 z6 hf hk0
            · intro J10 hJ10 hf
              refine h_if_ne (tgt := 215) dX9_evenings_199 (by decide) (fun c29 => ?_) (fun c29 => ?_)
              · replace hf := hif_n c29 hf
                refine h_iload dX9_evenings_215 6 rfl ?_
                refine h_iconst (v := 1) dX9_evenings_217 rfl ?_
                refine h_icmp_ne (tgt := 239) dX9_evenings_218 (by decide) (fun c30 => ?_) (fun c30 => ?_)
                · replace hf := hif_n c30 hf
                  refine h_aload_n dX9_evenings_239 rfl 1 rfl ?_
                  obtain ⟨t31, h32, hf⟩ := hbd_s hf
                  refine h_getR h32 rfl (Nat.le_of_ble_eq_true rfl) rfl q_961 rfl dX9_evenings_240 ?_
                  refine h_bipush (v := 8) dX9_evenings_243 rfl ?_
                  obtain ⟨t33, h34, hf⟩ := hbd_s hf
                  refine h_iald h34 dX9_evenings_245 ?_
                  refine h_aload_n dX9_evenings_246 rfl 1 rfl ?_
                  obtain ⟨t35, h36, hf⟩ := hbd_s hf
                  refine h_getR h36 rfl (Nat.le_of_ble_eq_true rfl) rfl q_1005 rfl dX9_evenings_247 ?_
                  refine h_bipush (v := 8) dX9_evenings_250 rfl ?_
                  obtain ⟨t37, h38, hf⟩ := hbd_s hf
                  refine h_iald h38 dX9_evenings_252 ?_
                  refine h_isub dX9_evenings_253 ?_
                  refine h_sub (lv2 := [(0, .ref x0), (1, .int x1), (2, .int x2), (3, .int x3), (4, .int x4), (5, .int x5), (6, .int z6), (8, .int x8)]) [1, 2, 3, 4, 5, 6, 7, 9] rfl ?_
                  exact hJ10 (t33 - t37) hf
                · replace hf := hif_p c30 hf
                  refine h_aload_n dX9_evenings_221 rfl 1 rfl ?_
                  obtain ⟨t39, h40, hf⟩ := hbd_s hf
                  refine h_getR h40 rfl (Nat.le_of_ble_eq_true rfl) rfl q_966 rfl dX9_evenings_222 ?_
                  refine h_iload dX9_evenings_225 5 rfl ?_
                  obtain ⟨t41, h42, hf⟩ := hbd_s hf
                  refine h_iald h42 dX9_evenings_227 ?_
                  refine h_aload_n dX9_evenings_228 rfl 1 rfl ?_
                  obtain ⟨t43, h44, hf⟩ := hbd_s hf
                  refine h_getR h44 rfl (Nat.le_of_ble_eq_true rfl) rfl q_1007 rfl dX9_evenings_229 ?_
                  refine h_iload dX9_evenings_232 5 rfl ?_
                  obtain ⟨t45, h46, hf⟩ := hbd_s hf
                  refine h_iald h46 dX9_evenings_234 ?_
                  refine h_isub dX9_evenings_235 ?_
                  refine h_goto (tgt := 254) dX9_evenings_236 (by decide) ?_
                  refine h_sub (lv2 := [(0, .ref x0), (1, .int x1), (2, .int x2), (3, .int x3), (4, .int x4), (5, .int x5), (6, .int z6), (8, .int x8)]) [1, 2, 3, 4, 5, 6, 7, 9] rfl ?_
                  exact hJ10 (t41 - t45) hf
              · replace hf := hif_p c29 hf
                refine h_iload dX9_evenings_202 0 rfl ?_
                refine h_if_eq (tgt := 211) dX9_evenings_204 (by decide) (fun c47 => ?_) (fun c47 => ?_)
                · replace hf := hif_p c47 hf
                  refine h_iconst (v := 0) dX9_evenings_211 rfl ?_
                  refine h_goto (tgt := 254) dX9_evenings_212 (by decide) ?_
                  refine h_sub (lv2 := [(0, .ref x0), (1, .int x1), (2, .int x2), (3, .int x3), (4, .int x4), (5, .int x5), (6, .int z6), (8, .int x8)]) [1, 2, 3, 4, 5, 6, 7, 9] rfl ?_
                  exact hJ10 0 hf
                · replace hf := hif_n c47 hf
                  refine h_iconst (v := 1) dX9_evenings_207 rfl ?_
                  refine h_goto (tgt := 254) dX9_evenings_208 (by decide) ?_
                  refine h_sub (lv2 := [(0, .ref x0), (1, .int x1), (2, .int x2), (3, .int x3), (4, .int x4), (5, .int x5), (6, .int z6), (8, .int x8)]) [1, 2, 3, 4, 5, 6, 7, 9] rfl ?_
                  exact hJ10 1 hf
          · intro J8 hJ8 hf
            refine hj_s (fun J48 => ∀ (w : Unit), J48 w = some r → HW cX9_evenings RX9 (x_X9_evenings d S0 args r cs) 0 0 S3 192 [(0, .ref x0), (1, .int x1), (2, .int x2), (3, .int x3), (4, .int x4), (5, .int x5), (6, .int z6), (7, .int x7), (8, .int x8)] []) hf ?_ ?_
            · intro w hf
              refine h_iconst (v := 0) dX9_evenings_192 rfl ?_
              exact hJ8 0 hf
            · intro J48 hJ48 hf
              refine h_icmp_eq (tgt := 192) dX9_evenings_169 (by decide) (fun c49 => ?_) (fun c49 => ?_)
              · replace hf := hif_p c49 hf
                exact hJ48 () hf
              · replace hf := hif_n c49 hf
                refine h_aload_n dX9_evenings_172 rfl 0 rfl ?_
                obtain ⟨t50, h51, hf⟩ := hbd_s hf
                refine h_getR h51 rfl (Nat.le_of_ble_eq_true rfl) rfl q_963 rfl dX9_evenings_173 ?_
                refine h_iload dX9_evenings_176 4 rfl ?_
                obtain ⟨t52, h53, hf⟩ := hbd_s hf
                refine h_iald h53 dX9_evenings_178 ?_
                refine h_aload_n dX9_evenings_179 rfl 0 rfl ?_
                obtain ⟨t54, h55, hf⟩ := hbd_s hf
                refine h_getR h55 rfl (Nat.le_of_ble_eq_true rfl) rfl q_961 rfl dX9_evenings_180 ?_
                refine h_iconst (v := 5) dX9_evenings_183 rfl ?_
                obtain ⟨t56, h57, hf⟩ := hbd_s hf
                refine h_iald h57 dX9_evenings_184 ?_
                refine h_icmp_ne (tgt := 192) dX9_evenings_185 (by decide) (fun c58 => ?_) (fun c58 => ?_)
                · replace hf := hif_n c58 hf
                  exact hJ48 () hf
                · replace hf := hif_p c58 hf
                  refine h_iconst (v := 1) dX9_evenings_188 rfl ?_
                  refine h_goto (tgt := 193) dX9_evenings_189 (by decide) ?_
                  exact hJ8 1 hf
set_option maxRecDepth 100000 in
set_option maxHeartbeats 4000000 in
theorem m_X9_evenings {d : Nat} {cs : Nat → Nat} {a0 : Nat} {a1 : Int32} {a2 : Int32} {a3 : Int32} {a4 : Int32} {a5 : Int32} {S : hS} {r : Int32 × hS} (hd : 8 ≤ d) (hf : f_X9_evenings a0 a1 a2 a3 a4 a5 S = some r) : HM yX9_evenings cX9_evenings 11 (some .int) d 0 0 cs [.ref a0, .int a1, .int a2, .int a3, .int a4, .int a5] S (some (.int r.1)) r.2 := by
  unfold f_X9_evenings at hf
  refine HM.ofHW false (by decide) (fun h => by cases h) (Nat.le_of_ble_eq_true rfl) ?_
  show HW cX9_evenings RX9 (x_X9_evenings d S [.ref a0, .int a1, .int a2, .int a3, .int a4, .int a5] r cs) 0 0 S 0 [(0, .ref a0), (1, .int a1), (2, .int a2), (3, .int a3), (4, .int a4), (5, .int a5)] []
  refine h_aload_n dX9_evenings_0 rfl 0 rfl ?_
  refine h_iload_n dX9_evenings_1 rfl 1 rfl ?_
  refine h_iload_n dX9_evenings_2 rfl 3 rfl ?_
  refine h_bipush (v := 30) dX9_evenings_3 rfl ?_
  obtain ⟨g96, hf⟩ := hck_s hf
  obtain ⟨t61, S60, h59, hf⟩ := hb2_s hf
  refine h_Vi [.int a1, .int a3, .int 30] (rest := []) (m_X9_isAsked (d := 3) (cs := cs) (Nat.le_refl _) h59) v_X9_isAsked q_1440 rfl (Nat.le_trans (by decide) hd) g96 rfl rfl (Nat.le_of_ble_eq_true rfl) dX9_evenings_5 (Nat.le_refl _) (Nat.le_refl _) ?_
  refine h_if_eq (tgt := 49) dX9_evenings_8 (by decide) (fun c62 => ?_) (fun c62 => ?_)
  · replace hf := hif_p c62 hf
    refine h_iconst (v := (-1)) dX9_evenings_49 rfl ?_
    obtain rfl := Option.some.inj hf
    exact h_iret rfl rfl rfl (Nat.le_refl _) (Nat.le_refl _) dX9_evenings_50
  · replace hf := hif_n c62 hf
    refine h_iload_n dX9_evenings_11 rfl 3 rfl ?_
    refine h_if_eq (tgt := 49) dX9_evenings_12 (by decide) (fun c63 => ?_) (fun c63 => ?_)
    · replace hf := hif_p c63 hf
      refine h_iconst (v := (-1)) dX9_evenings_49 rfl ?_
      obtain rfl := Option.some.inj hf
      exact h_iret rfl rfl rfl (Nat.le_refl _) (Nat.le_refl _) dX9_evenings_50
    · replace hf := hif_n c63 hf
      refine h_iload_n dX9_evenings_15 rfl 2 rfl ?_
      refine h_i2l dX9_evenings_16 ?_
      refine h_lconst (v := 1) dX9_evenings_17 rfl ?_
      refine h_ldc2 (v := 10) dX9_evenings_18 q_1542 ?_
      obtain ⟨t66, S65, h64, hf⟩ := hb2_s hf
      refine h_Si [.long (Int32.toInt64 a2), .long 1, .long 10] (rest := []) (m_X9_in (d := 1) (cs := cs) (Nat.le_refl _) h64) v_X9_in q_1225 rfl (Nat.le_trans (by decide) hd) rfl (Nat.le_of_ble_eq_true rfl) dX9_evenings_21 (Nat.le_refl _) (Nat.le_refl _) ?_
      refine h_if_eq (tgt := 49) dX9_evenings_24 (by decide) (fun c67 => ?_) (fun c67 => ?_)
      · replace hf := hif_p c67 hf
        refine h_iconst (v := (-1)) dX9_evenings_49 rfl ?_
        obtain rfl := Option.some.inj hf
        exact h_iret rfl rfl rfl (Nat.le_refl _) (Nat.le_refl _) dX9_evenings_50
      · replace hf := hif_n c67 hf
        refine h_aload_n dX9_evenings_27 rfl 0 rfl ?_
        refine h_iload dX9_evenings_28 4 rfl ?_
        obtain ⟨g95, hf⟩ := hck_s hf
        obtain ⟨t70, S69, h68, hf⟩ := hb2_s hf
        refine h_Vi [.int a4] (rest := []) (m_X9_isGuest (d := 2) (cs := cs) (Nat.le_refl _) h68) v_X9_isGuest q_1340 rfl (Nat.le_trans (by decide) hd) g95 rfl rfl (Nat.le_of_ble_eq_true rfl) dX9_evenings_30 (Nat.le_refl _) (Nat.le_refl _) ?_
        refine h_if_eq (tgt := 49) dX9_evenings_33 (by decide) (fun c71 => ?_) (fun c71 => ?_)
        · replace hf := hif_p c71 hf
          refine h_iconst (v := (-1)) dX9_evenings_49 rfl ?_
          obtain rfl := Option.some.inj hf
          exact h_iret rfl rfl rfl (Nat.le_refl _) (Nat.le_refl _) dX9_evenings_50
        · replace hf := hif_n c71 hf
          refine h_iload dX9_evenings_36 5 rfl ?_
          refine h_i2l dX9_evenings_38 ?_
          refine h_lconst (v := 0) dX9_evenings_39 rfl ?_
          refine h_ldc2 (v := 2) dX9_evenings_40 q_1475 ?_
          obtain ⟨t74, S73, h72, hf⟩ := hb2_s hf
          refine h_Si [.long (Int32.toInt64 a5), .long 0, .long 2] (rest := []) (m_X9_in (d := 1) (cs := cs) (Nat.le_refl _) h72) v_X9_in q_1225 rfl (Nat.le_trans (by decide) hd) rfl (Nat.le_of_ble_eq_true rfl) dX9_evenings_43 (Nat.le_refl _) (Nat.le_refl _) ?_
          refine h_if_ne (tgt := 51) dX9_evenings_46 (by decide) (fun c75 => ?_) (fun c75 => ?_)
          · replace hf := hif_n c75 hf
            refine h_aload_n dX9_evenings_51 rfl 0 rfl ?_
            obtain ⟨t76, h77, hf⟩ := hbd_s hf
            refine h_getR h77 rfl (Nat.le_of_ble_eq_true rfl) rfl q_961 rfl dX9_evenings_52 ?_
            refine h_bipush (v := 13) dX9_evenings_55 rfl ?_
            obtain ⟨t78, h79, hf⟩ := hbd_s hf
            refine h_iald h79 dX9_evenings_57 ?_
            refine h_istore (lv2 := [(6, .int t78), (0, .ref a0), (1, .int a1), (2, .int a2), (3, .int a3), (4, .int a4), (5, .int a5)]) dX9_evenings_58 (Nat.le_of_ble_eq_true rfl) rfl ?_
            refine h_iconst (v := 0) dX9_evenings_60 rfl ?_
            refine h_istore (lv2 := [(7, .int 0), (6, .int t78), (0, .ref a0), (1, .int a1), (2, .int a2), (3, .int a3), (4, .int a4), (5, .int a5)]) dX9_evenings_61 (Nat.le_of_ble_eq_true rfl) rfl ?_
            refine h_aload_n dX9_evenings_63 rfl 2 rfl ?_
            obtain ⟨t80, h81, hf⟩ := hbd_s hf
            refine h_getR h81 rfl (Nat.le_of_ble_eq_true rfl) rfl q_964 rfl dX9_evenings_64 ?_
            refine h_aload_n dX9_evenings_67 rfl 2 rfl ?_
            obtain ⟨t82, h83, hf⟩ := hbd_s hf
            refine h_getR h83 rfl (Nat.le_of_ble_eq_true rfl) rfl q_1018 rfl dX9_evenings_68 ?_
            obtain ⟨S85, h84, hf⟩ := hbd_s hf
            refine h_Sv [.ref t80, .ref t82] (rest := []) (m_X9_lay (d := 1) (cs := cs) (Nat.le_refl _) h84) v_X9_lay q_1240 rfl (Nat.le_trans (by decide) hd) rfl (Nat.le_of_ble_eq_true rfl) dX9_evenings_71 (Nat.le_refl _) (Nat.le_refl _) ?_
            refine h_aload_n dX9_evenings_74 rfl 2 rfl ?_
            obtain ⟨g94, hf⟩ := hck_s hf
            obtain ⟨S87, h86, hf⟩ := hbd_s hf
            refine h_Vv [] (rest := []) (m_X9_keeps (d := 2) (cs := cs) (Nat.le_refl _) h86) v_X9_keeps q_1448 rfl (Nat.le_trans (by decide) hd) g94 rfl rfl (Nat.le_of_ble_eq_true rfl) dX9_evenings_75 (Nat.le_refl _) (Nat.le_refl _) ?_
            refine h_iconst (v := 0) dX9_evenings_78 rfl ?_
            refine h_istore (lv2 := [(8, .int 0), (7, .int 0), (6, .int t78), (0, .ref a0), (1, .int a1), (2, .int a2), (3, .int a3), (4, .int a4), (5, .int a5)]) dX9_evenings_79 (Nat.le_of_ble_eq_true rfl) rfl ?_
            refine h_sub (lv2 := [(0, .ref a0), (1, .int a1), (2, .int a2), (3, .int a3), (4, .int a4), (5, .int a5), (6, .int t78), (7, .int 0), (8, .int 0)]) [3, 4, 5, 6, 7, 8, 2, 1, 0] rfl ?_
            refine w_X9_evenings_L81 hd hfuel a0 a1 a2 a3 a4 a5 0 0 S87 _ t78 hf ?_
            · intro u88 S89 hf
              refine h_aload_n dX9_evenings_296 rfl 0 rfl ?_
              obtain ⟨t90, h91, hf⟩ := hbd_s hf
              refine h_getR h91 rfl (Nat.le_of_ble_eq_true rfl) rfl q_961 rfl dX9_evenings_297 ?_
              refine h_bipush (v := 13) dX9_evenings_300 rfl ?_
              refine h_iload dX9_evenings_302 1 rfl ?_
              obtain ⟨S92, h93, hf⟩ := hbd_s hf
              refine h_iast h93 dX9_evenings_304 ?_
              refine h_iload dX9_evenings_305 2 rfl ?_
              obtain rfl := Option.some.inj hf
              exact h_iret rfl rfl rfl (Nat.le_refl _) (Nat.le_refl _) dX9_evenings_307
          · replace hf := hif_p c75 hf
            refine h_iconst (v := (-1)) dX9_evenings_49 rfl ?_
            obtain rfl := Option.some.inj hf
            exact h_iret rfl rfl rfl (Nat.le_refl _) (Nat.le_refl _) dX9_evenings_50
abbrev x_X9_log (d : Nat) (S0 : hS) (args : List Value) (r : Int32 × hS) (cs : Nat → Nat) : hX := (((some .int), 3, d, 0, 0, false), (S0, args, some (.int r.1), r.2), cs)
theorem v_X9_log : hVW yX9_log cX9_log 3 (some .int) RX9 2 := ⟨q_1552, q_1553, q_9, q_1554, by decide +kernel, by decide⟩
def f_X9_log (a0 : Nat) (a1 : Int32) (a2 : Int32) (S : hS) : Option (Int32 × hS) :=
  hbd (gR S a0 9 1) fun t1 =>
  hbd (gA S t1 12 12) fun t3 =>
  hb2 (f_X9_in (Int32.toInt64 a1) 1 (Int32.toInt64 t3) S) fun t7 S6 =>
  hj (γ := hS → Option (Int32 × hS)) (fun (S9 : hS) =>
    some ((-1), S9)
    ) fun J8 =>
  if t7 = 0 then
    (J8 S6)
  else
    (hb2 (f_X9_in (Int32.toInt64 a2) 0 1 S6) fun t13 S12 =>
     if t13 = 0 then
       (J8 S12)
     else
       (hbd (gR S12 a0 9 12) fun t15 =>
        hbd (gA S12 t15 12 (a1 - 1)) fun t17 =>
        hb2 (f_X9_part t17 a2 S12) fun t21 S20 =>
        some (t21, S20)))
set_option maxRecDepth 100000 in
set_option maxHeartbeats 4000000 in
theorem m_X9_log {d : Nat} {cs : Nat → Nat} {a0 : Nat} {a1 : Int32} {a2 : Int32} {S : hS} {r : Int32 × hS} (hd : 2 ≤ d) (hf : f_X9_log a0 a1 a2 S = some r) : HM yX9_log cX9_log 3 (some .int) d 0 0 cs [.ref a0, .int a1, .int a2] S (some (.int r.1)) r.2 := by
  unfold f_X9_log at hf
  refine HM.ofHW false (by decide) (fun h => by cases h) (Nat.le_of_ble_eq_true rfl) ?_
  show HW cX9_log RX9 (x_X9_log d S [.ref a0, .int a1, .int a2] r cs) 0 0 S 0 [(0, .ref a0), (1, .int a1), (2, .int a2)] []
  refine h_iload_n dX9_log_0 rfl 1 rfl ?_
  refine h_i2l dX9_log_1 ?_
  refine h_lconst (v := 1) dX9_log_2 rfl ?_
  refine h_aload_n dX9_log_3 rfl 0 rfl ?_
  obtain ⟨t1, h2, hf⟩ := hbd_s hf
  refine h_getR h2 rfl (Nat.le_of_ble_eq_true rfl) rfl q_961 rfl dX9_log_4 ?_
  refine h_bipush (v := 12) dX9_log_7 rfl ?_
  obtain ⟨t3, h4, hf⟩ := hbd_s hf
  refine h_iald h4 dX9_log_9 ?_
  refine h_i2l dX9_log_10 ?_
  obtain ⟨t7, S6, h5, hf⟩ := hb2_s hf
  refine h_Si [.long (Int32.toInt64 a1), .long 1, .long (Int32.toInt64 t3)] (rest := []) (m_X9_in (d := 1) (cs := cs) (Nat.le_refl _) h5) v_X9_in q_1225 rfl (Nat.le_trans (by decide) hd) rfl (Nat.le_of_ble_eq_true rfl) dX9_log_11 (Nat.le_refl _) (Nat.le_refl _) ?_
  refine hj_s (fun J8 => ∀ (S9 : hS), J8 S9 = some r → HW cX9_log RX9 (x_X9_log d S [.ref a0, .int a1, .int a2] r cs) 0 0 S9 27 [] []) hf ?_ ?_
  · intro S9 hf
    refine h_iconst (v := (-1)) dX9_log_27 rfl ?_
    refine h_goto (tgt := 43) dX9_log_28 (by decide) ?_
    obtain rfl := Option.some.inj hf
    exact h_iret rfl rfl rfl (Nat.le_refl _) (Nat.le_refl _) dX9_log_43
  · intro J8 hJ8 hf
    refine h_if_eq (tgt := 27) dX9_log_14 (by decide) (fun c10 => ?_) (fun c10 => ?_)
    · replace hf := hif_p c10 hf
      refine h_sub (lv2 := []) [] rfl ?_
      exact hJ8 S6 hf
    · replace hf := hif_n c10 hf
      refine h_iload_n dX9_log_17 rfl 2 rfl ?_
      refine h_i2l dX9_log_18 ?_
      refine h_lconst (v := 0) dX9_log_19 rfl ?_
      refine h_lconst (v := 1) dX9_log_20 rfl ?_
      obtain ⟨t13, S12, h11, hf⟩ := hb2_s hf
      refine h_Si [.long (Int32.toInt64 a2), .long 0, .long 1] (rest := []) (m_X9_in (d := 1) (cs := cs) (Nat.le_refl _) h11) v_X9_in q_1225 rfl (Nat.le_trans (by decide) hd) rfl (Nat.le_of_ble_eq_true rfl) dX9_log_21 (Nat.le_refl _) (Nat.le_refl _) ?_
      refine h_if_ne (tgt := 31) dX9_log_24 (by decide) (fun c14 => ?_) (fun c14 => ?_)
      · replace hf := hif_n c14 hf
        refine h_aload_n dX9_log_31 rfl 0 rfl ?_
        obtain ⟨t15, h16, hf⟩ := hbd_s hf
        refine h_getR h16 rfl (Nat.le_of_ble_eq_true rfl) rfl q_972 rfl dX9_log_32 ?_
        refine h_iload_n dX9_log_35 rfl 1 rfl ?_
        refine h_iconst (v := 1) dX9_log_36 rfl ?_
        refine h_isub dX9_log_37 ?_
        obtain ⟨t17, h18, hf⟩ := hbd_s hf
        refine h_iald h18 dX9_log_38 ?_
        refine h_iload_n dX9_log_39 rfl 2 rfl ?_
        obtain ⟨t21, S20, h19, hf⟩ := hb2_s hf
        refine h_Si [.int t17, .int a2] (rest := []) (m_X9_part (d := 1) (cs := cs) (Nat.le_refl _) h19) v_X9_part q_1456 rfl (Nat.le_trans (by decide) hd) rfl (Nat.le_of_ble_eq_true rfl) dX9_log_40 (Nat.le_refl _) (Nat.le_refl _) ?_
        obtain rfl := Option.some.inj hf
        exact h_iret rfl rfl rfl (Nat.le_refl _) (Nat.le_refl _) dX9_log_43
      · replace hf := hif_p c14 hf
        refine h_sub (lv2 := []) [] rfl ?_
        exact hJ8 S12 hf
abbrev x_X9_hushed (d : Nat) (S0 : hS) (args : List Value) (r : Int32 × hS) (cs : Nat → Nat) : hX := (((some .int), 5, d, 0, 0, false), (S0, args, some (.int r.1), r.2), cs)
theorem v_X9_hushed : hVW yX9_hushed cX9_hushed 5 (some .int) RX9 2 := ⟨q_1556, q_1557, q_9, q_1558, by decide +kernel, by decide⟩
def f_X9_hushed_L16 : Nat → Nat → Int32 → Int32 → Int32 → Int32 → hS → (Int32 → Option (Int32 × hS)) → Option (Int32 × hS)
  | 0, _, _, _, _, _, _, _ => none
  | n + 1, x0, x1, x2, x3, x4, S, k0 =>
    hbd (gR S x0 9 1) fun t1 =>
    hbd (gA S t1 12 12) fun t3 =>
    if t3 ≤ x4 then
      (k0 x3)
    else
      (hbd (gR S x0 9 12) fun t6 =>
       hbd (gA S t6 12 x4) fun t8 =>
       hj (γ := Int32 → Option (Int32 × hS)) (fun (v11 : Int32) =>
         f_X9_hushed_L16 n x0 x1 x2 (x3 + v11) (x4 + 1) S k0
         ) fun J10 =>
       if t8 = ((10 * x2) + x1) then
         (J10 1)
       else
         (J10 0))
def f_X9_hushed (a0 : Nat) (a1 : Int32) (a2 : Int32) (S : hS) : Option (Int32 × hS) :=
  hck (S.K a0 = 10) <|
  hb2 (f_X9_isSeat a0 a1 a2 S) fun t15 S14 =>
  if t15 = 0 then
    (some ((-1), S14))
  else
    (f_X9_hushed_L16 hfuel a0 a1 a2 0 0 S14
       (fun u17 =>
         some (u17, S14)
       ))
set_option maxRecDepth 100000 in
set_option maxHeartbeats 4000000 in
theorem w_X9_hushed_L16 {d : Nat} {S0 : hS} {args : List Value} {cs : Nat → Nat} {r : Int32 × hS} (hd : 3 ≤ d) : ∀ (n : Nat) (x0 : Nat) (x1 : Int32) (x2 : Int32) (x3 : Int32) (x4 : Int32) (S : hS) (k0 : (Int32 → Option (Int32 × hS))) , f_X9_hushed_L16 n x0 x1 x2 x3 x4 S k0 = some r → (∀ (y3 : Int32), k0 y3 = some r → HW cX9_hushed RX9 (x_X9_hushed d S0 args r cs) 0 0 S 58 [(3, .int y3)] []) → HW cX9_hushed RX9 (x_X9_hushed d S0 args r cs) 0 0 S 16 [(0, .ref x0), (1, .int x1), (2, .int x2), (3, .int x3), (4, .int x4)] [] := by
  intro n
  induction n with
  | zero =>
    intro x0 x1 x2 x3 x4 S k0 hf
    cases hf
  | succ n ih =>
    intro x0 x1 x2 x3 x4 S k0 hf hk0
    rw [f_X9_hushed_L16] at hf
    refine h_iload dX9_hushed_16 4 rfl ?_
    refine h_aload_n dX9_hushed_18 rfl 0 rfl ?_
    obtain ⟨t1, h2, hf⟩ := hbd_s hf
    refine h_getR h2 rfl (Nat.le_of_ble_eq_true rfl) rfl q_961 rfl dX9_hushed_19 ?_
    refine h_bipush (v := 12) dX9_hushed_22 rfl ?_
    obtain ⟨t3, h4, hf⟩ := hbd_s hf
    refine h_iald h4 dX9_hushed_24 ?_
    refine h_icmp_ge (tgt := 58) dX9_hushed_25 (by decide) (fun c5 => ?_) (fun c5 => ?_)
    · replace hf := hif_p c5 hf
      refine h_sub (lv2 := [(3, .int x3)]) [3] rfl ?_
      exact hk0 x3  hf
    · replace hf := hif_n c5 hf
      refine h_iload_n dX9_hushed_28 rfl 3 rfl ?_
      refine h_aload_n dX9_hushed_29 rfl 0 rfl ?_
      obtain ⟨t6, h7, hf⟩ := hbd_s hf
      refine h_getR h7 rfl (Nat.le_of_ble_eq_true rfl) rfl q_972 rfl dX9_hushed_30 ?_
      refine h_iload dX9_hushed_33 4 rfl ?_
      obtain ⟨t8, h9, hf⟩ := hbd_s hf
      refine h_iald h9 dX9_hushed_35 ?_
      refine h_bipush (v := 10) dX9_hushed_36 rfl ?_
      refine h_iload_n dX9_hushed_38 rfl 2 rfl ?_
      refine h_imul dX9_hushed_39 ?_
      refine h_iload_n dX9_hushed_40 rfl 1 rfl ?_
      refine h_iadd dX9_hushed_41 ?_
      refine hj_s (fun J10 => ∀ (v11 : Int32), J10 v11 = some r → HW cX9_hushed RX9 (x_X9_hushed d S0 args r cs) 0 0 S 50 [(0, .ref x0), (1, .int x1), (2, .int x2), (4, .int x4)] [.int v11, .int x3]) hf ?_ ?_
      · intro v11 hf
        refine h_iadd dX9_hushed_50 ?_
        refine h_istore_n (lv2 := [(3, .int (x3 + v11)), (0, .ref x0), (1, .int x1), (2, .int x2), (4, .int x4)]) dX9_hushed_51 rfl (Nat.le_of_ble_eq_true rfl) rfl ?_
        refine h_iinc (q := 4) (v := x4 + 1) (lv2 := [(4, .int (x4 + 1)), (3, .int (x3 + v11)), (0, .ref x0), (1, .int x1), (2, .int x2)]) dX9_hushed_52 rfl rfl (Nat.le_of_ble_eq_true rfl) rfl ?_
        refine h_goto (tgt := 16) dX9_hushed_55 (by decide) ?_
        refine h_sub (lv2 := [(0, .ref x0), (1, .int x1), (2, .int x2), (3, .int (x3 + v11)), (4, .int (x4 + 1))]) [2, 3, 4, 1, 0] rfl ?_
        exact ih x0 x1 x2 (x3 + v11) (x4 + 1) S k0  hf hk0
      · intro J10 hJ10 hf
        refine h_icmp_ne (tgt := 49) dX9_hushed_42 (by decide) (fun c12 => ?_) (fun c12 => ?_)
        · replace hf := hif_n c12 hf
          refine h_iconst (v := 0) dX9_hushed_49 rfl ?_
          refine h_sub (lv2 := [(0, .ref x0), (1, .int x1), (2, .int x2), (4, .int x4)]) [0, 1, 2, 4] rfl ?_
          exact hJ10 0 hf
        · replace hf := hif_p c12 hf
          refine h_iconst (v := 1) dX9_hushed_45 rfl ?_
          refine h_goto (tgt := 50) dX9_hushed_46 (by decide) ?_
          refine h_sub (lv2 := [(0, .ref x0), (1, .int x1), (2, .int x2), (4, .int x4)]) [0, 1, 2, 4] rfl ?_
          exact hJ10 1 hf
set_option maxRecDepth 100000 in
set_option maxHeartbeats 4000000 in
theorem m_X9_hushed {d : Nat} {cs : Nat → Nat} {a0 : Nat} {a1 : Int32} {a2 : Int32} {S : hS} {r : Int32 × hS} (hd : 3 ≤ d) (hf : f_X9_hushed a0 a1 a2 S = some r) : HM yX9_hushed cX9_hushed 5 (some .int) d 0 0 cs [.ref a0, .int a1, .int a2] S (some (.int r.1)) r.2 := by
  unfold f_X9_hushed at hf
  refine HM.ofHW false (by decide) (fun h => by cases h) (Nat.le_of_ble_eq_true rfl) ?_
  show HW cX9_hushed RX9 (x_X9_hushed d S [.ref a0, .int a1, .int a2] r cs) 0 0 S 0 [(0, .ref a0), (1, .int a1), (2, .int a2)] []
  refine h_aload_n dX9_hushed_0 rfl 0 rfl ?_
  refine h_iload_n dX9_hushed_1 rfl 1 rfl ?_
  refine h_iload_n dX9_hushed_2 rfl 2 rfl ?_
  obtain ⟨g18, hf⟩ := hck_s hf
  obtain ⟨t15, S14, h13, hf⟩ := hb2_s hf
  refine h_Vi [.int a1, .int a2] (rest := []) (m_X9_isSeat (d := 2) (cs := cs) (Nat.le_refl _) h13) v_X9_isSeat q_1324 rfl (Nat.le_trans (by decide) hd) g18 rfl rfl (Nat.le_of_ble_eq_true rfl) dX9_hushed_3 (Nat.le_refl _) (Nat.le_refl _) ?_
  refine h_if_ne (tgt := 11) dX9_hushed_6 (by decide) (fun c16 => ?_) (fun c16 => ?_)
  · replace hf := hif_n c16 hf
    refine h_iconst (v := 0) dX9_hushed_11 rfl ?_
    refine h_istore_n (lv2 := [(3, .int 0), (0, .ref a0), (1, .int a1), (2, .int a2)]) dX9_hushed_12 rfl (Nat.le_of_ble_eq_true rfl) rfl ?_
    refine h_iconst (v := 0) dX9_hushed_13 rfl ?_
    refine h_istore (lv2 := [(4, .int 0), (3, .int 0), (0, .ref a0), (1, .int a1), (2, .int a2)]) dX9_hushed_14 (Nat.le_of_ble_eq_true rfl) rfl ?_
    refine h_sub (lv2 := [(0, .ref a0), (1, .int a1), (2, .int a2), (3, .int 0), (4, .int 0)]) [2, 3, 4, 1, 0] rfl ?_
    refine w_X9_hushed_L16 hd hfuel a0 a1 a2 0 0 S14 _  hf ?_
    · intro u17 hf
      refine h_iload_n dX9_hushed_58 rfl 0 rfl ?_
      obtain rfl := Option.some.inj hf
      exact h_iret rfl rfl rfl (Nat.le_refl _) (Nat.le_refl _) dX9_hushed_59
  · replace hf := hif_p c16 hf
    refine h_iconst (v := (-1)) dX9_hushed_9 rfl ?_
    obtain rfl := Option.some.inj hf
    exact h_iret rfl rfl rfl (Nat.le_refl _) (Nat.le_refl _) dX9_hushed_10
