abbrev x_X9_baron (d : Nat) (S0 : hS) (args : List Value) (r : Int32 × hS) (cs : Nat → Nat) : hX := (((some .int), 8, d, 0, 0, false), (S0, args, some (.int r.1), r.2), cs)
theorem v_X9_baron : hVW yX9_baron cX9_baron 8 (some .int) RX9 3 := ⟨q_1496, q_1497, q_9, q_1498, by decide +kernel, by decide⟩
def f_X9_baron_L33 : Nat → Nat → Int32 → Int32 → Int32 → Int32 → Int32 → hS → (Int32 → Int32 → hS → Option (Int32 × hS)) → Option (Int32 × hS)
  | 0, _, _, _, _, _, _, _, _ => none
  | n + 1, x0, x1, x2, x4, x5, x6, S, k0 =>
    hbd (gR S x0 9 1) fun t1 =>
    hbd (gA S t1 12 2) fun t3 =>
    if t3 ≤ x6 then
      (k0 x4 x5 S)
    else
      (hck (S.K x0 = 10) <|
       hb2 (f_X9_isHere x0 x6 S) fun t8 S7 =>
       if t8 = 0 then
         (f_X9_baron_L33 n x0 x1 x2 x4 x5 (x6 + 1) S7 k0)
       else
         (hck (S7.K x0 = 10) <|
          hb2 (f_X9_farWithout x0 x1 x2 x6 S7) fun t12 S11 =>
          hj (γ := Unit → Option (Int32 × hS)) (fun (_ : Unit) =>
            f_X9_baron_L33 n x0 x1 x2 x6 t12 (x6 + 1) S11 k0
            ) fun J13 =>
          if x4 = (-2) then
            (J13 ())
          else
            (if t12 ≤ x5 then
               (f_X9_baron_L33 n x0 x1 x2 x4 x5 (x6 + 1) S11 k0)
             else
               (J13 ()))))
def f_X9_baron (a0 : Nat) (a1 : Int32) (a2 : Int32) (a3 : Int32) (S : hS) : Option (Int32 × hS) :=
  hck (S.K a0 = 10) <|
  hb2 (f_X9_isAsked a0 a1 a2 60 S) fun t20 S19 =>
  if t20 = 0 then
    (some ((-1), S19))
  else
    (hb2 (f_X9_in (Int32.toInt64 a3) 0 1 S19) fun t24 S23 =>
     if t24 = 0 then
       (some ((-1), S23))
     else
       (f_X9_baron_L33 hfuel a0 a1 a2 (-2) 0 0 S23
          (fun u26 u27 S28 =>
            hj (γ := Unit → Option (Int32 × hS)) (fun (_ : Unit) =>
              some (u26, S28)
              ) fun J29 =>
            if u26 = (-2) then
              (J29 ())
            else
              (if a3 = 0 then
                 (J29 ())
               else
                 (some (u27, S28)))
          )))
set_option maxRecDepth 100000 in
set_option maxHeartbeats 4000000 in
theorem w_X9_baron_L33 {d : Nat} {S0 : hS} {args : List Value} {cs : Nat → Nat} {r : Int32 × hS} (hd : 10 ≤ d) : ∀ (n : Nat) (x0 : Nat) (x1 : Int32) (x2 : Int32) (x4 : Int32) (x5 : Int32) (x6 : Int32) (S : hS) (k0 : (Int32 → Int32 → hS → Option (Int32 × hS))) (z3 : Int32), f_X9_baron_L33 n x0 x1 x2 x4 x5 x6 S k0 = some r → (∀ (y4 : Int32) (y5 : Int32) (T : hS), k0 y4 y5 T = some r → HW cX9_baron RX9 (x_X9_baron d S0 args r cs) 0 0 T 91 [(3, .int z3), (4, .int y4), (5, .int y5)] []) → HW cX9_baron RX9 (x_X9_baron d S0 args r cs) 0 0 S 33 [(0, .ref x0), (1, .int x1), (2, .int x2), (3, .int z3), (4, .int x4), (5, .int x5), (6, .int x6)] [] := by
  intro n
  induction n with
  | zero =>
    intro x0 x1 x2 x4 x5 x6 S k0 z3 hf
    cases hf
  | succ n ih =>
    intro x0 x1 x2 x4 x5 x6 S k0 z3 hf hk0
    rw [f_X9_baron_L33] at hf
    refine h_iload dX9_baron_33 6 rfl ?_
    refine h_aload_n dX9_baron_35 rfl 0 rfl ?_
    obtain ⟨t1, h2, hf⟩ := hbd_s hf
    refine h_getR h2 rfl (Nat.le_of_ble_eq_true rfl) rfl q_961 rfl dX9_baron_36 ?_
    refine h_iconst (v := 2) dX9_baron_39 rfl ?_
    obtain ⟨t3, h4, hf⟩ := hbd_s hf
    refine h_iald h4 dX9_baron_40 ?_
    refine h_icmp_ge (tgt := 91) dX9_baron_41 (by decide) (fun c5 => ?_) (fun c5 => ?_)
    · replace hf := hif_p c5 hf
      refine h_sub (lv2 := [(3, .int z3), (4, .int x4), (5, .int x5)]) [3, 4, 5] rfl ?_
      exact hk0 x4 x5 S hf
    · replace hf := hif_n c5 hf
      refine h_aload_n dX9_baron_44 rfl 0 rfl ?_
      refine h_iload dX9_baron_45 6 rfl ?_
      obtain ⟨g17, hf⟩ := hck_s hf
      obtain ⟨t8, S7, h6, hf⟩ := hb2_s hf
      refine h_Vi [.int x6] (rest := []) (m_X9_isHere (d := 3) (cs := cs) (Nat.le_refl _) h6) v_X9_isHere q_1356 rfl (Nat.le_trans (by decide) hd) g17 rfl rfl (Nat.le_of_ble_eq_true rfl) dX9_baron_47 (Nat.le_refl _) (Nat.le_refl _) ?_
      refine h_if_eq (tgt := 85) dX9_baron_50 (by decide) (fun c9 => ?_) (fun c9 => ?_)
      · replace hf := hif_p c9 hf
        refine h_iinc (q := 6) (v := x6 + 1) (lv2 := [(6, .int (x6 + 1)), (0, .ref x0), (1, .int x1), (2, .int x2), (3, .int z3), (4, .int x4), (5, .int x5)]) dX9_baron_85 rfl rfl (Nat.le_of_ble_eq_true rfl) rfl ?_
        refine h_goto (tgt := 33) dX9_baron_88 (by decide) ?_
        refine h_sub (lv2 := [(0, .ref x0), (1, .int x1), (2, .int x2), (3, .int z3), (4, .int x4), (5, .int x5), (6, .int (x6 + 1))]) [1, 2, 3, 4, 5, 6, 0] rfl ?_
        exact ih x0 x1 x2 x4 x5 (x6 + 1) S7 k0 z3 hf hk0
      · replace hf := hif_n c9 hf
        refine h_aload_n dX9_baron_53 rfl 0 rfl ?_
        refine h_iload_n dX9_baron_54 rfl 1 rfl ?_
        refine h_iload_n dX9_baron_55 rfl 2 rfl ?_
        refine h_iload dX9_baron_56 6 rfl ?_
        obtain ⟨g16, hf⟩ := hck_s hf
        obtain ⟨t12, S11, h10, hf⟩ := hb2_s hf
        refine h_Vi [.int x1, .int x2, .int x6] (rest := []) (m_X9_farWithout (d := 9) (cs := cs) (Nat.le_refl _) h10) v_X9_farWithout q_1488 rfl (Nat.le_trans (by decide) hd) g16 rfl rfl (Nat.le_of_ble_eq_true rfl) dX9_baron_58 (Nat.le_refl _) (Nat.le_refl _) ?_
        refine h_istore (lv2 := [(7, .int t12), (0, .ref x0), (1, .int x1), (2, .int x2), (3, .int z3), (4, .int x4), (5, .int x5), (6, .int x6)]) dX9_baron_61 (Nat.le_of_ble_eq_true rfl) rfl ?_
        refine h_iload dX9_baron_63 5 rfl ?_
        refine h_bipush (v := (-2)) dX9_baron_65 rfl ?_
        refine hj_s (fun J13 => ∀ (w : Unit), J13 w = some r → HW cX9_baron RX9 (x_X9_baron d S0 args r cs) 0 0 S11 77 [(0, .ref x0), (1, .int x1), (2, .int x2), (3, .int z3), (6, .int x6), (7, .int t12)] []) hf ?_ ?_
        · intro w hf
          refine h_iload dX9_baron_77 4 rfl ?_
          refine h_istore (lv2 := [(4, .int x6), (0, .ref x0), (1, .int x1), (2, .int x2), (3, .int z3), (6, .int x6), (7, .int t12)]) dX9_baron_79 (Nat.le_of_ble_eq_true rfl) rfl ?_
          refine h_iload dX9_baron_81 6 rfl ?_
          refine h_istore (lv2 := [(5, .int t12), (4, .int x6), (0, .ref x0), (1, .int x1), (2, .int x2), (3, .int z3), (6, .int x6), (7, .int t12)]) dX9_baron_83 (Nat.le_of_ble_eq_true rfl) rfl ?_
          refine h_iinc (q := 6) (v := x6 + 1) (lv2 := [(6, .int (x6 + 1)), (5, .int t12), (4, .int x6), (0, .ref x0), (1, .int x1), (2, .int x2), (3, .int z3), (7, .int t12)]) dX9_baron_85 rfl rfl (Nat.le_of_ble_eq_true rfl) rfl ?_
          refine h_goto (tgt := 33) dX9_baron_88 (by decide) ?_
          refine h_sub (lv2 := [(0, .ref x0), (1, .int x1), (2, .int x2), (3, .int z3), (4, .int x6), (5, .int t12), (6, .int (x6 + 1))]) [3, 4, 5, 6, 2, 1, 0] rfl ?_
          exact ih x0 x1 x2 x6 t12 (x6 + 1) S11 k0 z3 hf hk0
        · intro J13 hJ13 hf
          refine h_icmp_eq (tgt := 77) dX9_baron_67 (by decide) (fun c14 => ?_) (fun c14 => ?_)
          · replace hf := hif_p c14 hf
            refine h_sub (lv2 := [(0, .ref x0), (1, .int x1), (2, .int x2), (3, .int z3), (6, .int x6), (7, .int t12)]) [1, 2, 3, 4, 7, 0] rfl ?_
            exact hJ13 () hf
          · replace hf := hif_n c14 hf
            refine h_iload dX9_baron_70 0 rfl ?_
            refine h_iload dX9_baron_72 6 rfl ?_
            refine h_icmp_le (tgt := 85) dX9_baron_74 (by decide) (fun c15 => ?_) (fun c15 => ?_)
            · replace hf := hif_p c15 hf
              refine h_iinc (q := 7) (v := x6 + 1) (lv2 := [(6, .int (x6 + 1)), (7, .int t12), (0, .ref x0), (1, .int x1), (2, .int x2), (3, .int z3), (4, .int x4), (5, .int x5)]) dX9_baron_85 rfl rfl (Nat.le_of_ble_eq_true rfl) rfl ?_
              refine h_goto (tgt := 33) dX9_baron_88 (by decide) ?_
              refine h_sub (lv2 := [(0, .ref x0), (1, .int x1), (2, .int x2), (3, .int z3), (4, .int x4), (5, .int x5), (6, .int (x6 + 1))]) [2, 3, 4, 5, 6, 7, 0] rfl ?_
              exact ih x0 x1 x2 x4 x5 (x6 + 1) S11 k0 z3 hf hk0
            · replace hf := hif_n c15 hf
              refine h_sub (lv2 := [(0, .ref x0), (1, .int x1), (2, .int x2), (3, .int z3), (6, .int x6), (7, .int t12)]) [1, 2, 3, 4, 7, 0] rfl ?_
              exact hJ13 () hf
set_option maxRecDepth 100000 in
set_option maxHeartbeats 4000000 in
theorem m_X9_baron {d : Nat} {cs : Nat → Nat} {a0 : Nat} {a1 : Int32} {a2 : Int32} {a3 : Int32} {S : hS} {r : Int32 × hS} (hd : 10 ≤ d) (hf : f_X9_baron a0 a1 a2 a3 S = some r) : HM yX9_baron cX9_baron 8 (some .int) d 0 0 cs [.ref a0, .int a1, .int a2, .int a3] S (some (.int r.1)) r.2 := by
  unfold f_X9_baron at hf
  refine HM.ofHW false (by decide) (fun h => by cases h) (Nat.le_of_ble_eq_true rfl) ?_
  show HW cX9_baron RX9 (x_X9_baron d S [.ref a0, .int a1, .int a2, .int a3] r cs) 0 0 S 0 [(0, .ref a0), (1, .int a1), (2, .int a2), (3, .int a3)] []
  refine h_aload_n dX9_baron_0 rfl 0 rfl ?_
  refine h_iload_n dX9_baron_1 rfl 1 rfl ?_
  refine h_iload_n dX9_baron_2 rfl 2 rfl ?_
  refine h_bipush (v := 60) dX9_baron_3 rfl ?_
  obtain ⟨g32, hf⟩ := hck_s hf
  obtain ⟨t20, S19, h18, hf⟩ := hb2_s hf
  refine h_Vi [.int a1, .int a2, .int 60] (rest := []) (m_X9_isAsked (d := 3) (cs := cs) (Nat.le_refl _) h18) v_X9_isAsked q_1440 rfl (Nat.le_trans (by decide) hd) g32 rfl rfl (Nat.le_of_ble_eq_true rfl) dX9_baron_5 (Nat.le_refl _) (Nat.le_refl _) ?_
  refine h_if_eq (tgt := 21) dX9_baron_8 (by decide) (fun c21 => ?_) (fun c21 => ?_)
  · replace hf := hif_p c21 hf
    refine h_iconst (v := (-1)) dX9_baron_21 rfl ?_
    obtain rfl := Option.some.inj hf
    exact h_iret rfl rfl rfl (Nat.le_refl _) (Nat.le_refl _) dX9_baron_22
  · replace hf := hif_n c21 hf
    refine h_iload_n dX9_baron_11 rfl 3 rfl ?_
    refine h_i2l dX9_baron_12 ?_
    refine h_lconst (v := 0) dX9_baron_13 rfl ?_
    refine h_lconst (v := 1) dX9_baron_14 rfl ?_
    obtain ⟨t24, S23, h22, hf⟩ := hb2_s hf
    refine h_Si [.long (Int32.toInt64 a3), .long 0, .long 1] (rest := []) (m_X9_in (d := 1) (cs := cs) (Nat.le_refl _) h22) v_X9_in q_1225 rfl (Nat.le_trans (by decide) hd) rfl (Nat.le_of_ble_eq_true rfl) dX9_baron_15 (Nat.le_refl _) (Nat.le_refl _) ?_
    refine h_if_ne (tgt := 23) dX9_baron_18 (by decide) (fun c25 => ?_) (fun c25 => ?_)
    · replace hf := hif_n c25 hf
      refine h_bipush (v := (-2)) dX9_baron_23 rfl ?_
      refine h_istore (lv2 := [(4, .int (-2)), (0, .ref a0), (1, .int a1), (2, .int a2), (3, .int a3)]) dX9_baron_25 (Nat.le_of_ble_eq_true rfl) rfl ?_
      refine h_iconst (v := 0) dX9_baron_27 rfl ?_
      refine h_istore (lv2 := [(5, .int 0), (4, .int (-2)), (0, .ref a0), (1, .int a1), (2, .int a2), (3, .int a3)]) dX9_baron_28 (Nat.le_of_ble_eq_true rfl) rfl ?_
      refine h_iconst (v := 0) dX9_baron_30 rfl ?_
      refine h_istore (lv2 := [(6, .int 0), (5, .int 0), (4, .int (-2)), (0, .ref a0), (1, .int a1), (2, .int a2), (3, .int a3)]) dX9_baron_31 (Nat.le_of_ble_eq_true rfl) rfl ?_
      refine h_sub (lv2 := [(0, .ref a0), (1, .int a1), (2, .int a2), (3, .int a3), (4, .int (-2)), (5, .int 0), (6, .int 0)]) [3, 4, 5, 6, 2, 1, 0] rfl ?_
      refine w_X9_baron_L33 hd hfuel a0 a1 a2 (-2) 0 0 S23 _ a3 hf ?_
      · intro u26 u27 S28 hf
        refine h_iload dX9_baron_91 1 rfl ?_
        refine h_bipush (v := (-2)) dX9_baron_93 rfl ?_
        refine hj_s (fun J29 => ∀ (w : Unit), J29 w = some r → HW cX9_baron RX9 (x_X9_baron d S [.ref a0, .int a1, .int a2, .int a3] r cs) 0 0 S28 102 [(4, .int u26)] []) hf ?_ ?_
        · intro w hf
          refine h_iload dX9_baron_102 0 rfl ?_
          refine h_goto (tgt := 109) dX9_baron_104 (by decide) ?_
          obtain rfl := Option.some.inj hf
          exact h_iret rfl rfl rfl (Nat.le_refl _) (Nat.le_refl _) dX9_baron_109
        · intro J29 hJ29 hf
          refine h_icmp_eq (tgt := 102) dX9_baron_95 (by decide) (fun c30 => ?_) (fun c30 => ?_)
          · replace hf := hif_p c30 hf
            refine h_sub (lv2 := [(4, .int u26)]) [1] rfl ?_
            exact hJ29 () hf
          · replace hf := hif_n c30 hf
            refine h_iload_n dX9_baron_98 rfl 0 rfl ?_
            refine h_if_ne (tgt := 107) dX9_baron_99 (by decide) (fun c31 => ?_) (fun c31 => ?_)
            · replace hf := hif_n c31 hf
              refine h_iload dX9_baron_107 2 rfl ?_
              obtain rfl := Option.some.inj hf
              exact h_iret rfl rfl rfl (Nat.le_refl _) (Nat.le_refl _) dX9_baron_109
            · replace hf := hif_p c31 hf
              refine h_sub (lv2 := [(4, .int u26)]) [1] rfl ?_
              exact hJ29 () hf
    · replace hf := hif_p c25 hf
      refine h_iconst (v := (-1)) dX9_baron_21 rfl ?_
      obtain rfl := Option.some.inj hf
      exact h_iret rfl rfl rfl (Nat.le_refl _) (Nat.le_refl _) dX9_baron_22
abbrev x_X9_led (d : Nat) (S0 : hS) (args : List Value) (r : Int32 × hS) (cs : Nat → Nat) : hX := (((some .int), 5, d, 0, 0, false), (S0, args, some (.int r.1), r.2), cs)
theorem v_X9_led : hVW yX9_led cX9_led 5 (some .int) RX9 2 := ⟨q_1500, q_1501, q_9, q_1502, by decide +kernel, by decide⟩
def f_X9_led_L18 : Nat → Nat → Int32 → Int32 → Int32 → Int32 → hS → (Int32 → hS → Option (Int32 × hS)) → Option (Int32 × hS)
  | 0, _, _, _, _, _, _, _ => none
  | n + 1, x0, x1, x2, x3, x4, S, k0 =>
    hbd (gR S x0 9 1) fun t1 =>
    hbd (gA S t1 12 2) fun t3 =>
    if t3 ≤ x4 then
      (k0 x3 S)
    else
      (hck (S.K x0 = 10) <|
       hb2 (f_X9_isHere x0 x4 S) fun t8 S7 =>
       hj (γ := Int32 → hS → Option (Int32 × hS)) (fun (v10 : Int32) (S11 : hS) =>
         f_X9_led_L18 n x0 x1 x2 (x3 ||| v10) (x4 + 1) S11 k0
         ) fun J9 =>
       hj (γ := hS → Option (Int32 × hS)) (fun (S13 : hS) =>
         J9 0 S13
         ) fun J12 =>
       if t8 = 0 then
         (J12 S7)
       else
         (hck (S7.K x0 = 10) <|
          hb2 (f_X9_farWithout x0 x1 x2 x4 S7) fun t17 S16 =>
          if t17 ≤ 0 then
            (J12 S16)
          else
            (J9 (1 <<< (x4 &&& 31)) S16)))
def f_X9_led (a0 : Nat) (a1 : Int32) (a2 : Int32) (S : hS) : Option (Int32 × hS) :=
  hck (S.K a0 = 10) <|
  hb2 (f_X9_isAsked a0 a1 a2 60 S) fun t23 S22 =>
  if t23 = 0 then
    (some ((-1), S22))
  else
    (f_X9_led_L18 hfuel a0 a1 a2 0 0 S22
       (fun u25 S26 =>
         some (u25, S26)
       ))
set_option maxRecDepth 100000 in
set_option maxHeartbeats 4000000 in
theorem w_X9_led_L18 {d : Nat} {S0 : hS} {args : List Value} {cs : Nat → Nat} {r : Int32 × hS} (hd : 10 ≤ d) : ∀ (n : Nat) (x0 : Nat) (x1 : Int32) (x2 : Int32) (x3 : Int32) (x4 : Int32) (S : hS) (k0 : (Int32 → hS → Option (Int32 × hS))) , f_X9_led_L18 n x0 x1 x2 x3 x4 S k0 = some r → (∀ (y3 : Int32) (T : hS), k0 y3 T = some r → HW cX9_led RX9 (x_X9_led d S0 args r cs) 0 0 T 66 [(3, .int y3)] []) → HW cX9_led RX9 (x_X9_led d S0 args r cs) 0 0 S 18 [(0, .ref x0), (1, .int x1), (2, .int x2), (3, .int x3), (4, .int x4)] [] := by
  intro n
  induction n with
  | zero =>
    intro x0 x1 x2 x3 x4 S k0 hf
    cases hf
  | succ n ih =>
    intro x0 x1 x2 x3 x4 S k0 hf hk0
    rw [f_X9_led_L18] at hf
    refine h_iload dX9_led_18 4 rfl ?_
    refine h_aload_n dX9_led_20 rfl 0 rfl ?_
    obtain ⟨t1, h2, hf⟩ := hbd_s hf
    refine h_getR h2 rfl (Nat.le_of_ble_eq_true rfl) rfl q_961 rfl dX9_led_21 ?_
    refine h_iconst (v := 2) dX9_led_24 rfl ?_
    obtain ⟨t3, h4, hf⟩ := hbd_s hf
    refine h_iald h4 dX9_led_25 ?_
    refine h_icmp_ge (tgt := 66) dX9_led_26 (by decide) (fun c5 => ?_) (fun c5 => ?_)
    · replace hf := hif_p c5 hf
      refine h_sub (lv2 := [(3, .int x3)]) [3] rfl ?_
      exact hk0 x3 S hf
    · replace hf := hif_n c5 hf
      refine h_iload_n dX9_led_29 rfl 3 rfl ?_
      refine h_aload_n dX9_led_30 rfl 0 rfl ?_
      refine h_iload dX9_led_31 4 rfl ?_
      obtain ⟨g20, hf⟩ := hck_s hf
      obtain ⟨t8, S7, h6, hf⟩ := hb2_s hf
      refine h_Vi [.int x4] (rest := [.int x3]) (m_X9_isHere (d := 3) (cs := cs) (Nat.le_refl _) h6) v_X9_isHere q_1356 rfl (Nat.le_trans (by decide) hd) g20 rfl rfl (Nat.le_of_ble_eq_true rfl) dX9_led_33 (Nat.le_refl _) (Nat.le_refl _) ?_
      refine hj_s (fun J9 => ∀ (v10 : Int32) (S11 : hS), J9 v10 S11 = some r → HW cX9_led RX9 (x_X9_led d S0 args r cs) 0 0 S11 58 [(0, .ref x0), (1, .int x1), (2, .int x2), (4, .int x4)] [.int v10, .int x3]) hf ?_ ?_
      · intro v10 S11 hf
        refine h_ior dX9_led_58 ?_
        refine h_istore_n (lv2 := [(3, .int (x3 ||| v10)), (0, .ref x0), (1, .int x1), (2, .int x2), (4, .int x4)]) dX9_led_59 rfl (Nat.le_of_ble_eq_true rfl) rfl ?_
        refine h_iinc (q := 4) (v := x4 + 1) (lv2 := [(4, .int (x4 + 1)), (3, .int (x3 ||| v10)), (0, .ref x0), (1, .int x1), (2, .int x2)]) dX9_led_60 rfl rfl (Nat.le_of_ble_eq_true rfl) rfl ?_
        refine h_goto (tgt := 18) dX9_led_63 (by decide) ?_
        refine h_sub (lv2 := [(0, .ref x0), (1, .int x1), (2, .int x2), (3, .int (x3 ||| v10)), (4, .int (x4 + 1))]) [2, 3, 4, 1, 0] rfl ?_
        exact ih x0 x1 x2 (x3 ||| v10) (x4 + 1) S11 k0  hf hk0
      · intro J9 hJ9 hf
        refine hj_s (fun J12 => ∀ (S13 : hS), J12 S13 = some r → HW cX9_led RX9 (x_X9_led d S0 args r cs) 0 0 S13 57 [(0, .ref x0), (1, .int x1), (2, .int x2), (4, .int x4)] [.int x3]) hf ?_ ?_
        · intro S13 hf
          refine h_iconst (v := 0) dX9_led_57 rfl ?_
          exact hJ9 0 S13 hf
        · intro J12 hJ12 hf
          refine h_if_eq (tgt := 57) dX9_led_36 (by decide) (fun c14 => ?_) (fun c14 => ?_)
          · replace hf := hif_p c14 hf
            refine h_sub (lv2 := [(0, .ref x0), (1, .int x1), (2, .int x2), (4, .int x4)]) [0, 1, 2, 4] rfl ?_
            exact hJ12 S7 hf
          · replace hf := hif_n c14 hf
            refine h_aload_n dX9_led_39 rfl 0 rfl ?_
            refine h_iload_n dX9_led_40 rfl 1 rfl ?_
            refine h_iload_n dX9_led_41 rfl 2 rfl ?_
            refine h_iload dX9_led_42 4 rfl ?_
            obtain ⟨g19, hf⟩ := hck_s hf
            obtain ⟨t17, S16, h15, hf⟩ := hb2_s hf
            refine h_Vi [.int x1, .int x2, .int x4] (rest := [.int x3]) (m_X9_farWithout (d := 9) (cs := cs) (Nat.le_refl _) h15) v_X9_farWithout q_1488 rfl (Nat.le_trans (by decide) hd) g19 rfl rfl (Nat.le_of_ble_eq_true rfl) dX9_led_44 (Nat.le_refl _) (Nat.le_refl _) ?_
            refine h_if_le (tgt := 57) dX9_led_47 (by decide) (fun c18 => ?_) (fun c18 => ?_)
            · replace hf := hif_p c18 hf
              refine h_sub (lv2 := [(0, .ref x0), (1, .int x1), (2, .int x2), (4, .int x4)]) [0, 1, 2, 4] rfl ?_
              exact hJ12 S16 hf
            · replace hf := hif_n c18 hf
              refine h_iconst (v := 1) dX9_led_50 rfl ?_
              refine h_iload dX9_led_51 4 rfl ?_
              refine h_ishl dX9_led_53 ?_
              refine h_goto (tgt := 58) dX9_led_54 (by decide) ?_
              refine h_sub (lv2 := [(0, .ref x0), (1, .int x1), (2, .int x2), (4, .int x4)]) [0, 1, 2, 4] rfl ?_
              exact hJ9 (1 <<< (x4 &&& 31)) S16 hf
set_option maxRecDepth 100000 in
set_option maxHeartbeats 4000000 in
theorem m_X9_led {d : Nat} {cs : Nat → Nat} {a0 : Nat} {a1 : Int32} {a2 : Int32} {S : hS} {r : Int32 × hS} (hd : 10 ≤ d) (hf : f_X9_led a0 a1 a2 S = some r) : HM yX9_led cX9_led 5 (some .int) d 0 0 cs [.ref a0, .int a1, .int a2] S (some (.int r.1)) r.2 := by
  unfold f_X9_led at hf
  refine HM.ofHW false (by decide) (fun h => by cases h) (Nat.le_of_ble_eq_true rfl) ?_
  show HW cX9_led RX9 (x_X9_led d S [.ref a0, .int a1, .int a2] r cs) 0 0 S 0 [(0, .ref a0), (1, .int a1), (2, .int a2)] []
  refine h_aload_n dX9_led_0 rfl 0 rfl ?_
  refine h_iload_n dX9_led_1 rfl 1 rfl ?_
  refine h_iload_n dX9_led_2 rfl 2 rfl ?_
  refine h_bipush (v := 60) dX9_led_3 rfl ?_
  obtain ⟨g27, hf⟩ := hck_s hf
  obtain ⟨t23, S22, h21, hf⟩ := hb2_s hf
  refine h_Vi [.int a1, .int a2, .int 60] (rest := []) (m_X9_isAsked (d := 3) (cs := cs) (Nat.le_refl _) h21) v_X9_isAsked q_1440 rfl (Nat.le_trans (by decide) hd) g27 rfl rfl (Nat.le_of_ble_eq_true rfl) dX9_led_5 (Nat.le_refl _) (Nat.le_refl _) ?_
  refine h_if_ne (tgt := 13) dX9_led_8 (by decide) (fun c24 => ?_) (fun c24 => ?_)
  · replace hf := hif_n c24 hf
    refine h_iconst (v := 0) dX9_led_13 rfl ?_
    refine h_istore_n (lv2 := [(3, .int 0), (0, .ref a0), (1, .int a1), (2, .int a2)]) dX9_led_14 rfl (Nat.le_of_ble_eq_true rfl) rfl ?_
    refine h_iconst (v := 0) dX9_led_15 rfl ?_
    refine h_istore (lv2 := [(4, .int 0), (3, .int 0), (0, .ref a0), (1, .int a1), (2, .int a2)]) dX9_led_16 (Nat.le_of_ble_eq_true rfl) rfl ?_
    refine h_sub (lv2 := [(0, .ref a0), (1, .int a1), (2, .int a2), (3, .int 0), (4, .int 0)]) [2, 3, 4, 1, 0] rfl ?_
    refine w_X9_led_L18 hd hfuel a0 a1 a2 0 0 S22 _  hf ?_
    · intro u25 S26 hf
      refine h_iload_n dX9_led_66 rfl 0 rfl ?_
      obtain rfl := Option.some.inj hf
      exact h_iret rfl rfl rfl (Nat.le_refl _) (Nat.le_refl _) dX9_led_67
  · replace hf := hif_p c24 hf
    refine h_iconst (v := (-1)) dX9_led_11 rfl ?_
    obtain rfl := Option.some.inj hf
    exact h_iret rfl rfl rfl (Nat.le_refl _) (Nat.le_refl _) dX9_led_12
abbrev x_X9_findsFan (d : Nat) (S0 : hS) (args : List Value) (r : Int32 × hS) (cs : Nat → Nat) : hX := (((some .boolean), 9, d, 0, 0, false), (S0, args, some (.int r.1), r.2), cs)
theorem v_X9_findsFan : hVW yX9_findsFan cX9_findsFan 9 (some .boolean) RX9 3 := ⟨q_1510, q_s89, q_9, q_1511, by decide +kernel, by decide⟩
def f_X9_findsFan_L44 : Nat → Nat → Int32 → Int32 → Int32 → Int32 → Int32 → Int32 → Int32 → Int32 → hS → (Int32 → hS → Option (Int32 × hS)) → Option (Int32 × hS)
  | 0, _, _, _, _, _, _, _, _, _, _, _ => none
  | n + 1, x0, x1, x2, x3, x4, x5, x6, x7, x8, S, k0 =>
    if 5 ≤ x8 then
      (k0 x5 S)
    else
      (if x5 = 0 then
         (hck (S.K x0 = 10) <|
          hb2 (f_X9_isThere x0 x7 S) fun t5 S4 =>
          if t5 = 0 then
            (k0 x5 S4)
          else
            (hbd (gR S4 x0 9 7) fun t7 =>
             hbd (sA S4 t7 x4 x7) fun S9 =>
             hbd (gR S9 x0 9 8) fun t11 =>
             hbd (sA S9 t11 x4 x8) fun S13 =>
             hbd (gR S13 x0 9 9) fun t15 =>
             hbd (sA S13 t15 x4 x6) fun S17 =>
             hbd (gR S17 x0 9 1) fun t19 =>
             hbd (gA S17 t19 12 3) fun t21 =>
             hbd (sA S17 t19 3 (t21 + 1)) fun S23 =>
             hck (S23.K x0 = 10) <|
             hb2 (f_X9_spotIn x0 x1 x2 S23) fun t27 S26 =>
             hj (γ := Int32 → Option (Int32 × hS)) (fun (v29 : Int32) =>
               hbd (gR S26 x0 9 1) fun t30 =>
               hbd (gA S26 t30 12 3) fun t32 =>
               hbd (sA S26 t30 3 (t32 - 1)) fun S34 =>
               hbd (sI S34 x0 9 52 x6) fun S36 =>
               hbd (sI S36 x0 9 53 x7) fun S38 =>
               hbd (sI S38 x0 9 54 x8) fun S40 =>
               f_X9_findsFan_L44 n x0 x1 x2 x3 x4 v29 x6 x7 (x8 + 1) S40 k0
               ) fun J28 =>
             if t27 = x3 then
               (J28 1)
             else
               (J28 0)))
       else
         (k0 x5 S))
def f_X9_findsFan_L29 : Nat → Nat → Int32 → Int32 → Int32 → Int32 → Int32 → Int32 → Int32 → hS → (Int32 → hS → Option (Int32 × hS)) → Option (Int32 × hS)
  | 0, _, _, _, _, _, _, _, _, _, _ => none
  | n + 1, x0, x1, x2, x3, x4, x5, x6, x7, S, k0 =>
    if 80 ≤ x7 then
      (k0 x5 S)
    else
      (if x5 = 0 then
         (f_X9_findsFan_L44 hfuel x0 x1 x2 x3 x4 x5 x6 x7 1 S
            (fun u3 S4 =>
              f_X9_findsFan_L29 n x0 x1 x2 x3 x4 u3 x6 (x7 + 1) S4 k0
            ))
       else
         (k0 x5 S))
def f_X9_findsFan_L14 : Nat → Nat → Int32 → Int32 → Int32 → Int32 → Int32 → Int32 → hS → (Int32 → hS → Option (Int32 × hS)) → Option (Int32 × hS)
  | 0, _, _, _, _, _, _, _, _, _ => none
  | n + 1, x0, x1, x2, x3, x4, x5, x6, S, k0 =>
    if 9 < x6 then
      (k0 x5 S)
    else
      (if x5 = 0 then
         (f_X9_findsFan_L29 hfuel x0 x1 x2 x3 x4 x5 x6 0 S
            (fun u3 S4 =>
              f_X9_findsFan_L14 n x0 x1 x2 x3 x4 u3 (x6 + 1) S4 k0
            ))
       else
         (k0 x5 S))
def f_X9_findsFan (a0 : Nat) (a1 : Int32) (a2 : Int32) (a3 : Int32) (S : hS) : Option (Int32 × hS) :=
  hbd (gR S a0 9 1) fun t5 =>
  hbd (gA S t5 12 3) fun t7 =>
  f_X9_findsFan_L14 hfuel a0 a1 a2 a3 t7 0 1 S
    (fun u9 S10 =>
      hck (u9 = 0 ∨ u9 = 1) <|
      some (u9, S10)
    )
set_option maxRecDepth 100000 in
set_option maxHeartbeats 4000000 in
theorem w_X9_findsFan_L44 {d : Nat} {S0 : hS} {args : List Value} {cs : Nat → Nat} {r : Int32 × hS} (hd : 9 ≤ d) : ∀ (n : Nat) (x0 : Nat) (x1 : Int32) (x2 : Int32) (x3 : Int32) (x4 : Int32) (x5 : Int32) (x6 : Int32) (x7 : Int32) (x8 : Int32) (S : hS) (k0 : (Int32 → hS → Option (Int32 × hS))) , f_X9_findsFan_L44 n x0 x1 x2 x3 x4 x5 x6 x7 x8 S k0 = some r → (∀ (y5 : Int32) (T : hS), k0 y5 T = some r → HW cX9_findsFan RX9 (x_X9_findsFan d S0 args r cs) 0 0 T 152 [(0, .ref x0), (1, .int x1), (2, .int x2), (3, .int x3), (4, .int x4), (5, .int y5), (6, .int x6), (7, .int x7)] []) → HW cX9_findsFan RX9 (x_X9_findsFan d S0 args r cs) 0 0 S 44 [(0, .ref x0), (1, .int x1), (2, .int x2), (3, .int x3), (4, .int x4), (5, .int x5), (6, .int x6), (7, .int x7), (8, .int x8)] [] := by
  intro n
  induction n with
  | zero =>
    intro x0 x1 x2 x3 x4 x5 x6 x7 x8 S k0 hf
    cases hf
  | succ n ih =>
    intro x0 x1 x2 x3 x4 x5 x6 x7 x8 S k0 hf hk0
    rw [f_X9_findsFan_L44] at hf
    refine h_iload dX9_findsFan_44 8 rfl ?_
    refine h_iconst (v := 5) dX9_findsFan_46 rfl ?_
    refine h_icmp_ge (tgt := 152) dX9_findsFan_47 (by decide) (fun c1 => ?_) (fun c1 => ?_)
    · replace hf := hif_p c1 hf
      refine h_sub (lv2 := [(0, .ref x0), (1, .int x1), (2, .int x2), (3, .int x3), (4, .int x4), (5, .int x5), (6, .int x6), (7, .int x7)]) [0, 1, 2, 3, 4, 5, 6, 7] rfl ?_
      exact hk0 x5 S hf
    · replace hf := hif_n c1 hf
      refine h_iload dX9_findsFan_50 5 rfl ?_
      refine h_if_ne (tgt := 152) dX9_findsFan_52 (by decide) (fun c2 => ?_) (fun c2 => ?_)
      · replace hf := hif_n c2 hf
        refine h_sub (lv2 := [(0, .ref x0), (1, .int x1), (2, .int x2), (3, .int x3), (4, .int x4), (5, .int x5), (6, .int x6), (7, .int x7)]) [0, 1, 2, 3, 4, 5, 6, 7] rfl ?_
        exact hk0 x5 S hf
      · replace hf := hif_p c2 hf
        refine h_aload_n dX9_findsFan_55 rfl 0 rfl ?_
        refine h_iload dX9_findsFan_56 7 rfl ?_
        obtain ⟨g44, hf⟩ := hck_s hf
        obtain ⟨t5, S4, h3, hf⟩ := hb2_s hf
        refine h_Vi [.int x7] (rest := []) (m_X9_isThere (d := 3) (cs := cs) (Nat.le_refl _) h3) v_X9_isThere q_1410 rfl (Nat.le_trans (by decide) hd) g44 rfl rfl (Nat.le_of_ble_eq_true rfl) dX9_findsFan_58 (Nat.le_refl _) (Nat.le_refl _) ?_
        refine h_if_eq (tgt := 152) dX9_findsFan_61 (by decide) (fun c6 => ?_) (fun c6 => ?_)
        · replace hf := hif_p c6 hf
          refine h_sub (lv2 := [(0, .ref x0), (1, .int x1), (2, .int x2), (3, .int x3), (4, .int x4), (5, .int x5), (6, .int x6), (7, .int x7)]) [0, 1, 2, 3, 4, 5, 6, 7] rfl ?_
          exact hk0 x5 S4 hf
        · replace hf := hif_n c6 hf
          refine h_aload_n dX9_findsFan_64 rfl 0 rfl ?_
          obtain ⟨t7, h8, hf⟩ := hbd_s hf
          refine h_getR h8 rfl (Nat.le_of_ble_eq_true rfl) rfl q_967 rfl dX9_findsFan_65 ?_
          refine h_iload dX9_findsFan_68 4 rfl ?_
          refine h_iload dX9_findsFan_70 7 rfl ?_
          obtain ⟨S9, h10, hf⟩ := hbd_s hf
          refine h_iast h10 dX9_findsFan_72 ?_
          refine h_aload_n dX9_findsFan_73 rfl 0 rfl ?_
          obtain ⟨t11, h12, hf⟩ := hbd_s hf
          refine h_getR h12 rfl (Nat.le_of_ble_eq_true rfl) rfl q_968 rfl dX9_findsFan_74 ?_
          refine h_iload dX9_findsFan_77 4 rfl ?_
          refine h_iload dX9_findsFan_79 8 rfl ?_
          obtain ⟨S13, h14, hf⟩ := hbd_s hf
          refine h_iast h14 dX9_findsFan_81 ?_
          refine h_aload_n dX9_findsFan_82 rfl 0 rfl ?_
          obtain ⟨t15, h16, hf⟩ := hbd_s hf
          refine h_getR h16 rfl (Nat.le_of_ble_eq_true rfl) rfl q_969 rfl dX9_findsFan_83 ?_
          refine h_iload dX9_findsFan_86 4 rfl ?_
          refine h_iload dX9_findsFan_88 6 rfl ?_
          obtain ⟨S17, h18, hf⟩ := hbd_s hf
          refine h_iast h18 dX9_findsFan_90 ?_
          refine h_aload_n dX9_findsFan_91 rfl 0 rfl ?_
          obtain ⟨t19, h20, hf⟩ := hbd_s hf
          refine h_getR h20 rfl (Nat.le_of_ble_eq_true rfl) rfl q_961 rfl dX9_findsFan_92 ?_
          refine h_iconst (v := 3) dX9_findsFan_95 rfl ?_
          refine h_dup2 dX9_findsFan_96 rfl rfl ?_
          obtain ⟨t21, h22, hf⟩ := hbd_s hf
          refine h_iald h22 dX9_findsFan_97 ?_
          refine h_iconst (v := 1) dX9_findsFan_98 rfl ?_
          refine h_iadd dX9_findsFan_99 ?_
          obtain ⟨S23, h24, hf⟩ := hbd_s hf
          refine h_iast h24 dX9_findsFan_100 ?_
          refine h_aload_n dX9_findsFan_101 rfl 0 rfl ?_
          refine h_iload_n dX9_findsFan_102 rfl 1 rfl ?_
          refine h_iload_n dX9_findsFan_103 rfl 2 rfl ?_
          obtain ⟨g43, hf⟩ := hck_s hf
          obtain ⟨t27, S26, h25, hf⟩ := hb2_s hf
          refine h_Vi [.int x1, .int x2] (rest := []) (m_X9_spotIn (d := 8) (cs := cs) (Nat.le_refl _) h25) v_X9_spotIn q_1444 rfl (Nat.le_trans (by decide) hd) g43 rfl rfl (Nat.le_of_ble_eq_true rfl) dX9_findsFan_104 (Nat.le_refl _) (Nat.le_refl _) ?_
          refine h_iload_n dX9_findsFan_107 rfl 3 rfl ?_
          refine hj_s (fun J28 => ∀ (v29 : Int32), J28 v29 = some r → HW cX9_findsFan RX9 (x_X9_findsFan d S0 args r cs) 0 0 S26 116 [(0, .ref x0), (1, .int x1), (2, .int x2), (3, .int x3), (4, .int x4), (6, .int x6), (7, .int x7), (8, .int x8)] [.int v29]) hf ?_ ?_
          · intro v29 hf
            refine h_istore (lv2 := [(5, .int v29), (0, .ref x0), (1, .int x1), (2, .int x2), (3, .int x3), (4, .int x4), (6, .int x6), (7, .int x7), (8, .int x8)]) dX9_findsFan_116 (Nat.le_of_ble_eq_true rfl) rfl ?_
            refine h_aload_n dX9_findsFan_118 rfl 1 rfl ?_
            obtain ⟨t30, h31, hf⟩ := hbd_s hf
            refine h_getR h31 rfl (Nat.le_of_ble_eq_true rfl) rfl q_961 rfl dX9_findsFan_119 ?_
            refine h_iconst (v := 3) dX9_findsFan_122 rfl ?_
            refine h_dup2 dX9_findsFan_123 rfl rfl ?_
            obtain ⟨t32, h33, hf⟩ := hbd_s hf
            refine h_iald h33 dX9_findsFan_124 ?_
            refine h_iconst (v := 1) dX9_findsFan_125 rfl ?_
            refine h_isub dX9_findsFan_126 ?_
            obtain ⟨S34, h35, hf⟩ := hbd_s hf
            refine h_iast h35 dX9_findsFan_127 ?_
            refine h_aload_n dX9_findsFan_128 rfl 1 rfl ?_
            refine h_iload dX9_findsFan_129 6 rfl ?_
            obtain ⟨S36, h37, hf⟩ := hbd_s hf
            refine h_putI h37 rfl (Nat.le_of_ble_eq_true rfl) rfl q_1012 rfl rfl (by decide +kernel) dX9_findsFan_131 ?_
            refine h_aload_n dX9_findsFan_134 rfl 1 rfl ?_
            refine h_iload dX9_findsFan_135 7 rfl ?_
            obtain ⟨S38, h39, hf⟩ := hbd_s hf
            refine h_putI h39 rfl (Nat.le_of_ble_eq_true rfl) rfl q_1013 rfl rfl (by decide +kernel) dX9_findsFan_137 ?_
            refine h_aload_n dX9_findsFan_140 rfl 1 rfl ?_
            refine h_iload dX9_findsFan_141 8 rfl ?_
            obtain ⟨S40, h41, hf⟩ := hbd_s hf
            refine h_putI h41 rfl (Nat.le_of_ble_eq_true rfl) rfl q_1014 rfl rfl (by decide +kernel) dX9_findsFan_143 ?_
            refine h_iinc (q := 8) (v := x8 + 1) (lv2 := [(8, .int (x8 + 1)), (5, .int v29), (0, .ref x0), (1, .int x1), (2, .int x2), (3, .int x3), (4, .int x4), (6, .int x6), (7, .int x7)]) dX9_findsFan_146 rfl rfl (Nat.le_of_ble_eq_true rfl) rfl ?_
            refine h_goto (tgt := 44) dX9_findsFan_149 (by decide) ?_
            refine h_sub (lv2 := [(0, .ref x0), (1, .int x1), (2, .int x2), (3, .int x3), (4, .int x4), (5, .int v29), (6, .int x6), (7, .int x7), (8, .int (x8 + 1))]) [2, 3, 4, 5, 6, 1, 7, 8, 0] rfl ?_
            exact ih x0 x1 x2 x3 x4 v29 x6 x7 (x8 + 1) S40 k0  hf hk0
          · intro J28 hJ28 hf
            refine h_icmp_ne (tgt := 115) dX9_findsFan_108 (by decide) (fun c42 => ?_) (fun c42 => ?_)
            · replace hf := hif_n c42 hf
              refine h_iconst (v := 0) dX9_findsFan_115 rfl ?_
              refine h_sub (lv2 := [(0, .ref x0), (1, .int x1), (2, .int x2), (3, .int x3), (4, .int x4), (6, .int x6), (7, .int x7), (8, .int x8)]) [0, 1, 2, 3, 4, 6, 7, 8] rfl ?_
              exact hJ28 0 hf
            · replace hf := hif_p c42 hf
              refine h_iconst (v := 1) dX9_findsFan_111 rfl ?_
              refine h_goto (tgt := 116) dX9_findsFan_112 (by decide) ?_
              refine h_sub (lv2 := [(0, .ref x0), (1, .int x1), (2, .int x2), (3, .int x3), (4, .int x4), (6, .int x6), (7, .int x7), (8, .int x8)]) [0, 1, 2, 3, 4, 6, 7, 8] rfl ?_
              exact hJ28 1 hf
set_option maxRecDepth 100000 in
set_option maxHeartbeats 4000000 in
theorem w_X9_findsFan_L29 {d : Nat} {S0 : hS} {args : List Value} {cs : Nat → Nat} {r : Int32 × hS} (hd : 9 ≤ d) : ∀ (n : Nat) (x0 : Nat) (x1 : Int32) (x2 : Int32) (x3 : Int32) (x4 : Int32) (x5 : Int32) (x6 : Int32) (x7 : Int32) (S : hS) (k0 : (Int32 → hS → Option (Int32 × hS))) , f_X9_findsFan_L29 n x0 x1 x2 x3 x4 x5 x6 x7 S k0 = some r → (∀ (y5 : Int32) (T : hS), k0 y5 T = some r → HW cX9_findsFan RX9 (x_X9_findsFan d S0 args r cs) 0 0 T 158 [(0, .ref x0), (1, .int x1), (2, .int x2), (3, .int x3), (4, .int x4), (5, .int y5), (6, .int x6)] []) → HW cX9_findsFan RX9 (x_X9_findsFan d S0 args r cs) 0 0 S 29 [(0, .ref x0), (1, .int x1), (2, .int x2), (3, .int x3), (4, .int x4), (5, .int x5), (6, .int x6), (7, .int x7)] [] := by
  intro n
  induction n with
  | zero =>
    intro x0 x1 x2 x3 x4 x5 x6 x7 S k0 hf
    cases hf
  | succ n ih =>
    intro x0 x1 x2 x3 x4 x5 x6 x7 S k0 hf hk0
    rw [f_X9_findsFan_L29] at hf
    refine h_iload dX9_findsFan_29 7 rfl ?_
    refine h_bipush (v := 80) dX9_findsFan_31 rfl ?_
    refine h_icmp_ge (tgt := 158) dX9_findsFan_33 (by decide) (fun c1 => ?_) (fun c1 => ?_)
    · replace hf := hif_p c1 hf
      refine h_sub (lv2 := [(0, .ref x0), (1, .int x1), (2, .int x2), (3, .int x3), (4, .int x4), (5, .int x5), (6, .int x6)]) [0, 1, 2, 3, 4, 5, 6] rfl ?_
      exact hk0 x5 S hf
    · replace hf := hif_n c1 hf
      refine h_iload dX9_findsFan_36 5 rfl ?_
      refine h_if_ne (tgt := 158) dX9_findsFan_38 (by decide) (fun c2 => ?_) (fun c2 => ?_)
      · replace hf := hif_n c2 hf
        refine h_sub (lv2 := [(0, .ref x0), (1, .int x1), (2, .int x2), (3, .int x3), (4, .int x4), (5, .int x5), (6, .int x6)]) [0, 1, 2, 3, 4, 5, 6] rfl ?_
        exact hk0 x5 S hf
      · replace hf := hif_p c2 hf
        refine h_iconst (v := 1) dX9_findsFan_41 rfl ?_
        refine h_istore (lv2 := [(8, .int 1), (0, .ref x0), (1, .int x1), (2, .int x2), (3, .int x3), (4, .int x4), (5, .int x5), (6, .int x6), (7, .int x7)]) dX9_findsFan_42 (Nat.le_of_ble_eq_true rfl) rfl ?_
        refine h_sub (lv2 := [(0, .ref x0), (1, .int x1), (2, .int x2), (3, .int x3), (4, .int x4), (5, .int x5), (6, .int x6), (7, .int x7), (8, .int 1)]) [1, 2, 3, 4, 5, 6, 7, 8, 0] rfl ?_
        refine w_X9_findsFan_L44 hd hfuel x0 x1 x2 x3 x4 x5 x6 x7 1 S _  hf ?_
        · intro u3 S4 hf
          refine h_iinc (q := 7) (v := x7 + 1) (lv2 := [(7, .int (x7 + 1)), (0, .ref x0), (1, .int x1), (2, .int x2), (3, .int x3), (4, .int x4), (5, .int u3), (6, .int x6)]) dX9_findsFan_152 rfl rfl (Nat.le_of_ble_eq_true rfl) rfl ?_
          refine h_goto (tgt := 29) dX9_findsFan_155 (by decide) ?_
          refine h_sub (lv2 := [(0, .ref x0), (1, .int x1), (2, .int x2), (3, .int x3), (4, .int x4), (5, .int u3), (6, .int x6), (7, .int (x7 + 1))]) [1, 2, 3, 4, 5, 6, 7, 0] rfl ?_
          exact ih x0 x1 x2 x3 x4 u3 x6 (x7 + 1) S4 k0  hf hk0
set_option maxRecDepth 100000 in
set_option maxHeartbeats 4000000 in
theorem w_X9_findsFan_L14 {d : Nat} {S0 : hS} {args : List Value} {cs : Nat → Nat} {r : Int32 × hS} (hd : 9 ≤ d) : ∀ (n : Nat) (x0 : Nat) (x1 : Int32) (x2 : Int32) (x3 : Int32) (x4 : Int32) (x5 : Int32) (x6 : Int32) (S : hS) (k0 : (Int32 → hS → Option (Int32 × hS))) , f_X9_findsFan_L14 n x0 x1 x2 x3 x4 x5 x6 S k0 = some r → (∀ (y5 : Int32) (T : hS), k0 y5 T = some r → HW cX9_findsFan RX9 (x_X9_findsFan d S0 args r cs) 0 0 T 164 [(5, .int y5)] []) → HW cX9_findsFan RX9 (x_X9_findsFan d S0 args r cs) 0 0 S 14 [(0, .ref x0), (1, .int x1), (2, .int x2), (3, .int x3), (4, .int x4), (5, .int x5), (6, .int x6)] [] := by
  intro n
  induction n with
  | zero =>
    intro x0 x1 x2 x3 x4 x5 x6 S k0 hf
    cases hf
  | succ n ih =>
    intro x0 x1 x2 x3 x4 x5 x6 S k0 hf hk0
    rw [f_X9_findsFan_L14] at hf
    refine h_iload dX9_findsFan_14 6 rfl ?_
    refine h_bipush (v := 9) dX9_findsFan_16 rfl ?_
    refine h_icmp_gt (tgt := 164) dX9_findsFan_18 (by decide) (fun c1 => ?_) (fun c1 => ?_)
    · replace hf := hif_p c1 hf
      refine h_sub (lv2 := [(5, .int x5)]) [5] rfl ?_
      exact hk0 x5 S hf
    · replace hf := hif_n c1 hf
      refine h_iload dX9_findsFan_21 5 rfl ?_
      refine h_if_ne (tgt := 164) dX9_findsFan_23 (by decide) (fun c2 => ?_) (fun c2 => ?_)
      · replace hf := hif_n c2 hf
        refine h_sub (lv2 := [(5, .int x5)]) [5] rfl ?_
        exact hk0 x5 S hf
      · replace hf := hif_p c2 hf
        refine h_iconst (v := 0) dX9_findsFan_26 rfl ?_
        refine h_istore (lv2 := [(7, .int 0), (0, .ref x0), (1, .int x1), (2, .int x2), (3, .int x3), (4, .int x4), (5, .int x5), (6, .int x6)]) dX9_findsFan_27 (Nat.le_of_ble_eq_true rfl) rfl ?_
        refine h_sub (lv2 := [(0, .ref x0), (1, .int x1), (2, .int x2), (3, .int x3), (4, .int x4), (5, .int x5), (6, .int x6), (7, .int 0)]) [1, 2, 3, 4, 5, 6, 7, 0] rfl ?_
        refine w_X9_findsFan_L29 hd hfuel x0 x1 x2 x3 x4 x5 x6 0 S _  hf ?_
        · intro u3 S4 hf
          refine h_iinc (q := 6) (v := x6 + 1) (lv2 := [(6, .int (x6 + 1)), (0, .ref x0), (1, .int x1), (2, .int x2), (3, .int x3), (4, .int x4), (5, .int u3)]) dX9_findsFan_158 rfl rfl (Nat.le_of_ble_eq_true rfl) rfl ?_
          refine h_goto (tgt := 14) dX9_findsFan_161 (by decide) ?_
          refine h_sub (lv2 := [(0, .ref x0), (1, .int x1), (2, .int x2), (3, .int x3), (4, .int x4), (5, .int u3), (6, .int (x6 + 1))]) [1, 2, 3, 4, 5, 6, 0] rfl ?_
          exact ih x0 x1 x2 x3 x4 u3 (x6 + 1) S4 k0  hf hk0
set_option maxRecDepth 100000 in
set_option maxHeartbeats 4000000 in
theorem m_X9_findsFan {d : Nat} {cs : Nat → Nat} {a0 : Nat} {a1 : Int32} {a2 : Int32} {a3 : Int32} {S : hS} {r : Int32 × hS} (hd : 9 ≤ d) (hf : f_X9_findsFan a0 a1 a2 a3 S = some r) : HM yX9_findsFan cX9_findsFan 9 (some .boolean) d 0 0 cs [.ref a0, .int a1, .int a2, .int a3] S (some (.int r.1)) r.2 := by
  unfold f_X9_findsFan at hf
  refine HM.ofHW false (by decide) (fun h => by cases h) (Nat.le_of_ble_eq_true rfl) ?_
  show HW cX9_findsFan RX9 (x_X9_findsFan d S [.ref a0, .int a1, .int a2, .int a3] r cs) 0 0 S 0 [(0, .ref a0), (1, .int a1), (2, .int a2), (3, .int a3)] []
  refine h_aload_n dX9_findsFan_0 rfl 0 rfl ?_
  obtain ⟨t5, h6, hf⟩ := hbd_s hf
  refine h_getR h6 rfl (Nat.le_of_ble_eq_true rfl) rfl q_961 rfl dX9_findsFan_1 ?_
  refine h_iconst (v := 3) dX9_findsFan_4 rfl ?_
  obtain ⟨t7, h8, hf⟩ := hbd_s hf
  refine h_iald h8 dX9_findsFan_5 ?_
  refine h_istore (lv2 := [(4, .int t7), (0, .ref a0), (1, .int a1), (2, .int a2), (3, .int a3)]) dX9_findsFan_6 (Nat.le_of_ble_eq_true rfl) rfl ?_
  refine h_iconst (v := 0) dX9_findsFan_8 rfl ?_
  refine h_istore (lv2 := [(5, .int 0), (4, .int t7), (0, .ref a0), (1, .int a1), (2, .int a2), (3, .int a3)]) dX9_findsFan_9 (Nat.le_of_ble_eq_true rfl) rfl ?_
  refine h_iconst (v := 1) dX9_findsFan_11 rfl ?_
  refine h_istore (lv2 := [(6, .int 1), (5, .int 0), (4, .int t7), (0, .ref a0), (1, .int a1), (2, .int a2), (3, .int a3)]) dX9_findsFan_12 (Nat.le_of_ble_eq_true rfl) rfl ?_
  refine h_sub (lv2 := [(0, .ref a0), (1, .int a1), (2, .int a2), (3, .int a3), (4, .int t7), (5, .int 0), (6, .int 1)]) [3, 4, 5, 6, 2, 1, 0] rfl ?_
  refine w_X9_findsFan_L14 hd hfuel a0 a1 a2 a3 t7 0 1 S _  hf ?_
  · intro u9 S10 hf
    refine h_iload dX9_findsFan_164 0 rfl ?_
    obtain ⟨hz, hf⟩ := hck_s hf
    obtain rfl := Option.some.inj hf
    exact h_zret rfl hz rfl rfl (Nat.le_refl _) (Nat.le_refl _) dX9_findsFan_166
abbrev x_X9_fanned (d : Nat) (S0 : hS) (args : List Value) (r : Int32 × hS) (cs : Nat → Nat) : hX := (((some .int), 6, d, 0, 0, false), (S0, args, some (.int r.1), r.2), cs)
theorem v_X9_fanned : hVW yX9_fanned cX9_fanned 6 (some .int) RX9 5 := ⟨q_1504, q_1505, q_9, q_1506, by decide +kernel, by decide⟩
def f_X9_fanned (a0 : Nat) (a1 : Int32) (a2 : Int32) (a3 : Int32) (a4 : Int32) (a5 : Int32) (S : hS) : Option (Int32 × hS) :=
  hck (S.K a0 = 10) <|
  hb2 (f_X9_isAsked a0 a1 a2 10 S) fun t3 S2 =>
  if t3 = 0 then
    (some ((-1), S2))
  else
    (hck (S2.K a0 = 10) <|
     hb2 (f_X9_isSeat a0 a3 a4 S2) fun t7 S6 =>
     if t7 = 0 then
       (some ((-1), S6))
     else
       (hb2 (f_X9_in (Int32.toInt64 a5) 0 3 S6) fun t11 S10 =>
        if t11 = 0 then
          (some ((-1), S10))
        else
          (hck (S10.K a0 = 10) <|
           hb2 (f_X9_findsFan a0 a1 a2 ((10 * a4) + a3) S10) fun t15 S14 =>
           if t15 = 0 then
             (some ((-2), S14))
           else
             (if a5 = 0 then
                (hbd (gI S14 a0 9 52) fun t26 =>
                 some (t26, S14))
              else
                (if a5 = 3 then
                   (hbd (gI S14 a0 9 54) fun t24 =>
                    some (t24, S14))
                 else
                   (hbd (gI S14 a0 9 53) fun t19 =>
                    hb2 (f_X9_part t19 (a5 - 1) S14) fun t23 S22 =>
                    some (t23, S22)))))))
set_option maxRecDepth 100000 in
set_option maxHeartbeats 4000000 in
theorem m_X9_fanned {d : Nat} {cs : Nat → Nat} {a0 : Nat} {a1 : Int32} {a2 : Int32} {a3 : Int32} {a4 : Int32} {a5 : Int32} {S : hS} {r : Int32 × hS} (hd : 10 ≤ d) (hf : f_X9_fanned a0 a1 a2 a3 a4 a5 S = some r) : HM yX9_fanned cX9_fanned 6 (some .int) d 0 0 cs [.ref a0, .int a1, .int a2, .int a3, .int a4, .int a5] S (some (.int r.1)) r.2 := by
  unfold f_X9_fanned at hf
  refine HM.ofHW false (by decide) (fun h => by cases h) (Nat.le_of_ble_eq_true rfl) ?_
  show HW cX9_fanned RX9 (x_X9_fanned d S [.ref a0, .int a1, .int a2, .int a3, .int a4, .int a5] r cs) 0 0 S 0 [(0, .ref a0), (1, .int a1), (2, .int a2), (3, .int a3), (4, .int a4), (5, .int a5)] []
  refine h_aload_n dX9_fanned_0 rfl 0 rfl ?_
  refine h_iload_n dX9_fanned_1 rfl 1 rfl ?_
  refine h_iload_n dX9_fanned_2 rfl 2 rfl ?_
  refine h_bipush (v := 10) dX9_fanned_3 rfl ?_
  obtain ⟨g30, hf⟩ := hck_s hf
  obtain ⟨t3, S2, h1, hf⟩ := hb2_s hf
  refine h_Vi [.int a1, .int a2, .int 10] (rest := []) (m_X9_isAsked (d := 3) (cs := cs) (Nat.le_refl _) h1) v_X9_isAsked q_1440 rfl (Nat.le_trans (by decide) hd) g30 rfl rfl (Nat.le_of_ble_eq_true rfl) dX9_fanned_5 (Nat.le_refl _) (Nat.le_refl _) ?_
  refine h_if_eq (tgt := 34) dX9_fanned_8 (by decide) (fun c4 => ?_) (fun c4 => ?_)
  · replace hf := hif_p c4 hf
    refine h_iconst (v := (-1)) dX9_fanned_34 rfl ?_
    obtain rfl := Option.some.inj hf
    exact h_iret rfl rfl rfl (Nat.le_refl _) (Nat.le_refl _) dX9_fanned_35
  · replace hf := hif_n c4 hf
    refine h_aload_n dX9_fanned_11 rfl 0 rfl ?_
    refine h_iload_n dX9_fanned_12 rfl 3 rfl ?_
    refine h_iload dX9_fanned_13 4 rfl ?_
    obtain ⟨g29, hf⟩ := hck_s hf
    obtain ⟨t7, S6, h5, hf⟩ := hb2_s hf
    refine h_Vi [.int a3, .int a4] (rest := []) (m_X9_isSeat (d := 2) (cs := cs) (Nat.le_refl _) h5) v_X9_isSeat q_1324 rfl (Nat.le_trans (by decide) hd) g29 rfl rfl (Nat.le_of_ble_eq_true rfl) dX9_fanned_15 (Nat.le_refl _) (Nat.le_refl _) ?_
    refine h_if_eq (tgt := 34) dX9_fanned_18 (by decide) (fun c8 => ?_) (fun c8 => ?_)
    · replace hf := hif_p c8 hf
      refine h_iconst (v := (-1)) dX9_fanned_34 rfl ?_
      obtain rfl := Option.some.inj hf
      exact h_iret rfl rfl rfl (Nat.le_refl _) (Nat.le_refl _) dX9_fanned_35
    · replace hf := hif_n c8 hf
      refine h_iload dX9_fanned_21 5 rfl ?_
      refine h_i2l dX9_fanned_23 ?_
      refine h_lconst (v := 0) dX9_fanned_24 rfl ?_
      refine h_ldc2 (v := 3) dX9_fanned_25 q_1507 ?_
      obtain ⟨t11, S10, h9, hf⟩ := hb2_s hf
      refine h_Si [.long (Int32.toInt64 a5), .long 0, .long 3] (rest := []) (m_X9_in (d := 1) (cs := cs) (Nat.le_refl _) h9) v_X9_in q_1225 rfl (Nat.le_trans (by decide) hd) rfl (Nat.le_of_ble_eq_true rfl) dX9_fanned_28 (Nat.le_refl _) (Nat.le_refl _) ?_
      refine h_if_ne (tgt := 36) dX9_fanned_31 (by decide) (fun c12 => ?_) (fun c12 => ?_)
      · replace hf := hif_n c12 hf
        refine h_aload_n dX9_fanned_36 rfl 0 rfl ?_
        refine h_iload_n dX9_fanned_37 rfl 1 rfl ?_
        refine h_iload_n dX9_fanned_38 rfl 2 rfl ?_
        refine h_bipush (v := 10) dX9_fanned_39 rfl ?_
        refine h_iload dX9_fanned_41 4 rfl ?_
        refine h_imul dX9_fanned_43 ?_
        refine h_iload_n dX9_fanned_44 rfl 3 rfl ?_
        refine h_iadd dX9_fanned_45 ?_
        obtain ⟨g28, hf⟩ := hck_s hf
        obtain ⟨t15, S14, h13, hf⟩ := hb2_s hf
        refine h_Vi [.int a1, .int a2, .int ((10 * a4) + a3)] (rest := []) (m_X9_findsFan (d := 9) (cs := cs) (Nat.le_refl _) h13) v_X9_findsFan q_1508 rfl (Nat.le_trans (by decide) hd) g28 rfl rfl (Nat.le_of_ble_eq_true rfl) dX9_fanned_46 (Nat.le_refl _) (Nat.le_refl _) ?_
        refine h_if_ne (tgt := 55) dX9_fanned_49 (by decide) (fun c16 => ?_) (fun c16 => ?_)
        · replace hf := hif_n c16 hf
          refine h_iload dX9_fanned_55 5 rfl ?_
          refine h_if_ne (tgt := 67) dX9_fanned_57 (by decide) (fun c17 => ?_) (fun c17 => ?_)
          · replace hf := hif_n c17 hf
            refine h_iload dX9_fanned_67 5 rfl ?_
            refine h_iconst (v := 3) dX9_fanned_69 rfl ?_
            refine h_icmp_ne (tgt := 80) dX9_fanned_70 (by decide) (fun c18 => ?_) (fun c18 => ?_)
            · replace hf := hif_n c18 hf
              refine h_aload_n dX9_fanned_80 rfl 0 rfl ?_
              obtain ⟨t19, h20, hf⟩ := hbd_s hf
              refine h_getI h20 rfl (Nat.le_of_ble_eq_true rfl) rfl q_1013 rfl dX9_fanned_81 ?_
              refine h_iload dX9_fanned_84 5 rfl ?_
              refine h_iconst (v := 1) dX9_fanned_86 rfl ?_
              refine h_isub dX9_fanned_87 ?_
              obtain ⟨t23, S22, h21, hf⟩ := hb2_s hf
              refine h_Si [.int t19, .int (a5 - 1)] (rest := []) (m_X9_part (d := 1) (cs := cs) (Nat.le_refl _) h21) v_X9_part q_1456 rfl (Nat.le_trans (by decide) hd) rfl (Nat.le_of_ble_eq_true rfl) dX9_fanned_88 (Nat.le_refl _) (Nat.le_refl _) ?_
              obtain rfl := Option.some.inj hf
              exact h_iret rfl rfl rfl (Nat.le_refl _) (Nat.le_refl _) dX9_fanned_91
            · replace hf := hif_p c18 hf
              refine h_aload_n dX9_fanned_73 rfl 0 rfl ?_
              obtain ⟨t24, h25, hf⟩ := hbd_s hf
              refine h_getI h25 rfl (Nat.le_of_ble_eq_true rfl) rfl q_1014 rfl dX9_fanned_74 ?_
              refine h_goto (tgt := 91) dX9_fanned_77 (by decide) ?_
              obtain rfl := Option.some.inj hf
              exact h_iret rfl rfl rfl (Nat.le_refl _) (Nat.le_refl _) dX9_fanned_91
          · replace hf := hif_p c17 hf
            refine h_aload_n dX9_fanned_60 rfl 0 rfl ?_
            obtain ⟨t26, h27, hf⟩ := hbd_s hf
            refine h_getI h27 rfl (Nat.le_of_ble_eq_true rfl) rfl q_1012 rfl dX9_fanned_61 ?_
            refine h_goto (tgt := 91) dX9_fanned_64 (by decide) ?_
            obtain rfl := Option.some.inj hf
            exact h_iret rfl rfl rfl (Nat.le_refl _) (Nat.le_refl _) dX9_fanned_91
        · replace hf := hif_p c16 hf
          refine h_bipush (v := (-2)) dX9_fanned_52 rfl ?_
          obtain rfl := Option.some.inj hf
          exact h_iret rfl rfl rfl (Nat.le_refl _) (Nat.le_refl _) dX9_fanned_54
      · replace hf := hif_p c12 hf
        refine h_iconst (v := (-1)) dX9_fanned_34 rfl ?_
        obtain rfl := Option.some.inj hf
        exact h_iret rfl rfl rfl (Nat.le_refl _) (Nat.le_refl _) dX9_fanned_35
abbrev x_X9_span (d : Nat) (S0 : hS) (args : List Value) (r : Int32 × hS) (cs : Nat → Nat) : hX := (((some .int), 12, d, 0, 0, false), (S0, args, some (.int r.1), r.2), cs)
theorem v_X9_span : hVW yX9_span cX9_span 12 (some .int) RX9 5 := ⟨q_1513, q_1514, q_9, q_1515, by decide +kernel, by decide⟩
def f_X9_span_L50 : Nat → Nat → Int32 → hS → (hS → Option (Int32 × hS)) → Option (Int32 × hS)
  | 0, _, _, _, _ => none
  | n + 1, x0, x6, S, k0 =>
    if 80 ≤ x6 then
      (k0 S)
    else
      (hbd (gR S x0 9 55) fun t2 =>
       hbd (sAZ S t2 x6 0) fun S4 =>
       f_X9_span_L50 n x0 (x6 + 1) S4 k0)
def f_X9_span_L97 : Nat → Nat → Int32 → Int32 → Int32 → Int32 → Int32 → Int32 → hS → (hS → Option (Int32 × hS)) → Option (Int32 × hS)
  | 0, _, _, _, _, _, _, _, _, _ => none
  | n + 1, x0, x1, x2, x3, x4, x6, x7, S, k0 =>
    if (x6 + x4) < x7 then
      (k0 S)
    else
      (if 99 < x7 then
         (k0 S)
       else
         (hbd (gR S x0 9 4) fun t3 =>
          hbd (sA S t3 x3 x7) fun S5 =>
          hbd (gR S5 x0 9 55) fun t7 =>
          hck (S5.K x0 = 10) <|
          hb2 (f_X9_spotIn x0 x1 x2 S5) fun t11 S10 =>
          hbd (sAZ S10 t7 t11 1) fun S12 =>
          f_X9_span_L97 n x0 x1 x2 x3 x4 x6 (x7 + 1) S12 k0))
def f_X9_span_L161 : Nat → Nat → Int32 → Int32 → Int32 → Int32 → Int32 → hS → (Int32 → Int32 → Int32 → hS → Option (Int32 × hS)) → Option (Int32 × hS)
  | 0, _, _, _, _, _, _, _, _ => none
  | n + 1, x0, x5, x7, x8, x9, x10, S, k0 =>
    if 80 ≤ x10 then
      (k0 x7 x8 x9 S)
    else
      (hbd (gR S x0 9 55) fun t2 =>
       hbd (gA S t2 14 x10) fun t4 =>
       if t4 = 0 then
         (f_X9_span_L161 n x0 x5 x7 x8 x9 (x10 + 1) S k0)
       else
         (hj (γ := Int32 → Option (Int32 × hS)) (fun (v8 : Int32) =>
            hb2 (f_X9_part x10 v8 S) fun t11 S10 =>
            hj (γ := Int32 → Option (Int32 × hS)) (fun (v13 : Int32) =>
              hj (γ := Int32 → Option (Int32 × hS)) (fun (v15 : Int32) =>
                f_X9_span_L161 n x0 x5 (x7 + 1) v13 v15 (x10 + 1) S10 k0
                ) fun J14 =>
              if t11 ≤ x9 then
                (J14 x9)
              else
                (J14 t11)
              ) fun J12 =>
            if x8 ≤ t11 then
              (J12 x8)
            else
              (J12 t11)
            ) fun J7 =>
          if 2 ≤ x5 then
            (J7 1)
          else
            (J7 0)))
def f_X9_span (a0 : Nat) (a1 : Int32) (a2 : Int32) (a3 : Int32) (a4 : Int32) (a5 : Int32) (S : hS) : Option (Int32 × hS) :=
  hck (S.K a0 = 10) <|
  hb2 (f_X9_isAsked a0 a1 a2 60 S) fun t21 S20 =>
  if t21 = 0 then
    (some ((-1), S20))
  else
    (hck (S20.K a0 = 10) <|
     hb2 (f_X9_isHere a0 a3 S20) fun t25 S24 =>
     if t25 = 0 then
       (some ((-1), S24))
     else
       (hb2 (f_X9_in (Int32.toInt64 a4) 0 20 S24) fun t29 S28 =>
        if t29 = 0 then
          (some ((-1), S28))
        else
          (hb2 (f_X9_in (Int32.toInt64 a5) 0 4 S28) fun t33 S32 =>
           if t33 = 0 then
             (some ((-1), S32))
           else
             (f_X9_span_L50 hfuel a0 0 S32
                (fun S35 =>
                  hbd (gR S35 a0 9 4) fun t36 =>
                  hbd (gA S35 t36 12 a3) fun t38 =>
                  hj (γ := Int32 → Option (Int32 × hS)) (fun (v41 : Int32) =>
                    f_X9_span_L97 hfuel a0 a1 a2 a3 a4 t38 v41 S35
                      (fun S42 =>
                        hbd (gR S42 a0 9 4) fun t43 =>
                        hbd (sA S42 t43 a3 t38) fun S45 =>
                        f_X9_span_L161 hfuel a0 a5 0 80 (-1) 0 S45
                          (fun u47 u48 u49 S50 =>
                            if a5 = 4 then
                              (some (u47, S50))
                            else
                              (if (a5 - a5 / 2 * 2) = 0 then
                                 (some (u48, S50))
                               else
                                 (some (u49, S50)))
                          )
                      )
                    ) fun J40 =>
                  if t38 ≤ a4 then
                    (J40 0)
                  else
                    (J40 (t38 - a4))
                )))))
set_option maxRecDepth 100000 in
set_option maxHeartbeats 4000000 in
theorem w_X9_span_L50 {d : Nat} {S0 : hS} {args : List Value} {cs : Nat → Nat} {r : Int32 × hS} (hd : 9 ≤ d) : ∀ (n : Nat) (x0 : Nat) (x6 : Int32) (S : hS) (k0 : (hS → Option (Int32 × hS))) (z1 : Int32) (z2 : Int32) (z3 : Int32) (z4 : Int32) (z5 : Int32), f_X9_span_L50 n x0 x6 S k0 = some r → (∀ (T : hS), k0 T = some r → HW cX9_span RX9 (x_X9_span d S0 args r cs) 0 0 T 71 [(0, .ref x0), (1, .int z1), (2, .int z2), (3, .int z3), (4, .int z4), (5, .int z5)] []) → HW cX9_span RX9 (x_X9_span d S0 args r cs) 0 0 S 50 [(0, .ref x0), (1, .int z1), (2, .int z2), (3, .int z3), (4, .int z4), (5, .int z5), (6, .int x6)] [] := by
  intro n
  induction n with
  | zero =>
    intro x0 x6 S k0 z1 z2 z3 z4 z5 hf
    cases hf
  | succ n ih =>
    intro x0 x6 S k0 z1 z2 z3 z4 z5 hf hk0
    rw [f_X9_span_L50] at hf
    refine h_iload dX9_span_50 6 rfl ?_
    refine h_bipush (v := 80) dX9_span_52 rfl ?_
    refine h_icmp_ge (tgt := 71) dX9_span_54 (by decide) (fun c1 => ?_) (fun c1 => ?_)
    · replace hf := hif_p c1 hf
      refine h_sub (lv2 := [(0, .ref x0), (1, .int z1), (2, .int z2), (3, .int z3), (4, .int z4), (5, .int z5)]) [0, 1, 2, 3, 4, 5] rfl ?_
      exact hk0 S hf
    · replace hf := hif_n c1 hf
      refine h_aload_n dX9_span_57 rfl 0 rfl ?_
      obtain ⟨t2, h3, hf⟩ := hbd_s hf
      refine h_getR h3 rfl (Nat.le_of_ble_eq_true rfl) rfl q_1015 rfl dX9_span_58 ?_
      refine h_iload dX9_span_61 6 rfl ?_
      refine h_iconst (v := 0) dX9_span_63 rfl ?_
      obtain ⟨S4, h5, hf⟩ := hbd_s hf
      refine h_zast h5 dX9_span_64 ?_
      refine h_iinc (q := 6) (v := x6 + 1) (lv2 := [(6, .int (x6 + 1)), (0, .ref x0), (1, .int z1), (2, .int z2), (3, .int z3), (4, .int z4), (5, .int z5)]) dX9_span_65 rfl rfl (Nat.le_of_ble_eq_true rfl) rfl ?_
      refine h_goto (tgt := 50) dX9_span_68 (by decide) ?_
      refine h_sub (lv2 := [(0, .ref x0), (1, .int z1), (2, .int z2), (3, .int z3), (4, .int z4), (5, .int z5), (6, .int (x6 + 1))]) [1, 2, 3, 4, 5, 6, 0] rfl ?_
      exact ih x0 (x6 + 1) S4 k0 z1 z2 z3 z4 z5 hf hk0
set_option maxRecDepth 100000 in
set_option maxHeartbeats 4000000 in
theorem w_X9_span_L97 {d : Nat} {S0 : hS} {args : List Value} {cs : Nat → Nat} {r : Int32 × hS} (hd : 9 ≤ d) : ∀ (n : Nat) (x0 : Nat) (x1 : Int32) (x2 : Int32) (x3 : Int32) (x4 : Int32) (x6 : Int32) (x7 : Int32) (S : hS) (k0 : (hS → Option (Int32 × hS))) (z5 : Int32), f_X9_span_L97 n x0 x1 x2 x3 x4 x6 x7 S k0 = some r → (∀ (T : hS), k0 T = some r → HW cX9_span RX9 (x_X9_span d S0 args r cs) 0 0 T 140 [(0, .ref x0), (3, .int x3), (5, .int z5), (6, .int x6)] []) → HW cX9_span RX9 (x_X9_span d S0 args r cs) 0 0 S 97 [(0, .ref x0), (1, .int x1), (2, .int x2), (3, .int x3), (4, .int x4), (5, .int z5), (6, .int x6), (7, .int x7)] [] := by
  intro n
  induction n with
  | zero =>
    intro x0 x1 x2 x3 x4 x6 x7 S k0 z5 hf
    cases hf
  | succ n ih =>
    intro x0 x1 x2 x3 x4 x6 x7 S k0 z5 hf hk0
    rw [f_X9_span_L97] at hf
    refine h_iload dX9_span_97 7 rfl ?_
    refine h_iload dX9_span_99 6 rfl ?_
    refine h_iload dX9_span_101 4 rfl ?_
    refine h_iadd dX9_span_103 ?_
    refine h_icmp_gt (tgt := 140) dX9_span_104 (by decide) (fun c1 => ?_) (fun c1 => ?_)
    · replace hf := hif_p c1 hf
      refine h_sub (lv2 := [(0, .ref x0), (3, .int x3), (5, .int z5), (6, .int x6)]) [0, 3, 5, 6] rfl ?_
      exact hk0 S hf
    · replace hf := hif_n c1 hf
      refine h_iload dX9_span_107 7 rfl ?_
      refine h_bipush (v := 99) dX9_span_109 rfl ?_
      refine h_icmp_gt (tgt := 140) dX9_span_111 (by decide) (fun c2 => ?_) (fun c2 => ?_)
      · replace hf := hif_p c2 hf
        refine h_sub (lv2 := [(0, .ref x0), (3, .int x3), (5, .int z5), (6, .int x6)]) [0, 3, 5, 6] rfl ?_
        exact hk0 S hf
      · replace hf := hif_n c2 hf
        refine h_aload_n dX9_span_114 rfl 0 rfl ?_
        obtain ⟨t3, h4, hf⟩ := hbd_s hf
        refine h_getR h4 rfl (Nat.le_of_ble_eq_true rfl) rfl q_964 rfl dX9_span_115 ?_
        refine h_iload_n dX9_span_118 rfl 3 rfl ?_
        refine h_iload dX9_span_119 7 rfl ?_
        obtain ⟨S5, h6, hf⟩ := hbd_s hf
        refine h_iast h6 dX9_span_121 ?_
        refine h_aload_n dX9_span_122 rfl 0 rfl ?_
        obtain ⟨t7, h8, hf⟩ := hbd_s hf
        refine h_getR h8 rfl (Nat.le_of_ble_eq_true rfl) rfl q_1015 rfl dX9_span_123 ?_
        refine h_aload_n dX9_span_126 rfl 0 rfl ?_
        refine h_iload_n dX9_span_127 rfl 1 rfl ?_
        refine h_iload_n dX9_span_128 rfl 2 rfl ?_
        obtain ⟨g14, hf⟩ := hck_s hf
        obtain ⟨t11, S10, h9, hf⟩ := hb2_s hf
        refine h_Vi [.int x1, .int x2] (rest := [.ref t7]) (m_X9_spotIn (d := 8) (cs := cs) (Nat.le_refl _) h9) v_X9_spotIn q_1444 rfl (Nat.le_trans (by decide) hd) g14 rfl rfl (Nat.le_of_ble_eq_true rfl) dX9_span_129 (Nat.le_refl _) (Nat.le_refl _) ?_
        refine h_iconst (v := 1) dX9_span_132 rfl ?_
        obtain ⟨S12, h13, hf⟩ := hbd_s hf
        refine h_zast h13 dX9_span_133 ?_
        refine h_iinc (q := 7) (v := x7 + 1) (lv2 := [(7, .int (x7 + 1)), (0, .ref x0), (1, .int x1), (2, .int x2), (3, .int x3), (4, .int x4), (5, .int z5), (6, .int x6)]) dX9_span_134 rfl rfl (Nat.le_of_ble_eq_true rfl) rfl ?_
        refine h_goto (tgt := 97) dX9_span_137 (by decide) ?_
        refine h_sub (lv2 := [(0, .ref x0), (1, .int x1), (2, .int x2), (3, .int x3), (4, .int x4), (5, .int z5), (6, .int x6), (7, .int (x7 + 1))]) [1, 2, 3, 4, 5, 6, 7, 0] rfl ?_
        exact ih x0 x1 x2 x3 x4 x6 (x7 + 1) S12 k0 z5 hf hk0
set_option maxRecDepth 100000 in
set_option maxHeartbeats 4000000 in
theorem w_X9_span_L161 {d : Nat} {S0 : hS} {args : List Value} {cs : Nat → Nat} {r : Int32 × hS} (hd : 9 ≤ d) : ∀ (n : Nat) (x0 : Nat) (x5 : Int32) (x7 : Int32) (x8 : Int32) (x9 : Int32) (x10 : Int32) (S : hS) (k0 : (Int32 → Int32 → Int32 → hS → Option (Int32 × hS))) , f_X9_span_L161 n x0 x5 x7 x8 x9 x10 S k0 = some r → (∀ (y7 : Int32) (y8 : Int32) (y9 : Int32) (T : hS), k0 y7 y8 y9 T = some r → HW cX9_span RX9 (x_X9_span d S0 args r cs) 0 0 T 237 [(5, .int x5), (7, .int y7), (8, .int y8), (9, .int y9)] []) → HW cX9_span RX9 (x_X9_span d S0 args r cs) 0 0 S 161 [(0, .ref x0), (5, .int x5), (7, .int x7), (8, .int x8), (9, .int x9), (10, .int x10)] [] := by
  intro n
  induction n with
  | zero =>
    intro x0 x5 x7 x8 x9 x10 S k0 hf
    cases hf
  | succ n ih =>
    intro x0 x5 x7 x8 x9 x10 S k0 hf hk0
    rw [f_X9_span_L161] at hf
    refine h_iload dX9_span_161 5 rfl ?_
    refine h_bipush (v := 80) dX9_span_163 rfl ?_
    refine h_icmp_ge (tgt := 237) dX9_span_165 (by decide) (fun c1 => ?_) (fun c1 => ?_)
    · replace hf := hif_p c1 hf
      refine h_sub (lv2 := [(5, .int x5), (7, .int x7), (8, .int x8), (9, .int x9)]) [1, 2, 3, 4] rfl ?_
      exact hk0 x7 x8 x9 S hf
    · replace hf := hif_n c1 hf
      refine h_aload_n dX9_span_168 rfl 0 rfl ?_
      obtain ⟨t2, h3, hf⟩ := hbd_s hf
      refine h_getR h3 rfl (Nat.le_of_ble_eq_true rfl) rfl q_1015 rfl dX9_span_169 ?_
      refine h_iload dX9_span_172 5 rfl ?_
      obtain ⟨t4, h5, hf⟩ := hbd_s hf
      refine h_zald h5 dX9_span_174 ?_
      refine h_if_eq (tgt := 231) dX9_span_175 (by decide) (fun c6 => ?_) (fun c6 => ?_)
      · replace hf := hif_p c6 hf
        refine h_iinc (q := 5) (v := x10 + 1) (lv2 := [(10, .int (x10 + 1)), (0, .ref x0), (5, .int x5), (7, .int x7), (8, .int x8), (9, .int x9)]) dX9_span_231 rfl rfl (Nat.le_of_ble_eq_true rfl) rfl ?_
        refine h_goto (tgt := 161) dX9_span_234 (by decide) ?_
        refine h_sub (lv2 := [(0, .ref x0), (5, .int x5), (7, .int x7), (8, .int x8), (9, .int x9), (10, .int (x10 + 1))]) [1, 2, 3, 4, 5, 0] rfl ?_
        exact ih x0 x5 x7 x8 x9 (x10 + 1) S k0  hf hk0
      · replace hf := hif_n c6 hf
        refine h_iload dX9_span_178 5 rfl ?_
        refine h_iload dX9_span_180 1 rfl ?_
        refine h_iconst (v := 2) dX9_span_182 rfl ?_
        refine hj_s (fun J7 => ∀ (v8 : Int32), J7 v8 = some r → HW cX9_span RX9 (x_X9_span d S0 args r cs) 0 0 S 191 [(0, .ref x0), (5, .int x5), (7, .int x7), (8, .int x8), (9, .int x9), (10, .int x10)] [.int v8, .int x10]) hf ?_ ?_
        · intro v8 hf
          obtain ⟨t11, S10, h9, hf⟩ := hb2_s hf
          refine h_Si [.int x10, .int v8] (rest := []) (m_X9_part (d := 1) (cs := cs) (Nat.le_refl _) h9) v_X9_part q_1456 rfl (Nat.le_trans (by decide) hd) rfl (Nat.le_of_ble_eq_true rfl) dX9_span_191 (Nat.le_refl _) (Nat.le_refl _) ?_
          refine h_istore (lv2 := [(11, .int t11), (0, .ref x0), (5, .int x5), (7, .int x7), (8, .int x8), (9, .int x9), (10, .int x10)]) dX9_span_194 (Nat.le_of_ble_eq_true rfl) rfl ?_
          refine h_iload dX9_span_196 0 rfl ?_
          refine h_iload dX9_span_198 4 rfl ?_
          refine hj_s (fun J12 => ∀ (v13 : Int32), J12 v13 = some r → HW cX9_span RX9 (x_X9_span d S0 args r cs) 0 0 S10 210 [(0, .ref x0), (5, .int x5), (7, .int x7), (9, .int x9), (10, .int x10), (11, .int t11)] [.int v13]) hf ?_ ?_
          · intro v13 hf
            refine h_istore (lv2 := [(8, .int v13), (0, .ref x0), (5, .int x5), (7, .int x7), (9, .int x9), (10, .int x10), (11, .int t11)]) dX9_span_210 (Nat.le_of_ble_eq_true rfl) rfl ?_
            refine h_iload dX9_span_212 6 rfl ?_
            refine h_iload dX9_span_214 4 rfl ?_
            refine hj_s (fun J14 => ∀ (v15 : Int32), J14 v15 = some r → HW cX9_span RX9 (x_X9_span d S0 args r cs) 0 0 S10 226 [(0, .ref x0), (5, .int x5), (7, .int x7), (8, .int v13), (10, .int x10)] [.int v15]) hf ?_ ?_
            · intro v15 hf
              refine h_istore (lv2 := [(9, .int v15), (0, .ref x0), (5, .int x5), (7, .int x7), (8, .int v13), (10, .int x10)]) dX9_span_226 (Nat.le_of_ble_eq_true rfl) rfl ?_
              refine h_iinc (q := 3) (v := x7 + 1) (lv2 := [(7, .int (x7 + 1)), (9, .int v15), (0, .ref x0), (5, .int x5), (8, .int v13), (10, .int x10)]) dX9_span_228 rfl rfl (Nat.le_of_ble_eq_true rfl) rfl ?_
              refine h_iinc (q := 5) (v := x10 + 1) (lv2 := [(10, .int (x10 + 1)), (7, .int (x7 + 1)), (9, .int v15), (0, .ref x0), (5, .int x5), (8, .int v13)]) dX9_span_231 rfl rfl (Nat.le_of_ble_eq_true rfl) rfl ?_
              refine h_goto (tgt := 161) dX9_span_234 (by decide) ?_
              refine h_sub (lv2 := [(0, .ref x0), (5, .int x5), (7, .int (x7 + 1)), (8, .int v13), (9, .int v15), (10, .int (x10 + 1))]) [3, 4, 1, 5, 2, 0] rfl ?_
              exact ih x0 x5 (x7 + 1) v13 v15 (x10 + 1) S10 k0  hf hk0
            · intro J14 hJ14 hf
              refine h_icmp_le (tgt := 224) dX9_span_216 (by decide) (fun c16 => ?_) (fun c16 => ?_)
              · replace hf := hif_p c16 hf
                refine h_iload dX9_span_224 4 rfl ?_
                refine h_sub (lv2 := [(0, .ref x0), (5, .int x5), (7, .int x7), (8, .int v13), (10, .int x10)]) [1, 2, 3, 0, 5] rfl ?_
                exact hJ14 x9 hf
              · replace hf := hif_n c16 hf
                refine h_iload dX9_span_219 6 rfl ?_
                refine h_goto (tgt := 226) dX9_span_221 (by decide) ?_
                refine h_sub (lv2 := [(0, .ref x0), (5, .int x5), (7, .int x7), (8, .int v13), (10, .int x10)]) [1, 2, 3, 0, 5] rfl ?_
                exact hJ14 t11 hf
          · intro J12 hJ12 hf
            refine h_icmp_ge (tgt := 208) dX9_span_200 (by decide) (fun c17 => ?_) (fun c17 => ?_)
            · replace hf := hif_p c17 hf
              refine h_iload dX9_span_208 4 rfl ?_
              refine h_sub (lv2 := [(0, .ref x0), (5, .int x5), (7, .int x7), (9, .int x9), (10, .int x10), (11, .int t11)]) [1, 2, 3, 5, 6, 0] rfl ?_
              exact hJ12 x8 hf
            · replace hf := hif_n c17 hf
              refine h_iload dX9_span_203 0 rfl ?_
              refine h_goto (tgt := 210) dX9_span_205 (by decide) ?_
              refine h_sub (lv2 := [(0, .ref x0), (5, .int x5), (7, .int x7), (9, .int x9), (10, .int x10), (11, .int t11)]) [1, 2, 3, 5, 6, 0] rfl ?_
              exact hJ12 t11 hf
        · intro J7 hJ7 hf
          refine h_icmp_ge (tgt := 190) dX9_span_183 (by decide) (fun c18 => ?_) (fun c18 => ?_)
          · replace hf := hif_p c18 hf
            refine h_iconst (v := 1) dX9_span_190 rfl ?_
            exact hJ7 1 hf
          · replace hf := hif_n c18 hf
            refine h_iconst (v := 0) dX9_span_186 rfl ?_
            refine h_goto (tgt := 191) dX9_span_187 (by decide) ?_
            exact hJ7 0 hf
set_option maxRecDepth 100000 in
set_option maxHeartbeats 4000000 in
theorem m_X9_span {d : Nat} {cs : Nat → Nat} {a0 : Nat} {a1 : Int32} {a2 : Int32} {a3 : Int32} {a4 : Int32} {a5 : Int32} {S : hS} {r : Int32 × hS} (hd : 9 ≤ d) (hf : f_X9_span a0 a1 a2 a3 a4 a5 S = some r) : HM yX9_span cX9_span 12 (some .int) d 0 0 cs [.ref a0, .int a1, .int a2, .int a3, .int a4, .int a5] S (some (.int r.1)) r.2 := by
  unfold f_X9_span at hf
  refine HM.ofHW false (by decide) (fun h => by cases h) (Nat.le_of_ble_eq_true rfl) ?_
  show HW cX9_span RX9 (x_X9_span d S [.ref a0, .int a1, .int a2, .int a3, .int a4, .int a5] r cs) 0 0 S 0 [(0, .ref a0), (1, .int a1), (2, .int a2), (3, .int a3), (4, .int a4), (5, .int a5)] []
  refine h_aload_n dX9_span_0 rfl 0 rfl ?_
  refine h_iload_n dX9_span_1 rfl 1 rfl ?_
  refine h_iload_n dX9_span_2 rfl 2 rfl ?_
  refine h_bipush (v := 60) dX9_span_3 rfl ?_
  obtain ⟨g55, hf⟩ := hck_s hf
  obtain ⟨t21, S20, h19, hf⟩ := hb2_s hf
  refine h_Vi [.int a1, .int a2, .int 60] (rest := []) (m_X9_isAsked (d := 3) (cs := cs) (Nat.le_refl _) h19) v_X9_isAsked q_1440 rfl (Nat.le_trans (by decide) hd) g55 rfl rfl (Nat.le_of_ble_eq_true rfl) dX9_span_5 (Nat.le_refl _) (Nat.le_refl _) ?_
  refine h_if_eq (tgt := 45) dX9_span_8 (by decide) (fun c22 => ?_) (fun c22 => ?_)
  · replace hf := hif_p c22 hf
    refine h_iconst (v := (-1)) dX9_span_45 rfl ?_
    obtain rfl := Option.some.inj hf
    exact h_iret rfl rfl rfl (Nat.le_refl _) (Nat.le_refl _) dX9_span_46
  · replace hf := hif_n c22 hf
    refine h_aload_n dX9_span_11 rfl 0 rfl ?_
    refine h_iload_n dX9_span_12 rfl 3 rfl ?_
    obtain ⟨g54, hf⟩ := hck_s hf
    obtain ⟨t25, S24, h23, hf⟩ := hb2_s hf
    refine h_Vi [.int a3] (rest := []) (m_X9_isHere (d := 3) (cs := cs) (Nat.le_refl _) h23) v_X9_isHere q_1356 rfl (Nat.le_trans (by decide) hd) g54 rfl rfl (Nat.le_of_ble_eq_true rfl) dX9_span_13 (Nat.le_refl _) (Nat.le_refl _) ?_
    refine h_if_eq (tgt := 45) dX9_span_16 (by decide) (fun c26 => ?_) (fun c26 => ?_)
    · replace hf := hif_p c26 hf
      refine h_iconst (v := (-1)) dX9_span_45 rfl ?_
      obtain rfl := Option.some.inj hf
      exact h_iret rfl rfl rfl (Nat.le_refl _) (Nat.le_refl _) dX9_span_46
    · replace hf := hif_n c26 hf
      refine h_iload dX9_span_19 4 rfl ?_
      refine h_i2l dX9_span_21 ?_
      refine h_lconst (v := 0) dX9_span_22 rfl ?_
      refine h_ldc2 (v := 20) dX9_span_23 q_1516 ?_
      obtain ⟨t29, S28, h27, hf⟩ := hb2_s hf
      refine h_Si [.long (Int32.toInt64 a4), .long 0, .long 20] (rest := []) (m_X9_in (d := 1) (cs := cs) (Nat.le_refl _) h27) v_X9_in q_1225 rfl (Nat.le_trans (by decide) hd) rfl (Nat.le_of_ble_eq_true rfl) dX9_span_26 (Nat.le_refl _) (Nat.le_refl _) ?_
      refine h_if_eq (tgt := 45) dX9_span_29 (by decide) (fun c30 => ?_) (fun c30 => ?_)
      · replace hf := hif_p c30 hf
        refine h_iconst (v := (-1)) dX9_span_45 rfl ?_
        obtain rfl := Option.some.inj hf
        exact h_iret rfl rfl rfl (Nat.le_refl _) (Nat.le_refl _) dX9_span_46
      · replace hf := hif_n c30 hf
        refine h_iload dX9_span_32 5 rfl ?_
        refine h_i2l dX9_span_34 ?_
        refine h_lconst (v := 0) dX9_span_35 rfl ?_
        refine h_ldc2 (v := 4) dX9_span_36 q_1517 ?_
        obtain ⟨t33, S32, h31, hf⟩ := hb2_s hf
        refine h_Si [.long (Int32.toInt64 a5), .long 0, .long 4] (rest := []) (m_X9_in (d := 1) (cs := cs) (Nat.le_refl _) h31) v_X9_in q_1225 rfl (Nat.le_trans (by decide) hd) rfl (Nat.le_of_ble_eq_true rfl) dX9_span_39 (Nat.le_refl _) (Nat.le_refl _) ?_
        refine h_if_ne (tgt := 47) dX9_span_42 (by decide) (fun c34 => ?_) (fun c34 => ?_)
        · replace hf := hif_n c34 hf
          refine h_iconst (v := 0) dX9_span_47 rfl ?_
          refine h_istore (lv2 := [(6, .int 0), (0, .ref a0), (1, .int a1), (2, .int a2), (3, .int a3), (4, .int a4), (5, .int a5)]) dX9_span_48 (Nat.le_of_ble_eq_true rfl) rfl ?_
          refine h_sub (lv2 := [(0, .ref a0), (1, .int a1), (2, .int a2), (3, .int a3), (4, .int a4), (5, .int a5), (6, .int 0)]) [1, 2, 3, 4, 5, 6, 0] rfl ?_
          refine w_X9_span_L50 hd hfuel a0 0 S32 _ a1 a2 a3 a4 a5 hf ?_
          · intro S35 hf
            refine h_aload_n dX9_span_71 rfl 0 rfl ?_
            obtain ⟨t36, h37, hf⟩ := hbd_s hf
            refine h_getR h37 rfl (Nat.le_of_ble_eq_true rfl) rfl q_964 rfl dX9_span_72 ?_
            refine h_iload_n dX9_span_75 rfl 3 rfl ?_
            obtain ⟨t38, h39, hf⟩ := hbd_s hf
            refine h_iald h39 dX9_span_76 ?_
            refine h_istore (lv2 := [(6, .int t38), (0, .ref a0), (1, .int a1), (2, .int a2), (3, .int a3), (4, .int a4), (5, .int a5)]) dX9_span_77 (Nat.le_of_ble_eq_true rfl) rfl ?_
            refine h_iload dX9_span_79 0 rfl ?_
            refine h_iload dX9_span_81 5 rfl ?_
            refine hj_s (fun J40 => ∀ (v41 : Int32), J40 v41 = some r → HW cX9_span RX9 (x_X9_span d S [.ref a0, .int a1, .int a2, .int a3, .int a4, .int a5] r cs) 0 0 S35 95 [(0, .ref a0), (1, .int a1), (2, .int a2), (3, .int a3), (4, .int a4), (5, .int a5), (6, .int t38)] [.int v41]) hf ?_ ?_
            · intro v41 hf
              refine h_istore (lv2 := [(7, .int v41), (0, .ref a0), (1, .int a1), (2, .int a2), (3, .int a3), (4, .int a4), (5, .int a5), (6, .int t38)]) dX9_span_95 (Nat.le_of_ble_eq_true rfl) rfl ?_
              refine h_sub (lv2 := [(0, .ref a0), (1, .int a1), (2, .int a2), (3, .int a3), (4, .int a4), (5, .int a5), (6, .int t38), (7, .int v41)]) [1, 2, 3, 4, 5, 6, 7, 0] rfl ?_
              refine w_X9_span_L97 hd hfuel a0 a1 a2 a3 a4 t38 v41 S35 _ a5 hf ?_
              · intro S42 hf
                refine h_aload_n dX9_span_140 rfl 0 rfl ?_
                obtain ⟨t43, h44, hf⟩ := hbd_s hf
                refine h_getR h44 rfl (Nat.le_of_ble_eq_true rfl) rfl q_964 rfl dX9_span_141 ?_
                refine h_iload_n dX9_span_144 rfl 1 rfl ?_
                refine h_iload dX9_span_145 3 rfl ?_
                obtain ⟨S45, h46, hf⟩ := hbd_s hf
                refine h_iast h46 dX9_span_147 ?_
                refine h_iconst (v := 0) dX9_span_148 rfl ?_
                refine h_istore (lv2 := [(7, .int 0), (0, .ref a0), (3, .int a3), (5, .int a5), (6, .int t38)]) dX9_span_149 (Nat.le_of_ble_eq_true rfl) rfl ?_
                refine h_bipush (v := 80) dX9_span_151 rfl ?_
                refine h_istore (lv2 := [(8, .int 80), (7, .int 0), (0, .ref a0), (3, .int a3), (5, .int a5), (6, .int t38)]) dX9_span_153 (Nat.le_of_ble_eq_true rfl) rfl ?_
                refine h_iconst (v := (-1)) dX9_span_155 rfl ?_
                refine h_istore (lv2 := [(9, .int (-1)), (8, .int 80), (7, .int 0), (0, .ref a0), (3, .int a3), (5, .int a5), (6, .int t38)]) dX9_span_156 (Nat.le_of_ble_eq_true rfl) rfl ?_
                refine h_iconst (v := 0) dX9_span_158 rfl ?_
                refine h_istore (lv2 := [(10, .int 0), (9, .int (-1)), (8, .int 80), (7, .int 0), (0, .ref a0), (3, .int a3), (5, .int a5), (6, .int t38)]) dX9_span_159 (Nat.le_of_ble_eq_true rfl) rfl ?_
                refine h_sub (lv2 := [(0, .ref a0), (5, .int a5), (7, .int 0), (8, .int 80), (9, .int (-1)), (10, .int 0)]) [4, 6, 3, 2, 1, 0] rfl ?_
                refine w_X9_span_L161 hd hfuel a0 a5 0 80 (-1) 0 S45 _  hf ?_
                · intro u47 u48 u49 S50 hf
                  refine h_iload dX9_span_237 0 rfl ?_
                  refine h_iconst (v := 4) dX9_span_239 rfl ?_
                  refine h_icmp_ne (tgt := 248) dX9_span_240 (by decide) (fun c51 => ?_) (fun c51 => ?_)
                  · replace hf := hif_n c51 hf
                    refine h_iload dX9_span_248 0 rfl ?_
                    refine h_iconst (v := 2) dX9_span_250 rfl ?_
                    refine h_irem dX9_span_251 (by decide) ?_
                    refine h_if_ne (tgt := 260) dX9_span_252 (by decide) (fun c52 => ?_) (fun c52 => ?_)
                    · replace hf := hif_n c52 hf
                      refine h_iload dX9_span_260 3 rfl ?_
                      obtain rfl := Option.some.inj hf
                      exact h_iret rfl rfl rfl (Nat.le_refl _) (Nat.le_refl _) dX9_span_262
                    · replace hf := hif_p c52 hf
                      refine h_iload dX9_span_255 2 rfl ?_
                      refine h_goto (tgt := 262) dX9_span_257 (by decide) ?_
                      obtain rfl := Option.some.inj hf
                      exact h_iret rfl rfl rfl (Nat.le_refl _) (Nat.le_refl _) dX9_span_262
                  · replace hf := hif_p c51 hf
                    refine h_iload dX9_span_243 1 rfl ?_
                    refine h_goto (tgt := 262) dX9_span_245 (by decide) ?_
                    obtain rfl := Option.some.inj hf
                    exact h_iret rfl rfl rfl (Nat.le_refl _) (Nat.le_refl _) dX9_span_262
            · intro J40 hJ40 hf
              refine h_icmp_le (tgt := 94) dX9_span_83 (by decide) (fun c53 => ?_) (fun c53 => ?_)
              · replace hf := hif_p c53 hf
                refine h_iconst (v := 0) dX9_span_94 rfl ?_
                refine h_sub (lv2 := [(0, .ref a0), (1, .int a1), (2, .int a2), (3, .int a3), (4, .int a4), (5, .int a5), (6, .int t38)]) [1, 2, 3, 4, 5, 6, 0] rfl ?_
                exact hJ40 0 hf
              · replace hf := hif_n c53 hf
                refine h_iload dX9_span_86 0 rfl ?_
                refine h_iload dX9_span_88 5 rfl ?_
                refine h_isub dX9_span_90 ?_
                refine h_goto (tgt := 95) dX9_span_91 (by decide) ?_
                refine h_sub (lv2 := [(0, .ref a0), (1, .int a1), (2, .int a2), (3, .int a3), (4, .int a4), (5, .int a5), (6, .int t38)]) [1, 2, 3, 4, 5, 6, 0] rfl ?_
                exact hJ40 (t38 - a4) hf
        · replace hf := hif_p c34 hf
          refine h_iconst (v := (-1)) dX9_span_45 rfl ?_
          obtain rfl := Option.some.inj hf
          exact h_iret rfl rfl rfl (Nat.le_refl _) (Nat.le_refl _) dX9_span_46
abbrev x_X9_heardAt (d : Nat) (S0 : hS) (args : List Value) (r : Int32 × hS) (cs : Nat → Nat) : hX := (((some .int), 5, d, 0, 0, false), (S0, args, some (.int r.1), r.2), cs)
theorem v_X9_heardAt : hVW yX9_heardAt cX9_heardAt 5 (some .int) RX9 1 := ⟨q_1532, q_s92, q_9, q_1533, by decide +kernel, by decide⟩
def f_X9_heardAt_L4 : Nat → Nat → Int32 → Int32 → Int32 → hS → (Int32 → hS → Option (Int32 × hS)) → Option (Int32 × hS)
  | 0, _, _, _, _, _, _ => none
  | n + 1, x0, x1, x2, x3, S, k0 =>
    hbd (gR S x0 9 1) fun t1 =>
    hbd (gA S t1 12 2) fun t3 =>
    if t3 ≤ x3 then
      (k0 x2 S)
    else
      (hck (S.K x0 = 10) <|
       hb2 (f_X9_isHere x0 x3 S) fun t8 S7 =>
       hj (γ := Int32 → hS → Option (Int32 × hS)) (fun (v10 : Int32) (S11 : hS) =>
         hj (γ := Int32 → Option (Int32 × hS)) (fun (v13 : Int32) =>
           f_X9_heardAt_L4 n x0 x1 (x2 ||| v13) (x3 + 1) S11 k0
           ) fun J12 =>
         hj (γ := Unit → Option (Int32 × hS)) (fun (_ : Unit) =>
           J12 0
           ) fun J14 =>
         if v10 = 0 then
           (J14 ())
         else
           (hbd (gR S11 x0 9 3) fun t16 =>
            hbd (gA S11 t16 12 x3) fun t18 =>
            hbd (gR S11 x0 9 1) fun t20 =>
            hbd (gA S11 t20 12 5) fun t22 =>
            if t18 = t22 then
              (J14 ())
            else
              (J12 (1 <<< (x3 &&& 31))))
         ) fun J9 =>
       hj (γ := hS → Option (Int32 × hS)) (fun (S26 : hS) =>
         J9 0 S26
         ) fun J25 =>
       if t8 = 0 then
         (J25 S7)
       else
         (hbd (gR S7 x0 9 3) fun t28 =>
          hbd (gA S7 t28 12 x3) fun t30 =>
          hb2 (f_X9_apart (t30 - t30 / 10 * 10) (x1 - x1 / 10 * 10) S7) fun t34 S33 =>
          if 2 < t34 then
            (J25 S33)
          else
            (hbd (gR S33 x0 9 3) fun t36 =>
             hbd (gA S33 t36 12 x3) fun t38 =>
             hb2 (f_X9_apart (t38 / 10) (x1 / 10) S33) fun t42 S41 =>
             if 2 < t42 then
               (J25 S41)
             else
               (J9 1 S41))))
def f_X9_heardAt (a0 : Nat) (a1 : Int32) (S : hS) : Option (Int32 × hS) :=
  f_X9_heardAt_L4 hfuel a0 a1 0 0 S
    (fun u45 S46 =>
      some (u45, S46)
    )
set_option maxRecDepth 100000 in
set_option maxHeartbeats 4000000 in
theorem w_X9_heardAt_L4 {d : Nat} {S0 : hS} {args : List Value} {cs : Nat → Nat} {r : Int32 × hS} (hd : 4 ≤ d) : ∀ (n : Nat) (x0 : Nat) (x1 : Int32) (x2 : Int32) (x3 : Int32) (S : hS) (k0 : (Int32 → hS → Option (Int32 × hS))) , f_X9_heardAt_L4 n x0 x1 x2 x3 S k0 = some r → (∀ (y2 : Int32) (T : hS), k0 y2 T = some r → HW cX9_heardAt RX9 (x_X9_heardAt d S0 args r cs) 0 0 T 105 [(2, .int y2)] []) → HW cX9_heardAt RX9 (x_X9_heardAt d S0 args r cs) 0 0 S 4 [(0, .ref x0), (1, .int x1), (2, .int x2), (3, .int x3)] [] := by
  intro n
  induction n with
  | zero =>
    intro x0 x1 x2 x3 S k0 hf
    cases hf
  | succ n ih =>
    intro x0 x1 x2 x3 S k0 hf hk0
    rw [f_X9_heardAt_L4] at hf
    refine h_iload_n dX9_heardAt_4 rfl 3 rfl ?_
    refine h_aload_n dX9_heardAt_5 rfl 0 rfl ?_
    obtain ⟨t1, h2, hf⟩ := hbd_s hf
    refine h_getR h2 rfl (Nat.le_of_ble_eq_true rfl) rfl q_961 rfl dX9_heardAt_6 ?_
    refine h_iconst (v := 2) dX9_heardAt_9 rfl ?_
    obtain ⟨t3, h4, hf⟩ := hbd_s hf
    refine h_iald h4 dX9_heardAt_10 ?_
    refine h_icmp_ge (tgt := 105) dX9_heardAt_11 (by decide) (fun c5 => ?_) (fun c5 => ?_)
    · replace hf := hif_p c5 hf
      refine h_sub (lv2 := [(2, .int x2)]) [2] rfl ?_
      exact hk0 x2 S hf
    · replace hf := hif_n c5 hf
      refine h_aload_n dX9_heardAt_14 rfl 0 rfl ?_
      refine h_iload_n dX9_heardAt_15 rfl 3 rfl ?_
      obtain ⟨g44, hf⟩ := hck_s hf
      obtain ⟨t8, S7, h6, hf⟩ := hb2_s hf
      refine h_Vi [.int x3] (rest := []) (m_X9_isHere (d := 3) (cs := cs) (Nat.le_refl _) h6) v_X9_isHere q_1356 rfl (Nat.le_trans (by decide) hd) g44 rfl rfl (Nat.le_of_ble_eq_true rfl) dX9_heardAt_16 (Nat.le_refl _) (Nat.le_refl _) ?_
      refine hj_s (fun J9 => ∀ (v10 : Int32) (S11 : hS), J9 v10 S11 = some r → HW cX9_heardAt RX9 (x_X9_heardAt d S0 args r cs) 0 0 S11 67 [(0, .ref x0), (1, .int x1), (2, .int x2), (3, .int x3)] [.int v10]) hf ?_ ?_
      · intro v10 S11 hf
        refine h_istore (lv2 := [(4, .int v10), (0, .ref x0), (1, .int x1), (2, .int x2), (3, .int x3)]) dX9_heardAt_67 (Nat.le_of_ble_eq_true rfl) rfl ?_
        refine h_iload_n dX9_heardAt_69 rfl 3 rfl ?_
        refine h_iload dX9_heardAt_70 0 rfl ?_
        refine hj_s (fun J12 => ∀ (v13 : Int32), J12 v13 = some r → HW cX9_heardAt RX9 (x_X9_heardAt d S0 args r cs) 0 0 S11 97 [(0, .ref x0), (1, .int x1), (3, .int x3)] [.int v13, .int x2]) hf ?_ ?_
        · intro v13 hf
          refine h_ior dX9_heardAt_97 ?_
          refine h_istore_n (lv2 := [(2, .int (x2 ||| v13)), (0, .ref x0), (1, .int x1), (3, .int x3)]) dX9_heardAt_98 rfl (Nat.le_of_ble_eq_true rfl) rfl ?_
          refine h_iinc (q := 3) (v := x3 + 1) (lv2 := [(3, .int (x3 + 1)), (2, .int (x2 ||| v13)), (0, .ref x0), (1, .int x1)]) dX9_heardAt_99 rfl rfl (Nat.le_of_ble_eq_true rfl) rfl ?_
          refine h_goto (tgt := 4) dX9_heardAt_102 (by decide) ?_
          refine h_sub (lv2 := [(0, .ref x0), (1, .int x1), (2, .int (x2 ||| v13)), (3, .int (x3 + 1))]) [2, 3, 1, 0] rfl ?_
          exact ih x0 x1 (x2 ||| v13) (x3 + 1) S11 k0  hf hk0
        · intro J12 hJ12 hf
          refine hj_s (fun J14 => ∀ (w : Unit), J14 w = some r → HW cX9_heardAt RX9 (x_X9_heardAt d S0 args r cs) 0 0 S11 96 [(0, .ref x0), (1, .int x1), (3, .int x3)] [.int x2]) hf ?_ ?_
          · intro w hf
            refine h_iconst (v := 0) dX9_heardAt_96 rfl ?_
            exact hJ12 0 hf
          · intro J14 hJ14 hf
            refine h_if_eq (tgt := 96) dX9_heardAt_72 (by decide) (fun c15 => ?_) (fun c15 => ?_)
            · replace hf := hif_p c15 hf
              refine h_sub (lv2 := [(0, .ref x0), (1, .int x1), (3, .int x3)]) [1, 2, 4] rfl ?_
              exact hJ14 () hf
            · replace hf := hif_n c15 hf
              refine h_aload_n dX9_heardAt_75 rfl 1 rfl ?_
              obtain ⟨t16, h17, hf⟩ := hbd_s hf
              refine h_getR h17 rfl (Nat.le_of_ble_eq_true rfl) rfl q_963 rfl dX9_heardAt_76 ?_
              refine h_iload_n dX9_heardAt_79 rfl 4 rfl ?_
              obtain ⟨t18, h19, hf⟩ := hbd_s hf
              refine h_iald h19 dX9_heardAt_80 ?_
              refine h_aload_n dX9_heardAt_81 rfl 1 rfl ?_
              obtain ⟨t20, h21, hf⟩ := hbd_s hf
              refine h_getR h21 rfl (Nat.le_of_ble_eq_true rfl) rfl q_961 rfl dX9_heardAt_82 ?_
              refine h_iconst (v := 5) dX9_heardAt_85 rfl ?_
              obtain ⟨t22, h23, hf⟩ := hbd_s hf
              refine h_iald h23 dX9_heardAt_86 ?_
              refine h_icmp_eq (tgt := 96) dX9_heardAt_87 (by decide) (fun c24 => ?_) (fun c24 => ?_)
              · replace hf := hif_p c24 hf
                refine h_sub (lv2 := [(0, .ref x0), (1, .int x1), (3, .int x3)]) [1, 2, 4] rfl ?_
                exact hJ14 () hf
              · replace hf := hif_n c24 hf
                refine h_iconst (v := 1) dX9_heardAt_90 rfl ?_
                refine h_iload_n dX9_heardAt_91 rfl 4 rfl ?_
                refine h_ishl dX9_heardAt_92 ?_
                refine h_goto (tgt := 97) dX9_heardAt_93 (by decide) ?_
                refine h_sub (lv2 := [(0, .ref x0), (1, .int x1), (3, .int x3)]) [1, 2, 4] rfl ?_
                exact hJ12 (1 <<< (x3 &&& 31)) hf
      · intro J9 hJ9 hf
        refine hj_s (fun J25 => ∀ (S26 : hS), J25 S26 = some r → HW cX9_heardAt RX9 (x_X9_heardAt d S0 args r cs) 0 0 S26 66 [(0, .ref x0), (1, .int x1), (2, .int x2), (3, .int x3)] []) hf ?_ ?_
        · intro S26 hf
          refine h_iconst (v := 0) dX9_heardAt_66 rfl ?_
          exact hJ9 0 S26 hf
        · intro J25 hJ25 hf
          refine h_if_eq (tgt := 66) dX9_heardAt_19 (by decide) (fun c27 => ?_) (fun c27 => ?_)
          · replace hf := hif_p c27 hf
            exact hJ25 S7 hf
          · replace hf := hif_n c27 hf
            refine h_aload_n dX9_heardAt_22 rfl 0 rfl ?_
            obtain ⟨t28, h29, hf⟩ := hbd_s hf
            refine h_getR h29 rfl (Nat.le_of_ble_eq_true rfl) rfl q_963 rfl dX9_heardAt_23 ?_
            refine h_iload_n dX9_heardAt_26 rfl 3 rfl ?_
            obtain ⟨t30, h31, hf⟩ := hbd_s hf
            refine h_iald h31 dX9_heardAt_27 ?_
            refine h_bipush (v := 10) dX9_heardAt_28 rfl ?_
            refine h_irem dX9_heardAt_30 (by decide) ?_
            refine h_iload_n dX9_heardAt_31 rfl 1 rfl ?_
            refine h_bipush (v := 10) dX9_heardAt_32 rfl ?_
            refine h_irem dX9_heardAt_34 (by decide) ?_
            obtain ⟨t34, S33, h32, hf⟩ := hb2_s hf
            refine h_Si [.int (t30 - t30 / 10 * 10), .int (x1 - x1 / 10 * 10)] (rest := []) (m_X9_apart (d := 1) (cs := cs) (Nat.le_refl _) h32) v_X9_apart q_1492 rfl (Nat.le_trans (by decide) hd) rfl (Nat.le_of_ble_eq_true rfl) dX9_heardAt_35 (Nat.le_refl _) (Nat.le_refl _) ?_
            refine h_iconst (v := 2) dX9_heardAt_38 rfl ?_
            refine h_icmp_gt (tgt := 66) dX9_heardAt_39 (by decide) (fun c35 => ?_) (fun c35 => ?_)
            · replace hf := hif_p c35 hf
              exact hJ25 S33 hf
            · replace hf := hif_n c35 hf
              refine h_aload_n dX9_heardAt_42 rfl 0 rfl ?_
              obtain ⟨t36, h37, hf⟩ := hbd_s hf
              refine h_getR h37 rfl (Nat.le_of_ble_eq_true rfl) rfl q_963 rfl dX9_heardAt_43 ?_
              refine h_iload_n dX9_heardAt_46 rfl 3 rfl ?_
              obtain ⟨t38, h39, hf⟩ := hbd_s hf
              refine h_iald h39 dX9_heardAt_47 ?_
              refine h_bipush (v := 10) dX9_heardAt_48 rfl ?_
              refine h_idiv dX9_heardAt_50 (by decide) ?_
              refine h_iload_n dX9_heardAt_51 rfl 1 rfl ?_
              refine h_bipush (v := 10) dX9_heardAt_52 rfl ?_
              refine h_idiv dX9_heardAt_54 (by decide) ?_
              obtain ⟨t42, S41, h40, hf⟩ := hb2_s hf
              refine h_Si [.int (t38 / 10), .int (x1 / 10)] (rest := []) (m_X9_apart (d := 1) (cs := cs) (Nat.le_refl _) h40) v_X9_apart q_1492 rfl (Nat.le_trans (by decide) hd) rfl (Nat.le_of_ble_eq_true rfl) dX9_heardAt_55 (Nat.le_refl _) (Nat.le_refl _) ?_
              refine h_iconst (v := 2) dX9_heardAt_58 rfl ?_
              refine h_icmp_gt (tgt := 66) dX9_heardAt_59 (by decide) (fun c43 => ?_) (fun c43 => ?_)
              · replace hf := hif_p c43 hf
                exact hJ25 S41 hf
              · replace hf := hif_n c43 hf
                refine h_iconst (v := 1) dX9_heardAt_62 rfl ?_
                refine h_goto (tgt := 67) dX9_heardAt_63 (by decide) ?_
                exact hJ9 1 S41 hf
set_option maxRecDepth 100000 in
set_option maxHeartbeats 4000000 in
theorem m_X9_heardAt {d : Nat} {cs : Nat → Nat} {a0 : Nat} {a1 : Int32} {S : hS} {r : Int32 × hS} (hd : 4 ≤ d) (hf : f_X9_heardAt a0 a1 S = some r) : HM yX9_heardAt cX9_heardAt 5 (some .int) d 0 0 cs [.ref a0, .int a1] S (some (.int r.1)) r.2 := by
  unfold f_X9_heardAt at hf
  refine HM.ofHW false (by decide) (fun h => by cases h) (Nat.le_of_ble_eq_true rfl) ?_
  show HW cX9_heardAt RX9 (x_X9_heardAt d S [.ref a0, .int a1] r cs) 0 0 S 0 [(0, .ref a0), (1, .int a1)] []
  refine h_iconst (v := 0) dX9_heardAt_0 rfl ?_
  refine h_istore_n (lv2 := [(2, .int 0), (0, .ref a0), (1, .int a1)]) dX9_heardAt_1 rfl (Nat.le_of_ble_eq_true rfl) rfl ?_
  refine h_iconst (v := 0) dX9_heardAt_2 rfl ?_
  refine h_istore_n (lv2 := [(3, .int 0), (2, .int 0), (0, .ref a0), (1, .int a1)]) dX9_heardAt_3 rfl (Nat.le_of_ble_eq_true rfl) rfl ?_
  refine h_sub (lv2 := [(0, .ref a0), (1, .int a1), (2, .int 0), (3, .int 0)]) [2, 3, 1, 0] rfl ?_
  refine w_X9_heardAt_L4 hd hfuel a0 a1 0 0 S _  hf ?_
  · intro u45 S46 hf
    refine h_iload_n dX9_heardAt_105 rfl 0 rfl ?_
    obtain rfl := Option.some.inj hf
    exact h_iret rfl rfl rfl (Nat.le_refl _) (Nat.le_refl _) dX9_heardAt_106
