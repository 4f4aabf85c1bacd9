abbrev x_X9_by (d : Nat) (S0 : hS) (args : List Value) (r : Int32 × hS) (cs : Nat → Nat) : hX := (((some .int), 5, d, 0, 0, false), (S0, args, some (.int r.1), r.2), cs)
theorem v_X9_by : hVW yX9_by cX9_by 5 (some .int) RX9 2 := ⟨q_1400, q_s74, q_9, q_1401, by decide +kernel, by decide⟩
def f_X9_by (a0 : Nat) (a1 : Int32) (a2 : Int32) (S : hS) : Option (Int32 × hS) :=
  hj (γ := Int32 → Option (Int32 × hS)) (fun (v2 : Int32) =>
    hj (γ := Int32 → Option (Int32 × hS)) (fun (v4 : Int32) =>
      hck (S.K a0 = 10) <|
      hb2 (f_X9_isSeat a0 ((a1 - a1 / 10 * 10) + v2) ((a1 / 10) + v4) S) fun t7 S6 =>
      if t7 = 0 then
        (some ((-1), S6))
      else
        (some ((10 * ((a1 / 10) + v4)) + ((a1 - a1 / 10 * 10) + v2), S6))
      ) fun J3 =>
    if a2 = 3 then
      (J3 1)
    else
      (if a2 = 1 then
         (J3 (-1))
       else
         (J3 0))
    ) fun J1 =>
  if a2 = 2 then
    (J1 1)
  else
    (if a2 = 4 then
       (J1 (-1))
     else
       (J1 0))
set_option maxRecDepth 100000 in
set_option maxHeartbeats 4000000 in
theorem m_X9_by {d : Nat} {cs : Nat → Nat} {a0 : Nat} {a1 : Int32} {a2 : Int32} {S : hS} {r : Int32 × hS} (hd : 3 ≤ d) (hf : f_X9_by a0 a1 a2 S = some r) : HM yX9_by cX9_by 5 (some .int) d 0 0 cs [.ref a0, .int a1, .int a2] S (some (.int r.1)) r.2 := by
  unfold f_X9_by at hf
  refine HM.ofHW false (by decide) (fun h => by cases h) (Nat.le_of_ble_eq_true rfl) ?_
  show HW cX9_by RX9 (x_X9_by d S [.ref a0, .int a1, .int a2] r cs) 0 0 S 0 [(0, .ref a0), (1, .int a1), (2, .int a2)] []
  refine h_iload_n dX9_by_0 rfl 1 rfl ?_
  refine h_bipush (v := 10) dX9_by_1 rfl ?_
  refine h_irem dX9_by_3 (by decide) ?_
  refine h_iload_n dX9_by_4 rfl 2 rfl ?_
  refine h_iconst (v := 2) dX9_by_5 rfl ?_
  refine hj_s (fun J1 => ∀ (v2 : Int32), J1 v2 = some r → HW cX9_by RX9 (x_X9_by d S [.ref a0, .int a1, .int a2] r cs) 0 0 S 23 [(0, .ref a0), (1, .int a1), (2, .int a2)] [.int v2, .int (a1 - a1 / 10 * 10)]) hf ?_ ?_
  · intro v2 hf
    refine h_iadd dX9_by_23 ?_
    refine h_istore_n (lv2 := [(3, .int ((a1 - a1 / 10 * 10) + v2)), (0, .ref a0), (1, .int a1), (2, .int a2)]) dX9_by_24 rfl (Nat.le_of_ble_eq_true rfl) rfl ?_
    refine h_iload_n dX9_by_25 rfl 2 rfl ?_
    refine h_bipush (v := 10) dX9_by_26 rfl ?_
    refine h_idiv dX9_by_28 (by decide) ?_
    refine h_iload_n dX9_by_29 rfl 3 rfl ?_
    refine h_iconst (v := 3) dX9_by_30 rfl ?_
    refine hj_s (fun J3 => ∀ (v4 : Int32), J3 v4 = some r → HW cX9_by RX9 (x_X9_by d S [.ref a0, .int a1, .int a2] r cs) 0 0 S 48 [(0, .ref a0), (3, .int ((a1 - a1 / 10 * 10) + v2))] [.int v4, .int (a1 / 10)]) hf ?_ ?_
    · intro v4 hf
      refine h_iadd dX9_by_48 ?_
      refine h_istore (lv2 := [(4, .int ((a1 / 10) + v4)), (0, .ref a0), (3, .int ((a1 - a1 / 10 * 10) + v2))]) dX9_by_49 (Nat.le_of_ble_eq_true rfl) rfl ?_
      refine h_aload_n dX9_by_51 rfl 1 rfl ?_
      refine h_iload_n dX9_by_52 rfl 2 rfl ?_
      refine h_iload dX9_by_53 0 rfl ?_
      obtain ⟨g9, hf⟩ := hck_s hf
      obtain ⟨t7, S6, h5, hf⟩ := hb2_s hf
      refine h_Vi [.int ((a1 - a1 / 10 * 10) + v2), .int ((a1 / 10) + v4)] (rest := []) (m_X9_isSeat (d := 2) (cs := cs) (Nat.le_refl _) h5) v_X9_isSeat q_1324 rfl (Nat.le_trans (by decide) hd) g9 rfl rfl (Nat.le_of_ble_eq_true rfl) dX9_by_55 (Nat.le_refl _) (Nat.le_refl _) ?_
      refine h_if_eq (tgt := 71) dX9_by_58 (by decide) (fun c8 => ?_) (fun c8 => ?_)
      · rw [if_pos c8] at hf
        refine h_iconst (v := (-1)) dX9_by_71 rfl ?_
        obtain rfl := Option.some.inj hf
        exact h_iret rfl rfl rfl (Nat.le_refl _) (Nat.le_refl _) dX9_by_72
      · rw [if_neg c8] at hf
        refine h_bipush (v := 10) dX9_by_61 rfl ?_
        refine h_iload dX9_by_63 0 rfl ?_
        refine h_imul dX9_by_65 ?_
        refine h_iload_n dX9_by_66 rfl 2 rfl ?_
        refine h_iadd dX9_by_67 ?_
        refine h_goto (tgt := 72) dX9_by_68 (by decide) ?_
        obtain rfl := Option.some.inj hf
        exact h_iret rfl rfl rfl (Nat.le_refl _) (Nat.le_refl _) dX9_by_72
    · intro J3 hJ3 hf
      refine h_icmp_ne (tgt := 38) dX9_by_31 (by decide) (fun c10 => ?_) (fun c10 => ?_)
      · rw [if_neg c10] at hf
        refine h_iload_n dX9_by_38 rfl 3 rfl ?_
        refine h_iconst (v := 1) dX9_by_39 rfl ?_
        refine h_icmp_ne (tgt := 47) dX9_by_40 (by decide) (fun c11 => ?_) (fun c11 => ?_)
        · rw [if_neg c11] at hf
          refine h_iconst (v := 0) dX9_by_47 rfl ?_
          refine h_sub (lv2 := [(0, .ref a0), (3, .int ((a1 - a1 / 10 * 10) + v2))]) [1, 0] rfl ?_
          exact hJ3 0 hf
        · rw [if_pos c11] at hf
          refine h_iconst (v := (-1)) dX9_by_43 rfl ?_
          refine h_goto (tgt := 48) dX9_by_44 (by decide) ?_
          refine h_sub (lv2 := [(0, .ref a0), (3, .int ((a1 - a1 / 10 * 10) + v2))]) [1, 0] rfl ?_
          exact hJ3 (-1) hf
      · rw [if_pos c10] at hf
        refine h_iconst (v := 1) dX9_by_34 rfl ?_
        refine h_goto (tgt := 48) dX9_by_35 (by decide) ?_
        refine h_sub (lv2 := [(0, .ref a0), (3, .int ((a1 - a1 / 10 * 10) + v2))]) [1, 0] rfl ?_
        exact hJ3 1 hf
  · intro J1 hJ1 hf
    refine h_icmp_ne (tgt := 13) dX9_by_6 (by decide) (fun c12 => ?_) (fun c12 => ?_)
    · rw [if_neg c12] at hf
      refine h_iload_n dX9_by_13 rfl 2 rfl ?_
      refine h_iconst (v := 4) dX9_by_14 rfl ?_
      refine h_icmp_ne (tgt := 22) dX9_by_15 (by decide) (fun c13 => ?_) (fun c13 => ?_)
      · rw [if_neg c13] at hf
        refine h_iconst (v := 0) dX9_by_22 rfl ?_
        exact hJ1 0 hf
      · rw [if_pos c13] at hf
        refine h_iconst (v := (-1)) dX9_by_18 rfl ?_
        refine h_goto (tgt := 23) dX9_by_19 (by decide) ?_
        exact hJ1 (-1) hf
    · rw [if_pos c12] at hf
      refine h_iconst (v := 1) dX9_by_9 rfl ?_
      refine h_goto (tgt := 23) dX9_by_10 (by decide) ?_
      exact hJ1 1 hf
abbrev x_X9_isGuest (d : Nat) (S0 : hS) (args : List Value) (r : Int32 × hS) (cs : Nat → Nat) : hX := (((some .boolean), 2, d, 0, 0, false), (S0, args, some (.int r.1), r.2), cs)
theorem v_X9_isGuest : hVW yX9_isGuest cX9_isGuest 2 (some .boolean) RX9 1 := ⟨q_1342, q_s66, q_9, q_1343, by decide +kernel, by decide⟩
def f_X9_isGuest (a0 : Nat) (a1 : Int32) (S : hS) : Option (Int32 × hS) :=
  hbd (gR S a0 9 1) fun t1 =>
  hbd (gA S t1 12 2) fun t3 =>
  hb2 (f_X9_in (Int32.toInt64 a1) 0 (Int32.toInt64 (t3 - 1)) S) fun t7 S6 =>
  hck (t7 = 0 ∨ t7 = 1) <|
  some (t7, S6)
set_option maxRecDepth 100000 in
set_option maxHeartbeats 4000000 in
theorem m_X9_isGuest {d : Nat} {cs : Nat → Nat} {a0 : Nat} {a1 : Int32} {S : hS} {r : Int32 × hS} (hd : 2 ≤ d) (hf : f_X9_isGuest a0 a1 S = some r) : HM yX9_isGuest cX9_isGuest 2 (some .boolean) d 0 0 cs [.ref a0, .int a1] S (some (.int r.1)) r.2 := by
  unfold f_X9_isGuest at hf
  refine HM.ofHW false (by decide) (fun h => by cases h) (Nat.le_of_ble_eq_true rfl) ?_
  show HW cX9_isGuest RX9 (x_X9_isGuest d S [.ref a0, .int a1] r cs) 0 0 S 0 [(0, .ref a0), (1, .int a1)] []
  refine h_iload_n dX9_isGuest_0 rfl 1 rfl ?_
  refine h_i2l dX9_isGuest_1 ?_
  refine h_lconst (v := 0) dX9_isGuest_2 rfl ?_
  refine h_aload_n dX9_isGuest_3 rfl 0 rfl ?_
  obtain ⟨t1, h2, hf⟩ := hbd_s hf
  refine h_getR h2 rfl (Nat.le_of_ble_eq_true rfl) rfl q_961 rfl dX9_isGuest_4 ?_
  refine h_iconst (v := 2) dX9_isGuest_7 rfl ?_
  obtain ⟨t3, h4, hf⟩ := hbd_s hf
  refine h_iald h4 dX9_isGuest_8 ?_
  refine h_iconst (v := 1) dX9_isGuest_9 rfl ?_
  refine h_isub dX9_isGuest_10 ?_
  refine h_i2l dX9_isGuest_11 ?_
  obtain ⟨t7, S6, h5, hf⟩ := hb2_s hf
  refine h_Si [.long (Int32.toInt64 a1), .long 0, .long (Int32.toInt64 (t3 - 1))] (rest := []) (m_X9_in (d := 1) (cs := cs) (Nat.le_refl _) h5) v_X9_in q_1225 rfl (Nat.le_trans (by decide) hd) rfl (Nat.le_of_ble_eq_true rfl) dX9_isGuest_12 (Nat.le_refl _) (Nat.le_refl _) ?_
  obtain ⟨hz, hf⟩ := hck_s hf
  obtain rfl := Option.some.inj hf
  exact h_zret rfl hz rfl rfl (Nat.le_refl _) (Nat.le_refl _) dX9_isGuest_15
abbrev x_X9_isHere (d : Nat) (S0 : hS) (args : List Value) (r : Int32 × hS) (cs : Nat → Nat) : hX := (((some .boolean), 2, d, 0, 0, false), (S0, args, some (.int r.1), r.2), cs)
theorem v_X9_isHere : hVW yX9_isHere cX9_isHere 2 (some .boolean) RX9 1 := ⟨q_1358, q_s67, q_9, q_1359, by decide +kernel, by decide⟩
def f_X9_isHere (a0 : Nat) (a1 : Int32) (S : hS) : Option (Int32 × hS) :=
  hck (S.K a0 = 10) <|
  hb2 (f_X9_isGuest a0 a1 S) fun t3 S2 =>
  hj (γ := Unit → Option (Int32 × hS)) (fun (_ : Unit) =>
    some (0, S2)
    ) fun J4 =>
  if t3 = 0 then
    (J4 ())
  else
    (hbd (gR S2 a0 9 3) fun t6 =>
     hbd (gA S2 t6 12 a1) fun t8 =>
     if t8 = (-1) then
       (J4 ())
     else
       (some (1, S2)))
set_option maxRecDepth 100000 in
set_option maxHeartbeats 4000000 in
theorem m_X9_isHere {d : Nat} {cs : Nat → Nat} {a0 : Nat} {a1 : Int32} {S : hS} {r : Int32 × hS} (hd : 3 ≤ d) (hf : f_X9_isHere a0 a1 S = some r) : HM yX9_isHere cX9_isHere 2 (some .boolean) d 0 0 cs [.ref a0, .int a1] S (some (.int r.1)) r.2 := by
  unfold f_X9_isHere at hf
  refine HM.ofHW false (by decide) (fun h => by cases h) (Nat.le_of_ble_eq_true rfl) ?_
  show HW cX9_isHere RX9 (x_X9_isHere d S [.ref a0, .int a1] r cs) 0 0 S 0 [(0, .ref a0), (1, .int a1)] []
  refine h_aload_n dX9_isHere_0 rfl 0 rfl ?_
  refine h_iload_n dX9_isHere_1 rfl 1 rfl ?_
  obtain ⟨g11, hf⟩ := hck_s hf
  obtain ⟨t3, S2, h1, hf⟩ := hb2_s hf
  refine h_Vi [.int a1] (rest := []) (m_X9_isGuest (d := 2) (cs := cs) (Nat.le_refl _) h1) v_X9_isGuest q_1340 rfl (Nat.le_trans (by decide) hd) g11 rfl rfl (Nat.le_of_ble_eq_true rfl) dX9_isHere_2 (Nat.le_refl _) (Nat.le_refl _) ?_
  refine hj_s (fun J4 => ∀ (w : Unit), J4 w = some r → HW cX9_isHere RX9 (x_X9_isHere d S [.ref a0, .int a1] r cs) 0 0 S2 22 [] []) hf ?_ ?_
  · intro w hf
    refine h_iconst (v := 0) dX9_isHere_22 rfl ?_
    obtain rfl := Option.some.inj hf
    exact h_zret rfl (by decide) rfl rfl (Nat.le_refl _) (Nat.le_refl _) dX9_isHere_23
  · intro J4 hJ4 hf
    refine h_if_eq (tgt := 22) dX9_isHere_5 (by decide) (fun c5 => ?_) (fun c5 => ?_)
    · rw [if_pos c5] at hf
      refine h_sub (lv2 := []) [] rfl ?_
      exact hJ4 () hf
    · rw [if_neg c5] at hf
      refine h_aload_n dX9_isHere_8 rfl 0 rfl ?_
      obtain ⟨t6, h7, hf⟩ := hbd_s hf
      refine h_getR h7 rfl (Nat.le_of_ble_eq_true rfl) rfl q_963 rfl dX9_isHere_9 ?_
      refine h_iload_n dX9_isHere_12 rfl 1 rfl ?_
      obtain ⟨t8, h9, hf⟩ := hbd_s hf
      refine h_iald h9 dX9_isHere_13 ?_
      refine h_iconst (v := (-1)) dX9_isHere_14 rfl ?_
      refine h_icmp_eq (tgt := 22) dX9_isHere_15 (by decide) (fun c10 => ?_) (fun c10 => ?_)
      · rw [if_pos c10] at hf
        refine h_sub (lv2 := []) [] rfl ?_
        exact hJ4 () hf
      · rw [if_neg c10] at hf
        refine h_iconst (v := 1) dX9_isHere_18 rfl ?_
        refine h_goto (tgt := 23) dX9_isHere_19 (by decide) ?_
        obtain rfl := Option.some.inj hf
        exact h_zret rfl (by decide) rfl rfl (Nat.le_refl _) (Nat.le_refl _) dX9_isHere_23
abbrev x_X9_whoAt (d : Nat) (S0 : hS) (args : List Value) (r : Int32 × hS) (cs : Nat → Nat) : hX := (((some .int), 3, d, 0, 0, false), (S0, args, some (.int r.1), r.2), cs)
theorem v_X9_whoAt : hVW yX9_whoAt cX9_whoAt 3 (some .int) RX9 1 := ⟨q_1330, q_s64, q_9, q_1331, by decide +kernel, by decide⟩
def f_X9_whoAt_L2 : Nat → Nat → Int32 → Int32 → hS → (Option (Int32 × hS)) → (Int32 → Option (Int32 × hS)) → Option (Int32 × hS)
  | 0, _, _, _, _, _, _ => none
  | n + 1, x0, x1, x2, S, k0, k1 =>
    hbd (gR S x0 9 1) fun t1 =>
    hbd (gA S t1 12 2) fun t3 =>
    if t3 ≤ x2 then
      (k0)
    else
      (hbd (gR S x0 9 3) fun t6 =>
       hbd (gA S t6 12 x2) fun t8 =>
       if t8 = x1 then
         (k1 x2)
       else
         (f_X9_whoAt_L2 n x0 x1 (x2 + 1) S k0 k1))
def f_X9_whoAt (a0 : Nat) (a1 : Int32) (S : hS) : Option (Int32 × hS) :=
  f_X9_whoAt_L2 hfuel a0 a1 0 S
    (
      some ((-1), S)
    )
    (fun u11 =>
      some (u11, S)
    )
set_option maxRecDepth 100000 in
set_option maxHeartbeats 4000000 in
theorem w_X9_whoAt_L2 {d : Nat} {S0 : hS} {args : List Value} {cs : Nat → Nat} {r : Int32 × hS} (hd : 1 ≤ d) : ∀ (n : Nat) (x0 : Nat) (x1 : Int32) (x2 : Int32) (S : hS) (k0 : (Option (Int32 × hS))) (k1 : (Int32 → Option (Int32 × hS))) , f_X9_whoAt_L2 n x0 x1 x2 S k0 k1 = some r → (k0 = some r → HW cX9_whoAt RX9 (x_X9_whoAt d S0 args r cs) 0 0 S 30 [] []) → (∀ (y2 : Int32), k1 y2 = some r → HW cX9_whoAt RX9 (x_X9_whoAt d S0 args r cs) 0 0 S 22 [(2, .int y2)] []) → HW cX9_whoAt RX9 (x_X9_whoAt d S0 args r cs) 0 0 S 2 [(0, .ref x0), (1, .int x1), (2, .int x2)] [] := by
  intro n
  induction n with
  | zero =>
    intro x0 x1 x2 S k0 k1 hf
    cases hf
  | succ n ih =>
    intro x0 x1 x2 S k0 k1 hf hk0 hk1
    rw [f_X9_whoAt_L2] at hf
    refine h_iload_n dX9_whoAt_2 rfl 2 rfl ?_
    refine h_aload_n dX9_whoAt_3 rfl 0 rfl ?_
    obtain ⟨t1, h2, hf⟩ := hbd_s hf
    refine h_getR h2 rfl (Nat.le_of_ble_eq_true rfl) rfl q_961 rfl dX9_whoAt_4 ?_
    refine h_iconst (v := 2) dX9_whoAt_7 rfl ?_
    obtain ⟨t3, h4, hf⟩ := hbd_s hf
    refine h_iald h4 dX9_whoAt_8 ?_
    refine h_icmp_ge (tgt := 30) dX9_whoAt_9 (by decide) (fun c5 => ?_) (fun c5 => ?_)
    · rw [if_pos c5] at hf
      refine h_sub (lv2 := []) [] rfl ?_
      exact hk0  hf
    · rw [if_neg c5] at hf
      refine h_aload_n dX9_whoAt_12 rfl 0 rfl ?_
      obtain ⟨t6, h7, hf⟩ := hbd_s hf
      refine h_getR h7 rfl (Nat.le_of_ble_eq_true rfl) rfl q_963 rfl dX9_whoAt_13 ?_
      refine h_iload_n dX9_whoAt_16 rfl 2 rfl ?_
      obtain ⟨t8, h9, hf⟩ := hbd_s hf
      refine h_iald h9 dX9_whoAt_17 ?_
      refine h_iload_n dX9_whoAt_18 rfl 1 rfl ?_
      refine h_icmp_ne (tgt := 24) dX9_whoAt_19 (by decide) (fun c10 => ?_) (fun c10 => ?_)
      · rw [if_neg c10] at hf
        refine h_iinc (q := 2) (v := x2 + 1) (lv2 := [(2, .int (x2 + 1)), (0, .ref x0), (1, .int x1)]) dX9_whoAt_24 rfl rfl (Nat.le_of_ble_eq_true rfl) rfl ?_
        refine h_goto (tgt := 2) dX9_whoAt_27 (by decide) ?_
        refine h_sub (lv2 := [(0, .ref x0), (1, .int x1), (2, .int (x2 + 1))]) [1, 2, 0] rfl ?_
        exact ih x0 x1 (x2 + 1) S k0 k1  hf hk0 hk1
      · rw [if_pos c10] at hf
        refine h_sub (lv2 := [(2, .int x2)]) [2] rfl ?_
        exact hk1 x2  hf
set_option maxRecDepth 100000 in
set_option maxHeartbeats 4000000 in
theorem m_X9_whoAt {d : Nat} {cs : Nat → Nat} {a0 : Nat} {a1 : Int32} {S : hS} {r : Int32 × hS} (hd : 1 ≤ d) (hf : f_X9_whoAt a0 a1 S = some r) : HM yX9_whoAt cX9_whoAt 3 (some .int) d 0 0 cs [.ref a0, .int a1] S (some (.int r.1)) r.2 := by
  unfold f_X9_whoAt at hf
  refine HM.ofHW false (by decide) (fun h => by cases h) (Nat.le_of_ble_eq_true rfl) ?_
  show HW cX9_whoAt RX9 (x_X9_whoAt d S [.ref a0, .int a1] r cs) 0 0 S 0 [(0, .ref a0), (1, .int a1)] []
  refine h_iconst (v := 0) dX9_whoAt_0 rfl ?_
  refine h_istore_n (lv2 := [(2, .int 0), (0, .ref a0), (1, .int a1)]) dX9_whoAt_1 rfl (Nat.le_of_ble_eq_true rfl) rfl ?_
  refine h_sub (lv2 := [(0, .ref a0), (1, .int a1), (2, .int 0)]) [1, 2, 0] rfl ?_
  refine w_X9_whoAt_L2 hd hfuel a0 a1 0 S _ _  hf ?_ ?_
  · intro  hf
    refine h_iconst (v := (-1)) dX9_whoAt_30 rfl ?_
    obtain rfl := Option.some.inj hf
    exact h_iret rfl rfl rfl (Nat.le_refl _) (Nat.le_refl _) dX9_whoAt_31
  · intro u11 hf
    refine h_iload_n dX9_whoAt_22 rfl 0 rfl ?_
    obtain rfl := Option.some.inj hf
    exact h_iret rfl rfl rfl (Nat.le_refl _) (Nat.le_refl _) dX9_whoAt_23
abbrev x_X9_edge (d : Nat) (S0 : hS) (args : List Value) (r : Int32 × hS) (cs : Nat → Nat) : hX := (((some .int), 8, d, 0, 0, false), (S0, args, some (.int r.1), r.2), cs)
theorem v_X9_edge : hVW yX9_edge cX9_edge 8 (some .int) RX9 1 := ⟨q_1334, q_s65, q_9, q_1335, by decide +kernel, by decide⟩
def f_X9_edge (a0 : Nat) (a1 : Int32) (S : hS) : Option (Int32 × hS) :=
  hj (γ := Int32 → Option (Int32 × hS)) (fun (v2 : Int32) =>
    hbd (gR S a0 9 1) fun t3 =>
    hbd (gA S t3 12 0) fun t5 =>
    hbd (gR S a0 9 1) fun t7 =>
    hbd (gA S t7 12 1) fun t9 =>
    hj (γ := Int32 → Option (Int32 × hS)) (fun (v12 : Int32) =>
      if v12 ≤ v2 then
        (some (v12, S))
      else
        (some (v2, S))
      ) fun J11 =>
    if ((t9 - 1) - (a1 / 10)) ≤ ((t5 - 1) - (a1 - a1 / 10 * 10)) then
      (J11 ((t9 - 1) - (a1 / 10)))
    else
      (J11 ((t5 - 1) - (a1 - a1 / 10 * 10)))
    ) fun J1 =>
  if (a1 / 10) ≤ (a1 - a1 / 10 * 10) then
    (J1 (a1 / 10))
  else
    (J1 (a1 - a1 / 10 * 10))
set_option maxRecDepth 100000 in
set_option maxHeartbeats 4000000 in
theorem m_X9_edge {d : Nat} {cs : Nat → Nat} {a0 : Nat} {a1 : Int32} {S : hS} {r : Int32 × hS} (hd : 1 ≤ d) (hf : f_X9_edge a0 a1 S = some r) : HM yX9_edge cX9_edge 8 (some .int) d 0 0 cs [.ref a0, .int a1] S (some (.int r.1)) r.2 := by
  unfold f_X9_edge at hf
  refine HM.ofHW false (by decide) (fun h => by cases h) (Nat.le_of_ble_eq_true rfl) ?_
  show HW cX9_edge RX9 (x_X9_edge d S [.ref a0, .int a1] r cs) 0 0 S 0 [(0, .ref a0), (1, .int a1)] []
  refine h_iload_n dX9_edge_0 rfl 1 rfl ?_
  refine h_bipush (v := 10) dX9_edge_1 rfl ?_
  refine h_irem dX9_edge_3 (by decide) ?_
  refine h_istore_n (lv2 := [(2, .int (a1 - a1 / 10 * 10)), (0, .ref a0), (1, .int a1)]) dX9_edge_4 rfl (Nat.le_of_ble_eq_true rfl) rfl ?_
  refine h_iload_n dX9_edge_5 rfl 2 rfl ?_
  refine h_bipush (v := 10) dX9_edge_6 rfl ?_
  refine h_idiv dX9_edge_8 (by decide) ?_
  refine h_istore_n (lv2 := [(3, .int (a1 / 10)), (2, .int (a1 - a1 / 10 * 10)), (0, .ref a0), (1, .int a1)]) dX9_edge_9 rfl (Nat.le_of_ble_eq_true rfl) rfl ?_
  refine h_iload_n dX9_edge_10 rfl 1 rfl ?_
  refine h_iload_n dX9_edge_11 rfl 0 rfl ?_
  refine hj_s (fun J1 => ∀ (v2 : Int32), J1 v2 = some r → HW cX9_edge RX9 (x_X9_edge d S [.ref a0, .int a1] r cs) 0 0 S 20 [(0, .ref a0), (2, .int (a1 - a1 / 10 * 10)), (3, .int (a1 / 10))] [.int v2]) hf ?_ ?_
  · intro v2 hf
    refine h_istore (lv2 := [(4, .int v2), (0, .ref a0), (2, .int (a1 - a1 / 10 * 10)), (3, .int (a1 / 10))]) dX9_edge_20 (Nat.le_of_ble_eq_true rfl) rfl ?_
    refine h_aload_n dX9_edge_22 rfl 1 rfl ?_
    obtain ⟨t3, h4, hf⟩ := hbd_s hf
    refine h_getR h4 rfl (Nat.le_of_ble_eq_true rfl) rfl q_961 rfl dX9_edge_23 ?_
    refine h_iconst (v := 0) dX9_edge_26 rfl ?_
    obtain ⟨t5, h6, hf⟩ := hbd_s hf
    refine h_iald h6 dX9_edge_27 ?_
    refine h_iconst (v := 1) dX9_edge_28 rfl ?_
    refine h_isub dX9_edge_29 ?_
    refine h_iload_n dX9_edge_30 rfl 2 rfl ?_
    refine h_isub dX9_edge_31 ?_
    refine h_istore (lv2 := [(5, .int ((t5 - 1) - (a1 - a1 / 10 * 10))), (4, .int v2), (0, .ref a0), (2, .int (a1 - a1 / 10 * 10)), (3, .int (a1 / 10))]) dX9_edge_32 (Nat.le_of_ble_eq_true rfl) rfl ?_
    refine h_aload_n dX9_edge_34 rfl 2 rfl ?_
    obtain ⟨t7, h8, hf⟩ := hbd_s hf
    refine h_getR h8 rfl (Nat.le_of_ble_eq_true rfl) rfl q_961 rfl dX9_edge_35 ?_
    refine h_iconst (v := 1) dX9_edge_38 rfl ?_
    obtain ⟨t9, h10, hf⟩ := hbd_s hf
    refine h_iald h10 dX9_edge_39 ?_
    refine h_iconst (v := 1) dX9_edge_40 rfl ?_
    refine h_isub dX9_edge_41 ?_
    refine h_iload_n dX9_edge_42 rfl 4 rfl ?_
    refine h_isub dX9_edge_43 ?_
    refine h_istore (lv2 := [(6, .int ((t9 - 1) - (a1 / 10))), (5, .int ((t5 - 1) - (a1 - a1 / 10 * 10))), (4, .int v2), (0, .ref a0), (2, .int (a1 - a1 / 10 * 10)), (3, .int (a1 / 10))]) dX9_edge_44 (Nat.le_of_ble_eq_true rfl) rfl ?_
    refine h_iload dX9_edge_46 1 rfl ?_
    refine h_iload dX9_edge_48 0 rfl ?_
    refine hj_s (fun J11 => ∀ (v12 : Int32), J11 v12 = some r → HW cX9_edge RX9 (x_X9_edge d S [.ref a0, .int a1] r cs) 0 0 S 60 [(4, .int v2)] [.int v12]) hf ?_ ?_
    · intro v12 hf
      refine h_istore (lv2 := [(7, .int v12), (4, .int v2)]) dX9_edge_60 (Nat.le_of_ble_eq_true rfl) rfl ?_
      refine h_iload dX9_edge_62 1 rfl ?_
      refine h_iload dX9_edge_64 0 rfl ?_
      refine h_icmp_ge (tgt := 74) dX9_edge_66 (by decide) (fun c13 => ?_) (fun c13 => ?_)
      · rw [if_pos c13] at hf
        refine h_iload dX9_edge_74 0 rfl ?_
        obtain rfl := Option.some.inj hf
        exact h_iret rfl rfl rfl (Nat.le_refl _) (Nat.le_refl _) dX9_edge_76
      · rw [if_neg c13] at hf
        refine h_iload dX9_edge_69 1 rfl ?_
        refine h_goto (tgt := 76) dX9_edge_71 (by decide) ?_
        obtain rfl := Option.some.inj hf
        exact h_iret rfl rfl rfl (Nat.le_refl _) (Nat.le_refl _) dX9_edge_76
    · intro J11 hJ11 hf
      refine h_icmp_ge (tgt := 58) dX9_edge_50 (by decide) (fun c14 => ?_) (fun c14 => ?_)
      · rw [if_pos c14] at hf
        refine h_iload dX9_edge_58 0 rfl ?_
        refine h_sub (lv2 := [(4, .int v2)]) [2] rfl ?_
        exact hJ11 ((t9 - 1) - (a1 / 10)) hf
      · rw [if_neg c14] at hf
        refine h_iload dX9_edge_53 1 rfl ?_
        refine h_goto (tgt := 60) dX9_edge_55 (by decide) ?_
        refine h_sub (lv2 := [(4, .int v2)]) [2] rfl ?_
        exact hJ11 ((t5 - 1) - (a1 - a1 / 10 * 10)) hf
  · intro J1 hJ1 hf
    refine h_icmp_ge (tgt := 19) dX9_edge_12 (by decide) (fun c15 => ?_) (fun c15 => ?_)
    · rw [if_pos c15] at hf
      refine h_iload_n dX9_edge_19 rfl 0 rfl ?_
      refine h_sub (lv2 := [(0, .ref a0), (2, .int (a1 - a1 / 10 * 10)), (3, .int (a1 / 10))]) [2, 1, 0] rfl ?_
      exact hJ1 (a1 / 10) hf
    · rw [if_neg c15] at hf
      refine h_iload_n dX9_edge_15 rfl 1 rfl ?_
      refine h_goto (tgt := 20) dX9_edge_16 (by decide) ?_
      refine h_sub (lv2 := [(0, .ref a0), (2, .int (a1 - a1 / 10 * 10)), (3, .int (a1 / 10))]) [2, 1, 0] rfl ?_
      exact hJ1 (a1 - a1 / 10 * 10) hf
abbrev x_X9_allHeat (d : Nat) (S0 : hS) (args : List Value) (r : Int32 × hS) (cs : Nat → Nat) : hX := (((some .int), 3, d, 0, 0, false), (S0, args, some (.int r.1), r.2), cs)
theorem v_X9_allHeat : hVW yX9_allHeat cX9_allHeat 3 (some .int) RX9 0 := ⟨q_1245, q_s49, q_9, q_1246, by decide +kernel, by decide⟩
def f_X9_allHeat_L4 : Nat → Nat → Int32 → Int32 → hS → (Int32 → Option (Int32 × hS)) → Option (Int32 × hS)
  | 0, _, _, _, _, _ => none
  | n + 1, x0, x1, x2, S, k0 =>
    if 80 ≤ x2 then
      (k0 x1)
    else
      (hbd (gR S x0 9 2) fun t2 =>
       hbd (gA S t2 12 x2) fun t4 =>
       f_X9_allHeat_L4 n x0 (x1 + t4) (x2 + 1) S k0)
def f_X9_allHeat (a0 : Nat) (S : hS) : Option (Int32 × hS) :=
  f_X9_allHeat_L4 hfuel a0 0 0 S
    (fun u6 =>
      some (u6, S)
    )
set_option maxRecDepth 100000 in
set_option maxHeartbeats 4000000 in
theorem w_X9_allHeat_L4 {d : Nat} {S0 : hS} {args : List Value} {cs : Nat → Nat} {r : Int32 × hS} (hd : 1 ≤ d) : ∀ (n : Nat) (x0 : Nat) (x1 : Int32) (x2 : Int32) (S : hS) (k0 : (Int32 → Option (Int32 × hS))) , f_X9_allHeat_L4 n x0 x1 x2 S k0 = some r → (∀ (y1 : Int32), k0 y1 = some r → HW cX9_allHeat RX9 (x_X9_allHeat d S0 args r cs) 0 0 S 25 [(1, .int y1)] []) → HW cX9_allHeat RX9 (x_X9_allHeat d S0 args r cs) 0 0 S 4 [(0, .ref x0), (1, .int x1), (2, .int x2)] [] := by
  intro n
  induction n with
  | zero =>
    intro x0 x1 x2 S k0 hf
    cases hf
  | succ n ih =>
    intro x0 x1 x2 S k0 hf hk0
    rw [f_X9_allHeat_L4] at hf
    refine h_iload_n dX9_allHeat_4 rfl 2 rfl ?_
    refine h_bipush (v := 80) dX9_allHeat_5 rfl ?_
    refine h_icmp_ge (tgt := 25) dX9_allHeat_7 (by decide) (fun c1 => ?_) (fun c1 => ?_)
    · rw [if_pos c1] at hf
      refine h_sub (lv2 := [(1, .int x1)]) [1] rfl ?_
      exact hk0 x1  hf
    · rw [if_neg c1] at hf
      refine h_iload_n dX9_allHeat_10 rfl 1 rfl ?_
      refine h_aload_n dX9_allHeat_11 rfl 0 rfl ?_
      obtain ⟨t2, h3, hf⟩ := hbd_s hf
      refine h_getR h3 rfl (Nat.le_of_ble_eq_true rfl) rfl q_962 rfl dX9_allHeat_12 ?_
      refine h_iload_n dX9_allHeat_15 rfl 2 rfl ?_
      obtain ⟨t4, h5, hf⟩ := hbd_s hf
      refine h_iald h5 dX9_allHeat_16 ?_
      refine h_iadd dX9_allHeat_17 ?_
      refine h_istore_n (lv2 := [(1, .int (x1 + t4)), (0, .ref x0), (2, .int x2)]) dX9_allHeat_18 rfl (Nat.le_of_ble_eq_true rfl) rfl ?_
      refine h_iinc (q := 2) (v := x2 + 1) (lv2 := [(2, .int (x2 + 1)), (1, .int (x1 + t4)), (0, .ref x0)]) dX9_allHeat_19 rfl rfl (Nat.le_of_ble_eq_true rfl) rfl ?_
      refine h_goto (tgt := 4) dX9_allHeat_22 (by decide) ?_
      refine h_sub (lv2 := [(0, .ref x0), (1, .int (x1 + t4)), (2, .int (x2 + 1))]) [2, 1, 0] rfl ?_
      exact ih x0 (x1 + t4) (x2 + 1) S k0  hf hk0
set_option maxRecDepth 100000 in
set_option maxHeartbeats 4000000 in
theorem m_X9_allHeat {d : Nat} {cs : Nat → Nat} {a0 : Nat} {S : hS} {r : Int32 × hS} (hd : 1 ≤ d) (hf : f_X9_allHeat a0 S = some r) : HM yX9_allHeat cX9_allHeat 3 (some .int) d 0 0 cs [.ref a0] S (some (.int r.1)) r.2 := by
  unfold f_X9_allHeat at hf
  refine HM.ofHW false (by decide) (fun h => by cases h) (Nat.le_of_ble_eq_true rfl) ?_
  show HW cX9_allHeat RX9 (x_X9_allHeat d S [.ref a0] r cs) 0 0 S 0 [(0, .ref a0)] []
  refine h_iconst (v := 0) dX9_allHeat_0 rfl ?_
  refine h_istore_n (lv2 := [(1, .int 0), (0, .ref a0)]) dX9_allHeat_1 rfl (Nat.le_of_ble_eq_true rfl) rfl ?_
  refine h_iconst (v := 0) dX9_allHeat_2 rfl ?_
  refine h_istore_n (lv2 := [(2, .int 0), (1, .int 0), (0, .ref a0)]) dX9_allHeat_3 rfl (Nat.le_of_ble_eq_true rfl) rfl ?_
  refine h_sub (lv2 := [(0, .ref a0), (1, .int 0), (2, .int 0)]) [2, 1, 0] rfl ?_
  refine w_X9_allHeat_L4 hd hfuel a0 0 0 S _  hf ?_
  · intro u6 hf
    refine h_iload_n dX9_allHeat_25 rfl 0 rfl ?_
    obtain rfl := Option.some.inj hf
    exact h_iret rfl rfl rfl (Nat.le_refl _) (Nat.le_refl _) dX9_allHeat_26
abbrev x_X9_put (d : Nat) (S0 : hS) (args : List Value) (r : hS) (cs : Nat → Nat) : hX := ((none, 3, d, 0, 0, false), (S0, args, none, r), cs)
theorem v_X9_put : hVW yX9_put cX9_put 3 none RX9 1 := ⟨q_1157, q_s34, q_9, q_1158, by decide +kernel, by decide⟩
def f_X9_put_L3 : Nat → Nat → Int32 → Int32 → hS → (hS → Option (hS)) → Option (hS)
  | 0, _, _, _, _, _ => none
  | n + 1, x0, x1, x2, S, k0 =>
    if x2 < 0 then
      (k0 S)
    else
      (hbd (gR S x0 9 34) fun t2 =>
       hbd (gI S x0 9 23) fun t4 =>
       hbd (sAB S t2 t4 ((Int32.toInt8 (x1 >>> (x2 &&& 31))).toInt32)) fun S6 =>
       hbd (gI S6 x0 9 23) fun t8 =>
       hbd (sI S6 x0 9 23 (t8 + 1)) fun S10 =>
       f_X9_put_L3 n x0 x1 (x2 + (-8)) S10 k0)
def f_X9_put (a0 : Nat) (a1 : Int32) (S : hS) : Option (hS) :=
  f_X9_put_L3 hfuel a0 a1 24 S
    (fun S12 =>
      some S12
    )
set_option maxRecDepth 100000 in
set_option maxHeartbeats 4000000 in
theorem w_X9_put_L3 {d : Nat} {S0 : hS} {args : List Value} {cs : Nat → Nat} {r : hS} (hd : 1 ≤ d) : ∀ (n : Nat) (x0 : Nat) (x1 : Int32) (x2 : Int32) (S : hS) (k0 : (hS → Option (hS))) , f_X9_put_L3 n x0 x1 x2 S k0 = some r → (∀ (T : hS), k0 T = some r → HW cX9_put RX9 (x_X9_put d S0 args r cs) 0 0 T 36 [] []) → HW cX9_put RX9 (x_X9_put d S0 args r cs) 0 0 S 3 [(0, .ref x0), (1, .int x1), (2, .int x2)] [] := by
  intro n
  induction n with
  | zero =>
    intro x0 x1 x2 S k0 hf
    cases hf
  | succ n ih =>
    intro x0 x1 x2 S k0 hf hk0
    rw [f_X9_put_L3] at hf
    refine h_iload_n dX9_put_3 rfl 2 rfl ?_
    refine h_if_lt (tgt := 36) dX9_put_4 (by decide) (fun c1 => ?_) (fun c1 => ?_)
    · rw [if_pos c1] at hf
      refine h_sub (lv2 := []) [] rfl ?_
      exact hk0 S hf
    · rw [if_neg c1] at hf
      refine h_aload_n dX9_put_7 rfl 0 rfl ?_
      obtain ⟨t2, h3, hf⟩ := hbd_s hf
      refine h_getR h3 rfl (Nat.le_of_ble_eq_true rfl) rfl q_994 rfl dX9_put_8 ?_
      refine h_aload_n dX9_put_11 rfl 0 rfl ?_
      obtain ⟨t4, h5, hf⟩ := hbd_s hf
      refine h_getI h5 rfl (Nat.le_of_ble_eq_true rfl) rfl q_983 rfl dX9_put_12 ?_
      refine h_iload_n dX9_put_15 rfl 1 rfl ?_
      refine h_iload_n dX9_put_16 rfl 2 rfl ?_
      refine h_ishr dX9_put_17 ?_
      refine h_i2b dX9_put_18 ?_
      obtain ⟨S6, h7, hf⟩ := hbd_s hf
      refine h_bast h7 dX9_put_19 ?_
      refine h_aload_n dX9_put_20 rfl 0 rfl ?_
      refine h_dup dX9_put_21 rfl ?_
      obtain ⟨t8, h9, hf⟩ := hbd_s hf
      refine h_getI h9 rfl (Nat.le_of_ble_eq_true rfl) rfl q_983 rfl dX9_put_22 ?_
      refine h_iconst (v := 1) dX9_put_25 rfl ?_
      refine h_iadd dX9_put_26 ?_
      obtain ⟨S10, h11, hf⟩ := hbd_s hf
      refine h_putI h11 rfl (Nat.le_of_ble_eq_true rfl) rfl q_983 rfl rfl (by decide +kernel) dX9_put_27 ?_
      refine h_iinc (q := 2) (v := x2 + (-8)) (lv2 := [(2, .int (x2 + (-8))), (0, .ref x0), (1, .int x1)]) dX9_put_30 rfl rfl (Nat.le_of_ble_eq_true rfl) rfl ?_
      refine h_goto (tgt := 3) dX9_put_33 (by decide) ?_
      refine h_sub (lv2 := [(0, .ref x0), (1, .int x1), (2, .int (x2 + (-8)))]) [1, 2, 0] rfl ?_
      exact ih x0 x1 (x2 + (-8)) S10 k0  hf hk0
set_option maxRecDepth 100000 in
set_option maxHeartbeats 4000000 in
theorem m_X9_put {d : Nat} {cs : Nat → Nat} {a0 : Nat} {a1 : Int32} {S : hS} {r : hS} (hd : 1 ≤ d) (hf : f_X9_put a0 a1 S = some r) : HM yX9_put cX9_put 3 none d 0 0 cs [.ref a0, .int a1] S (none) r := by
  unfold f_X9_put at hf
  refine HM.ofHW false (by decide) (fun h => by cases h) (Nat.le_of_ble_eq_true rfl) ?_
  show HW cX9_put RX9 (x_X9_put d S [.ref a0, .int a1] r cs) 0 0 S 0 [(0, .ref a0), (1, .int a1)] []
  refine h_bipush (v := 24) dX9_put_0 rfl ?_
  refine h_istore_n (lv2 := [(2, .int 24), (0, .ref a0), (1, .int a1)]) dX9_put_2 rfl (Nat.le_of_ble_eq_true rfl) rfl ?_
  refine h_sub (lv2 := [(0, .ref a0), (1, .int a1), (2, .int 24)]) [1, 2, 0] rfl ?_
  refine w_X9_put_L3 hd hfuel a0 a1 24 S _  hf ?_
  · intro S12 hf
    obtain rfl := Option.some.inj hf
    exact h_vret rfl rfl rfl (Nat.le_refl _) (Nat.le_refl _) dX9_put_36
abbrev x_X9_end (d : Nat) (S0 : hS) (args : List Value) (r : Int32 × hS) (cs : Nat → Nat) : hX := (((some .int), 2, d, 0, 0, false), (S0, args, some (.int r.1), r.2), cs)
theorem v_X9_end : hVW yX9_end cX9_end 2 (some .int) RX9 1 := ⟨q_1160, q_1161, q_9, q_1162, by decide +kernel, by decide⟩
def f_X9_end (a0 : Nat) (a1 : Int32) (S : hS) : Option (Int32 × hS) :=
  if a1 < 0 then
    (some ((-1), S))
  else
    (hbd (gI S a0 9 23) fun t2 =>
     if a1 ≤ t2 then
       (hbd (sI S a0 9 23 a1) fun S5 =>
        some (a1, S5))
     else
       (some ((-1), S)))
set_option maxRecDepth 100000 in
set_option maxHeartbeats 4000000 in
theorem m_X9_end {d : Nat} {cs : Nat → Nat} {a0 : Nat} {a1 : Int32} {S : hS} {r : Int32 × hS} (hd : 1 ≤ d) (hf : f_X9_end a0 a1 S = some r) : HM yX9_end cX9_end 2 (some .int) d 0 0 cs [.ref a0, .int a1] S (some (.int r.1)) r.2 := by
  unfold f_X9_end at hf
  refine HM.ofHW false (by decide) (fun h => by cases h) (Nat.le_of_ble_eq_true rfl) ?_
  show HW cX9_end RX9 (x_X9_end d S [.ref a0, .int a1] r cs) 0 0 S 0 [(0, .ref a0), (1, .int a1)] []
  refine h_iload_n dX9_end_0 rfl 1 rfl ?_
  refine h_if_lt (tgt := 12) dX9_end_1 (by decide) (fun c1 => ?_) (fun c1 => ?_)
  · rw [if_pos c1] at hf
    refine h_iconst (v := (-1)) dX9_end_12 rfl ?_
    obtain rfl := Option.some.inj hf
    exact h_iret rfl rfl rfl (Nat.le_refl _) (Nat.le_refl _) dX9_end_13
  · rw [if_neg c1] at hf
    refine h_iload_n dX9_end_4 rfl 1 rfl ?_
    refine h_aload_n dX9_end_5 rfl 0 rfl ?_
    obtain ⟨t2, h3, hf⟩ := hbd_s hf
    refine h_getI h3 rfl (Nat.le_of_ble_eq_true rfl) rfl q_983 rfl dX9_end_6 ?_
    refine h_icmp_le (tgt := 14) dX9_end_9 (by decide) (fun c4 => ?_) (fun c4 => ?_)
    · rw [if_pos c4] at hf
      refine h_aload_n dX9_end_14 rfl 0 rfl ?_
      refine h_iload_n dX9_end_15 rfl 1 rfl ?_
      obtain ⟨S5, h6, hf⟩ := hbd_s hf
      refine h_putI h6 rfl (Nat.le_of_ble_eq_true rfl) rfl q_983 rfl rfl (by decide +kernel) dX9_end_16 ?_
      refine h_iload_n dX9_end_19 rfl 1 rfl ?_
      obtain rfl := Option.some.inj hf
      exact h_iret rfl rfl rfl (Nat.le_refl _) (Nat.le_refl _) dX9_end_20
    · rw [if_neg c4] at hf
      refine h_iconst (v := (-1)) dX9_end_12 rfl ?_
      obtain rfl := Option.some.inj hf
      exact h_iret rfl rfl rfl (Nat.le_refl _) (Nat.le_refl _) dX9_end_13
abbrev x_X9_wordOf (d : Nat) (S0 : hS) (args : List Value) (r : Nat × hS) (cs : Nat → Nat) : hX := (((Option.some (.object "java/lang/String")), 1, d, 0, 0, false), (S0, args, some (.ref (cs r.1)), r.2), cs)
theorem v_X9_wordOf : hSW yX9_wordOf cX9_wordOf 1 (Option.some (.object "java/lang/String")) 1 := ⟨q_1277, q_9, q_1278, by decide +kernel, by decide⟩
def f_X9_wordOf (a0 : Int32) (S : hS) : Option (Nat × hS) :=
  if a0 = 0 then
    (some (16, S))
  else
    (if a0 = 1 then
       (some (17, S))
     else
       (if a0 = 2 then
          (some (18, S))
        else
          (if a0 = 3 then
             (some (19, S))
           else
             (if a0 = 4 then
                (some (20, S))
              else
                (if a0 = 5 then
                   (some (21, S))
                 else
                   (if a0 = 6 then
                      (some (22, S))
                    else
                      (if a0 = 7 then
                         (some (23, S))
                       else
                         (some (24, S)))))))))
set_option maxRecDepth 100000 in
set_option maxHeartbeats 4000000 in
theorem m_X9_wordOf {d : Nat} {cs : Nat → Nat} {a0 : Int32} {S : hS} {r : Nat × hS} (hd : 1 ≤ d) (hf : f_X9_wordOf a0 S = some r) : HM yX9_wordOf cX9_wordOf 1 (Option.some (.object "java/lang/String")) d 0 0 cs [.int a0] S (some (.ref (cs r.1))) r.2 := by
  unfold f_X9_wordOf at hf
  refine HM.ofHW false (by decide) (fun h => by cases h) (Nat.le_of_ble_eq_true rfl) ?_
  show HW cX9_wordOf RX9 (x_X9_wordOf d S [.int a0] r cs) 0 0 S 0 [(0, .int a0)] []
  refine h_iload_n dX9_wordOf_0 rfl 0 rfl ?_
  by_cases c1 : a0 = 0
  · rw [if_pos c1] at hf
    refine h_tabIn (tgt := 48) 0 (by rw [c1]; rfl) dX9_wordOf_1 (by decide) (by decide) rfl (by decide) ?_
    refine h_ldcS dX9_wordOf_48 (List.mem_of_getElem? (i := 17) rfl) ?_
    obtain rfl := Option.some.inj hf
    exact h_aret (v := some (cs 16)) rfl (Or.inl ⟨_, rfl⟩) rfl rfl (Nat.le_refl _) (Nat.le_refl _) dX9_wordOf_50
  · rw [if_neg c1] at hf
    by_cases c2 : a0 = 1
    · rw [if_pos c2] at hf
      refine h_tabIn (tgt := 51) 1 (by rw [c2]; rfl) dX9_wordOf_1 (by decide) (by decide) rfl (by decide) ?_
      refine h_ldcS dX9_wordOf_51 (List.mem_of_getElem? (i := 18) rfl) ?_
      obtain rfl := Option.some.inj hf
      exact h_aret (v := some (cs 17)) rfl (Or.inl ⟨_, rfl⟩) rfl rfl (Nat.le_refl _) (Nat.le_refl _) dX9_wordOf_53
    · rw [if_neg c2] at hf
      by_cases c3 : a0 = 2
      · rw [if_pos c3] at hf
        refine h_tabIn (tgt := 54) 2 (by rw [c3]; rfl) dX9_wordOf_1 (by decide) (by decide) rfl (by decide) ?_
        refine h_ldcS dX9_wordOf_54 (List.mem_of_getElem? (i := 19) rfl) ?_
        obtain rfl := Option.some.inj hf
        exact h_aret (v := some (cs 18)) rfl (Or.inl ⟨_, rfl⟩) rfl rfl (Nat.le_refl _) (Nat.le_refl _) dX9_wordOf_56
      · rw [if_neg c3] at hf
        by_cases c4 : a0 = 3
        · rw [if_pos c4] at hf
          refine h_tabIn (tgt := 57) 3 (by rw [c4]; rfl) dX9_wordOf_1 (by decide) (by decide) rfl (by decide) ?_
          refine h_ldcS dX9_wordOf_57 (List.mem_of_getElem? (i := 20) rfl) ?_
          obtain rfl := Option.some.inj hf
          exact h_aret (v := some (cs 19)) rfl (Or.inl ⟨_, rfl⟩) rfl rfl (Nat.le_refl _) (Nat.le_refl _) dX9_wordOf_59
        · rw [if_neg c4] at hf
          by_cases c5 : a0 = 4
          · rw [if_pos c5] at hf
            refine h_tabIn (tgt := 60) 4 (by rw [c5]; rfl) dX9_wordOf_1 (by decide) (by decide) rfl (by decide) ?_
            refine h_ldcS dX9_wordOf_60 (List.mem_of_getElem? (i := 21) rfl) ?_
            obtain rfl := Option.some.inj hf
            exact h_aret (v := some (cs 20)) rfl (Or.inl ⟨_, rfl⟩) rfl rfl (Nat.le_refl _) (Nat.le_refl _) dX9_wordOf_62
          · rw [if_neg c5] at hf
            by_cases c6 : a0 = 5
            · rw [if_pos c6] at hf
              refine h_tabIn (tgt := 63) 5 (by rw [c6]; rfl) dX9_wordOf_1 (by decide) (by decide) rfl (by decide) ?_
              refine h_ldcS dX9_wordOf_63 (List.mem_of_getElem? (i := 22) rfl) ?_
              obtain rfl := Option.some.inj hf
              exact h_aret (v := some (cs 21)) rfl (Or.inl ⟨_, rfl⟩) rfl rfl (Nat.le_refl _) (Nat.le_refl _) dX9_wordOf_65
            · rw [if_neg c6] at hf
              by_cases c7 : a0 = 6
              · rw [if_pos c7] at hf
                refine h_tabIn (tgt := 66) 6 (by rw [c7]; rfl) dX9_wordOf_1 (by decide) (by decide) rfl (by decide) ?_
                refine h_ldcS dX9_wordOf_66 (List.mem_of_getElem? (i := 23) rfl) ?_
                obtain rfl := Option.some.inj hf
                exact h_aret (v := some (cs 22)) rfl (Or.inl ⟨_, rfl⟩) rfl rfl (Nat.le_refl _) (Nat.le_refl _) dX9_wordOf_68
              · rw [if_neg c7] at hf
                by_cases c8 : a0 = 7
                · rw [if_pos c8] at hf
                  refine h_tabIn (tgt := 69) 7 (by rw [c8]; rfl) dX9_wordOf_1 (by decide) (by decide) rfl (by decide) ?_
                  refine h_ldcS dX9_wordOf_69 (List.mem_of_getElem? (i := 24) rfl) ?_
                  obtain rfl := Option.some.inj hf
                  exact h_aret (v := some (cs 23)) rfl (Or.inl ⟨_, rfl⟩) rfl rfl (Nat.le_refl _) (Nat.le_refl _) dX9_wordOf_71
                · rw [if_neg c8] at hf
                  refine h_tabOut (tgt := 72) dX9_wordOf_1 (by have g0 := hne_t (a := 0) c1 rfl; have g1 := hne_t (a := 1) c2 rfl; have g2 := hne_t (a := 2) c3 rfl; have g3 := hne_t (a := 3) c4 rfl; have g4 := hne_t (a := 4) c5 rfl; have g5 := hne_t (a := 5) c6 rfl; have g6 := hne_t (a := 6) c7 rfl; have g7 := hne_t (a := 7) c8 rfl; omega) (by decide) ?_
                  refine h_ldcS dX9_wordOf_72 (List.mem_of_getElem? (i := 25) rfl) ?_
                  obtain rfl := Option.some.inj hf
                  exact h_aret (v := some (cs 24)) rfl (Or.inl ⟨_, rfl⟩) rfl rfl (Nat.le_refl _) (Nat.le_refl _) dX9_wordOf_74
abbrev x_X9_hallWord (d : Nat) (S0 : hS) (args : List Value) (r : Nat × hS) (cs : Nat → Nat) : hX := (((Option.some (.object "java/lang/String")), 1, d, 0, 0, false), (S0, args, some (.ref (cs r.1)), r.2), cs)
theorem v_X9_hallWord : hSW yX9_hallWord cX9_hallWord 1 (Option.some (.object "java/lang/String")) 1 := ⟨q_1184, q_9, q_1185, by decide +kernel, by decide⟩
def f_X9_hallWord (a0 : Int32) (S : hS) : Option (Nat × hS) :=
  if a0 = 0 then
    (some (10, S))
  else
    (if a0 = 1 then
       (some (11, S))
     else
       (if a0 = 2 then
          (some (12, S))
        else
          (if a0 = 3 then
             (some (13, S))
           else
             (if a0 = 4 then
                (some (14, S))
              else
                (some (15, S))))))
set_option maxRecDepth 100000 in
set_option maxHeartbeats 4000000 in
theorem m_X9_hallWord {d : Nat} {cs : Nat → Nat} {a0 : Int32} {S : hS} {r : Nat × hS} (hd : 1 ≤ d) (hf : f_X9_hallWord a0 S = some r) : HM yX9_hallWord cX9_hallWord 1 (Option.some (.object "java/lang/String")) d 0 0 cs [.int a0] S (some (.ref (cs r.1))) r.2 := by
  unfold f_X9_hallWord at hf
  refine HM.ofHW false (by decide) (fun h => by cases h) (Nat.le_of_ble_eq_true rfl) ?_
  show HW cX9_hallWord RX9 (x_X9_hallWord d S [.int a0] r cs) 0 0 S 0 [(0, .int a0)] []
  refine h_iload_n dX9_hallWord_0 rfl 0 rfl ?_
  by_cases c1 : a0 = 0
  · rw [if_pos c1] at hf
    refine h_tabIn (tgt := 36) 0 (by rw [c1]; rfl) dX9_hallWord_1 (by decide) (by decide) rfl (by decide) ?_
    refine h_ldcS dX9_hallWord_36 (List.mem_of_getElem? (i := 10) rfl) ?_
    obtain rfl := Option.some.inj hf
    exact h_aret (v := some (cs 10)) rfl (Or.inl ⟨_, rfl⟩) rfl rfl (Nat.le_refl _) (Nat.le_refl _) dX9_hallWord_38
  · rw [if_neg c1] at hf
    by_cases c2 : a0 = 1
    · rw [if_pos c2] at hf
      refine h_tabIn (tgt := 39) 1 (by rw [c2]; rfl) dX9_hallWord_1 (by decide) (by decide) rfl (by decide) ?_
      refine h_ldcS dX9_hallWord_39 (List.mem_of_getElem? (i := 11) rfl) ?_
      obtain rfl := Option.some.inj hf
      exact h_aret (v := some (cs 11)) rfl (Or.inl ⟨_, rfl⟩) rfl rfl (Nat.le_refl _) (Nat.le_refl _) dX9_hallWord_41
    · rw [if_neg c2] at hf
      by_cases c3 : a0 = 2
      · rw [if_pos c3] at hf
        refine h_tabIn (tgt := 42) 2 (by rw [c3]; rfl) dX9_hallWord_1 (by decide) (by decide) rfl (by decide) ?_
        refine h_ldcS dX9_hallWord_42 (List.mem_of_getElem? (i := 12) rfl) ?_
        obtain rfl := Option.some.inj hf
        exact h_aret (v := some (cs 12)) rfl (Or.inl ⟨_, rfl⟩) rfl rfl (Nat.le_refl _) (Nat.le_refl _) dX9_hallWord_44
      · rw [if_neg c3] at hf
        by_cases c4 : a0 = 3
        · rw [if_pos c4] at hf
          refine h_tabIn (tgt := 45) 3 (by rw [c4]; rfl) dX9_hallWord_1 (by decide) (by decide) rfl (by decide) ?_
          refine h_ldcS dX9_hallWord_45 (List.mem_of_getElem? (i := 13) rfl) ?_
          obtain rfl := Option.some.inj hf
          exact h_aret (v := some (cs 13)) rfl (Or.inl ⟨_, rfl⟩) rfl rfl (Nat.le_refl _) (Nat.le_refl _) dX9_hallWord_47
        · rw [if_neg c4] at hf
          by_cases c5 : a0 = 4
          · rw [if_pos c5] at hf
            refine h_tabIn (tgt := 48) 4 (by rw [c5]; rfl) dX9_hallWord_1 (by decide) (by decide) rfl (by decide) ?_
            refine h_ldcS dX9_hallWord_48 (List.mem_of_getElem? (i := 14) rfl) ?_
            obtain rfl := Option.some.inj hf
            exact h_aret (v := some (cs 14)) rfl (Or.inl ⟨_, rfl⟩) rfl rfl (Nat.le_refl _) (Nat.le_refl _) dX9_hallWord_50
          · rw [if_neg c5] at hf
            refine h_tabOut (tgt := 51) dX9_hallWord_1 (by have g0 := hne_t (a := 0) c1 rfl; have g1 := hne_t (a := 1) c2 rfl; have g2 := hne_t (a := 2) c3 rfl; have g3 := hne_t (a := 3) c4 rfl; have g4 := hne_t (a := 4) c5 rfl; omega) (by decide) ?_
            refine h_ldcS dX9_hallWord_51 (List.mem_of_getElem? (i := 15) rfl) ?_
            obtain rfl := Option.some.inj hf
            exact h_aret (v := some (cs 15)) rfl (Or.inl ⟨_, rfl⟩) rfl rfl (Nat.le_refl _) (Nat.le_refl _) dX9_hallWord_53
abbrev x_X9_fails (d : Nat) (S0 : hS) (args : List Value) (r : hS) (cs : Nat → Nat) : hX := ((none, 3, d, 0, 0, false), (S0, args, none, r), cs)
theorem v_X9_fails : hVW yX9_fails cX9_fails 3 none RX9 2 := ⟨q_1200, q_s40, q_9, q_1201, by decide +kernel, by decide⟩
def f_X9_fails (a0 : Nat) (a1 : Int32) (a2 : Int32) (S : hS) : Option (hS) :=
  hbd (gI S a0 9 25) fun t1 =>
  hj (γ := Int32 → Option (hS)) (fun (v4 : Int32) =>
    hbd (sI S a0 9 25 v4) fun S5 =>
    some S5
    ) fun J3 =>
  if t1 = 0 then
    (J3 ((1 + (8 * a2)) + a1))
  else
    (hbd (gI S a0 9 25) fun t8 =>
     J3 t8)
set_option maxRecDepth 100000 in
set_option maxHeartbeats 4000000 in
theorem m_X9_fails {d : Nat} {cs : Nat → Nat} {a0 : Nat} {a1 : Int32} {a2 : Int32} {S : hS} {r : hS} (hd : 1 ≤ d) (hf : f_X9_fails a0 a1 a2 S = some r) : HM yX9_fails cX9_fails 3 none d 0 0 cs [.ref a0, .int a1, .int a2] S (none) r := by
  unfold f_X9_fails at hf
  refine HM.ofHW false (by decide) (fun h => by cases h) (Nat.le_of_ble_eq_true rfl) ?_
  show HW cX9_fails RX9 (x_X9_fails d S [.ref a0, .int a1, .int a2] r cs) 0 0 S 0 [(0, .ref a0), (1, .int a1), (2, .int a2)] []
  refine h_aload_n dX9_fails_0 rfl 0 rfl ?_
  refine h_aload_n dX9_fails_1 rfl 0 rfl ?_
  obtain ⟨t1, h2, hf⟩ := hbd_s hf
  refine h_getI h2 rfl (Nat.le_of_ble_eq_true rfl) rfl q_985 rfl dX9_fails_2 ?_
  refine hj_s (fun J3 => ∀ (v4 : Int32), J3 v4 = some r → HW cX9_fails RX9 (x_X9_fails d S [.ref a0, .int a1, .int a2] r cs) 0 0 S 23 [] [.int v4, .ref a0]) hf ?_ ?_
  · intro v4 hf
    obtain ⟨S5, h6, hf⟩ := hbd_s hf
    refine h_putI h6 rfl (Nat.le_of_ble_eq_true rfl) rfl q_985 rfl rfl (by decide +kernel) dX9_fails_23 ?_
    obtain rfl := Option.some.inj hf
    exact h_vret rfl rfl rfl (Nat.le_refl _) (Nat.le_refl _) dX9_fails_26
  · intro J3 hJ3 hf
    refine h_if_ne (tgt := 19) dX9_fails_5 (by decide) (fun c7 => ?_) (fun c7 => ?_)
    · rw [if_neg c7] at hf
      refine h_aload_n dX9_fails_19 rfl 0 rfl ?_
      obtain ⟨t8, h9, hf⟩ := hbd_s hf
      refine h_getI h9 rfl (Nat.le_of_ble_eq_true rfl) rfl q_985 rfl dX9_fails_20 ?_
      refine h_sub (lv2 := []) [] rfl ?_
      exact hJ3 t8 hf
    · rw [if_pos c7] at hf
      refine h_iconst (v := 1) dX9_fails_8 rfl ?_
      refine h_bipush (v := 8) dX9_fails_9 rfl ?_
      refine h_iload_n dX9_fails_11 rfl 2 rfl ?_
      refine h_imul dX9_fails_12 ?_
      refine h_iadd dX9_fails_13 ?_
      refine h_iload_n dX9_fails_14 rfl 1 rfl ?_
      refine h_iadd dX9_fails_15 ?_
      refine h_goto (tgt := 23) dX9_fails_16 (by decide) ?_
      refine h_sub (lv2 := []) [] rfl ?_
      exact hJ3 ((1 + (8 * a2)) + a1) hf
abbrev x_X9_sign (d : Nat) (S0 : hS) (args : List Value) (r : Int32 × hS) (cs : Nat → Nat) : hX := (((some .int), 1, d, 0, 0, false), (S0, args, some (.int r.1), r.2), cs)
theorem v_X9_sign : hVW yX9_sign cX9_sign 1 (some .int) RX9 0 := ⟨q_1181, q_s38, q_9, q_1182, by decide +kernel, by decide⟩
def f_X9_sign (a0 : Nat) (S : hS) : Option (Int32 × hS) :=
  hbd (gI S a0 9 24) fun t1 =>
  hbd (gI S a0 9 23) fun t3 =>
  if t3 ≤ t1 then
    (some ((-1), S))
  else
    (hbd (gR S a0 9 34) fun t6 =>
     hbd (gI S a0 9 24) fun t8 =>
     hbd (gA S t6 11 t8) fun t10 =>
     some (t10 &&& 255, S))
set_option maxRecDepth 100000 in
set_option maxHeartbeats 4000000 in
theorem m_X9_sign {d : Nat} {cs : Nat → Nat} {a0 : Nat} {S : hS} {r : Int32 × hS} (hd : 1 ≤ d) (hf : f_X9_sign a0 S = some r) : HM yX9_sign cX9_sign 1 (some .int) d 0 0 cs [.ref a0] S (some (.int r.1)) r.2 := by
  unfold f_X9_sign at hf
  refine HM.ofHW false (by decide) (fun h => by cases h) (Nat.le_of_ble_eq_true rfl) ?_
  show HW cX9_sign RX9 (x_X9_sign d S [.ref a0] r cs) 0 0 S 0 [(0, .ref a0)] []
  refine h_aload_n dX9_sign_0 rfl 0 rfl ?_
  obtain ⟨t1, h2, hf⟩ := hbd_s hf
  refine h_getI h2 rfl (Nat.le_of_ble_eq_true rfl) rfl q_984 rfl dX9_sign_1 ?_
  refine h_aload_n dX9_sign_4 rfl 0 rfl ?_
  obtain ⟨t3, h4, hf⟩ := hbd_s hf
  refine h_getI h4 rfl (Nat.le_of_ble_eq_true rfl) rfl q_983 rfl dX9_sign_5 ?_
  refine h_icmp_ge (tgt := 27) dX9_sign_8 (by decide) (fun c5 => ?_) (fun c5 => ?_)
  · rw [if_pos c5] at hf
    refine h_iconst (v := (-1)) dX9_sign_27 rfl ?_
    obtain rfl := Option.some.inj hf
    exact h_iret rfl rfl rfl (Nat.le_refl _) (Nat.le_refl _) dX9_sign_28
  · rw [if_neg c5] at hf
    refine h_aload_n dX9_sign_11 rfl 0 rfl ?_
    obtain ⟨t6, h7, hf⟩ := hbd_s hf
    refine h_getR h7 rfl (Nat.le_of_ble_eq_true rfl) rfl q_994 rfl dX9_sign_12 ?_
    refine h_aload_n dX9_sign_15 rfl 0 rfl ?_
    obtain ⟨t8, h9, hf⟩ := hbd_s hf
    refine h_getI h9 rfl (Nat.le_of_ble_eq_true rfl) rfl q_984 rfl dX9_sign_16 ?_
    obtain ⟨t10, h11, hf⟩ := hbd_s hf
    refine h_bald h11 dX9_sign_19 ?_
    refine h_sipush (v := 255) dX9_sign_20 rfl ?_
    refine h_iand dX9_sign_23 ?_
    refine h_goto (tgt := 28) dX9_sign_24 (by decide) ?_
    obtain rfl := Option.some.inj hf
    exact h_iret rfl rfl rfl (Nat.le_refl _) (Nat.le_refl _) dX9_sign_28
abbrev x_X9_blanks (d : Nat) (S0 : hS) (args : List Value) (r : hS) (cs : Nat → Nat) : hX := ((none, 1, d, 0, 0, false), (S0, args, none, r), cs)
theorem v_X9_blanks : hVW yX9_blanks cX9_blanks 1 none RX9 0 := ⟨q_1177, q_s37, q_9, q_1178, by decide +kernel, by decide⟩
def f_X9_blanks_L0 : Nat → Nat → hS → (hS → Option (hS)) → Option (hS)
  | 0, _, _, _ => none
  | n + 1, x0, S, k0 =>
    hck (S.K x0 = 10) <|
    hb2 (f_X9_sign x0 S) fun t3 S2 =>
    if t3 = 32 then
      (hbd (gI S2 x0 9 24) fun t5 =>
       hbd (sI S2 x0 9 24 (t5 + 1)) fun S7 =>
       f_X9_blanks_L0 n x0 S7 k0)
    else
      (k0 S2)
def f_X9_blanks (a0 : Nat) (S : hS) : Option (hS) :=
  f_X9_blanks_L0 hfuel a0 S
    (fun S10 =>
      some S10
    )
set_option maxRecDepth 100000 in
set_option maxHeartbeats 4000000 in
theorem w_X9_blanks_L0 {d : Nat} {S0 : hS} {args : List Value} {cs : Nat → Nat} {r : hS} (hd : 2 ≤ d) : ∀ (n : Nat) (x0 : Nat) (S : hS) (k0 : (hS → Option (hS))) , f_X9_blanks_L0 n x0 S k0 = some r → (∀ (T : hS), k0 T = some r → HW cX9_blanks RX9 (x_X9_blanks d S0 args r cs) 0 0 T 22 [] []) → HW cX9_blanks RX9 (x_X9_blanks d S0 args r cs) 0 0 S 0 [(0, .ref x0)] [] := by
  intro n
  induction n with
  | zero =>
    intro x0 S k0 hf
    cases hf
  | succ n ih =>
    intro x0 S k0 hf hk0
    rw [f_X9_blanks_L0] at hf
    refine h_aload_n dX9_blanks_0 rfl 0 rfl ?_
    obtain ⟨g9, hf⟩ := hck_s hf
    obtain ⟨t3, S2, h1, hf⟩ := hb2_s hf
    refine h_Vi [] (rest := []) (m_X9_sign (d := 1) (cs := cs) (Nat.le_refl _) h1) v_X9_sign q_1179 rfl (Nat.le_trans (by decide) hd) g9 rfl rfl (Nat.le_of_ble_eq_true rfl) dX9_blanks_1 (Nat.le_refl _) (Nat.le_refl _) ?_
    refine h_bipush (v := 32) dX9_blanks_4 rfl ?_
    refine h_icmp_ne (tgt := 22) dX9_blanks_6 (by decide) (fun c4 => ?_) (fun c4 => ?_)
    · rw [if_neg c4] at hf
      refine h_sub (lv2 := []) [] rfl ?_
      exact hk0 S2 hf
    · rw [if_pos c4] at hf
      refine h_aload_n dX9_blanks_9 rfl 0 rfl ?_
      refine h_dup dX9_blanks_10 rfl ?_
      obtain ⟨t5, h6, hf⟩ := hbd_s hf
      refine h_getI h6 rfl (Nat.le_of_ble_eq_true rfl) rfl q_984 rfl dX9_blanks_11 ?_
      refine h_iconst (v := 1) dX9_blanks_14 rfl ?_
      refine h_iadd dX9_blanks_15 ?_
      obtain ⟨S7, h8, hf⟩ := hbd_s hf
      refine h_putI h8 rfl (Nat.le_of_ble_eq_true rfl) rfl q_984 rfl rfl (by decide +kernel) dX9_blanks_16 ?_
      refine h_goto (tgt := 0) dX9_blanks_19 (by decide) ?_
      exact ih x0 S7 k0  hf hk0
set_option maxRecDepth 100000 in
set_option maxHeartbeats 4000000 in
theorem m_X9_blanks {d : Nat} {cs : Nat → Nat} {a0 : Nat} {S : hS} {r : hS} (hd : 2 ≤ d) (hf : f_X9_blanks a0 S = some r) : HM yX9_blanks cX9_blanks 1 none d 0 0 cs [.ref a0] S (none) r := by
  unfold f_X9_blanks at hf
  refine HM.ofHW false (by decide) (fun h => by cases h) (Nat.le_of_ble_eq_true rfl) ?_
  show HW cX9_blanks RX9 (x_X9_blanks d S [.ref a0] r cs) 0 0 S 0 [(0, .ref a0)] []
  refine w_X9_blanks_L0 hd hfuel a0 S _  hf ?_
  · intro S10 hf
    obtain rfl := Option.some.inj hf
    exact h_vret rfl rfl rfl (Nat.le_refl _) (Nat.le_refl _) dX9_blanks_22
abbrev x_X9_isDigit (d : Nat) (S0 : hS) (args : List Value) (r : Int32 × hS) (cs : Nat → Nat) : hX := (((some .boolean), 1, d, 0, 0, false), (S0, args, some (.int r.1), r.2), cs)
theorem v_X9_isDigit : hVW yX9_isDigit cX9_isDigit 1 (some .boolean) RX9 0 := ⟨q_1221, q_s45, q_9, q_1222, by decide +kernel, by decide⟩
def f_X9_isDigit (a0 : Nat) (S : hS) : Option (Int32 × hS) :=
  hck (S.K a0 = 10) <|
  hb2 (f_X9_sign a0 S) fun t3 S2 =>
  hb2 (f_X9_in (Int32.toInt64 t3) 48 57 S2) fun t6 S5 =>
  hck (t6 = 0 ∨ t6 = 1) <|
  some (t6, S5)
set_option maxRecDepth 100000 in
set_option maxHeartbeats 4000000 in
theorem m_X9_isDigit {d : Nat} {cs : Nat → Nat} {a0 : Nat} {S : hS} {r : Int32 × hS} (hd : 2 ≤ d) (hf : f_X9_isDigit a0 S = some r) : HM yX9_isDigit cX9_isDigit 1 (some .boolean) d 0 0 cs [.ref a0] S (some (.int r.1)) r.2 := by
  unfold f_X9_isDigit at hf
  refine HM.ofHW false (by decide) (fun h => by cases h) (Nat.le_of_ble_eq_true rfl) ?_
  show HW cX9_isDigit RX9 (x_X9_isDigit d S [.ref a0] r cs) 0 0 S 0 [(0, .ref a0)] []
  refine h_aload_n dX9_isDigit_0 rfl 0 rfl ?_
  obtain ⟨g7, hf⟩ := hck_s hf
  obtain ⟨t3, S2, h1, hf⟩ := hb2_s hf
  refine h_Vi [] (rest := []) (m_X9_sign (d := 1) (cs := cs) (Nat.le_refl _) h1) v_X9_sign q_1179 rfl (Nat.le_trans (by decide) hd) g7 rfl rfl (Nat.le_of_ble_eq_true rfl) dX9_isDigit_1 (Nat.le_refl _) (Nat.le_refl _) ?_
  refine h_i2l dX9_isDigit_4 ?_
  refine h_ldc2 (v := 48) dX9_isDigit_5 q_1223 ?_
  refine h_ldc2 (v := 57) dX9_isDigit_8 q_1224 ?_
  obtain ⟨t6, S5, h4, hf⟩ := hb2_s hf
  refine h_Si [.long (Int32.toInt64 t3), .long 48, .long 57] (rest := []) (m_X9_in (d := 1) (cs := cs) (Nat.le_refl _) h4) v_X9_in q_1225 rfl (Nat.le_trans (by decide) hd) rfl (Nat.le_of_ble_eq_true rfl) dX9_isDigit_11 (Nat.le_refl _) (Nat.le_refl _) ?_
  obtain ⟨hz, hf⟩ := hck_s hf
  obtain rfl := Option.some.inj hf
  exact h_zret rfl hz rfl rfl (Nat.le_refl _) (Nat.le_refl _) dX9_isDigit_14
abbrev x_X9_stood (d : Nat) (S0 : hS) (args : List Value) (r : Int32 × hS) (cs : Nat → Nat) : hX := (((some .boolean), 5, d, 0, 0, false), (S0, args, some (.int r.1), r.2), cs)
theorem v_X9_stood : hVW yX9_stood cX9_stood 5 (some .boolean) RX9 1 := ⟨q_1194, q_s39, q_9, q_1195, by decide +kernel, by decide⟩
def f_X9_stood_L5 : Nat → Nat → Int32 → hS → (Int32 → Option (Int32 × hS)) → Option (Int32 × hS)
  | 0, _, _, _, _ => none
  | n + 1, x0, x2, S, k0 =>
    hbd (gI S x0 9 23) fun t1 =>
    if t1 ≤ x2 then
      (k0 x2)
    else
      (hbd (gR S x0 9 34) fun t4 =>
       hbd (gA S t4 11 x2) fun t6 =>
       if t6 < 97 then
         (k0 x2)
       else
         (hbd (gR S x0 9 34) fun t9 =>
          hbd (gA S t9 11 x2) fun t11 =>
          if 122 < t11 then
            (k0 x2)
          else
            (f_X9_stood_L5 n x0 (x2 + 1) S k0)))
def f_X9_stood_L63 : Nat → Nat → Nat → Int32 → Int32 → hS → (Int32 → hS → Option (Int32 × hS)) → Option (Int32 × hS)
  | 0, _, _, _, _, _, _ => none
  | n + 1, x0, x1, x3, x4, S, k0 =>
    hbd (gTL x1) fun t1 =>
    if t1 ≤ x4 then
      (k0 x3 S)
    else
      (if x3 = 0 then
         (k0 x3 S)
       else
         (hbd (gR S x0 9 34) fun t5 =>
          hbd (gI S x0 9 24) fun t7 =>
          hbd (gA S t5 11 (t7 + x4)) fun t9 =>
          hbd (gTC x1 x4) fun t11 =>
          hj (γ := Int32 → Option (Int32 × hS)) (fun (v14 : Int32) =>
            f_X9_stood_L63 n x0 x1 v14 (x4 + 1) S k0
            ) fun J13 =>
          if t9 = t11 then
            (J13 1)
          else
            (J13 0)))
def f_X9_stood (a0 : Nat) (a1 : Nat) (S : hS) : Option (Int32 × hS) :=
  hbd (gI S a0 9 24) fun t16 =>
  f_X9_stood_L5 hfuel a0 t16 S
    (fun u18 =>
      hbd (gI S a0 9 24) fun t19 =>
      hbd (gTL a1) fun t21 =>
      hj (γ := Int32 → Option (Int32 × hS)) (fun (v24 : Int32) =>
        f_X9_stood_L63 hfuel a0 a1 v24 0 S
          (fun u25 S26 =>
            hck (u25 = 0 ∨ u25 = 1) <|
            some (u25, S26)
          )
        ) fun J23 =>
      if (u18 - t19) = t21 then
        (J23 1)
      else
        (J23 0)
    )
set_option maxRecDepth 100000 in
set_option maxHeartbeats 4000000 in
theorem w_X9_stood_L5 {d : Nat} {S0 : hS} {args : List Value} {cs : Nat → Nat} {r : Int32 × hS} (hd : 5 ≤ d) : ∀ (n : Nat) (x0 : Nat) (x2 : Int32) (S : hS) (k0 : (Int32 → Option (Int32 × hS))) (z1 : Nat), f_X9_stood_L5 n x0 x2 S k0 = some r → (∀ (y2 : Int32), k0 y2 = some r → HW cX9_stood RX9 (x_X9_stood d S0 args r cs) 0 0 S 41 [(0, .ref x0), (1, .ref (cs z1)), (2, .int y2)] []) → HW cX9_stood RX9 (x_X9_stood d S0 args r cs) 0 0 S 5 [(0, .ref x0), (1, .ref (cs z1)), (2, .int x2)] [] := by
  intro n
  induction n with
  | zero =>
    intro x0 x2 S k0 z1 hf
    cases hf
  | succ n ih =>
    intro x0 x2 S k0 z1 hf hk0
    rw [f_X9_stood_L5] at hf
    refine h_iload_n dX9_stood_5 rfl 2 rfl ?_
    refine h_aload_n dX9_stood_6 rfl 0 rfl ?_
    obtain ⟨t1, h2, hf⟩ := hbd_s hf
    refine h_getI h2 rfl (Nat.le_of_ble_eq_true rfl) rfl q_983 rfl dX9_stood_7 ?_
    refine h_icmp_ge (tgt := 41) dX9_stood_10 (by decide) (fun c3 => ?_) (fun c3 => ?_)
    · rw [if_pos c3] at hf
      exact hk0 x2  hf
    · rw [if_neg c3] at hf
      refine h_aload_n dX9_stood_13 rfl 0 rfl ?_
      obtain ⟨t4, h5, hf⟩ := hbd_s hf
      refine h_getR h5 rfl (Nat.le_of_ble_eq_true rfl) rfl q_994 rfl dX9_stood_14 ?_
      refine h_iload_n dX9_stood_17 rfl 2 rfl ?_
      obtain ⟨t6, h7, hf⟩ := hbd_s hf
      refine h_bald h7 dX9_stood_18 ?_
      refine h_bipush (v := 97) dX9_stood_19 rfl ?_
      refine h_icmp_lt (tgt := 41) dX9_stood_21 (by decide) (fun c8 => ?_) (fun c8 => ?_)
      · rw [if_pos c8] at hf
        exact hk0 x2  hf
      · rw [if_neg c8] at hf
        refine h_aload_n dX9_stood_24 rfl 0 rfl ?_
        obtain ⟨t9, h10, hf⟩ := hbd_s hf
        refine h_getR h10 rfl (Nat.le_of_ble_eq_true rfl) rfl q_994 rfl dX9_stood_25 ?_
        refine h_iload_n dX9_stood_28 rfl 2 rfl ?_
        obtain ⟨t11, h12, hf⟩ := hbd_s hf
        refine h_bald h12 dX9_stood_29 ?_
        refine h_bipush (v := 122) dX9_stood_30 rfl ?_
        refine h_icmp_gt (tgt := 41) dX9_stood_32 (by decide) (fun c13 => ?_) (fun c13 => ?_)
        · rw [if_pos c13] at hf
          exact hk0 x2  hf
        · rw [if_neg c13] at hf
          refine h_iinc (q := 2) (v := x2 + 1) (lv2 := [(2, .int (x2 + 1)), (0, .ref x0), (1, .ref (cs z1))]) dX9_stood_35 rfl rfl (Nat.le_of_ble_eq_true rfl) rfl ?_
          refine h_goto (tgt := 5) dX9_stood_38 (by decide) ?_
          refine h_sub (lv2 := [(0, .ref x0), (1, .ref (cs z1)), (2, .int (x2 + 1))]) [1, 2, 0] rfl ?_
          exact ih x0 (x2 + 1) S k0 z1 hf hk0
set_option maxRecDepth 100000 in
set_option maxHeartbeats 4000000 in
theorem w_X9_stood_L63 {d : Nat} {S0 : hS} {args : List Value} {cs : Nat → Nat} {r : Int32 × hS} (hd : 5 ≤ d) : ∀ (n : Nat) (x0 : Nat) (x1 : Nat) (x3 : Int32) (x4 : Int32) (S : hS) (k0 : (Int32 → hS → Option (Int32 × hS))) , f_X9_stood_L63 n x0 x1 x3 x4 S k0 = some r → (∀ (y3 : Int32) (T : hS), k0 y3 T = some r → HW cX9_stood RX9 (x_X9_stood d S0 args r cs) 0 0 T 109 [(3, .int y3)] []) → HW cX9_stood RX9 (x_X9_stood d S0 args r cs) 0 0 S 63 [(0, .ref x0), (1, .ref (cs x1)), (3, .int x3), (4, .int x4)] [] := by
  intro n
  induction n with
  | zero =>
    intro x0 x1 x3 x4 S k0 hf
    cases hf
  | succ n ih =>
    intro x0 x1 x3 x4 S k0 hf hk0
    rw [f_X9_stood_L63] at hf
    refine h_iload dX9_stood_63 3 rfl ?_
    refine h_aload_n dX9_stood_65 rfl 1 rfl ?_
    obtain ⟨t1, h2, hf⟩ := hbd_s hf
    refine h_Ti [] (rest := [.int x4]) (m_J0_length_8abf5 (d := 2) (cs := cs) (Nat.le_refl _) h2) v_J0_length_8abf5 (gTL_s h2).1 q_1196 rfl (Nat.le_trans (by decide) hd) rfl (Nat.le_of_ble_eq_true rfl) dX9_stood_66 (Nat.le_refl _) (Nat.le_refl _) ?_
    refine h_icmp_ge (tgt := 109) dX9_stood_69 (by decide) (fun c3 => ?_) (fun c3 => ?_)
    · rw [if_pos c3] at hf
      refine h_sub (lv2 := [(3, .int x3)]) [2] rfl ?_
      exact hk0 x3 S hf
    · rw [if_neg c3] at hf
      refine h_iload_n dX9_stood_72 rfl 2 rfl ?_
      refine h_if_eq (tgt := 109) dX9_stood_73 (by decide) (fun c4 => ?_) (fun c4 => ?_)
      · rw [if_pos c4] at hf
        refine h_sub (lv2 := [(3, .int x3)]) [2] rfl ?_
        exact hk0 x3 S hf
      · rw [if_neg c4] at hf
        refine h_aload_n dX9_stood_76 rfl 0 rfl ?_
        obtain ⟨t5, h6, hf⟩ := hbd_s hf
        refine h_getR h6 rfl (Nat.le_of_ble_eq_true rfl) rfl q_994 rfl dX9_stood_77 ?_
        refine h_aload_n dX9_stood_80 rfl 0 rfl ?_
        obtain ⟨t7, h8, hf⟩ := hbd_s hf
        refine h_getI h8 rfl (Nat.le_of_ble_eq_true rfl) rfl q_984 rfl dX9_stood_81 ?_
        refine h_iload dX9_stood_84 3 rfl ?_
        refine h_iadd dX9_stood_86 ?_
        obtain ⟨t9, h10, hf⟩ := hbd_s hf
        refine h_bald h10 dX9_stood_87 ?_
        refine h_aload_n dX9_stood_88 rfl 1 rfl ?_
        refine h_iload dX9_stood_89 3 rfl ?_
        obtain ⟨t11, h12, hf⟩ := hbd_s hf
        refine h_Ti [.int x4] (rest := [.int t9]) (m_J0_charAt_5068e (d := 4) (cs := cs) (Nat.le_refl _) h12) v_J0_charAt_5068e (gTC_s h12).1 q_1197 rfl (Nat.le_trans (by decide) hd) rfl (Nat.le_of_ble_eq_true rfl) dX9_stood_91 (Nat.le_refl _) (Nat.le_refl _) ?_
        refine hj_s (fun J13 => ∀ (v14 : Int32), J13 v14 = some r → HW cX9_stood RX9 (x_X9_stood d S0 args r cs) 0 0 S 102 [(0, .ref x0), (1, .ref (cs x1)), (4, .int x4)] [.int v14]) hf ?_ ?_
        · intro v14 hf
          refine h_istore_n (lv2 := [(3, .int v14), (0, .ref x0), (1, .ref (cs x1)), (4, .int x4)]) dX9_stood_102 rfl (Nat.le_of_ble_eq_true rfl) rfl ?_
          refine h_iinc (q := 3) (v := x4 + 1) (lv2 := [(4, .int (x4 + 1)), (3, .int v14), (0, .ref x0), (1, .ref (cs x1))]) dX9_stood_103 rfl rfl (Nat.le_of_ble_eq_true rfl) rfl ?_
          refine h_goto (tgt := 63) dX9_stood_106 (by decide) ?_
          refine h_sub (lv2 := [(0, .ref x0), (1, .ref (cs x1)), (3, .int v14), (4, .int (x4 + 1))]) [2, 3, 1, 0] rfl ?_
          exact ih x0 x1 v14 (x4 + 1) S k0  hf hk0
        · intro J13 hJ13 hf
          refine h_icmp_ne (tgt := 101) dX9_stood_94 (by decide) (fun c15 => ?_) (fun c15 => ?_)
          · rw [if_neg c15] at hf
            refine h_iconst (v := 0) dX9_stood_101 rfl ?_
            refine h_sub (lv2 := [(0, .ref x0), (1, .ref (cs x1)), (4, .int x4)]) [0, 1, 3] rfl ?_
            exact hJ13 0 hf
          · rw [if_pos c15] at hf
            refine h_iconst (v := 1) dX9_stood_97 rfl ?_
            refine h_goto (tgt := 102) dX9_stood_98 (by decide) ?_
            refine h_sub (lv2 := [(0, .ref x0), (1, .ref (cs x1)), (4, .int x4)]) [0, 1, 3] rfl ?_
            exact hJ13 1 hf
set_option maxRecDepth 100000 in
set_option maxHeartbeats 4000000 in
theorem m_X9_stood {d : Nat} {cs : Nat → Nat} {a0 : Nat} {a1 : Nat} {S : hS} {r : Int32 × hS} (hd : 5 ≤ d) (hf : f_X9_stood a0 a1 S = some r) : HM yX9_stood cX9_stood 5 (some .boolean) d 0 0 cs [.ref a0, .ref (cs a1)] S (some (.int r.1)) r.2 := by
  unfold f_X9_stood at hf
  refine HM.ofHW false (by decide) (fun h => by cases h) (Nat.le_of_ble_eq_true rfl) ?_
  show HW cX9_stood RX9 (x_X9_stood d S [.ref a0, .ref (cs a1)] r cs) 0 0 S 0 [(0, .ref a0), (1, .ref (cs a1))] []
  refine h_aload_n dX9_stood_0 rfl 0 rfl ?_
  obtain ⟨t16, h17, hf⟩ := hbd_s hf
  refine h_getI h17 rfl (Nat.le_of_ble_eq_true rfl) rfl q_984 rfl dX9_stood_1 ?_
  refine h_istore_n (lv2 := [(2, .int t16), (0, .ref a0), (1, .ref (cs a1))]) dX9_stood_4 rfl (Nat.le_of_ble_eq_true rfl) rfl ?_
  refine h_sub (lv2 := [(0, .ref a0), (1, .ref (cs a1)), (2, .int t16)]) [1, 2, 0] rfl ?_
  refine w_X9_stood_L5 hd hfuel a0 t16 S _ a1 hf ?_
  · intro u18 hf
    refine h_iload_n dX9_stood_41 rfl 2 rfl ?_
    refine h_aload_n dX9_stood_42 rfl 0 rfl ?_
    obtain ⟨t19, h20, hf⟩ := hbd_s hf
    refine h_getI h20 rfl (Nat.le_of_ble_eq_true rfl) rfl q_984 rfl dX9_stood_43 ?_
    refine h_isub dX9_stood_46 ?_
    refine h_aload_n dX9_stood_47 rfl 1 rfl ?_
    obtain ⟨t21, h22, hf⟩ := hbd_s hf
    refine h_Ti [] (rest := [.int (u18 - t19)]) (m_J0_length_8abf5 (d := 2) (cs := cs) (Nat.le_refl _) h22) v_J0_length_8abf5 (gTL_s h22).1 q_1196 rfl (Nat.le_trans (by decide) hd) rfl (Nat.le_of_ble_eq_true rfl) dX9_stood_48 (Nat.le_refl _) (Nat.le_refl _) ?_
    refine hj_s (fun J23 => ∀ (v24 : Int32), J23 v24 = some r → HW cX9_stood RX9 (x_X9_stood d S [.ref a0, .ref (cs a1)] r cs) 0 0 S 59 [(0, .ref a0), (1, .ref (cs a1))] [.int v24]) hf ?_ ?_
    · intro v24 hf
      refine h_istore_n (lv2 := [(3, .int v24), (0, .ref a0), (1, .ref (cs a1))]) dX9_stood_59 rfl (Nat.le_of_ble_eq_true rfl) rfl ?_
      refine h_iconst (v := 0) dX9_stood_60 rfl ?_
      refine h_istore (lv2 := [(4, .int 0), (3, .int v24), (0, .ref a0), (1, .ref (cs a1))]) dX9_stood_61 (Nat.le_of_ble_eq_true rfl) rfl ?_
      refine h_sub (lv2 := [(0, .ref a0), (1, .ref (cs a1)), (3, .int v24), (4, .int 0)]) [2, 3, 1, 0] rfl ?_
      refine w_X9_stood_L63 hd hfuel a0 a1 v24 0 S _  hf ?_
      · intro u25 S26 hf
        refine h_iload_n dX9_stood_109 rfl 0 rfl ?_
        obtain ⟨hz, hf⟩ := hck_s hf
        obtain rfl := Option.some.inj hf
        exact h_zret rfl hz rfl rfl (Nat.le_refl _) (Nat.le_refl _) dX9_stood_110
    · intro J23 hJ23 hf
      refine h_icmp_ne (tgt := 58) dX9_stood_51 (by decide) (fun c27 => ?_) (fun c27 => ?_)
      · rw [if_neg c27] at hf
        refine h_iconst (v := 0) dX9_stood_58 rfl ?_
        refine h_sub (lv2 := [(0, .ref a0), (1, .ref (cs a1))]) [0, 1] rfl ?_
        exact hJ23 0 hf
      · rw [if_pos c27] at hf
        refine h_iconst (v := 1) dX9_stood_54 rfl ?_
        refine h_goto (tgt := 59) dX9_stood_55 (by decide) ?_
        refine h_sub (lv2 := [(0, .ref a0), (1, .ref (cs a1))]) [0, 1] rfl ?_
        exact hJ23 1 hf
abbrev x_X9_takes (d : Nat) (S0 : hS) (args : List Value) (r : Int32 × hS) (cs : Nat → Nat) : hX := (((some .boolean), 3, d, 0, 0, false), (S0, args, some (.int r.1), r.2), cs)
theorem v_X9_takes : hVW yX9_takes cX9_takes 3 (some .boolean) RX9 1 := ⟨q_1291, q_s56, q_9, q_1292, by decide +kernel, by decide⟩
def f_X9_takes (a0 : Nat) (a1 : Nat) (S : hS) : Option (Int32 × hS) :=
  hck (S.K a0 = 10) <|
  hbd (f_X9_blanks a0 S) fun S2 =>
  hck (S2.K a0 = 10) <|
  hb2 (f_X9_stood a0 a1 S2) fun t5 S4 =>
  hbd (gI S4 a0 9 24) fun t6 =>
  hj (γ := Int32 → hS → Option (Int32 × hS)) (fun (v9 : Int32) (S10 : hS) =>
    hbd (sI S10 a0 9 24 (t6 + v9)) fun S11 =>
    hck (t5 = 0 ∨ t5 = 1) <|
    some (t5, S11)
    ) fun J8 =>
  if t5 = 0 then
    (J8 0 S4)
  else
    (hbd (gTL a1) fun t14 =>
     J8 t14 S4)
set_option maxRecDepth 100000 in
set_option maxHeartbeats 4000000 in
theorem m_X9_takes {d : Nat} {cs : Nat → Nat} {a0 : Nat} {a1 : Nat} {S : hS} {r : Int32 × hS} (hd : 6 ≤ d) (hf : f_X9_takes a0 a1 S = some r) : HM yX9_takes cX9_takes 3 (some .boolean) d 0 0 cs [.ref a0, .ref (cs a1)] S (some (.int r.1)) r.2 := by
  unfold f_X9_takes at hf
  refine HM.ofHW false (by decide) (fun h => by cases h) (Nat.le_of_ble_eq_true rfl) ?_
  show HW cX9_takes RX9 (x_X9_takes d S [.ref a0, .ref (cs a1)] r cs) 0 0 S 0 [(0, .ref a0), (1, .ref (cs a1))] []
  refine h_aload_n dX9_takes_0 rfl 0 rfl ?_
  obtain ⟨g17, hf⟩ := hck_s hf
  obtain ⟨S2, h1, hf⟩ := hbd_s hf
  refine h_Vv [] (rest := []) (m_X9_blanks (d := 2) (cs := cs) (Nat.le_refl _) h1) v_X9_blanks q_1175 rfl (Nat.le_trans (by decide) hd) g17 rfl rfl (Nat.le_of_ble_eq_true rfl) dX9_takes_1 (Nat.le_refl _) (Nat.le_refl _) ?_
  refine h_aload_n dX9_takes_4 rfl 0 rfl ?_
  refine h_aload_n dX9_takes_5 rfl 1 rfl ?_
  obtain ⟨g16, hf⟩ := hck_s hf
  obtain ⟨t5, S4, h3, hf⟩ := hb2_s hf
  refine h_Vi [.ref (cs a1)] (rest := []) (m_X9_stood (d := 5) (cs := cs) (Nat.le_refl _) h3) v_X9_stood q_1192 rfl (Nat.le_trans (by decide) hd) g16 rfl rfl (Nat.le_of_ble_eq_true rfl) dX9_takes_6 (Nat.le_refl _) (Nat.le_refl _) ?_
  refine h_istore_n (lv2 := [(2, .int t5), (0, .ref a0), (1, .ref (cs a1))]) dX9_takes_9 rfl (Nat.le_of_ble_eq_true rfl) rfl ?_
  refine h_aload_n dX9_takes_10 rfl 1 rfl ?_
  refine h_dup dX9_takes_11 rfl ?_
  obtain ⟨t6, h7, hf⟩ := hbd_s hf
  refine h_getI h7 rfl (Nat.le_of_ble_eq_true rfl) rfl q_984 rfl dX9_takes_12 ?_
  refine h_iload_n dX9_takes_15 rfl 0 rfl ?_
  refine hj_s (fun J8 => ∀ (v9 : Int32) (S10 : hS), J8 v9 S10 = some r → HW cX9_takes RX9 (x_X9_takes d S [.ref a0, .ref (cs a1)] r cs) 0 0 S10 27 [(2, .int t5)] [.int v9, .int t6, .ref a0]) hf ?_ ?_
  · intro v9 S10 hf
    refine h_iadd dX9_takes_27 ?_
    obtain ⟨S11, h12, hf⟩ := hbd_s hf
    refine h_putI h12 rfl (Nat.le_of_ble_eq_true rfl) rfl q_984 rfl rfl (by decide +kernel) dX9_takes_28 ?_
    refine h_iload_n dX9_takes_31 rfl 0 rfl ?_
    obtain ⟨hz, hf⟩ := hck_s hf
    obtain rfl := Option.some.inj hf
    exact h_zret rfl hz rfl rfl (Nat.le_refl _) (Nat.le_refl _) dX9_takes_32
  · intro J8 hJ8 hf
    refine h_if_eq (tgt := 26) dX9_takes_16 (by decide) (fun c13 => ?_) (fun c13 => ?_)
    · rw [if_pos c13] at hf
      refine h_iconst (v := 0) dX9_takes_26 rfl ?_
      refine h_sub (lv2 := [(2, .int t5)]) [0] rfl ?_
      exact hJ8 0 S4 hf
    · rw [if_neg c13] at hf
      refine h_aload_n dX9_takes_19 rfl 2 rfl ?_
      obtain ⟨t14, h15, hf⟩ := hbd_s hf
      refine h_Ti [] (rest := [.int t6, .ref a0]) (m_J0_length_8abf5 (d := 2) (cs := cs) (Nat.le_refl _) h15) v_J0_length_8abf5 (gTL_s h15).1 q_1196 rfl (Nat.le_trans (by decide) hd) rfl (Nat.le_of_ble_eq_true rfl) dX9_takes_20 (Nat.le_refl _) (Nat.le_refl _) ?_
      refine h_goto (tgt := 27) dX9_takes_23 (by decide) ?_
      refine h_sub (lv2 := [(2, .int t5)]) [0] rfl ?_
      exact hJ8 t14 S4 hf
abbrev x_X9_entry (d : Nat) (S0 : hS) (args : List Value) (r : hS) (cs : Nat → Nat) : hX := ((none, 3, d, 0, 0, false), (S0, args, none, r), cs)
theorem v_X9_entry : hVW yX9_entry cX9_entry 3 none RX9 2 := ⟨q_1274, q_s55, q_9, q_1275, by decide +kernel, by decide⟩
def f_X9_entry (a0 : Nat) (a1 : Int32) (a2 : Int32) (S : hS) : Option (hS) :=
  hbd (gI S a0 9 25) fun t1 =>
  if t1 = 0 then
    (hbd (gR S a0 9 35) fun t4 =>
     hbd (gI S a0 9 26) fun t6 =>
     hbd (gI S a0 9 28) fun t8 =>
     hbd (sA S t4 ((300 * t6) + t8) a1) fun S10 =>
     hbd (gR S10 a0 9 36) fun t12 =>
     hbd (gI S10 a0 9 26) fun t14 =>
     hbd (gI S10 a0 9 28) fun t16 =>
     hbd (sA S10 t12 ((300 * t14) + t16) a2) fun S18 =>
     hbd (gI S18 a0 9 28) fun t20 =>
     hbd (sI S18 a0 9 28 (t20 + 1)) fun S22 =>
     some S22)
  else
    (some S)
set_option maxRecDepth 100000 in
set_option maxHeartbeats 4000000 in
theorem m_X9_entry {d : Nat} {cs : Nat → Nat} {a0 : Nat} {a1 : Int32} {a2 : Int32} {S : hS} {r : hS} (hd : 1 ≤ d) (hf : f_X9_entry a0 a1 a2 S = some r) : HM yX9_entry cX9_entry 3 none d 0 0 cs [.ref a0, .int a1, .int a2] S (none) r := by
  unfold f_X9_entry at hf
  refine HM.ofHW false (by decide) (fun h => by cases h) (Nat.le_of_ble_eq_true rfl) ?_
  show HW cX9_entry RX9 (x_X9_entry d S [.ref a0, .int a1, .int a2] r cs) 0 0 S 0 [(0, .ref a0), (1, .int a1), (2, .int a2)] []
  refine h_aload_n dX9_entry_0 rfl 0 rfl ?_
  obtain ⟨t1, h2, hf⟩ := hbd_s hf
  refine h_getI h2 rfl (Nat.le_of_ble_eq_true rfl) rfl q_985 rfl dX9_entry_1 ?_
  refine h_if_ne (tgt := 55) dX9_entry_4 (by decide) (fun c3 => ?_) (fun c3 => ?_)
  · rw [if_neg c3] at hf
    obtain rfl := Option.some.inj hf
    exact h_vret rfl rfl rfl (Nat.le_refl _) (Nat.le_refl _) dX9_entry_55
  · rw [if_pos c3] at hf
    refine h_aload_n dX9_entry_7 rfl 0 rfl ?_
    obtain ⟨t4, h5, hf⟩ := hbd_s hf
    refine h_getR h5 rfl (Nat.le_of_ble_eq_true rfl) rfl q_995 rfl dX9_entry_8 ?_
    refine h_sipush (v := 300) dX9_entry_11 rfl ?_
    refine h_aload_n dX9_entry_14 rfl 0 rfl ?_
    obtain ⟨t6, h7, hf⟩ := hbd_s hf
    refine h_getI h7 rfl (Nat.le_of_ble_eq_true rfl) rfl q_986 rfl dX9_entry_15 ?_
    refine h_imul dX9_entry_18 ?_
    refine h_aload_n dX9_entry_19 rfl 0 rfl ?_
    obtain ⟨t8, h9, hf⟩ := hbd_s hf
    refine h_getI h9 rfl (Nat.le_of_ble_eq_true rfl) rfl q_988 rfl dX9_entry_20 ?_
    refine h_iadd dX9_entry_23 ?_
    refine h_iload_n dX9_entry_24 rfl 1 rfl ?_
    obtain ⟨S10, h11, hf⟩ := hbd_s hf
    refine h_iast h11 dX9_entry_25 ?_
    refine h_aload_n dX9_entry_26 rfl 0 rfl ?_
    obtain ⟨t12, h13, hf⟩ := hbd_s hf
    refine h_getR h13 rfl (Nat.le_of_ble_eq_true rfl) rfl q_996 rfl dX9_entry_27 ?_
    refine h_sipush (v := 300) dX9_entry_30 rfl ?_
    refine h_aload_n dX9_entry_33 rfl 0 rfl ?_
    obtain ⟨t14, h15, hf⟩ := hbd_s hf
    refine h_getI h15 rfl (Nat.le_of_ble_eq_true rfl) rfl q_986 rfl dX9_entry_34 ?_
    refine h_imul dX9_entry_37 ?_
    refine h_aload_n dX9_entry_38 rfl 0 rfl ?_
    obtain ⟨t16, h17, hf⟩ := hbd_s hf
    refine h_getI h17 rfl (Nat.le_of_ble_eq_true rfl) rfl q_988 rfl dX9_entry_39 ?_
    refine h_iadd dX9_entry_42 ?_
    refine h_iload_n dX9_entry_43 rfl 2 rfl ?_
    obtain ⟨S18, h19, hf⟩ := hbd_s hf
    refine h_iast h19 dX9_entry_44 ?_
    refine h_aload_n dX9_entry_45 rfl 0 rfl ?_
    refine h_dup dX9_entry_46 rfl ?_
    obtain ⟨t20, h21, hf⟩ := hbd_s hf
    refine h_getI h21 rfl (Nat.le_of_ble_eq_true rfl) rfl q_988 rfl dX9_entry_47 ?_
    refine h_iconst (v := 1) dX9_entry_50 rfl ?_
    refine h_iadd dX9_entry_51 ?_
    obtain ⟨S22, h23, hf⟩ := hbd_s hf
    refine h_putI h23 rfl (Nat.le_of_ble_eq_true rfl) rfl q_988 rfl rfl (by decide +kernel) dX9_entry_52 ?_
    obtain rfl := Option.some.inj hf
    exact h_vret rfl rfl rfl (Nat.le_refl _) (Nat.le_refl _) dX9_entry_55
abbrev x_X9_isCounted (d : Nat) (S0 : hS) (args : List Value) (r : hS) (cs : Nat → Nat) : hX := ((none, 2, d, 0, 0, false), (S0, args, none, r), cs)
theorem v_X9_isCounted : hVW yX9_isCounted cX9_isCounted 2 none RX9 1 := ⟨q_1270, q_s54, q_9, q_1271, by decide +kernel, by decide⟩
def f_X9_isCounted (a0 : Nat) (a1 : Int32) (S : hS) : Option (hS) :=
  hbd (gI S a0 9 30) fun t1 =>
  hj (γ := hS → Option (hS)) (fun (S4 : hS) =>
    hbd (gI S4 a0 9 30) fun t5 =>
    hbd (sI S4 a0 9 30 (t5 + 1)) fun S7 =>
    some S7
    ) fun J3 =>
  if t1 = 60 then
    (hck (S.K a0 = 10) <|
     hbd (f_X9_fails a0 3 a1 S) fun S11 =>
     J3 S11)
  else
    (J3 S)
set_option maxRecDepth 100000 in
set_option maxHeartbeats 4000000 in
theorem m_X9_isCounted {d : Nat} {cs : Nat → Nat} {a0 : Nat} {a1 : Int32} {S : hS} {r : hS} (hd : 2 ≤ d) (hf : f_X9_isCounted a0 a1 S = some r) : HM yX9_isCounted cX9_isCounted 2 none d 0 0 cs [.ref a0, .int a1] S (none) r := by
  unfold f_X9_isCounted at hf
  refine HM.ofHW false (by decide) (fun h => by cases h) (Nat.le_of_ble_eq_true rfl) ?_
  show HW cX9_isCounted RX9 (x_X9_isCounted d S [.ref a0, .int a1] r cs) 0 0 S 0 [(0, .ref a0), (1, .int a1)] []
  refine h_aload_n dX9_isCounted_0 rfl 0 rfl ?_
  obtain ⟨t1, h2, hf⟩ := hbd_s hf
  refine h_getI h2 rfl (Nat.le_of_ble_eq_true rfl) rfl q_990 rfl dX9_isCounted_1 ?_
  refine h_bipush (v := 60) dX9_isCounted_4 rfl ?_
  refine hj_s (fun J3 => ∀ (S4 : hS), J3 S4 = some r → HW cX9_isCounted RX9 (x_X9_isCounted d S [.ref a0, .int a1] r cs) 0 0 S4 15 [(0, .ref a0)] []) hf ?_ ?_
  · intro S4 hf
    refine h_aload_n dX9_isCounted_15 rfl 0 rfl ?_
    refine h_dup dX9_isCounted_16 rfl ?_
    obtain ⟨t5, h6, hf⟩ := hbd_s hf
    refine h_getI h6 rfl (Nat.le_of_ble_eq_true rfl) rfl q_990 rfl dX9_isCounted_17 ?_
    refine h_iconst (v := 1) dX9_isCounted_20 rfl ?_
    refine h_iadd dX9_isCounted_21 ?_
    obtain ⟨S7, h8, hf⟩ := hbd_s hf
    refine h_putI h8 rfl (Nat.le_of_ble_eq_true rfl) rfl q_990 rfl rfl (by decide +kernel) dX9_isCounted_22 ?_
    obtain rfl := Option.some.inj hf
    exact h_vret rfl rfl rfl (Nat.le_refl _) (Nat.le_refl _) dX9_isCounted_25
  · intro J3 hJ3 hf
    refine h_icmp_ne (tgt := 15) dX9_isCounted_6 (by decide) (fun c9 => ?_) (fun c9 => ?_)
    · rw [if_neg c9] at hf
      refine h_sub (lv2 := [(0, .ref a0)]) [0] rfl ?_
      exact hJ3 S hf
    · rw [if_pos c9] at hf
      refine h_aload_n dX9_isCounted_9 rfl 0 rfl ?_
      refine h_iconst (v := 3) dX9_isCounted_10 rfl ?_
      refine h_iload_n dX9_isCounted_11 rfl 1 rfl ?_
      obtain ⟨g12, hf⟩ := hck_s hf
      obtain ⟨S11, h10, hf⟩ := hbd_s hf
      refine h_Vv [.int 3, .int a1] (rest := []) (m_X9_fails (d := 1) (cs := cs) (Nat.le_refl _) h10) v_X9_fails q_1198 rfl (Nat.le_trans (by decide) hd) g12 rfl rfl (Nat.le_of_ble_eq_true rfl) dX9_isCounted_12 (Nat.le_refl _) (Nat.le_refl _) ?_
      refine h_sub (lv2 := [(0, .ref a0)]) [0] rfl ?_
      exact hJ3 S11 hf
abbrev x_X9_digits (d : Nat) (S0 : hS) (args : List Value) (r : Int32 × hS) (cs : Nat → Nat) : hX := (((some .int), 4, d, 0, 0, false), (S0, args, some (.int r.1), r.2), cs)
theorem v_X9_digits : hVW yX9_digits cX9_digits 4 (some .int) RX9 1 := ⟨q_1217, q_s44, q_9, q_1218, by decide +kernel, by decide⟩
def f_X9_digits_L25 : Nat → Nat → Int32 → Int32 → hS → (Int32 → hS → Option (Int32 × hS)) → Option (Int32 × hS)
  | 0, _, _, _, _, _ => none
  | n + 1, x0, x2, x3, S, k0 =>
    hck (S.K x0 = 10) <|
    hb2 (f_X9_isDigit x0 S) fun t3 S2 =>
    if t3 = 0 then
      (k0 x3 S2)
    else
      (hbd (gI S2 x0 9 24) fun t5 =>
       hj (γ := Int32 → hS → Option (Int32 × hS)) (fun (v8 : Int32) (S9 : hS) =>
         hbd (gI S9 x0 9 24) fun t10 =>
         hbd (sI S9 x0 9 24 (t10 + 1)) fun S12 =>
         f_X9_digits_L25 n x0 x2 v8 S12 k0
         ) fun J7 =>
       if 5 ≤ (t5 - x2) then
         (J7 x3 S2)
       else
         (hck (S2.K x0 = 10) <|
          hb2 (f_X9_sign x0 S2) fun t17 S16 =>
          J7 (((10 * x3) + t17) - 48) S16))
def f_X9_digits (a0 : Nat) (a1 : Int32) (S : hS) : Option (Int32 × hS) :=
  hck (S.K a0 = 10) <|
  hb2 (f_X9_isDigit a0 S) fun t22 S21 =>
  if t22 = 0 then
    (hbd (gI S21 a0 9 24) fun t36 =>
     hck (S21.K a0 = 10) <|
     hbd (f_X9_fails a0 0 t36 S21) fun S39 =>
     some (0, S39))
  else
    (hbd (gI S21 a0 9 24) fun t24 =>
     f_X9_digits_L25 hfuel a0 t24 0 S21
       (fun u26 S27 =>
         hbd (gI S27 a0 9 24) fun t28 =>
         hj (γ := Unit → Option (Int32 × hS)) (fun (_ : Unit) =>
           hck (S27.K a0 = 10) <|
           hbd (f_X9_fails a0 1 t24 S27) fun S32 =>
           some (u26, S32)
           ) fun J30 =>
         if 5 < (t28 - t24) then
           (J30 ())
         else
           (if u26 ≤ a1 then
              (some (u26, S27))
            else
              (J30 ()))
       ))
set_option maxRecDepth 100000 in
set_option maxHeartbeats 4000000 in
theorem w_X9_digits_L25 {d : Nat} {S0 : hS} {args : List Value} {cs : Nat → Nat} {r : Int32 × hS} (hd : 3 ≤ d) : ∀ (n : Nat) (x0 : Nat) (x2 : Int32) (x3 : Int32) (S : hS) (k0 : (Int32 → hS → Option (Int32 × hS))) (z1 : Int32), f_X9_digits_L25 n x0 x2 x3 S k0 = some r → (∀ (y3 : Int32) (T : hS), k0 y3 T = some r → HW cX9_digits RX9 (x_X9_digits d S0 args r cs) 0 0 T 72 [(0, .ref x0), (1, .int z1), (2, .int x2), (3, .int y3)] []) → HW cX9_digits RX9 (x_X9_digits d S0 args r cs) 0 0 S 25 [(0, .ref x0), (1, .int z1), (2, .int x2), (3, .int x3)] [] := by
  intro n
  induction n with
  | zero =>
    intro x0 x2 x3 S k0 z1 hf
    cases hf
  | succ n ih =>
    intro x0 x2 x3 S k0 z1 hf hk0
    rw [f_X9_digits_L25] at hf
    refine h_aload_n dX9_digits_25 rfl 0 rfl ?_
    obtain ⟨g19, hf⟩ := hck_s hf
    obtain ⟨t3, S2, h1, hf⟩ := hb2_s hf
    refine h_Vi [] (rest := []) (m_X9_isDigit (d := 2) (cs := cs) (Nat.le_refl _) h1) v_X9_isDigit q_1219 rfl (Nat.le_trans (by decide) hd) g19 rfl rfl (Nat.le_of_ble_eq_true rfl) dX9_digits_26 (Nat.le_refl _) (Nat.le_refl _) ?_
    refine h_if_eq (tgt := 72) dX9_digits_29 (by decide) (fun c4 => ?_) (fun c4 => ?_)
    · rw [if_pos c4] at hf
      exact hk0 x3 S2 hf
    · rw [if_neg c4] at hf
      refine h_aload_n dX9_digits_32 rfl 0 rfl ?_
      obtain ⟨t5, h6, hf⟩ := hbd_s hf
      refine h_getI h6 rfl (Nat.le_of_ble_eq_true rfl) rfl q_984 rfl dX9_digits_33 ?_
      refine h_iload_n dX9_digits_36 rfl 2 rfl ?_
      refine h_isub dX9_digits_37 ?_
      refine h_iconst (v := 5) dX9_digits_38 rfl ?_
      refine hj_s (fun J7 => ∀ (v8 : Int32) (S9 : hS), J7 v8 S9 = some r → HW cX9_digits RX9 (x_X9_digits d S0 args r cs) 0 0 S9 58 [(0, .ref x0), (1, .int z1), (2, .int x2)] [.int v8]) hf ?_ ?_
      · intro v8 S9 hf
        refine h_istore_n (lv2 := [(3, .int v8), (0, .ref x0), (1, .int z1), (2, .int x2)]) dX9_digits_58 rfl (Nat.le_of_ble_eq_true rfl) rfl ?_
        refine h_aload_n dX9_digits_59 rfl 1 rfl ?_
        refine h_dup dX9_digits_60 rfl ?_
        obtain ⟨t10, h11, hf⟩ := hbd_s hf
        refine h_getI h11 rfl (Nat.le_of_ble_eq_true rfl) rfl q_984 rfl dX9_digits_61 ?_
        refine h_iconst (v := 1) dX9_digits_64 rfl ?_
        refine h_iadd dX9_digits_65 ?_
        obtain ⟨S12, h13, hf⟩ := hbd_s hf
        refine h_putI h13 rfl (Nat.le_of_ble_eq_true rfl) rfl q_984 rfl rfl (by decide +kernel) dX9_digits_66 ?_
        refine h_goto (tgt := 25) dX9_digits_69 (by decide) ?_
        refine h_sub (lv2 := [(0, .ref x0), (1, .int z1), (2, .int x2), (3, .int v8)]) [1, 2, 3, 0] rfl ?_
        exact ih x0 x2 v8 S12 k0 z1 hf hk0
      · intro J7 hJ7 hf
        refine h_icmp_ge (tgt := 57) dX9_digits_39 (by decide) (fun c14 => ?_) (fun c14 => ?_)
        · rw [if_pos c14] at hf
          refine h_iload_n dX9_digits_57 rfl 3 rfl ?_
          refine h_sub (lv2 := [(0, .ref x0), (1, .int z1), (2, .int x2)]) [0, 1, 2] rfl ?_
          exact hJ7 x3 S2 hf
        · rw [if_neg c14] at hf
          refine h_bipush (v := 10) dX9_digits_42 rfl ?_
          refine h_iload_n dX9_digits_44 rfl 3 rfl ?_
          refine h_imul dX9_digits_45 ?_
          refine h_aload_n dX9_digits_46 rfl 0 rfl ?_
          obtain ⟨g18, hf⟩ := hck_s hf
          obtain ⟨t17, S16, h15, hf⟩ := hb2_s hf
          refine h_Vi [] (rest := [.int (10 * x3)]) (m_X9_sign (d := 1) (cs := cs) (Nat.le_refl _) h15) v_X9_sign q_1179 rfl (Nat.le_trans (by decide) hd) g18 rfl rfl (Nat.le_of_ble_eq_true rfl) dX9_digits_47 (Nat.le_refl _) (Nat.le_refl _) ?_
          refine h_iadd dX9_digits_50 ?_
          refine h_bipush (v := 48) dX9_digits_51 rfl ?_
          refine h_isub dX9_digits_53 ?_
          refine h_goto (tgt := 58) dX9_digits_54 (by decide) ?_
          refine h_sub (lv2 := [(0, .ref x0), (1, .int z1), (2, .int x2)]) [0, 1, 2] rfl ?_
          exact hJ7 (((10 * x3) + t17) - 48) S16 hf
set_option maxRecDepth 100000 in
set_option maxHeartbeats 4000000 in
theorem m_X9_digits {d : Nat} {cs : Nat → Nat} {a0 : Nat} {a1 : Int32} {S : hS} {r : Int32 × hS} (hd : 3 ≤ d) (hf : f_X9_digits a0 a1 S = some r) : HM yX9_digits cX9_digits 4 (some .int) d 0 0 cs [.ref a0, .int a1] S (some (.int r.1)) r.2 := by
  unfold f_X9_digits at hf
  refine HM.ofHW false (by decide) (fun h => by cases h) (Nat.le_of_ble_eq_true rfl) ?_
  show HW cX9_digits RX9 (x_X9_digits d S [.ref a0, .int a1] r cs) 0 0 S 0 [(0, .ref a0), (1, .int a1)] []
  refine h_aload_n dX9_digits_0 rfl 0 rfl ?_
  obtain ⟨g41, hf⟩ := hck_s hf
  obtain ⟨t22, S21, h20, hf⟩ := hb2_s hf
  refine h_Vi [] (rest := []) (m_X9_isDigit (d := 2) (cs := cs) (Nat.le_refl _) h20) v_X9_isDigit q_1219 rfl (Nat.le_trans (by decide) hd) g41 rfl rfl (Nat.le_of_ble_eq_true rfl) dX9_digits_1 (Nat.le_refl _) (Nat.le_refl _) ?_
  refine h_if_ne (tgt := 18) dX9_digits_4 (by decide) (fun c23 => ?_) (fun c23 => ?_)
  · rw [if_neg c23] at hf
    refine h_aload_n dX9_digits_18 rfl 0 rfl ?_
    obtain ⟨t24, h25, hf⟩ := hbd_s hf
    refine h_getI h25 rfl (Nat.le_of_ble_eq_true rfl) rfl q_984 rfl dX9_digits_19 ?_
    refine h_istore_n (lv2 := [(2, .int t24), (0, .ref a0), (1, .int a1)]) dX9_digits_22 rfl (Nat.le_of_ble_eq_true rfl) rfl ?_
    refine h_iconst (v := 0) dX9_digits_23 rfl ?_
    refine h_istore_n (lv2 := [(3, .int 0), (2, .int t24), (0, .ref a0), (1, .int a1)]) dX9_digits_24 rfl (Nat.le_of_ble_eq_true rfl) rfl ?_
    refine h_sub (lv2 := [(0, .ref a0), (1, .int a1), (2, .int t24), (3, .int 0)]) [2, 3, 1, 0] rfl ?_
    refine w_X9_digits_L25 hd hfuel a0 t24 0 S21 _ a1 hf ?_
    · intro u26 S27 hf
      refine h_aload_n dX9_digits_72 rfl 0 rfl ?_
      obtain ⟨t28, h29, hf⟩ := hbd_s hf
      refine h_getI h29 rfl (Nat.le_of_ble_eq_true rfl) rfl q_984 rfl dX9_digits_73 ?_
      refine h_iload_n dX9_digits_76 rfl 2 rfl ?_
      refine h_isub dX9_digits_77 ?_
      refine h_iconst (v := 5) dX9_digits_78 rfl ?_
      refine hj_s (fun J30 => ∀ (w : Unit), J30 w = some r → HW cX9_digits RX9 (x_X9_digits d S [.ref a0, .int a1] r cs) 0 0 S27 87 [(0, .ref a0), (2, .int t24), (3, .int u26)] []) hf ?_ ?_
      · intro w hf
        refine h_aload_n dX9_digits_87 rfl 0 rfl ?_
        refine h_iconst (v := 1) dX9_digits_88 rfl ?_
        refine h_iload_n dX9_digits_89 rfl 1 rfl ?_
        obtain ⟨g33, hf⟩ := hck_s hf
        obtain ⟨S32, h31, hf⟩ := hbd_s hf
        refine h_Vv [.int 1, .int t24] (rest := []) (m_X9_fails (d := 1) (cs := cs) (Nat.le_refl _) h31) v_X9_fails q_1198 rfl (Nat.le_trans (by decide) hd) g33 rfl rfl (Nat.le_of_ble_eq_true rfl) dX9_digits_90 (Nat.le_refl _) (Nat.le_refl _) ?_
        refine h_iload_n dX9_digits_93 rfl 2 rfl ?_
        obtain rfl := Option.some.inj hf
        exact h_iret rfl rfl rfl (Nat.le_refl _) (Nat.le_refl _) dX9_digits_94
      · intro J30 hJ30 hf
        refine h_icmp_gt (tgt := 87) dX9_digits_79 (by decide) (fun c34 => ?_) (fun c34 => ?_)
        · rw [if_pos c34] at hf
          refine h_sub (lv2 := [(0, .ref a0), (2, .int t24), (3, .int u26)]) [0, 2, 3] rfl ?_
          exact hJ30 () hf
        · rw [if_neg c34] at hf
          refine h_iload_n dX9_digits_82 rfl 3 rfl ?_
          refine h_iload_n dX9_digits_83 rfl 1 rfl ?_
          refine h_icmp_le (tgt := 93) dX9_digits_84 (by decide) (fun c35 => ?_) (fun c35 => ?_)
          · rw [if_pos c35] at hf
            refine h_iload_n dX9_digits_93 rfl 3 rfl ?_
            obtain rfl := Option.some.inj hf
            exact h_iret rfl rfl rfl (Nat.le_refl _) (Nat.le_refl _) dX9_digits_94
          · rw [if_neg c35] at hf
            refine h_sub (lv2 := [(0, .ref a0), (2, .int t24), (3, .int u26)]) [0, 2, 3] rfl ?_
            exact hJ30 () hf
  · rw [if_pos c23] at hf
    refine h_aload_n dX9_digits_7 rfl 0 rfl ?_
    refine h_iconst (v := 0) dX9_digits_8 rfl ?_
    refine h_aload_n dX9_digits_9 rfl 0 rfl ?_
    obtain ⟨t36, h37, hf⟩ := hbd_s hf
    refine h_getI h37 rfl (Nat.le_of_ble_eq_true rfl) rfl q_984 rfl dX9_digits_10 ?_
    obtain ⟨g40, hf⟩ := hck_s hf
    obtain ⟨S39, h38, hf⟩ := hbd_s hf
    refine h_Vv [.int 0, .int t36] (rest := []) (m_X9_fails (d := 1) (cs := cs) (Nat.le_refl _) h38) v_X9_fails q_1198 rfl (Nat.le_trans (by decide) hd) g40 rfl rfl (Nat.le_of_ble_eq_true rfl) dX9_digits_13 (Nat.le_refl _) (Nat.le_refl _) ?_
    refine h_iconst (v := 0) dX9_digits_16 rfl ?_
    obtain rfl := Option.some.inj hf
    exact h_iret rfl rfl rfl (Nat.le_refl _) (Nat.le_refl _) dX9_digits_17
