abbrev x_J7_fill_53178 (d : Nat) (S0 : hS) (args : List Value) (r : hS) (cs : Nat → Nat) : hX := ((none, 4, d, 0, 0, false), (S0, args, none, r), cs)
theorem v_J7_fill_53178 : hSW yJ7_fill_53178 cJ7_fill_53178 4 none 2 := ⟨q_379, q_10, q_380, by decide +kernel, by decide⟩
def f_J7_fill_53178_L5 : Nat → Nat → Int32 → Int32 → Int32 → hS → (hS → Option (hS)) → Option (hS)
  | 0, _, _, _, _, _, _ => none
  | n + 1, x0, x1, x2, x3, S, k0 =>
    if x3 ≤ x2 then
      (k0 S)
    else
      (hbd (sA S x0 x2 x1) fun S2 =>
       f_J7_fill_53178_L5 n x0 x1 (x2 + 1) x3 S2 k0)
def f_J7_fill_53178 (a0 : Nat) (a1 : Int32) (S : hS) : Option (hS) :=
  hbd (gN S a0) fun t4 =>
  f_J7_fill_53178_L5 hfuel a0 a1 0 t4 S
    (fun S6 =>
      some S6
    )
set_option maxRecDepth 100000 in
set_option maxHeartbeats 4000000 in
theorem w_J7_fill_53178_L5 {d : Nat} {S0 : hS} {args : List Value} {cs : Nat → Nat} {r : hS} (hd : 1 ≤ d) : ∀ (n : Nat) (x0 : Nat) (x1 : Int32) (x2 : Int32) (x3 : Int32) (S : hS) (k0 : (hS → Option (hS))) , f_J7_fill_53178_L5 n x0 x1 x2 x3 S k0 = some r → (∀ (T : hS), k0 T = some r → HW cJ7_fill_53178 RJ7 (x_J7_fill_53178 d S0 args r cs) 0 0 T 20 [] []) → HW cJ7_fill_53178 RJ7 (x_J7_fill_53178 d S0 args r cs) 0 0 S 5 [(0, .ref x0), (1, .int x1), (2, .int x2), (3, .int x3)] [] := by
  intro n
  induction n with
  | zero =>
    intro x0 x1 x2 x3 S k0 hf
    cases hf
  | succ n ih =>
    intro x0 x1 x2 x3 S k0 hf hk0
    rw [f_J7_fill_53178_L5] at hf
    refine h_iload_n dJ7_fill_53178_5 rfl 2 rfl ?_
    refine h_iload_n dJ7_fill_53178_6 rfl 3 rfl ?_
    refine h_icmp_ge (tgt := 20) dJ7_fill_53178_7 (by decide) (fun c1 => ?_) (fun c1 => ?_)
    · replace hf := hif_p c1 hf
      refine h_sub (lv2 := []) [] rfl ?_
      exact hk0 S hf
    · replace hf := hif_n c1 hf
      refine h_aload_n dJ7_fill_53178_10 rfl 0 rfl ?_
      refine h_iload_n dJ7_fill_53178_11 rfl 2 rfl ?_
      refine h_iload_n dJ7_fill_53178_12 rfl 1 rfl ?_
      obtain ⟨S2, h3, hf⟩ := hbd_s hf
      refine h_iast h3 dJ7_fill_53178_13 ?_
      refine h_iinc (q := 2) (v := x2 + 1) (lv2 := [(2, .int (x2 + 1)), (0, .ref x0), (1, .int x1), (3, .int x3)]) dJ7_fill_53178_14 rfl rfl (Nat.le_of_ble_eq_true rfl) rfl ?_
      refine h_goto (tgt := 5) dJ7_fill_53178_17 (by decide) ?_
      refine h_sub (lv2 := [(0, .ref x0), (1, .int x1), (2, .int (x2 + 1)), (3, .int x3)]) [1, 2, 0, 3] rfl ?_
      exact ih x0 x1 (x2 + 1) x3 S2 k0  hf hk0
set_option maxRecDepth 100000 in
set_option maxHeartbeats 4000000 in
theorem m_J7_fill_53178 {d : Nat} {cs : Nat → Nat} {a0 : Nat} {a1 : Int32} {S : hS} {r : hS} (hd : 1 ≤ d) (hf : f_J7_fill_53178 a0 a1 S = some r) : HM yJ7_fill_53178 cJ7_fill_53178 4 none d 0 0 cs [.ref a0, .int a1] S (none) r := by
  unfold f_J7_fill_53178 at hf
  refine HM.ofHW false (by decide) (fun h => by cases h) (Nat.le_of_ble_eq_true rfl) ?_
  show HW cJ7_fill_53178 RJ7 (x_J7_fill_53178 d S [.ref a0, .int a1] r cs) 0 0 S 0 [(0, .ref a0), (1, .int a1)] []
  refine h_iconst (v := 0) dJ7_fill_53178_0 rfl ?_
  refine h_istore_n (lv2 := [(2, .int 0), (0, .ref a0), (1, .int a1)]) dJ7_fill_53178_1 rfl (Nat.le_of_ble_eq_true rfl) rfl ?_
  refine h_aload_n dJ7_fill_53178_2 rfl 1 rfl ?_
  obtain ⟨t4, h5, hf⟩ := hbd_s hf
  refine h_alen h5 dJ7_fill_53178_3 ?_
  refine h_istore_n (lv2 := [(3, .int t4), (2, .int 0), (0, .ref a0), (1, .int a1)]) dJ7_fill_53178_4 rfl (Nat.le_of_ble_eq_true rfl) rfl ?_
  refine h_sub (lv2 := [(0, .ref a0), (1, .int a1), (2, .int 0), (3, .int t4)]) [2, 3, 1, 0] rfl ?_
  refine w_J7_fill_53178_L5 hd hfuel a0 a1 0 t4 S _  hf ?_
  · intro S6 hf
    obtain rfl := Option.some.inj hf
    exact h_vret rfl rfl rfl (Nat.le_refl _) (Nat.le_refl _) dJ7_fill_53178_20
abbrev x_X0_warmUp (d : Nat) (S0 : hS) (args : List Value) (r : hS) (cs : Nat → Nat) : hX := ((none, 3, d, 0, 0, false), (S0, args, none, r), cs)
theorem v_X0_warmUp : hVW yX0_warmUp cX0_warmUp 3 none RX0 0 := ⟨q_749, q_s21, q_3, q_750, by decide +kernel, by decide⟩
def f_X0_warmUp_L2 : Nat → Nat → Int32 → hS → (hS → Option (hS)) → Option (hS)
  | 0, _, _, _, _ => none
  | n + 1, x0, x1, S, k0 =>
    hbd (gR S x0 0 1) fun t1 =>
    hbd (gI S t1 2 0) fun t3 =>
    if t3 ≤ x1 then
      (k0 S)
    else
      (hbd (gR S x0 0 1) fun t6 =>
       hbd (gR S t6 2 1) fun t8 =>
       hbd (gA S t8 12 x1) fun t10 =>
       if t10 < 0 then
         (f_X0_warmUp_L2 n x0 (x1 + 1) S k0)
       else
         (hbd (gR S x0 0 2) fun t13 =>
          hbd (gA S t13 12 t10) fun t15 =>
          hbd (gR S x0 0 1) fun t17 =>
          hbd (gR S t17 2 2) fun t19 =>
          hbd (gA S t19 12 x1) fun t21 =>
          hbd (sA S t13 t10 (t15 + t21)) fun S23 =>
          hbd (gI S23 x0 0 9) fun t25 =>
          hbd (gR S23 x0 0 1) fun t27 =>
          hbd (gR S23 t27 2 2) fun t29 =>
          hbd (gA S23 t29 12 x1) fun t31 =>
          hbd (sI S23 x0 0 9 (t25 + t31)) fun S33 =>
          f_X0_warmUp_L2 n x0 (x1 + 1) S33 k0))
def f_X0_warmUp (a0 : Nat) (S : hS) : Option (hS) :=
  f_X0_warmUp_L2 hfuel a0 0 S
    (fun S35 =>
      some S35
    )
set_option maxRecDepth 100000 in
set_option maxHeartbeats 4000000 in
theorem w_X0_warmUp_L2 {d : Nat} {S0 : hS} {args : List Value} {cs : Nat → Nat} {r : hS} (hd : 1 ≤ d) : ∀ (n : Nat) (x0 : Nat) (x1 : Int32) (S : hS) (k0 : (hS → Option (hS))) , f_X0_warmUp_L2 n x0 x1 S k0 = some r → (∀ (T : hS), k0 T = some r → HW cX0_warmUp RX0 (x_X0_warmUp d S0 args r cs) 0 0 T 69 [] []) → HW cX0_warmUp RX0 (x_X0_warmUp d S0 args r cs) 0 0 S 2 [(0, .ref x0), (1, .int x1)] [] := by
  intro n
  induction n with
  | zero =>
    intro x0 x1 S k0 hf
    cases hf
  | succ n ih =>
    intro x0 x1 S k0 hf hk0
    rw [f_X0_warmUp_L2] at hf
    refine h_iload_n dX0_warmUp_2 rfl 1 rfl ?_
    refine h_aload_n dX0_warmUp_3 rfl 0 rfl ?_
    obtain ⟨t1, h2, hf⟩ := hbd_s hf
    refine h_getR h2 rfl (Nat.le_of_ble_eq_true rfl) rfl q_183 rfl dX0_warmUp_4 ?_
    obtain ⟨t3, h4, hf⟩ := hbd_s hf
    refine h_getIN (host := "DeafSpot") h4 rfl (Nat.le_of_ble_eq_true rfl) rfl (List.mem_of_getElem? (i := 38) rfl) rfl dX0_warmUp_7 ?_
    refine h_icmp_ge (tgt := 69) dX0_warmUp_10 (by decide) (fun c5 => ?_) (fun c5 => ?_)
    · replace hf := hif_p c5 hf
      refine h_sub (lv2 := []) [] rfl ?_
      exact hk0 S hf
    · replace hf := hif_n c5 hf
      refine h_aload_n dX0_warmUp_13 rfl 0 rfl ?_
      obtain ⟨t6, h7, hf⟩ := hbd_s hf
      refine h_getR h7 rfl (Nat.le_of_ble_eq_true rfl) rfl q_183 rfl dX0_warmUp_14 ?_
      obtain ⟨t8, h9, hf⟩ := hbd_s hf
      refine h_getRN (host := "DeafSpot") h9 rfl (Nat.le_of_ble_eq_true rfl) rfl (List.mem_of_getElem? (i := 40) rfl) rfl dX0_warmUp_17 ?_
      refine h_iload_n dX0_warmUp_20 rfl 1 rfl ?_
      obtain ⟨t10, h11, hf⟩ := hbd_s hf
      refine h_iald h11 dX0_warmUp_21 ?_
      refine h_istore_n (lv2 := [(2, .int t10), (0, .ref x0), (1, .int x1)]) dX0_warmUp_22 rfl (Nat.le_of_ble_eq_true rfl) rfl ?_
      refine h_iload_n dX0_warmUp_23 rfl 0 rfl ?_
      refine h_if_lt (tgt := 63) dX0_warmUp_24 (by decide) (fun c12 => ?_) (fun c12 => ?_)
      · replace hf := hif_p c12 hf
        refine h_iinc (q := 2) (v := x1 + 1) (lv2 := [(1, .int (x1 + 1)), (2, .int t10), (0, .ref x0)]) dX0_warmUp_63 rfl rfl (Nat.le_of_ble_eq_true rfl) rfl ?_
        refine h_goto (tgt := 2) dX0_warmUp_66 (by decide) ?_
        refine h_sub (lv2 := [(0, .ref x0), (1, .int (x1 + 1))]) [2, 0] rfl ?_
        exact ih x0 (x1 + 1) S k0  hf hk0
      · replace hf := hif_n c12 hf
        refine h_aload_n dX0_warmUp_27 rfl 1 rfl ?_
        obtain ⟨t13, h14, hf⟩ := hbd_s hf
        refine h_getR h14 rfl (Nat.le_of_ble_eq_true rfl) rfl q_186 rfl dX0_warmUp_28 ?_
        refine h_iload_n dX0_warmUp_31 rfl 0 rfl ?_
        refine h_dup2 dX0_warmUp_32 rfl rfl ?_
        obtain ⟨t15, h16, hf⟩ := hbd_s hf
        refine h_iald h16 dX0_warmUp_33 ?_
        refine h_aload_n dX0_warmUp_34 rfl 1 rfl ?_
        obtain ⟨t17, h18, hf⟩ := hbd_s hf
        refine h_getR h18 rfl (Nat.le_of_ble_eq_true rfl) rfl q_183 rfl dX0_warmUp_35 ?_
        obtain ⟨t19, h20, hf⟩ := hbd_s hf
        refine h_getRN (host := "DeafSpot") h20 rfl (Nat.le_of_ble_eq_true rfl) rfl (List.mem_of_getElem? (i := 42) rfl) rfl dX0_warmUp_38 ?_
        refine h_iload_n dX0_warmUp_41 rfl 2 rfl ?_
        obtain ⟨t21, h22, hf⟩ := hbd_s hf
        refine h_iald h22 dX0_warmUp_42 ?_
        refine h_iadd dX0_warmUp_43 ?_
        obtain ⟨S23, h24, hf⟩ := hbd_s hf
        refine h_iast h24 dX0_warmUp_44 ?_
        refine h_aload_n dX0_warmUp_45 rfl 1 rfl ?_
        refine h_dup dX0_warmUp_46 rfl ?_
        obtain ⟨t25, h26, hf⟩ := hbd_s hf
        refine h_getI h26 rfl (Nat.le_of_ble_eq_true rfl) rfl q_200 rfl dX0_warmUp_47 ?_
        refine h_aload_n dX0_warmUp_50 rfl 1 rfl ?_
        obtain ⟨t27, h28, hf⟩ := hbd_s hf
        refine h_getR h28 rfl (Nat.le_of_ble_eq_true rfl) rfl q_183 rfl dX0_warmUp_51 ?_
        obtain ⟨t29, h30, hf⟩ := hbd_s hf
        refine h_getRN (host := "DeafSpot") h30 rfl (Nat.le_of_ble_eq_true rfl) rfl (List.mem_of_getElem? (i := 42) rfl) rfl dX0_warmUp_54 ?_
        refine h_iload_n dX0_warmUp_57 rfl 2 rfl ?_
        obtain ⟨t31, h32, hf⟩ := hbd_s hf
        refine h_iald h32 dX0_warmUp_58 ?_
        refine h_iadd dX0_warmUp_59 ?_
        obtain ⟨S33, h34, hf⟩ := hbd_s hf
        refine h_putI h34 rfl (Nat.le_of_ble_eq_true rfl) rfl q_200 rfl rfl (by decide +kernel) dX0_warmUp_60 ?_
        refine h_iinc (q := 2) (v := x1 + 1) (lv2 := [(1, .int (x1 + 1)), (2, .int t10), (0, .ref x0)]) dX0_warmUp_63 rfl rfl (Nat.le_of_ble_eq_true rfl) rfl ?_
        refine h_goto (tgt := 2) dX0_warmUp_66 (by decide) ?_
        refine h_sub (lv2 := [(0, .ref x0), (1, .int (x1 + 1))]) [2, 0] rfl ?_
        exact ih x0 (x1 + 1) S33 k0  hf hk0
set_option maxRecDepth 100000 in
set_option maxHeartbeats 4000000 in
theorem m_X0_warmUp {d : Nat} {cs : Nat → Nat} {a0 : Nat} {S : hS} {r : hS} (hd : 1 ≤ d) (hf : f_X0_warmUp a0 S = some r) : HM yX0_warmUp cX0_warmUp 3 none d 0 0 cs [.ref a0] S (none) r := by
  unfold f_X0_warmUp at hf
  refine HM.ofHW false (by decide) (fun h => by cases h) (Nat.le_of_ble_eq_true rfl) ?_
  show HW cX0_warmUp RX0 (x_X0_warmUp d S [.ref a0] r cs) 0 0 S 0 [(0, .ref a0)] []
  refine h_iconst (v := 0) dX0_warmUp_0 rfl ?_
  refine h_istore_n (lv2 := [(1, .int 0), (0, .ref a0)]) dX0_warmUp_1 rfl (Nat.le_of_ble_eq_true rfl) rfl ?_
  refine h_sub (lv2 := [(0, .ref a0), (1, .int 0)]) [1, 0] rfl ?_
  refine w_X0_warmUp_L2 hd hfuel a0 0 S _  hf ?_
  · intro S35 hf
    obtain rfl := Option.some.inj hf
    exact h_vret rfl rfl rfl (Nat.le_refl _) (Nat.le_refl _) dX0_warmUp_69
abbrev x_X0_blow (d : Nat) (S0 : hS) (args : List Value) (r : hS) (cs : Nat → Nat) : hX := ((none, 5, d, 0, 0, false), (S0, args, none, r), cs)
theorem v_X0_blow : hVW yX0_blow cX0_blow 5 none RX0 0 := ⟨q_753, q_s22, q_3, q_754, by decide +kernel, by decide⟩
def f_X0_blow_L2 : Nat → Nat → Int32 → hS → (hS → Option (hS)) → Option (hS)
  | 0, _, _, _, _ => none
  | n + 1, x0, x1, S, k0 =>
    hbd (gR S x0 0 0) fun t1 =>
    hbd (gI S t1 6 8) fun t3 =>
    if t3 ≤ x1 then
      (k0 S)
    else
      (hbd (gR S x0 0 0) fun t6 =>
       hbd (gR S t6 6 9) fun t8 =>
       hbd (gA S t8 12 x1) fun t10 =>
       hbd (gR S x0 0 2) fun t12 =>
       hbd (gA S t12 12 t10) fun t14 =>
       hbd (gR S x0 0 0) fun t16 =>
       hbd (gR S t16 6 11) fun t18 =>
       hbd (gA S t18 12 x1) fun t20 =>
       hbd (gR S x0 0 0) fun t22 =>
       hbd (gR S t22 6 7) fun t24 =>
       hbd (gR S x0 0 0) fun t26 =>
       hbd (gR S t26 6 10) fun t28 =>
       hbd (gA S t28 12 x1) fun t30 =>
       hbd (gA S t24 12 ((t10 * 5) + t30)) fun t32 =>
       hbd (gR S x0 0 2) fun t34 =>
       hbd (gA S t34 12 t10) fun t36 =>
       hbd (sA S t34 t10 (t36 - (if t20 < t14 then t20 else t14))) fun S38 =>
       if t32 < 0 then
         (hbd (gI S38 x0 0 7) fun t41 =>
          hbd (sI S38 x0 0 7 (t41 + (if t20 < t14 then t20 else t14))) fun S43 =>
          f_X0_blow_L2 n x0 (x1 + 1) S43 k0)
       else
         (hbd (gR S38 x0 0 2) fun t45 =>
          hbd (gA S38 t45 12 t32) fun t47 =>
          hbd (sA S38 t45 t32 (t47 + (if t20 < t14 then t20 else t14))) fun S49 =>
          f_X0_blow_L2 n x0 (x1 + 1) S49 k0))
def f_X0_blow (a0 : Nat) (S : hS) : Option (hS) :=
  f_X0_blow_L2 hfuel a0 0 S
    (fun S51 =>
      some S51
    )
set_option maxRecDepth 100000 in
set_option maxHeartbeats 4000000 in
theorem w_X0_blow_L2 {d : Nat} {S0 : hS} {args : List Value} {cs : Nat → Nat} {r : hS} (hd : 1 ≤ d) : ∀ (n : Nat) (x0 : Nat) (x1 : Int32) (S : hS) (k0 : (hS → Option (hS))) , f_X0_blow_L2 n x0 x1 S k0 = some r → (∀ (T : hS), k0 T = some r → HW cX0_blow RX0 (x_X0_blow d S0 args r cs) 0 0 T 110 [] []) → HW cX0_blow RX0 (x_X0_blow d S0 args r cs) 0 0 S 2 [(0, .ref x0), (1, .int x1)] [] := by
  intro n
  induction n with
  | zero =>
    intro x0 x1 S k0 hf
    cases hf
  | succ n ih =>
    intro x0 x1 S k0 hf hk0
    rw [f_X0_blow_L2] at hf
    refine h_iload_n dX0_blow_2 rfl 1 rfl ?_
    refine h_aload_n dX0_blow_3 rfl 0 rfl ?_
    obtain ⟨t1, h2, hf⟩ := hbd_s hf
    refine h_getR h2 rfl (Nat.le_of_ble_eq_true rfl) rfl q_180 rfl dX0_blow_4 ?_
    obtain ⟨t3, h4, hf⟩ := hbd_s hf
    refine h_getIN (host := "DeafSpot") h4 rfl (Nat.le_of_ble_eq_true rfl) rfl (List.mem_of_getElem? (i := 24) rfl) rfl dX0_blow_7 ?_
    refine h_icmp_ge (tgt := 110) dX0_blow_10 (by decide) (fun c5 => ?_) (fun c5 => ?_)
    · replace hf := hif_p c5 hf
      refine h_sub (lv2 := []) [] rfl ?_
      exact hk0 S hf
    · replace hf := hif_n c5 hf
      refine h_aload_n dX0_blow_13 rfl 0 rfl ?_
      obtain ⟨t6, h7, hf⟩ := hbd_s hf
      refine h_getR h7 rfl (Nat.le_of_ble_eq_true rfl) rfl q_180 rfl dX0_blow_14 ?_
      obtain ⟨t8, h9, hf⟩ := hbd_s hf
      refine h_getRN (host := "DeafSpot") h9 rfl (Nat.le_of_ble_eq_true rfl) rfl (List.mem_of_getElem? (i := 26) rfl) rfl dX0_blow_17 ?_
      refine h_iload_n dX0_blow_20 rfl 1 rfl ?_
      obtain ⟨t10, h11, hf⟩ := hbd_s hf
      refine h_iald h11 dX0_blow_21 ?_
      refine h_istore_n (lv2 := [(2, .int t10), (0, .ref x0), (1, .int x1)]) dX0_blow_22 rfl (Nat.le_of_ble_eq_true rfl) rfl ?_
      refine h_aload_n dX0_blow_23 rfl 1 rfl ?_
      obtain ⟨t12, h13, hf⟩ := hbd_s hf
      refine h_getR h13 rfl (Nat.le_of_ble_eq_true rfl) rfl q_186 rfl dX0_blow_24 ?_
      refine h_iload_n dX0_blow_27 rfl 0 rfl ?_
      obtain ⟨t14, h15, hf⟩ := hbd_s hf
      refine h_iald h15 dX0_blow_28 ?_
      refine h_aload_n dX0_blow_29 rfl 1 rfl ?_
      obtain ⟨t16, h17, hf⟩ := hbd_s hf
      refine h_getR h17 rfl (Nat.le_of_ble_eq_true rfl) rfl q_180 rfl dX0_blow_30 ?_
      obtain ⟨t18, h19, hf⟩ := hbd_s hf
      refine h_getRN (host := "DeafSpot") h19 rfl (Nat.le_of_ble_eq_true rfl) rfl (List.mem_of_getElem? (i := 30) rfl) rfl dX0_blow_33 ?_
      refine h_iload_n dX0_blow_36 rfl 2 rfl ?_
      obtain ⟨t20, h21, hf⟩ := hbd_s hf
      refine h_iald h21 dX0_blow_37 ?_
      refine h_mmin q_755 q_485 q_15 qm_min (Nat.le_trans (by decide) hd) (Nat.le_of_ble_eq_true rfl) (Nat.le_refl _) (Nat.le_refl _) dX0_blow_38 ?_
      refine h_istore_n (lv2 := [(3, .int (if t20 < t14 then t20 else t14)), (2, .int t10), (0, .ref x0), (1, .int x1)]) dX0_blow_41 rfl (Nat.le_of_ble_eq_true rfl) rfl ?_
      refine h_aload_n dX0_blow_42 rfl 2 rfl ?_
      obtain ⟨t22, h23, hf⟩ := hbd_s hf
      refine h_getR h23 rfl (Nat.le_of_ble_eq_true rfl) rfl q_180 rfl dX0_blow_43 ?_
      obtain ⟨t24, h25, hf⟩ := hbd_s hf
      refine h_getRN (host := "DeafSpot") h25 rfl (Nat.le_of_ble_eq_true rfl) rfl (List.mem_of_getElem? (i := 21) rfl) rfl dX0_blow_46 ?_
      refine h_iload_n dX0_blow_49 rfl 1 rfl ?_
      refine h_iconst (v := 5) dX0_blow_50 rfl ?_
      refine h_imul dX0_blow_51 ?_
      refine h_aload_n dX0_blow_52 rfl 2 rfl ?_
      obtain ⟨t26, h27, hf⟩ := hbd_s hf
      refine h_getR h27 rfl (Nat.le_of_ble_eq_true rfl) rfl q_180 rfl dX0_blow_53 ?_
      obtain ⟨t28, h29, hf⟩ := hbd_s hf
      refine h_getRN (host := "DeafSpot") h29 rfl (Nat.le_of_ble_eq_true rfl) rfl (List.mem_of_getElem? (i := 28) rfl) rfl dX0_blow_56 ?_
      refine h_iload_n dX0_blow_59 rfl 3 rfl ?_
      obtain ⟨t30, h31, hf⟩ := hbd_s hf
      refine h_iald h31 dX0_blow_60 ?_
      refine h_iadd dX0_blow_61 ?_
      obtain ⟨t32, h33, hf⟩ := hbd_s hf
      refine h_iald h33 dX0_blow_62 ?_
      refine h_istore (lv2 := [(4, .int t32), (3, .int (if t20 < t14 then t20 else t14)), (2, .int t10), (0, .ref x0), (1, .int x1)]) dX0_blow_63 (Nat.le_of_ble_eq_true rfl) rfl ?_
      refine h_aload_n dX0_blow_65 rfl 3 rfl ?_
      obtain ⟨t34, h35, hf⟩ := hbd_s hf
      refine h_getR h35 rfl (Nat.le_of_ble_eq_true rfl) rfl q_186 rfl dX0_blow_66 ?_
      refine h_iload_n dX0_blow_69 rfl 2 rfl ?_
      refine h_dup2 dX0_blow_70 rfl rfl ?_
      obtain ⟨t36, h37, hf⟩ := hbd_s hf
      refine h_iald h37 dX0_blow_71 ?_
      refine h_iload_n dX0_blow_72 rfl 1 rfl ?_
      refine h_isub dX0_blow_73 ?_
      obtain ⟨S38, h39, hf⟩ := hbd_s hf
      refine h_iast h39 dX0_blow_74 ?_
      refine h_iload dX0_blow_75 0 rfl ?_
      refine h_if_lt (tgt := 94) dX0_blow_77 (by decide) (fun c40 => ?_) (fun c40 => ?_)
      · replace hf := hif_p c40 hf
        refine h_aload_n dX0_blow_94 rfl 3 rfl ?_
        refine h_dup dX0_blow_95 rfl ?_
        obtain ⟨t41, h42, hf⟩ := hbd_s hf
        refine h_getI h42 rfl (Nat.le_of_ble_eq_true rfl) rfl q_196 rfl dX0_blow_96 ?_
        refine h_iload_n dX0_blow_99 rfl 1 rfl ?_
        refine h_iadd dX0_blow_100 ?_
        obtain ⟨S43, h44, hf⟩ := hbd_s hf
        refine h_putI h44 rfl (Nat.le_of_ble_eq_true rfl) rfl q_196 rfl rfl (by decide +kernel) dX0_blow_101 ?_
        refine h_iinc (q := 4) (v := x1 + 1) (lv2 := [(1, .int (x1 + 1)), (4, .int t32), (3, .int (if t20 < t14 then t20 else t14)), (2, .int t10), (0, .ref x0)]) dX0_blow_104 rfl rfl (Nat.le_of_ble_eq_true rfl) rfl ?_
        refine h_goto (tgt := 2) dX0_blow_107 (by decide) ?_
        refine h_sub (lv2 := [(0, .ref x0), (1, .int (x1 + 1))]) [4, 0] rfl ?_
        exact ih x0 (x1 + 1) S43 k0  hf hk0
      · replace hf := hif_n c40 hf
        refine h_aload_n dX0_blow_80 rfl 3 rfl ?_
        obtain ⟨t45, h46, hf⟩ := hbd_s hf
        refine h_getR h46 rfl (Nat.le_of_ble_eq_true rfl) rfl q_186 rfl dX0_blow_81 ?_
        refine h_iload dX0_blow_84 0 rfl ?_
        refine h_dup2 dX0_blow_86 rfl rfl ?_
        obtain ⟨t47, h48, hf⟩ := hbd_s hf
        refine h_iald h48 dX0_blow_87 ?_
        refine h_iload_n dX0_blow_88 rfl 1 rfl ?_
        refine h_iadd dX0_blow_89 ?_
        obtain ⟨S49, h50, hf⟩ := hbd_s hf
        refine h_iast h50 dX0_blow_90 ?_
        refine h_goto (tgt := 104) dX0_blow_91 (by decide) ?_
        refine h_iinc (q := 4) (v := x1 + 1) (lv2 := [(1, .int (x1 + 1)), (4, .int t32), (3, .int (if t20 < t14 then t20 else t14)), (2, .int t10), (0, .ref x0)]) dX0_blow_104 rfl rfl (Nat.le_of_ble_eq_true rfl) rfl ?_
        refine h_goto (tgt := 2) dX0_blow_107 (by decide) ?_
        refine h_sub (lv2 := [(0, .ref x0), (1, .int (x1 + 1))]) [4, 0] rfl ?_
        exact ih x0 (x1 + 1) S49 k0  hf hk0
set_option maxRecDepth 100000 in
set_option maxHeartbeats 4000000 in
theorem m_X0_blow {d : Nat} {cs : Nat → Nat} {a0 : Nat} {S : hS} {r : hS} (hd : 1 ≤ d) (hf : f_X0_blow a0 S = some r) : HM yX0_blow cX0_blow 5 none d 0 0 cs [.ref a0] S (none) r := by
  unfold f_X0_blow at hf
  refine HM.ofHW false (by decide) (fun h => by cases h) (Nat.le_of_ble_eq_true rfl) ?_
  show HW cX0_blow RX0 (x_X0_blow d S [.ref a0] r cs) 0 0 S 0 [(0, .ref a0)] []
  refine h_iconst (v := 0) dX0_blow_0 rfl ?_
  refine h_istore_n (lv2 := [(1, .int 0), (0, .ref a0)]) dX0_blow_1 rfl (Nat.le_of_ble_eq_true rfl) rfl ?_
  refine h_sub (lv2 := [(0, .ref a0), (1, .int 0)]) [1, 0] rfl ?_
  refine w_X0_blow_L2 hd hfuel a0 0 S _  hf ?_
  · intro S51 hf
    obtain rfl := Option.some.inj hf
    exact h_vret rfl rfl rfl (Nat.le_refl _) (Nat.le_refl _) dX0_blow_110
abbrev x_X0_melt (d : Nat) (S0 : hS) (args : List Value) (r : hS) (cs : Nat → Nat) : hX := ((none, 4, d, 0, 0, false), (S0, args, none, r), cs)
theorem v_X0_melt : hVW yX0_melt cX0_melt 4 none RX0 0 := ⟨q_758, q_s23, q_3, q_759, by decide +kernel, by decide⟩
def f_X0_melt_L2 : Nat → Nat → Int32 → hS → (hS → Option (hS)) → Option (hS)
  | 0, _, _, _, _ => none
  | n + 1, x0, x1, S, k0 =>
    hbd (gR S x0 0 0) fun t1 =>
    hbd (gI S t1 6 12) fun t3 =>
    if t3 ≤ x1 then
      (k0 S)
    else
      (hbd (gR S x0 0 0) fun t6 =>
       hbd (gR S t6 6 13) fun t8 =>
       hbd (gA S t8 12 x1) fun t10 =>
       hbd (gR S x0 0 2) fun t12 =>
       hbd (gA S t12 12 t10) fun t14 =>
       hbd (gR S x0 0 0) fun t16 =>
       hbd (gR S t16 6 14) fun t18 =>
       hbd (gA S t18 12 x1) fun t20 =>
       hbd (gR S x0 0 2) fun t22 =>
       hbd (gA S t22 12 t10) fun t24 =>
       hbd (sA S t22 t10 (t24 - (if t20 < t14 then t20 else t14))) fun S26 =>
       hbd (gI S26 x0 0 8) fun t28 =>
       hbd (sI S26 x0 0 8 (t28 + (if t20 < t14 then t20 else t14))) fun S30 =>
       f_X0_melt_L2 n x0 (x1 + 1) S30 k0)
def f_X0_melt (a0 : Nat) (S : hS) : Option (hS) :=
  f_X0_melt_L2 hfuel a0 0 S
    (fun S32 =>
      some S32
    )
set_option maxRecDepth 100000 in
set_option maxHeartbeats 4000000 in
theorem w_X0_melt_L2 {d : Nat} {S0 : hS} {args : List Value} {cs : Nat → Nat} {r : hS} (hd : 1 ≤ d) : ∀ (n : Nat) (x0 : Nat) (x1 : Int32) (S : hS) (k0 : (hS → Option (hS))) , f_X0_melt_L2 n x0 x1 S k0 = some r → (∀ (T : hS), k0 T = some r → HW cX0_melt RX0 (x_X0_melt d S0 args r cs) 0 0 T 68 [] []) → HW cX0_melt RX0 (x_X0_melt d S0 args r cs) 0 0 S 2 [(0, .ref x0), (1, .int x1)] [] := by
  intro n
  induction n with
  | zero =>
    intro x0 x1 S k0 hf
    cases hf
  | succ n ih =>
    intro x0 x1 S k0 hf hk0
    rw [f_X0_melt_L2] at hf
    refine h_iload_n dX0_melt_2 rfl 1 rfl ?_
    refine h_aload_n dX0_melt_3 rfl 0 rfl ?_
    obtain ⟨t1, h2, hf⟩ := hbd_s hf
    refine h_getR h2 rfl (Nat.le_of_ble_eq_true rfl) rfl q_180 rfl dX0_melt_4 ?_
    obtain ⟨t3, h4, hf⟩ := hbd_s hf
    refine h_getIN (host := "DeafSpot") h4 rfl (Nat.le_of_ble_eq_true rfl) rfl (List.mem_of_getElem? (i := 32) rfl) rfl dX0_melt_7 ?_
    refine h_icmp_ge (tgt := 68) dX0_melt_10 (by decide) (fun c5 => ?_) (fun c5 => ?_)
    · replace hf := hif_p c5 hf
      refine h_sub (lv2 := []) [] rfl ?_
      exact hk0 S hf
    · replace hf := hif_n c5 hf
      refine h_aload_n dX0_melt_13 rfl 0 rfl ?_
      obtain ⟨t6, h7, hf⟩ := hbd_s hf
      refine h_getR h7 rfl (Nat.le_of_ble_eq_true rfl) rfl q_180 rfl dX0_melt_14 ?_
      obtain ⟨t8, h9, hf⟩ := hbd_s hf
      refine h_getRN (host := "DeafSpot") h9 rfl (Nat.le_of_ble_eq_true rfl) rfl (List.mem_of_getElem? (i := 34) rfl) rfl dX0_melt_17 ?_
      refine h_iload_n dX0_melt_20 rfl 1 rfl ?_
      obtain ⟨t10, h11, hf⟩ := hbd_s hf
      refine h_iald h11 dX0_melt_21 ?_
      refine h_istore_n (lv2 := [(2, .int t10), (0, .ref x0), (1, .int x1)]) dX0_melt_22 rfl (Nat.le_of_ble_eq_true rfl) rfl ?_
      refine h_aload_n dX0_melt_23 rfl 1 rfl ?_
      obtain ⟨t12, h13, hf⟩ := hbd_s hf
      refine h_getR h13 rfl (Nat.le_of_ble_eq_true rfl) rfl q_186 rfl dX0_melt_24 ?_
      refine h_iload_n dX0_melt_27 rfl 0 rfl ?_
      obtain ⟨t14, h15, hf⟩ := hbd_s hf
      refine h_iald h15 dX0_melt_28 ?_
      refine h_aload_n dX0_melt_29 rfl 1 rfl ?_
      obtain ⟨t16, h17, hf⟩ := hbd_s hf
      refine h_getR h17 rfl (Nat.le_of_ble_eq_true rfl) rfl q_180 rfl dX0_melt_30 ?_
      obtain ⟨t18, h19, hf⟩ := hbd_s hf
      refine h_getRN (host := "DeafSpot") h19 rfl (Nat.le_of_ble_eq_true rfl) rfl (List.mem_of_getElem? (i := 35) rfl) rfl dX0_melt_33 ?_
      refine h_iload_n dX0_melt_36 rfl 2 rfl ?_
      obtain ⟨t20, h21, hf⟩ := hbd_s hf
      refine h_iald h21 dX0_melt_37 ?_
      refine h_mmin q_755 q_485 q_15 qm_min (Nat.le_trans (by decide) hd) (Nat.le_of_ble_eq_true rfl) (Nat.le_refl _) (Nat.le_refl _) dX0_melt_38 ?_
      refine h_istore_n (lv2 := [(3, .int (if t20 < t14 then t20 else t14)), (2, .int t10), (0, .ref x0), (1, .int x1)]) dX0_melt_41 rfl (Nat.le_of_ble_eq_true rfl) rfl ?_
      refine h_aload_n dX0_melt_42 rfl 2 rfl ?_
      obtain ⟨t22, h23, hf⟩ := hbd_s hf
      refine h_getR h23 rfl (Nat.le_of_ble_eq_true rfl) rfl q_186 rfl dX0_melt_43 ?_
      refine h_iload_n dX0_melt_46 rfl 1 rfl ?_
      refine h_dup2 dX0_melt_47 rfl rfl ?_
      obtain ⟨t24, h25, hf⟩ := hbd_s hf
      refine h_iald h25 dX0_melt_48 ?_
      refine h_iload_n dX0_melt_49 rfl 0 rfl ?_
      refine h_isub dX0_melt_50 ?_
      obtain ⟨S26, h27, hf⟩ := hbd_s hf
      refine h_iast h27 dX0_melt_51 ?_
      refine h_aload_n dX0_melt_52 rfl 2 rfl ?_
      refine h_dup dX0_melt_53 rfl ?_
      obtain ⟨t28, h29, hf⟩ := hbd_s hf
      refine h_getI h29 rfl (Nat.le_of_ble_eq_true rfl) rfl q_198 rfl dX0_melt_54 ?_
      refine h_iload_n dX0_melt_57 rfl 0 rfl ?_
      refine h_iadd dX0_melt_58 ?_
      obtain ⟨S30, h31, hf⟩ := hbd_s hf
      refine h_putI h31 rfl (Nat.le_of_ble_eq_true rfl) rfl q_198 rfl rfl (by decide +kernel) dX0_melt_59 ?_
      refine h_iinc (q := 3) (v := x1 + 1) (lv2 := [(1, .int (x1 + 1)), (3, .int (if t20 < t14 then t20 else t14)), (2, .int t10), (0, .ref x0)]) dX0_melt_62 rfl rfl (Nat.le_of_ble_eq_true rfl) rfl ?_
      refine h_goto (tgt := 2) dX0_melt_65 (by decide) ?_
      refine h_sub (lv2 := [(0, .ref x0), (1, .int (x1 + 1))]) [3, 0] rfl ?_
      exact ih x0 (x1 + 1) S30 k0  hf hk0
set_option maxRecDepth 100000 in
set_option maxHeartbeats 4000000 in
theorem m_X0_melt {d : Nat} {cs : Nat → Nat} {a0 : Nat} {S : hS} {r : hS} (hd : 1 ≤ d) (hf : f_X0_melt a0 S = some r) : HM yX0_melt cX0_melt 4 none d 0 0 cs [.ref a0] S (none) r := by
  unfold f_X0_melt at hf
  refine HM.ofHW false (by decide) (fun h => by cases h) (Nat.le_of_ble_eq_true rfl) ?_
  show HW cX0_melt RX0 (x_X0_melt d S [.ref a0] r cs) 0 0 S 0 [(0, .ref a0)] []
  refine h_iconst (v := 0) dX0_melt_0 rfl ?_
  refine h_istore_n (lv2 := [(1, .int 0), (0, .ref a0)]) dX0_melt_1 rfl (Nat.le_of_ble_eq_true rfl) rfl ?_
  refine h_sub (lv2 := [(0, .ref a0), (1, .int 0)]) [1, 0] rfl ?_
  refine w_X0_melt_L2 hd hfuel a0 0 S _  hf ?_
  · intro S32 hf
    obtain rfl := Option.some.inj hf
    exact h_vret rfl rfl rfl (Nat.le_refl _) (Nat.le_refl _) dX0_melt_68
abbrev x_X0_spread (d : Nat) (S0 : hS) (args : List Value) (r : hS) (cs : Nat → Nat) : hX := ((none, 5, d, 0, 0, false), (S0, args, none, r), cs)
theorem v_X0_spread : hVW yX0_spread cX0_spread 5 none RX0 0 := ⟨q_762, q_s24, q_3, q_763, by decide +kernel, by decide⟩
def f_X0_spread_L2 : Nat → Nat → Int32 → hS → (hS → Option (hS)) → Option (hS)
  | 0, _, _, _, _ => none
  | n + 1, x0, x1, S, k0 =>
    hbd (gR S x0 0 0) fun t1 =>
    hbd (gI S t1 6 2) fun t3 =>
    if t3 ≤ x1 then
      (k0 S)
    else
      (hbd (gR S x0 0 3) fun t6 =>
       hbd (gR S x0 0 2) fun t8 =>
       hbd (gA S t8 12 x1) fun t10 =>
       hbd (sA S t6 x1 (t10 / 8)) fun S12 =>
       f_X0_spread_L2 n x0 (x1 + 1) S12 k0)
def f_X0_spread_L56 : Nat → Nat → Int32 → Int32 → Int32 → hS → (hS → Option (hS)) → Option (hS)
  | 0, _, _, _, _, _, _ => none
  | n + 1, x0, x1, x2, x3, S, k0 =>
    if 5 ≤ x3 then
      (k0 S)
    else
      (if x2 ≤ 0 then
         (k0 S)
       else
         (hbd (gR S x0 0 0) fun t3 =>
          hbd (gR S t3 6 7) fun t5 =>
          hbd (gA S t5 12 ((x1 * 5) + x3)) fun t7 =>
          if t7 < 0 then
            (f_X0_spread_L56 n x0 x1 x2 (x3 + 1) S k0)
          else
            (hbd (gR S x0 0 2) fun t10 =>
             hbd (gA S t10 12 x1) fun t12 =>
             hbd (sA S t10 x1 (t12 - x2)) fun S14 =>
             hbd (gR S14 x0 0 2) fun t16 =>
             hbd (gA S14 t16 12 t7) fun t18 =>
             hbd (sA S14 t16 t7 (t18 + x2)) fun S20 =>
             f_X0_spread_L56 n x0 x1 x2 (x3 + 1) S20 k0)))
def f_X0_spread_L36 : Nat → Nat → Int32 → hS → (hS → Option (hS)) → Option (hS)
  | 0, _, _, _, _ => none
  | n + 1, x0, x1, S, k0 =>
    hbd (gR S x0 0 0) fun t1 =>
    hbd (gI S t1 6 2) fun t3 =>
    if t3 ≤ x1 then
      (k0 S)
    else
      (hbd (gR S x0 0 3) fun t6 =>
       hbd (gA S t6 12 x1) fun t8 =>
       f_X0_spread_L56 hfuel x0 x1 t8 1 S
         (fun S10 =>
           f_X0_spread_L36 n x0 (x1 + 1) S10 k0
         ))
def f_X0_spread (a0 : Nat) (S : hS) : Option (hS) :=
  f_X0_spread_L2 hfuel a0 0 S
    (fun S11 =>
      f_X0_spread_L36 hfuel a0 0 S11
        (fun S12 =>
          some S12
        )
    )
set_option maxRecDepth 100000 in
set_option maxHeartbeats 4000000 in
theorem w_X0_spread_L2 {d : Nat} {S0 : hS} {args : List Value} {cs : Nat → Nat} {r : hS} (hd : 1 ≤ d) : ∀ (n : Nat) (x0 : Nat) (x1 : Int32) (S : hS) (k0 : (hS → Option (hS))) , f_X0_spread_L2 n x0 x1 S k0 = some r → (∀ (T : hS), k0 T = some r → HW cX0_spread RX0 (x_X0_spread d S0 args r cs) 0 0 T 34 [(0, .ref x0)] []) → HW cX0_spread RX0 (x_X0_spread d S0 args r cs) 0 0 S 2 [(0, .ref x0), (1, .int x1)] [] := by
  intro n
  induction n with
  | zero =>
    intro x0 x1 S k0 hf
    cases hf
  | succ n ih =>
    intro x0 x1 S k0 hf hk0
    rw [f_X0_spread_L2] at hf
    refine h_iload_n dX0_spread_2 rfl 1 rfl ?_
    refine h_aload_n dX0_spread_3 rfl 0 rfl ?_
    obtain ⟨t1, h2, hf⟩ := hbd_s hf
    refine h_getR h2 rfl (Nat.le_of_ble_eq_true rfl) rfl q_180 rfl dX0_spread_4 ?_
    obtain ⟨t3, h4, hf⟩ := hbd_s hf
    refine h_getIN (host := "DeafSpot") h4 rfl (Nat.le_of_ble_eq_true rfl) rfl (List.mem_of_getElem? (i := 11) rfl) rfl dX0_spread_7 ?_
    refine h_icmp_ge (tgt := 34) dX0_spread_10 (by decide) (fun c5 => ?_) (fun c5 => ?_)
    · replace hf := hif_p c5 hf
      refine h_sub (lv2 := [(0, .ref x0)]) [0] rfl ?_
      exact hk0 S hf
    · replace hf := hif_n c5 hf
      refine h_aload_n dX0_spread_13 rfl 0 rfl ?_
      obtain ⟨t6, h7, hf⟩ := hbd_s hf
      refine h_getR h7 rfl (Nat.le_of_ble_eq_true rfl) rfl q_189 rfl dX0_spread_14 ?_
      refine h_iload_n dX0_spread_17 rfl 1 rfl ?_
      refine h_aload_n dX0_spread_18 rfl 0 rfl ?_
      obtain ⟨t8, h9, hf⟩ := hbd_s hf
      refine h_getR h9 rfl (Nat.le_of_ble_eq_true rfl) rfl q_186 rfl dX0_spread_19 ?_
      refine h_iload_n dX0_spread_22 rfl 1 rfl ?_
      obtain ⟨t10, h11, hf⟩ := hbd_s hf
      refine h_iald h11 dX0_spread_23 ?_
      refine h_bipush (v := 8) dX0_spread_24 rfl ?_
      refine h_idiv dX0_spread_26 (by decide) ?_
      obtain ⟨S12, h13, hf⟩ := hbd_s hf
      refine h_iast h13 dX0_spread_27 ?_
      refine h_iinc (q := 1) (v := x1 + 1) (lv2 := [(1, .int (x1 + 1)), (0, .ref x0)]) dX0_spread_28 rfl rfl (Nat.le_of_ble_eq_true rfl) rfl ?_
      refine h_goto (tgt := 2) dX0_spread_31 (by decide) ?_
      refine h_sub (lv2 := [(0, .ref x0), (1, .int (x1 + 1))]) [1, 0] rfl ?_
      exact ih x0 (x1 + 1) S12 k0  hf hk0
set_option maxRecDepth 100000 in
set_option maxHeartbeats 4000000 in
theorem w_X0_spread_L56 {d : Nat} {S0 : hS} {args : List Value} {cs : Nat → Nat} {r : hS} (hd : 1 ≤ d) : ∀ (n : Nat) (x0 : Nat) (x1 : Int32) (x2 : Int32) (x3 : Int32) (S : hS) (k0 : (hS → Option (hS))) , f_X0_spread_L56 n x0 x1 x2 x3 S k0 = some r → (∀ (T : hS), k0 T = some r → HW cX0_spread RX0 (x_X0_spread d S0 args r cs) 0 0 T 112 [(0, .ref x0), (1, .int x1)] []) → HW cX0_spread RX0 (x_X0_spread d S0 args r cs) 0 0 S 56 [(0, .ref x0), (1, .int x1), (2, .int x2), (3, .int x3)] [] := by
  intro n
  induction n with
  | zero =>
    intro x0 x1 x2 x3 S k0 hf
    cases hf
  | succ n ih =>
    intro x0 x1 x2 x3 S k0 hf hk0
    rw [f_X0_spread_L56] at hf
    refine h_iload_n dX0_spread_56 rfl 3 rfl ?_
    refine h_iconst (v := 5) dX0_spread_57 rfl ?_
    refine h_icmp_ge (tgt := 112) dX0_spread_58 (by decide) (fun c1 => ?_) (fun c1 => ?_)
    · replace hf := hif_p c1 hf
      refine h_sub (lv2 := [(0, .ref x0), (1, .int x1)]) [0, 1] rfl ?_
      exact hk0 S hf
    · replace hf := hif_n c1 hf
      refine h_iload_n dX0_spread_61 rfl 2 rfl ?_
      refine h_if_le (tgt := 112) dX0_spread_62 (by decide) (fun c2 => ?_) (fun c2 => ?_)
      · replace hf := hif_p c2 hf
        refine h_sub (lv2 := [(0, .ref x0), (1, .int x1)]) [0, 1] rfl ?_
        exact hk0 S hf
      · replace hf := hif_n c2 hf
        refine h_aload_n dX0_spread_65 rfl 0 rfl ?_
        obtain ⟨t3, h4, hf⟩ := hbd_s hf
        refine h_getR h4 rfl (Nat.le_of_ble_eq_true rfl) rfl q_180 rfl dX0_spread_66 ?_
        obtain ⟨t5, h6, hf⟩ := hbd_s hf
        refine h_getRN (host := "DeafSpot") h6 rfl (Nat.le_of_ble_eq_true rfl) rfl (List.mem_of_getElem? (i := 21) rfl) rfl dX0_spread_69 ?_
        refine h_iload_n dX0_spread_72 rfl 1 rfl ?_
        refine h_iconst (v := 5) dX0_spread_73 rfl ?_
        refine h_imul dX0_spread_74 ?_
        refine h_iload_n dX0_spread_75 rfl 3 rfl ?_
        refine h_iadd dX0_spread_76 ?_
        obtain ⟨t7, h8, hf⟩ := hbd_s hf
        refine h_iald h8 dX0_spread_77 ?_
        refine h_istore (lv2 := [(4, .int t7), (0, .ref x0), (1, .int x1), (2, .int x2), (3, .int x3)]) dX0_spread_78 (Nat.le_of_ble_eq_true rfl) rfl ?_
        refine h_iload dX0_spread_80 0 rfl ?_
        refine h_if_lt (tgt := 106) dX0_spread_82 (by decide) (fun c9 => ?_) (fun c9 => ?_)
        · replace hf := hif_p c9 hf
          refine h_iinc (q := 4) (v := x3 + 1) (lv2 := [(3, .int (x3 + 1)), (4, .int t7), (0, .ref x0), (1, .int x1), (2, .int x2)]) dX0_spread_106 rfl rfl (Nat.le_of_ble_eq_true rfl) rfl ?_
          refine h_goto (tgt := 56) dX0_spread_109 (by decide) ?_
          refine h_sub (lv2 := [(0, .ref x0), (1, .int x1), (2, .int x2), (3, .int (x3 + 1))]) [2, 3, 4, 0] rfl ?_
          exact ih x0 x1 x2 (x3 + 1) S k0  hf hk0
        · replace hf := hif_n c9 hf
          refine h_aload_n dX0_spread_85 rfl 1 rfl ?_
          obtain ⟨t10, h11, hf⟩ := hbd_s hf
          refine h_getR h11 rfl (Nat.le_of_ble_eq_true rfl) rfl q_186 rfl dX0_spread_86 ?_
          refine h_iload_n dX0_spread_89 rfl 2 rfl ?_
          refine h_dup2 dX0_spread_90 rfl rfl ?_
          obtain ⟨t12, h13, hf⟩ := hbd_s hf
          refine h_iald h13 dX0_spread_91 ?_
          refine h_iload_n dX0_spread_92 rfl 3 rfl ?_
          refine h_isub dX0_spread_93 ?_
          obtain ⟨S14, h15, hf⟩ := hbd_s hf
          refine h_iast h15 dX0_spread_94 ?_
          refine h_aload_n dX0_spread_95 rfl 1 rfl ?_
          obtain ⟨t16, h17, hf⟩ := hbd_s hf
          refine h_getR h17 rfl (Nat.le_of_ble_eq_true rfl) rfl q_186 rfl dX0_spread_96 ?_
          refine h_iload dX0_spread_99 0 rfl ?_
          refine h_dup2 dX0_spread_101 rfl rfl ?_
          obtain ⟨t18, h19, hf⟩ := hbd_s hf
          refine h_iald h19 dX0_spread_102 ?_
          refine h_iload_n dX0_spread_103 rfl 3 rfl ?_
          refine h_iadd dX0_spread_104 ?_
          obtain ⟨S20, h21, hf⟩ := hbd_s hf
          refine h_iast h21 dX0_spread_105 ?_
          refine h_iinc (q := 4) (v := x3 + 1) (lv2 := [(3, .int (x3 + 1)), (4, .int t7), (0, .ref x0), (1, .int x1), (2, .int x2)]) dX0_spread_106 rfl rfl (Nat.le_of_ble_eq_true rfl) rfl ?_
          refine h_goto (tgt := 56) dX0_spread_109 (by decide) ?_
          refine h_sub (lv2 := [(0, .ref x0), (1, .int x1), (2, .int x2), (3, .int (x3 + 1))]) [2, 3, 4, 0] rfl ?_
          exact ih x0 x1 x2 (x3 + 1) S20 k0  hf hk0
set_option maxRecDepth 100000 in
set_option maxHeartbeats 4000000 in
theorem w_X0_spread_L36 {d : Nat} {S0 : hS} {args : List Value} {cs : Nat → Nat} {r : hS} (hd : 1 ≤ d) : ∀ (n : Nat) (x0 : Nat) (x1 : Int32) (S : hS) (k0 : (hS → Option (hS))) , f_X0_spread_L36 n x0 x1 S k0 = some r → (∀ (T : hS), k0 T = some r → HW cX0_spread RX0 (x_X0_spread d S0 args r cs) 0 0 T 118 [] []) → HW cX0_spread RX0 (x_X0_spread d S0 args r cs) 0 0 S 36 [(0, .ref x0), (1, .int x1)] [] := by
  intro n
  induction n with
  | zero =>
    intro x0 x1 S k0 hf
    cases hf
  | succ n ih =>
    intro x0 x1 S k0 hf hk0
    rw [f_X0_spread_L36] at hf
    refine h_iload_n dX0_spread_36 rfl 1 rfl ?_
    refine h_aload_n dX0_spread_37 rfl 0 rfl ?_
    obtain ⟨t1, h2, hf⟩ := hbd_s hf
    refine h_getR h2 rfl (Nat.le_of_ble_eq_true rfl) rfl q_180 rfl dX0_spread_38 ?_
    obtain ⟨t3, h4, hf⟩ := hbd_s hf
    refine h_getIN (host := "DeafSpot") h4 rfl (Nat.le_of_ble_eq_true rfl) rfl (List.mem_of_getElem? (i := 11) rfl) rfl dX0_spread_41 ?_
    refine h_icmp_ge (tgt := 118) dX0_spread_44 (by decide) (fun c5 => ?_) (fun c5 => ?_)
    · replace hf := hif_p c5 hf
      refine h_sub (lv2 := []) [] rfl ?_
      exact hk0 S hf
    · replace hf := hif_n c5 hf
      refine h_aload_n dX0_spread_47 rfl 0 rfl ?_
      obtain ⟨t6, h7, hf⟩ := hbd_s hf
      refine h_getR h7 rfl (Nat.le_of_ble_eq_true rfl) rfl q_189 rfl dX0_spread_48 ?_
      refine h_iload_n dX0_spread_51 rfl 1 rfl ?_
      obtain ⟨t8, h9, hf⟩ := hbd_s hf
      refine h_iald h9 dX0_spread_52 ?_
      refine h_istore_n (lv2 := [(2, .int t8), (0, .ref x0), (1, .int x1)]) dX0_spread_53 rfl (Nat.le_of_ble_eq_true rfl) rfl ?_
      refine h_iconst (v := 1) dX0_spread_54 rfl ?_
      refine h_istore_n (lv2 := [(3, .int 1), (2, .int t8), (0, .ref x0), (1, .int x1)]) dX0_spread_55 rfl (Nat.le_of_ble_eq_true rfl) rfl ?_
      refine h_sub (lv2 := [(0, .ref x0), (1, .int x1), (2, .int t8), (3, .int 1)]) [2, 3, 1, 0] rfl ?_
      refine w_X0_spread_L56 hd hfuel x0 x1 t8 1 S _  hf ?_
      · intro S10 hf
        refine h_iinc (q := 1) (v := x1 + 1) (lv2 := [(1, .int (x1 + 1)), (0, .ref x0)]) dX0_spread_112 rfl rfl (Nat.le_of_ble_eq_true rfl) rfl ?_
        refine h_goto (tgt := 36) dX0_spread_115 (by decide) ?_
        refine h_sub (lv2 := [(0, .ref x0), (1, .int (x1 + 1))]) [1, 0] rfl ?_
        exact ih x0 (x1 + 1) S10 k0  hf hk0
set_option maxRecDepth 100000 in
set_option maxHeartbeats 4000000 in
theorem m_X0_spread {d : Nat} {cs : Nat → Nat} {a0 : Nat} {S : hS} {r : hS} (hd : 1 ≤ d) (hf : f_X0_spread a0 S = some r) : HM yX0_spread cX0_spread 5 none d 0 0 cs [.ref a0] S (none) r := by
  unfold f_X0_spread at hf
  refine HM.ofHW false (by decide) (fun h => by cases h) (Nat.le_of_ble_eq_true rfl) ?_
  show HW cX0_spread RX0 (x_X0_spread d S [.ref a0] r cs) 0 0 S 0 [(0, .ref a0)] []
  refine h_iconst (v := 0) dX0_spread_0 rfl ?_
  refine h_istore_n (lv2 := [(1, .int 0), (0, .ref a0)]) dX0_spread_1 rfl (Nat.le_of_ble_eq_true rfl) rfl ?_
  refine h_sub (lv2 := [(0, .ref a0), (1, .int 0)]) [1, 0] rfl ?_
  refine w_X0_spread_L2 hd hfuel a0 0 S _  hf ?_
  · intro S11 hf
    refine h_iconst (v := 0) dX0_spread_34 rfl ?_
    refine h_istore_n (lv2 := [(1, .int 0), (0, .ref a0)]) dX0_spread_35 rfl (Nat.le_of_ble_eq_true rfl) rfl ?_
    refine h_sub (lv2 := [(0, .ref a0), (1, .int 0)]) [1, 0] rfl ?_
    refine w_X0_spread_L36 hd hfuel a0 0 S11 _  hf ?_
    · intro S12 hf
      obtain rfl := Option.some.inj hf
      exact h_vret rfl rfl rfl (Nat.le_refl _) (Nat.le_refl _) dX0_spread_118
abbrev x_X0_wordOf (d : Nat) (S0 : hS) (args : List Value) (r : Int64 × hS) (cs : Nat → Nat) : hX := (((some .long), 7, d, 0, 0, false), (S0, args, some (.long r.1), r.2), cs)
theorem v_X0_wordOf : hVW yX0_wordOf cX0_wordOf 7 (some .long) RX0 3 := ⟨q_777, q_778, q_3, q_779, by decide +kernel, by decide⟩
def f_X0_wordOf_L82 : Nat → Nat → Int32 → Int32 → Int32 → hS → (Int32 → Option (Int64 × hS)) → Option (Int64 × hS)
  | 0, _, _, _, _, _, _ => none
  | n + 1, x0, x2, x4, x5, S, k0 =>
    if 5 ≤ x5 then
      (k0 x4)
    else
      (hbd (gR S x0 0 0) fun t2 =>
       hbd (gR S t2 6 7) fun t4 =>
       hbd (gA S t4 12 ((x2 * 5) + x5)) fun t6 =>
       hj (γ := Int32 → Option (Int64 × hS)) (fun (v9 : Int32) =>
         f_X0_wordOf_L82 n x0 x2 (x4 + v9) (x5 + 1) S k0
         ) fun J8 =>
       if t6 < 0 then
         (J8 0)
       else
         (hbd (gR S x0 0 2) fun t11 =>
          hbd (gA S t11 12 t6) fun t13 =>
          J8 t13))
def f_X0_wordOf (a0 : Nat) (a1 : Int32) (a2 : Int32) (a3 : Int32) (S : hS) : Option (Int64 × hS) :=
  if a2 < 0 then
    (some (0, S))
  else
    (hbd (gR S a0 0 0) fun t16 =>
     hbd (gI S t16 6 2) fun t18 =>
     if a2 < t18 then
       (if a1 = (-9) then
          (hbd (gR S a0 0 0) fun t22 =>
           hbd (gR S t22 6 6) fun t24 =>
           hbd (gA S t24 12 a2) fun t26 =>
           some (Int32.toInt64 t26, S))
        else
          (if a1 = (-8) then
             (hbd (gI S a0 0 5) fun t29 =>
              if a2 = t29 then
                (some (1, S))
              else
                (some (0, S)))
           else
             (if a1 = (-7) then
                (some (Int32.toInt64 a3, S))
              else
                (if a1 = (-6) then
                   (hbd (gI S a0 0 6) fun t34 =>
                    some (Int32.toInt64 t34, S))
                 else
                   (if a1 = (-5) then
                      (hbd (gR S a0 0 0) fun t37 =>
                       hbd (gR S t37 6 5) fun t39 =>
                       hbd (gA S t39 12 a2) fun t41 =>
                       some (Int32.toInt64 t41, S))
                    else
                      (if a1 = (-4) then
                         (hbd (gR S a0 0 0) fun t44 =>
                          hbd (gR S t44 6 4) fun t46 =>
                          hbd (gA S t46 12 a2) fun t48 =>
                          some (Int32.toInt64 t48, S))
                       else
                         (if a1 = (-3) then
                            (hbd (gR S a0 0 1) fun t51 =>
                             hbd (gR S t51 2 5) fun t53 =>
                             hbd (gA S t53 12 a2) fun t55 =>
                             if t55 = (-1) then
                               (some (0, S))
                             else
                               (some (1, S)))
                          else
                            (if a1 = (-2) then
                               (f_X0_wordOf_L82 hfuel a0 a2 0 1 S
                                  (fun u59 =>
                                    some (Int32.toInt64 u59, S)
                                  ))
                             else
                               (if a1 = (-1) then
                                  (hbd (gR S a0 0 2) fun t61 =>
                                   hbd (gA S t61 12 a2) fun t63 =>
                                   some (Int32.toInt64 t63, S))
                                else
                                  (some (0, S)))))))))))
     else
       (some (0, S)))
set_option maxRecDepth 100000 in
set_option maxHeartbeats 4000000 in
theorem w_X0_wordOf_L82 {d : Nat} {S0 : hS} {args : List Value} {cs : Nat → Nat} {r : Int64 × hS} (hd : 1 ≤ d) : ∀ (n : Nat) (x0 : Nat) (x2 : Int32) (x4 : Int32) (x5 : Int32) (S : hS) (k0 : (Int32 → Option (Int64 × hS))) , f_X0_wordOf_L82 n x0 x2 x4 x5 S k0 = some r → (∀ (y4 : Int32), k0 y4 = some r → HW cX0_wordOf RX0 (x_X0_wordOf d S0 args r cs) 0 0 S 131 [(4, .int y4)] []) → HW cX0_wordOf RX0 (x_X0_wordOf d S0 args r cs) 0 0 S 82 [(0, .ref x0), (2, .int x2), (4, .int x4), (5, .int x5)] [] := by
  intro n
  induction n with
  | zero =>
    intro x0 x2 x4 x5 S k0 hf
    cases hf
  | succ n ih =>
    intro x0 x2 x4 x5 S k0 hf hk0
    rw [f_X0_wordOf_L82] at hf
    refine h_iload dX0_wordOf_82 3 rfl ?_
    refine h_iconst (v := 5) dX0_wordOf_84 rfl ?_
    refine h_icmp_ge (tgt := 131) dX0_wordOf_85 (by decide) (fun c1 => ?_) (fun c1 => ?_)
    · replace hf := hif_p c1 hf
      refine h_sub (lv2 := [(4, .int x4)]) [2] rfl ?_
      exact hk0 x4  hf
    · replace hf := hif_n c1 hf
      refine h_aload_n dX0_wordOf_88 rfl 0 rfl ?_
      obtain ⟨t2, h3, hf⟩ := hbd_s hf
      refine h_getR h3 rfl (Nat.le_of_ble_eq_true rfl) rfl q_180 rfl dX0_wordOf_89 ?_
      obtain ⟨t4, h5, hf⟩ := hbd_s hf
      refine h_getRN (host := "DeafSpot") h5 rfl (Nat.le_of_ble_eq_true rfl) rfl (List.mem_of_getElem? (i := 21) rfl) rfl dX0_wordOf_92 ?_
      refine h_iload_n dX0_wordOf_95 rfl 1 rfl ?_
      refine h_iconst (v := 5) dX0_wordOf_96 rfl ?_
      refine h_imul dX0_wordOf_97 ?_
      refine h_iload dX0_wordOf_98 3 rfl ?_
      refine h_iadd dX0_wordOf_100 ?_
      obtain ⟨t6, h7, hf⟩ := hbd_s hf
      refine h_iald h7 dX0_wordOf_101 ?_
      refine h_istore (lv2 := [(6, .int t6), (0, .ref x0), (2, .int x2), (4, .int x4), (5, .int x5)]) dX0_wordOf_102 (Nat.le_of_ble_eq_true rfl) rfl ?_
      refine h_iload dX0_wordOf_104 3 rfl ?_
      refine h_iload dX0_wordOf_106 0 rfl ?_
      refine hj_s (fun J8 => ∀ (v9 : Int32), J8 v9 = some r → HW cX0_wordOf RX0 (x_X0_wordOf d S0 args r cs) 0 0 S 122 [(0, .ref x0), (2, .int x2), (5, .int x5)] [.int v9, .int x4]) hf ?_ ?_
      · intro v9 hf
        refine h_iadd dX0_wordOf_122 ?_
        refine h_istore (lv2 := [(4, .int (x4 + v9)), (0, .ref x0), (2, .int x2), (5, .int x5)]) dX0_wordOf_123 (Nat.le_of_ble_eq_true rfl) rfl ?_
        refine h_iinc (q := 3) (v := x5 + 1) (lv2 := [(5, .int (x5 + 1)), (4, .int (x4 + v9)), (0, .ref x0), (2, .int x2)]) dX0_wordOf_125 rfl rfl (Nat.le_of_ble_eq_true rfl) rfl ?_
        refine h_goto (tgt := 82) dX0_wordOf_128 (by decide) ?_
        refine h_sub (lv2 := [(0, .ref x0), (2, .int x2), (4, .int (x4 + v9)), (5, .int (x5 + 1))]) [2, 3, 1, 0] rfl ?_
        exact ih x0 x2 (x4 + v9) (x5 + 1) S k0  hf hk0
      · intro J8 hJ8 hf
        refine h_if_lt (tgt := 121) dX0_wordOf_108 (by decide) (fun c10 => ?_) (fun c10 => ?_)
        · replace hf := hif_p c10 hf
          refine h_iconst (v := 0) dX0_wordOf_121 rfl ?_
          refine h_sub (lv2 := [(0, .ref x0), (2, .int x2), (5, .int x5)]) [1, 2, 4] rfl ?_
          exact hJ8 0 hf
        · replace hf := hif_n c10 hf
          refine h_aload_n dX0_wordOf_111 rfl 1 rfl ?_
          obtain ⟨t11, h12, hf⟩ := hbd_s hf
          refine h_getR h12 rfl (Nat.le_of_ble_eq_true rfl) rfl q_186 rfl dX0_wordOf_112 ?_
          refine h_iload dX0_wordOf_115 0 rfl ?_
          obtain ⟨t13, h14, hf⟩ := hbd_s hf
          refine h_iald h14 dX0_wordOf_117 ?_
          refine h_goto (tgt := 122) dX0_wordOf_118 (by decide) ?_
          refine h_sub (lv2 := [(0, .ref x0), (2, .int x2), (5, .int x5)]) [1, 2, 4] rfl ?_
          exact hJ8 t13 hf
set_option maxRecDepth 100000 in
set_option maxHeartbeats 4000000 in
theorem m_X0_wordOf {d : Nat} {cs : Nat → Nat} {a0 : Nat} {a1 : Int32} {a2 : Int32} {a3 : Int32} {S : hS} {r : Int64 × hS} (hd : 1 ≤ d) (hf : f_X0_wordOf a0 a1 a2 a3 S = some r) : HM yX0_wordOf cX0_wordOf 7 (some .long) d 0 0 cs [.ref a0, .int a1, .int a2, .int a3] S (some (.long r.1)) r.2 := by
  unfold f_X0_wordOf at hf
  refine HM.ofHW false (by decide) (fun h => by cases h) (Nat.le_of_ble_eq_true rfl) ?_
  show HW cX0_wordOf RX0 (x_X0_wordOf d S [.ref a0, .int a1, .int a2, .int a3] r cs) 0 0 S 0 [(0, .ref a0), (1, .int a1), (2, .int a2), (3, .int a3)] []
  refine h_iload_n dX0_wordOf_0 rfl 2 rfl ?_
  refine h_if_lt (tgt := 15) dX0_wordOf_1 (by decide) (fun c15 => ?_) (fun c15 => ?_)
  · replace hf := hif_p c15 hf
    refine h_lconst (v := 0) dX0_wordOf_15 rfl ?_
    obtain rfl := Option.some.inj hf
    exact h_lret rfl rfl rfl (Nat.le_refl _) (Nat.le_refl _) dX0_wordOf_16
  · replace hf := hif_n c15 hf
    refine h_iload_n dX0_wordOf_4 rfl 2 rfl ?_
    refine h_aload_n dX0_wordOf_5 rfl 0 rfl ?_
    obtain ⟨t16, h17, hf⟩ := hbd_s hf
    refine h_getR h17 rfl (Nat.le_of_ble_eq_true rfl) rfl q_180 rfl dX0_wordOf_6 ?_
    obtain ⟨t18, h19, hf⟩ := hbd_s hf
    refine h_getIN (host := "DeafSpot") h19 rfl (Nat.le_of_ble_eq_true rfl) rfl (List.mem_of_getElem? (i := 11) rfl) rfl dX0_wordOf_9 ?_
    refine h_icmp_lt (tgt := 17) dX0_wordOf_12 (by decide) (fun c20 => ?_) (fun c20 => ?_)
    · replace hf := hif_p c20 hf
      refine h_iload_n dX0_wordOf_17 rfl 1 rfl ?_
      by_cases c21 : a1 = (-9)
      · replace hf := hif_p c21 hf
        refine h_tabIn (tgt := 199) (-9) (by rw [c21]; rfl) dX0_wordOf_18 (by decide) (by decide) rfl (by decide) ?_
        refine h_aload_n dX0_wordOf_199 rfl 0 rfl ?_
        obtain ⟨t22, h23, hf⟩ := hbd_s hf
        refine h_getR h23 rfl (Nat.le_of_ble_eq_true rfl) rfl q_180 rfl dX0_wordOf_200 ?_
        obtain ⟨t24, h25, hf⟩ := hbd_s hf
        refine h_getRN (host := "DeafSpot") h25 rfl (Nat.le_of_ble_eq_true rfl) rfl (List.mem_of_getElem? (i := 20) rfl) rfl dX0_wordOf_203 ?_
        refine h_iload_n dX0_wordOf_206 rfl 2 rfl ?_
        obtain ⟨t26, h27, hf⟩ := hbd_s hf
        refine h_iald h27 dX0_wordOf_207 ?_
        refine h_i2l dX0_wordOf_208 ?_
        obtain rfl := Option.some.inj hf
        exact h_lret rfl rfl rfl (Nat.le_refl _) (Nat.le_refl _) dX0_wordOf_209
      · replace hf := hif_n c21 hf
        by_cases c28 : a1 = (-8)
        · replace hf := hif_p c28 hf
          refine h_tabIn (tgt := 185) (-8) (by rw [c28]; rfl) dX0_wordOf_18 (by decide) (by decide) rfl (by decide) ?_
          refine h_iload_n dX0_wordOf_185 rfl 2 rfl ?_
          refine h_aload_n dX0_wordOf_186 rfl 0 rfl ?_
          obtain ⟨t29, h30, hf⟩ := hbd_s hf
          refine h_getI h30 rfl (Nat.le_of_ble_eq_true rfl) rfl q_193 rfl dX0_wordOf_187 ?_
          refine h_icmp_ne (tgt := 197) dX0_wordOf_190 (by decide) (fun c31 => ?_) (fun c31 => ?_)
          · replace hf := hif_n c31 hf
            refine h_lconst (v := 0) dX0_wordOf_197 rfl ?_
            obtain rfl := Option.some.inj hf
            exact h_lret rfl rfl rfl (Nat.le_refl _) (Nat.le_refl _) dX0_wordOf_198
          · replace hf := hif_p c31 hf
            refine h_lconst (v := 1) dX0_wordOf_193 rfl ?_
            refine h_goto (tgt := 198) dX0_wordOf_194 (by decide) ?_
            obtain rfl := Option.some.inj hf
            exact h_lret rfl rfl rfl (Nat.le_refl _) (Nat.le_refl _) dX0_wordOf_198
        · replace hf := hif_n c28 hf
          by_cases c32 : a1 = (-7)
          · replace hf := hif_p c32 hf
            refine h_tabIn (tgt := 182) (-7) (by rw [c32]; rfl) dX0_wordOf_18 (by decide) (by decide) rfl (by decide) ?_
            refine h_iload_n dX0_wordOf_182 rfl 3 rfl ?_
            refine h_i2l dX0_wordOf_183 ?_
            obtain rfl := Option.some.inj hf
            exact h_lret rfl rfl rfl (Nat.le_refl _) (Nat.le_refl _) dX0_wordOf_184
          · replace hf := hif_n c32 hf
            by_cases c33 : a1 = (-6)
            · replace hf := hif_p c33 hf
              refine h_tabIn (tgt := 176) (-6) (by rw [c33]; rfl) dX0_wordOf_18 (by decide) (by decide) rfl (by decide) ?_
              refine h_aload_n dX0_wordOf_176 rfl 0 rfl ?_
              obtain ⟨t34, h35, hf⟩ := hbd_s hf
              refine h_getI h35 rfl (Nat.le_of_ble_eq_true rfl) rfl q_194 rfl dX0_wordOf_177 ?_
              refine h_i2l dX0_wordOf_180 ?_
              obtain rfl := Option.some.inj hf
              exact h_lret rfl rfl rfl (Nat.le_refl _) (Nat.le_refl _) dX0_wordOf_181
            · replace hf := hif_n c33 hf
              by_cases c36 : a1 = (-5)
              · replace hf := hif_p c36 hf
                refine h_tabIn (tgt := 165) (-5) (by rw [c36]; rfl) dX0_wordOf_18 (by decide) (by decide) rfl (by decide) ?_
                refine h_aload_n dX0_wordOf_165 rfl 0 rfl ?_
                obtain ⟨t37, h38, hf⟩ := hbd_s hf
                refine h_getR h38 rfl (Nat.le_of_ble_eq_true rfl) rfl q_180 rfl dX0_wordOf_166 ?_
                obtain ⟨t39, h40, hf⟩ := hbd_s hf
                refine h_getRN (host := "DeafSpot") h40 rfl (Nat.le_of_ble_eq_true rfl) rfl (List.mem_of_getElem? (i := 18) rfl) rfl dX0_wordOf_169 ?_
                refine h_iload_n dX0_wordOf_172 rfl 2 rfl ?_
                obtain ⟨t41, h42, hf⟩ := hbd_s hf
                refine h_iald h42 dX0_wordOf_173 ?_
                refine h_i2l dX0_wordOf_174 ?_
                obtain rfl := Option.some.inj hf
                exact h_lret rfl rfl rfl (Nat.le_refl _) (Nat.le_refl _) dX0_wordOf_175
              · replace hf := hif_n c36 hf
                by_cases c43 : a1 = (-4)
                · replace hf := hif_p c43 hf
                  refine h_tabIn (tgt := 154) (-4) (by rw [c43]; rfl) dX0_wordOf_18 (by decide) (by decide) rfl (by decide) ?_
                  refine h_aload_n dX0_wordOf_154 rfl 0 rfl ?_
                  obtain ⟨t44, h45, hf⟩ := hbd_s hf
                  refine h_getR h45 rfl (Nat.le_of_ble_eq_true rfl) rfl q_180 rfl dX0_wordOf_155 ?_
                  obtain ⟨t46, h47, hf⟩ := hbd_s hf
                  refine h_getRN (host := "DeafSpot") h47 rfl (Nat.le_of_ble_eq_true rfl) rfl (List.mem_of_getElem? (i := 16) rfl) rfl dX0_wordOf_158 ?_
                  refine h_iload_n dX0_wordOf_161 rfl 2 rfl ?_
                  obtain ⟨t48, h49, hf⟩ := hbd_s hf
                  refine h_iald h49 dX0_wordOf_162 ?_
                  refine h_i2l dX0_wordOf_163 ?_
                  obtain rfl := Option.some.inj hf
                  exact h_lret rfl rfl rfl (Nat.le_refl _) (Nat.le_refl _) dX0_wordOf_164
                · replace hf := hif_n c43 hf
                  by_cases c50 : a1 = (-3)
                  · replace hf := hif_p c50 hf
                    refine h_tabIn (tgt := 135) (-3) (by rw [c50]; rfl) dX0_wordOf_18 (by decide) (by decide) rfl (by decide) ?_
                    refine h_aload_n dX0_wordOf_135 rfl 0 rfl ?_
                    obtain ⟨t51, h52, hf⟩ := hbd_s hf
                    refine h_getR h52 rfl (Nat.le_of_ble_eq_true rfl) rfl q_183 rfl dX0_wordOf_136 ?_
                    obtain ⟨t53, h54, hf⟩ := hbd_s hf
                    refine h_getRN (host := "DeafSpot") h54 rfl (Nat.le_of_ble_eq_true rfl) rfl (List.mem_of_getElem? (i := 48) rfl) rfl dX0_wordOf_139 ?_
                    refine h_iload_n dX0_wordOf_142 rfl 2 rfl ?_
                    obtain ⟨t55, h56, hf⟩ := hbd_s hf
                    refine h_iald h56 dX0_wordOf_143 ?_
                    refine h_iconst (v := (-1)) dX0_wordOf_144 rfl ?_
                    refine h_icmp_ne (tgt := 152) dX0_wordOf_145 (by decide) (fun c57 => ?_) (fun c57 => ?_)
                    · replace hf := hif_n c57 hf
                      refine h_lconst (v := 1) dX0_wordOf_152 rfl ?_
                      obtain rfl := Option.some.inj hf
                      exact h_lret rfl rfl rfl (Nat.le_refl _) (Nat.le_refl _) dX0_wordOf_153
                    · replace hf := hif_p c57 hf
                      refine h_lconst (v := 0) dX0_wordOf_148 rfl ?_
                      refine h_goto (tgt := 153) dX0_wordOf_149 (by decide) ?_
                      obtain rfl := Option.some.inj hf
                      exact h_lret rfl rfl rfl (Nat.le_refl _) (Nat.le_refl _) dX0_wordOf_153
                  · replace hf := hif_n c50 hf
                    by_cases c58 : a1 = (-2)
                    · replace hf := hif_p c58 hf
                      refine h_tabIn (tgt := 76) (-2) (by rw [c58]; rfl) dX0_wordOf_18 (by decide) (by decide) rfl (by decide) ?_
                      refine h_iconst (v := 0) dX0_wordOf_76 rfl ?_
                      refine h_istore (lv2 := [(4, .int 0), (0, .ref a0), (1, .int a1), (2, .int a2), (3, .int a3)]) dX0_wordOf_77 (Nat.le_of_ble_eq_true rfl) rfl ?_
                      refine h_iconst (v := 1) dX0_wordOf_79 rfl ?_
                      refine h_istore (lv2 := [(5, .int 1), (4, .int 0), (0, .ref a0), (1, .int a1), (2, .int a2), (3, .int a3)]) dX0_wordOf_80 (Nat.le_of_ble_eq_true rfl) rfl ?_
                      refine h_sub (lv2 := [(0, .ref a0), (2, .int a2), (4, .int 0), (5, .int 1)]) [2, 4, 1, 0] rfl ?_
                      refine w_X0_wordOf_L82 hd hfuel a0 a2 0 1 S _  hf ?_
                      · intro u59 hf
                        refine h_iload dX0_wordOf_131 0 rfl ?_
                        refine h_i2l dX0_wordOf_133 ?_
                        obtain rfl := Option.some.inj hf
                        exact h_lret rfl rfl rfl (Nat.le_refl _) (Nat.le_refl _) dX0_wordOf_134
                    · replace hf := hif_n c58 hf
                      by_cases c60 : a1 = (-1)
                      · replace hf := hif_p c60 hf
                        refine h_tabIn (tgt := 68) (-1) (by rw [c60]; rfl) dX0_wordOf_18 (by decide) (by decide) rfl (by decide) ?_
                        refine h_aload_n dX0_wordOf_68 rfl 0 rfl ?_
                        obtain ⟨t61, h62, hf⟩ := hbd_s hf
                        refine h_getR h62 rfl (Nat.le_of_ble_eq_true rfl) rfl q_186 rfl dX0_wordOf_69 ?_
                        refine h_iload_n dX0_wordOf_72 rfl 2 rfl ?_
                        obtain ⟨t63, h64, hf⟩ := hbd_s hf
                        refine h_iald h64 dX0_wordOf_73 ?_
                        refine h_i2l dX0_wordOf_74 ?_
                        obtain rfl := Option.some.inj hf
                        exact h_lret rfl rfl rfl (Nat.le_refl _) (Nat.le_refl _) dX0_wordOf_75
                      · replace hf := hif_n c60 hf
                        refine h_tabOut (tgt := 210) dX0_wordOf_18 (by have g0 := hne_t (a := (-9)) c21 rfl; have g1 := hne_t (a := (-8)) c28 rfl; have g2 := hne_t (a := (-7)) c32 rfl; have g3 := hne_t (a := (-6)) c33 rfl; have g4 := hne_t (a := (-5)) c36 rfl; have g5 := hne_t (a := (-4)) c43 rfl; have g6 := hne_t (a := (-3)) c50 rfl; have g7 := hne_t (a := (-2)) c58 rfl; have g8 := hne_t (a := (-1)) c60 rfl; omega) (by decide) ?_
                        refine h_lconst (v := 0) dX0_wordOf_210 rfl ?_
                        obtain rfl := Option.some.inj hf
                        exact h_lret rfl rfl rfl (Nat.le_refl _) (Nat.le_refl _) dX0_wordOf_211
    · replace hf := hif_n c20 hf
      refine h_lconst (v := 0) dX0_wordOf_15 rfl ?_
      obtain rfl := Option.some.inj hf
      exact h_lret rfl rfl rfl (Nat.le_refl _) (Nat.le_refl _) dX0_wordOf_16
abbrev x_X0_allHeat (d : Nat) (S0 : hS) (args : List Value) (r : Int32 × hS) (cs : Nat → Nat) : hX := (((some .int), 3, d, 0, 0, false), (S0, args, some (.int r.1), r.2), cs)
theorem v_X0_allHeat : hVW yX0_allHeat cX0_allHeat 3 (some .int) RX0 0 := ⟨q_555, q_556, q_3, q_557, by decide +kernel, by decide⟩
def f_X0_allHeat_L4 : Nat → Nat → Int32 → Int32 → hS → (Int32 → Option (Int32 × hS)) → Option (Int32 × hS)
  | 0, _, _, _, _, _ => none
  | n + 1, x0, x1, x2, S, k0 =>
    hbd (gR S x0 0 0) fun t1 =>
    hbd (gI S t1 6 2) fun t3 =>
    if t3 ≤ x2 then
      (k0 x1)
    else
      (hbd (gR S x0 0 2) fun t6 =>
       hbd (gA S t6 12 x2) fun t8 =>
       f_X0_allHeat_L4 n x0 (x1 + t8) (x2 + 1) S k0)
def f_X0_allHeat (a0 : Nat) (S : hS) : Option (Int32 × hS) :=
  f_X0_allHeat_L4 hfuel a0 0 0 S
    (fun u10 =>
      some (u10, S)
    )
set_option maxRecDepth 100000 in
set_option maxHeartbeats 4000000 in
theorem w_X0_allHeat_L4 {d : Nat} {S0 : hS} {args : List Value} {cs : Nat → Nat} {r : Int32 × hS} (hd : 1 ≤ d) : ∀ (n : Nat) (x0 : Nat) (x1 : Int32) (x2 : Int32) (S : hS) (k0 : (Int32 → Option (Int32 × hS))) , f_X0_allHeat_L4 n x0 x1 x2 S k0 = some r → (∀ (y1 : Int32), k0 y1 = some r → HW cX0_allHeat RX0 (x_X0_allHeat d S0 args r cs) 0 0 S 30 [(1, .int y1)] []) → HW cX0_allHeat RX0 (x_X0_allHeat d S0 args r cs) 0 0 S 4 [(0, .ref x0), (1, .int x1), (2, .int x2)] [] := by
  intro n
  induction n with
  | zero =>
    intro x0 x1 x2 S k0 hf
    cases hf
  | succ n ih =>
    intro x0 x1 x2 S k0 hf hk0
    rw [f_X0_allHeat_L4] at hf
    refine h_iload_n dX0_allHeat_4 rfl 2 rfl ?_
    refine h_aload_n dX0_allHeat_5 rfl 0 rfl ?_
    obtain ⟨t1, h2, hf⟩ := hbd_s hf
    refine h_getR h2 rfl (Nat.le_of_ble_eq_true rfl) rfl q_180 rfl dX0_allHeat_6 ?_
    obtain ⟨t3, h4, hf⟩ := hbd_s hf
    refine h_getIN (host := "DeafSpot") h4 rfl (Nat.le_of_ble_eq_true rfl) rfl (List.mem_of_getElem? (i := 11) rfl) rfl dX0_allHeat_9 ?_
    refine h_icmp_ge (tgt := 30) dX0_allHeat_12 (by decide) (fun c5 => ?_) (fun c5 => ?_)
    · replace hf := hif_p c5 hf
      refine h_sub (lv2 := [(1, .int x1)]) [1] rfl ?_
      exact hk0 x1  hf
    · replace hf := hif_n c5 hf
      refine h_iload_n dX0_allHeat_15 rfl 1 rfl ?_
      refine h_aload_n dX0_allHeat_16 rfl 0 rfl ?_
      obtain ⟨t6, h7, hf⟩ := hbd_s hf
      refine h_getR h7 rfl (Nat.le_of_ble_eq_true rfl) rfl q_186 rfl dX0_allHeat_17 ?_
      refine h_iload_n dX0_allHeat_20 rfl 2 rfl ?_
      obtain ⟨t8, h9, hf⟩ := hbd_s hf
      refine h_iald h9 dX0_allHeat_21 ?_
      refine h_iadd dX0_allHeat_22 ?_
      refine h_istore_n (lv2 := [(1, .int (x1 + t8)), (0, .ref x0), (2, .int x2)]) dX0_allHeat_23 rfl (Nat.le_of_ble_eq_true rfl) rfl ?_
      refine h_iinc (q := 2) (v := x2 + 1) (lv2 := [(2, .int (x2 + 1)), (1, .int (x1 + t8)), (0, .ref x0)]) dX0_allHeat_24 rfl rfl (Nat.le_of_ble_eq_true rfl) rfl ?_
      refine h_goto (tgt := 4) dX0_allHeat_27 (by decide) ?_
      refine h_sub (lv2 := [(0, .ref x0), (1, .int (x1 + t8)), (2, .int (x2 + 1))]) [2, 1, 0] rfl ?_
      exact ih x0 (x1 + t8) (x2 + 1) S k0  hf hk0
set_option maxRecDepth 100000 in
set_option maxHeartbeats 4000000 in
theorem m_X0_allHeat {d : Nat} {cs : Nat → Nat} {a0 : Nat} {S : hS} {r : Int32 × hS} (hd : 1 ≤ d) (hf : f_X0_allHeat a0 S = some r) : HM yX0_allHeat cX0_allHeat 3 (some .int) d 0 0 cs [.ref a0] S (some (.int r.1)) r.2 := by
  unfold f_X0_allHeat at hf
  refine HM.ofHW false (by decide) (fun h => by cases h) (Nat.le_of_ble_eq_true rfl) ?_
  show HW cX0_allHeat RX0 (x_X0_allHeat d S [.ref a0] r cs) 0 0 S 0 [(0, .ref a0)] []
  refine h_iconst (v := 0) dX0_allHeat_0 rfl ?_
  refine h_istore_n (lv2 := [(1, .int 0), (0, .ref a0)]) dX0_allHeat_1 rfl (Nat.le_of_ble_eq_true rfl) rfl ?_
  refine h_iconst (v := 0) dX0_allHeat_2 rfl ?_
  refine h_istore_n (lv2 := [(2, .int 0), (1, .int 0), (0, .ref a0)]) dX0_allHeat_3 rfl (Nat.le_of_ble_eq_true rfl) rfl ?_
  refine h_sub (lv2 := [(0, .ref a0), (1, .int 0), (2, .int 0)]) [2, 1, 0] rfl ?_
  refine w_X0_allHeat_L4 hd hfuel a0 0 0 S _  hf ?_
  · intro u10 hf
    refine h_iload_n dX0_allHeat_30 rfl 0 rfl ?_
    obtain rfl := Option.some.inj hf
    exact h_iret rfl rfl rfl (Nat.le_refl _) (Nat.le_refl _) dX0_allHeat_31
abbrev x_X0_logged (d : Nat) (S0 : hS) (args : List Value) (r : Int32 × hS) (cs : Nat → Nat) : hX := (((some .int), 1, d, 0, 0, false), (S0, args, some (.int r.1), r.2), cs)
theorem v_X0_logged : hVW yX0_logged cX0_logged 1 (some .int) RX0 0 := ⟨q_930, q_931, q_3, q_932, by decide +kernel, by decide⟩
def f_X0_logged (a0 : Nat) (S : hS) : Option (Int32 × hS) :=
  hbd (gI S a0 0 6) fun t1 =>
  some (if 120 < t1 then 120 else t1, S)
set_option maxRecDepth 100000 in
set_option maxHeartbeats 4000000 in
theorem m_X0_logged {d : Nat} {cs : Nat → Nat} {a0 : Nat} {S : hS} {r : Int32 × hS} (hd : 1 ≤ d) (hf : f_X0_logged a0 S = some r) : HM yX0_logged cX0_logged 1 (some .int) d 0 0 cs [.ref a0] S (some (.int r.1)) r.2 := by
  unfold f_X0_logged at hf
  refine HM.ofHW false (by decide) (fun h => by cases h) (Nat.le_of_ble_eq_true rfl) ?_
  show HW cX0_logged RX0 (x_X0_logged d S [.ref a0] r cs) 0 0 S 0 [(0, .ref a0)] []
  refine h_aload_n dX0_logged_0 rfl 0 rfl ?_
  obtain ⟨t1, h2, hf⟩ := hbd_s hf
  refine h_getI h2 rfl (Nat.le_of_ble_eq_true rfl) rfl q_194 rfl dX0_logged_1 ?_
  refine h_bipush (v := 120) dX0_logged_4 rfl ?_
  refine h_mmin q_755 q_485 q_15 qm_min (Nat.le_trans (by decide) hd) (Nat.le_of_ble_eq_true rfl) (Nat.le_refl _) (Nat.le_refl _) dX0_logged_6 ?_
  obtain rfl := Option.some.inj hf
  exact h_iret rfl rfl rfl (Nat.le_refl _) (Nat.le_refl _) dX0_logged_9
abbrev x_X0_spotAgo (d : Nat) (S0 : hS) (args : List Value) (r : Int32 × hS) (cs : Nat → Nat) : hX := (((some .int), 2, d, 0, 0, false), (S0, args, some (.int r.1), r.2), cs)
theorem v_X0_spotAgo : hVW yX0_spotAgo cX0_spotAgo 2 (some .int) RX0 1 := ⟨q_934, q_935, q_3, q_936, by decide +kernel, by decide⟩
def f_X0_spotAgo (a0 : Nat) (a1 : Int32) (S : hS) : Option (Int32 × hS) :=
  hj (γ := hS → Option (Int32 × hS)) (fun (S2 : hS) =>
    some ((-1), S2)
    ) fun J1 =>
  if a1 < 1 then
    (J1 S)
  else
    (hck (S.K a0 = 1) <|
     hb2 (f_X0_logged a0 S) fun t6 S5 =>
     if a1 ≤ t6 then
       (hbd (gR S5 a0 0 11) fun t8 =>
        hbd (gI S5 a0 0 6) fun t10 =>
        hbd (gA S5 t8 12 ((t10 - a1) - (t10 - a1) / 120 * 120)) fun t12 =>
        some (t12, S5))
     else
       (J1 S5))
set_option maxRecDepth 100000 in
set_option maxHeartbeats 4000000 in
theorem m_X0_spotAgo {d : Nat} {cs : Nat → Nat} {a0 : Nat} {a1 : Int32} {S : hS} {r : Int32 × hS} (hd : 2 ≤ d) (hf : f_X0_spotAgo a0 a1 S = some r) : HM yX0_spotAgo cX0_spotAgo 2 (some .int) d 0 0 cs [.ref a0, .int a1] S (some (.int r.1)) r.2 := by
  unfold f_X0_spotAgo at hf
  refine HM.ofHW false (by decide) (fun h => by cases h) (Nat.le_of_ble_eq_true rfl) ?_
  show HW cX0_spotAgo RX0 (x_X0_spotAgo d S [.ref a0, .int a1] r cs) 0 0 S 0 [(0, .ref a0), (1, .int a1)] []
  refine h_iload_n dX0_spotAgo_0 rfl 1 rfl ?_
  refine h_iconst (v := 1) dX0_spotAgo_1 rfl ?_
  refine hj_s (fun J1 => ∀ (S2 : hS), J1 S2 = some r → HW cX0_spotAgo RX0 (x_X0_spotAgo d S [.ref a0, .int a1] r cs) 0 0 S2 13 [] []) hf ?_ ?_
  · intro S2 hf
    refine h_iconst (v := (-1)) dX0_spotAgo_13 rfl ?_
    refine h_goto (tgt := 31) dX0_spotAgo_14 (by decide) ?_
    obtain rfl := Option.some.inj hf
    exact h_iret rfl rfl rfl (Nat.le_refl _) (Nat.le_refl _) dX0_spotAgo_31
  · intro J1 hJ1 hf
    refine h_icmp_lt (tgt := 13) dX0_spotAgo_2 (by decide) (fun c3 => ?_) (fun c3 => ?_)
    · replace hf := hif_p c3 hf
      refine h_sub (lv2 := []) [] rfl ?_
      exact hJ1 S hf
    · replace hf := hif_n c3 hf
      refine h_iload_n dX0_spotAgo_5 rfl 1 rfl ?_
      refine h_aload_n dX0_spotAgo_6 rfl 0 rfl ?_
      obtain ⟨g14, hf⟩ := hck_s hf
      obtain ⟨t6, S5, h4, hf⟩ := hb2_s hf
      refine h_Vi [] (rest := [.int a1]) (m_X0_logged (d := 1) (cs := cs) (Nat.le_refl _) h4) v_X0_logged q_937 rfl (Nat.le_trans (by decide) hd) g14 rfl rfl (Nat.le_of_ble_eq_true rfl) dX0_spotAgo_7 (Nat.le_refl _) (Nat.le_refl _) ?_
      refine h_icmp_le (tgt := 17) dX0_spotAgo_10 (by decide) (fun c7 => ?_) (fun c7 => ?_)
      · replace hf := hif_p c7 hf
        refine h_aload_n dX0_spotAgo_17 rfl 0 rfl ?_
        obtain ⟨t8, h9, hf⟩ := hbd_s hf
        refine h_getR h9 rfl (Nat.le_of_ble_eq_true rfl) rfl q_204 rfl dX0_spotAgo_18 ?_
        refine h_aload_n dX0_spotAgo_21 rfl 0 rfl ?_
        obtain ⟨t10, h11, hf⟩ := hbd_s hf
        refine h_getI h11 rfl (Nat.le_of_ble_eq_true rfl) rfl q_194 rfl dX0_spotAgo_22 ?_
        refine h_iload_n dX0_spotAgo_25 rfl 1 rfl ?_
        refine h_isub dX0_spotAgo_26 ?_
        refine h_bipush (v := 120) dX0_spotAgo_27 rfl ?_
        refine h_irem dX0_spotAgo_29 (by decide) ?_
        obtain ⟨t12, h13, hf⟩ := hbd_s hf
        refine h_iald h13 dX0_spotAgo_30 ?_
        obtain rfl := Option.some.inj hf
        exact h_iret rfl rfl rfl (Nat.le_refl _) (Nat.le_refl _) dX0_spotAgo_31
      · replace hf := hif_n c7 hf
        refine h_sub (lv2 := []) [] rfl ?_
        exact hJ1 S5 hf
abbrev x_X1_init (d : Nat) (S0 : hS) (args : List Value) (r : hS) (cs : Nat → Nat) : hX := ((none, 1, d, 1, 5, true), (S0, args, none, r), cs)
theorem v_X1_init : hIW yX1_init cX1_init 1 0 := ⟨q_275, q_8, q_276, rfl, by decide +kernel, by decide⟩
def f_X1_init (a0 : Nat) (S : hS) : Option (hS) :=
  hbd (sI S a0 1 0 (-1)) fun S1 =>
  hbd (sI S1 a0 1 1 0) fun S3 =>
  hbd (sI S3 a0 1 2 0) fun S5 =>
  hbd (sI S5 a0 1 3 0) fun S7 =>
  hbd (sI S7 a0 1 4 0) fun S9 =>
  hbd (sZ S9 a0 1 5 0) fun S11 =>
  hnw S11 12 5 fun q13 S14 =>
  hbd (sR S14 a0 1 6 q13) fun S17 =>
  some S17
set_option maxRecDepth 100000 in
set_option maxHeartbeats 4000000 in
theorem m_X1_init {d : Nat} {cs : Nat → Nat} {a0 : Nat} {S : hS} {r : hS} (hd : 1 ≤ d) (hf : f_X1_init a0 S = some r) : HM yX1_init cX1_init 1 none d 1 5 cs [.ref a0] S (none) r := by
  unfold f_X1_init at hf
  refine HM.ofHW true (by decide) (fun h => by rfl) (Nat.le_of_ble_eq_true rfl) ?_
  show HW cX1_init RX1 (x_X1_init d S [.ref a0] r cs) 0 0 S 0 [(0, .ref a0)] []
  refine h_aload_n dX1_init_0 rfl 0 rfl ?_
  refine h_obj q_277 (Nat.le_trans (by decide) hd) (Nat.le_of_ble_eq_true rfl) dX1_init_1 ?_
  refine h_aload_n dX1_init_4 rfl 0 rfl ?_
  refine h_iconst (v := (-1)) dX1_init_5 rfl ?_
  obtain ⟨S1, h2, hf⟩ := hbd_s hf
  refine h_putI h2 rfl (Nat.le_of_ble_eq_true rfl) rfl q_278 rfl rfl (by decide +kernel) dX1_init_6 ?_
  refine h_aload_n dX1_init_9 rfl 0 rfl ?_
  refine h_iconst (v := 0) dX1_init_10 rfl ?_
  obtain ⟨S3, h4, hf⟩ := hbd_s hf
  refine h_putI h4 rfl (Nat.le_of_ble_eq_true rfl) rfl q_279 rfl rfl (by decide +kernel) dX1_init_11 ?_
  refine h_aload_n dX1_init_14 rfl 0 rfl ?_
  refine h_iconst (v := 0) dX1_init_15 rfl ?_
  obtain ⟨S5, h6, hf⟩ := hbd_s hf
  refine h_putI h6 rfl (Nat.le_of_ble_eq_true rfl) rfl q_280 rfl rfl (by decide +kernel) dX1_init_16 ?_
  refine h_aload_n dX1_init_19 rfl 0 rfl ?_
  refine h_iconst (v := 0) dX1_init_20 rfl ?_
  obtain ⟨S7, h8, hf⟩ := hbd_s hf
  refine h_putI h8 rfl (Nat.le_of_ble_eq_true rfl) rfl q_281 rfl rfl (by decide +kernel) dX1_init_21 ?_
  refine h_aload_n dX1_init_24 rfl 0 rfl ?_
  refine h_iconst (v := 0) dX1_init_25 rfl ?_
  obtain ⟨S9, h10, hf⟩ := hbd_s hf
  refine h_putI h10 rfl (Nat.le_of_ble_eq_true rfl) rfl q_282 rfl rfl (by decide +kernel) dX1_init_26 ?_
  refine h_aload_n dX1_init_29 rfl 0 rfl ?_
  refine h_iconst (v := 0) dX1_init_30 rfl ?_
  obtain ⟨S11, h12, hf⟩ := hbd_s hf
  refine h_putZ h12 rfl (Nat.le_of_ble_eq_true rfl) rfl q_283 rfl rfl (by decide +kernel) dX1_init_31 ?_
  refine h_aload_n dX1_init_34 rfl 0 rfl ?_
  refine h_iconst (v := 5) dX1_init_35 rfl ?_
  obtain ⟨q13, S14, h15, h16, hf⟩ := hnw_s hf
  refine h_newI (N := 5) h15 h16 (by decide) rfl (by decide) dX1_init_36 (Nat.le_of_ble_eq_true rfl) (Nat.le_of_ble_eq_true rfl) ?_
  obtain ⟨S17, h18, hf⟩ := hbd_s hf
  refine h_putF rfl h18 rfl (Nat.le_of_ble_eq_true rfl) rfl q_284 rfl rfl rfl (tyX1_ok 6 (by decide)) rfl rfl dX1_init_38 ?_
  obtain rfl := Option.some.inj hf
  exact h_vret rfl rfl rfl (Nat.le_of_ble_eq_true rfl) (Nat.le_of_ble_eq_true rfl) dX1_init_41
abbrev x_X1_answers (d : Nat) (S0 : hS) (args : List Value) (r : Int32 × hS) (cs : Nat → Nat) : hX := (((some .boolean), 6, d, 0, 0, false), (S0, args, some (.int r.1), r.2), cs)
theorem v_X1_answers : hVW yX1_answers cX1_answers 6 (some .boolean) RX1 5 := ⟨q_808, q_809, q_8, q_810, by decide +kernel, by decide⟩
def f_X1_answers (a0 : Nat) (a1 : Int32) (a2 : Int32) (a3 : Int32) (a4 : Int32) (a5 : Int32) (S : hS) : Option (Int32 × hS) :=
  hbd (gI S a0 1 0) fun t1 =>
  hj (γ := Unit → Option (Int32 × hS)) (fun (_ : Unit) =>
    some (0, S)
    ) fun J3 =>
  if t1 = a1 then
    (hbd (gI S a0 1 1) fun t5 =>
     if t5 = a2 then
       (hbd (gI S a0 1 2) fun t8 =>
        if t8 = a3 then
          (hbd (gI S a0 1 3) fun t11 =>
           if t11 = a4 then
             (hbd (gI S a0 1 4) fun t14 =>
              if t14 = a5 then
                (some (1, S))
              else
                (J3 ()))
           else
             (J3 ()))
        else
          (J3 ()))
     else
       (J3 ()))
  else
    (J3 ())
set_option maxRecDepth 100000 in
set_option maxHeartbeats 4000000 in
theorem m_X1_answers {d : Nat} {cs : Nat → Nat} {a0 : Nat} {a1 : Int32} {a2 : Int32} {a3 : Int32} {a4 : Int32} {a5 : Int32} {S : hS} {r : Int32 × hS} (hd : 1 ≤ d) (hf : f_X1_answers a0 a1 a2 a3 a4 a5 S = some r) : HM yX1_answers cX1_answers 6 (some .boolean) d 0 0 cs [.ref a0, .int a1, .int a2, .int a3, .int a4, .int a5] S (some (.int r.1)) r.2 := by
  unfold f_X1_answers at hf
  refine HM.ofHW false (by decide) (fun h => by cases h) (Nat.le_of_ble_eq_true rfl) ?_
  show HW cX1_answers RX1 (x_X1_answers d S [.ref a0, .int a1, .int a2, .int a3, .int a4, .int a5] r cs) 0 0 S 0 [(0, .ref a0), (1, .int a1), (2, .int a2), (3, .int a3), (4, .int a4), (5, .int a5)] []
  refine h_aload_n dX1_answers_0 rfl 0 rfl ?_
  obtain ⟨t1, h2, hf⟩ := hbd_s hf
  refine h_getI h2 rfl (Nat.le_of_ble_eq_true rfl) rfl q_278 rfl dX1_answers_1 ?_
  refine h_iload_n dX1_answers_4 rfl 1 rfl ?_
  refine hj_s (fun J3 => ∀ (w : Unit), J3 w = some r → HW cX1_answers RX1 (x_X1_answers d S [.ref a0, .int a1, .int a2, .int a3, .int a4, .int a5] r cs) 0 0 S 46 [] []) hf ?_ ?_
  · intro w hf
    refine h_iconst (v := 0) dX1_answers_46 rfl ?_
    obtain rfl := Option.some.inj hf
    exact h_zret rfl (by decide) rfl rfl (Nat.le_refl _) (Nat.le_refl _) dX1_answers_47
  · intro J3 hJ3 hf
    refine h_icmp_ne (tgt := 46) dX1_answers_5 (by decide) (fun c4 => ?_) (fun c4 => ?_)
    · replace hf := hif_n c4 hf
      refine h_sub (lv2 := []) [] rfl ?_
      exact hJ3 () hf
    · replace hf := hif_p c4 hf
      refine h_aload_n dX1_answers_8 rfl 0 rfl ?_
      obtain ⟨t5, h6, hf⟩ := hbd_s hf
      refine h_getI h6 rfl (Nat.le_of_ble_eq_true rfl) rfl q_279 rfl dX1_answers_9 ?_
      refine h_iload_n dX1_answers_12 rfl 2 rfl ?_
      refine h_icmp_ne (tgt := 46) dX1_answers_13 (by decide) (fun c7 => ?_) (fun c7 => ?_)
      · replace hf := hif_n c7 hf
        refine h_sub (lv2 := []) [] rfl ?_
        exact hJ3 () hf
      · replace hf := hif_p c7 hf
        refine h_aload_n dX1_answers_16 rfl 0 rfl ?_
        obtain ⟨t8, h9, hf⟩ := hbd_s hf
        refine h_getI h9 rfl (Nat.le_of_ble_eq_true rfl) rfl q_280 rfl dX1_answers_17 ?_
        refine h_iload_n dX1_answers_20 rfl 3 rfl ?_
        refine h_icmp_ne (tgt := 46) dX1_answers_21 (by decide) (fun c10 => ?_) (fun c10 => ?_)
        · replace hf := hif_n c10 hf
          refine h_sub (lv2 := []) [] rfl ?_
          exact hJ3 () hf
        · replace hf := hif_p c10 hf
          refine h_aload_n dX1_answers_24 rfl 0 rfl ?_
          obtain ⟨t11, h12, hf⟩ := hbd_s hf
          refine h_getI h12 rfl (Nat.le_of_ble_eq_true rfl) rfl q_281 rfl dX1_answers_25 ?_
          refine h_iload dX1_answers_28 4 rfl ?_
          refine h_icmp_ne (tgt := 46) dX1_answers_30 (by decide) (fun c13 => ?_) (fun c13 => ?_)
          · replace hf := hif_n c13 hf
            refine h_sub (lv2 := []) [] rfl ?_
            exact hJ3 () hf
          · replace hf := hif_p c13 hf
            refine h_aload_n dX1_answers_33 rfl 0 rfl ?_
            obtain ⟨t14, h15, hf⟩ := hbd_s hf
            refine h_getI h15 rfl (Nat.le_of_ble_eq_true rfl) rfl q_282 rfl dX1_answers_34 ?_
            refine h_iload dX1_answers_37 5 rfl ?_
            refine h_icmp_ne (tgt := 46) dX1_answers_39 (by decide) (fun c16 => ?_) (fun c16 => ?_)
            · replace hf := hif_n c16 hf
              refine h_sub (lv2 := []) [] rfl ?_
              exact hJ3 () hf
            · replace hf := hif_p c16 hf
              refine h_iconst (v := 1) dX1_answers_42 rfl ?_
              refine h_goto (tgt := 47) dX1_answers_43 (by decide) ?_
              obtain rfl := Option.some.inj hf
              exact h_zret rfl (by decide) rfl rfl (Nat.le_refl _) (Nat.le_refl _) dX1_answers_47
abbrev x_X1_begin (d : Nat) (S0 : hS) (args : List Value) (r : hS) (cs : Nat → Nat) : hX := ((none, 6, d, 0, 0, false), (S0, args, none, r), cs)
theorem v_X1_begin : hVW yX1_begin cX1_begin 6 none RX1 5 := ⟨q_812, q_813, q_8, q_814, by decide +kernel, by decide⟩
def f_X1_begin (a0 : Nat) (a1 : Int32) (a2 : Int32) (a3 : Int32) (a4 : Int32) (a5 : Int32) (S : hS) : Option (hS) :=
  hbd (sI S a0 1 0 a1) fun S1 =>
  hbd (sI S1 a0 1 1 a2) fun S3 =>
  hbd (sI S3 a0 1 2 a3) fun S5 =>
  hbd (sI S5 a0 1 3 a4) fun S7 =>
  hbd (sI S7 a0 1 4 a5) fun S9 =>
  hbd (sZ S9 a0 1 5 0) fun S11 =>
  some S11
set_option maxRecDepth 100000 in
set_option maxHeartbeats 4000000 in
theorem m_X1_begin {d : Nat} {cs : Nat → Nat} {a0 : Nat} {a1 : Int32} {a2 : Int32} {a3 : Int32} {a4 : Int32} {a5 : Int32} {S : hS} {r : hS} (hd : 1 ≤ d) (hf : f_X1_begin a0 a1 a2 a3 a4 a5 S = some r) : HM yX1_begin cX1_begin 6 none d 0 0 cs [.ref a0, .int a1, .int a2, .int a3, .int a4, .int a5] S (none) r := by
  unfold f_X1_begin at hf
  refine HM.ofHW false (by decide) (fun h => by cases h) (Nat.le_of_ble_eq_true rfl) ?_
  show HW cX1_begin RX1 (x_X1_begin d S [.ref a0, .int a1, .int a2, .int a3, .int a4, .int a5] r cs) 0 0 S 0 [(0, .ref a0), (1, .int a1), (2, .int a2), (3, .int a3), (4, .int a4), (5, .int a5)] []
  refine h_aload_n dX1_begin_0 rfl 0 rfl ?_
  refine h_iload_n dX1_begin_1 rfl 1 rfl ?_
  obtain ⟨S1, h2, hf⟩ := hbd_s hf
  refine h_putI h2 rfl (Nat.le_of_ble_eq_true rfl) rfl q_278 rfl rfl (by decide +kernel) dX1_begin_2 ?_
  refine h_aload_n dX1_begin_5 rfl 0 rfl ?_
  refine h_iload_n dX1_begin_6 rfl 2 rfl ?_
  obtain ⟨S3, h4, hf⟩ := hbd_s hf
  refine h_putI h4 rfl (Nat.le_of_ble_eq_true rfl) rfl q_279 rfl rfl (by decide +kernel) dX1_begin_7 ?_
  refine h_aload_n dX1_begin_10 rfl 0 rfl ?_
  refine h_iload_n dX1_begin_11 rfl 3 rfl ?_
  obtain ⟨S5, h6, hf⟩ := hbd_s hf
  refine h_putI h6 rfl (Nat.le_of_ble_eq_true rfl) rfl q_280 rfl rfl (by decide +kernel) dX1_begin_12 ?_
  refine h_aload_n dX1_begin_15 rfl 0 rfl ?_
  refine h_iload dX1_begin_16 4 rfl ?_
  obtain ⟨S7, h8, hf⟩ := hbd_s hf
  refine h_putI h8 rfl (Nat.le_of_ble_eq_true rfl) rfl q_281 rfl rfl (by decide +kernel) dX1_begin_18 ?_
  refine h_aload_n dX1_begin_21 rfl 0 rfl ?_
  refine h_iload dX1_begin_22 5 rfl ?_
  obtain ⟨S9, h10, hf⟩ := hbd_s hf
  refine h_putI h10 rfl (Nat.le_of_ble_eq_true rfl) rfl q_282 rfl rfl (by decide +kernel) dX1_begin_24 ?_
  refine h_aload_n dX1_begin_27 rfl 0 rfl ?_
  refine h_iconst (v := 0) dX1_begin_28 rfl ?_
  obtain ⟨S11, h12, hf⟩ := hbd_s hf
  refine h_putZ h12 rfl (Nat.le_of_ble_eq_true rfl) rfl q_283 rfl rfl (by decide +kernel) dX1_begin_29 ?_
  obtain rfl := Option.some.inj hf
  exact h_vret rfl rfl rfl (Nat.le_refl _) (Nat.le_refl _) dX1_begin_32
abbrev x_X1_forget (d : Nat) (S0 : hS) (args : List Value) (r : hS) (cs : Nat → Nat) : hX := ((none, 1, d, 0, 0, false), (S0, args, none, r), cs)
theorem v_X1_forget : hVW yX1_forget cX1_forget 1 none RX1 0 := ⟨q_564, q_565, q_8, q_566, by decide +kernel, by decide⟩
def f_X1_forget (a0 : Nat) (S : hS) : Option (hS) :=
  hbd (sI S a0 1 0 (-1)) fun S1 =>
  some S1
set_option maxRecDepth 100000 in
set_option maxHeartbeats 4000000 in
theorem m_X1_forget {d : Nat} {cs : Nat → Nat} {a0 : Nat} {S : hS} {r : hS} (hd : 1 ≤ d) (hf : f_X1_forget a0 S = some r) : HM yX1_forget cX1_forget 1 none d 0 0 cs [.ref a0] S (none) r := by
  unfold f_X1_forget at hf
  refine HM.ofHW false (by decide) (fun h => by cases h) (Nat.le_of_ble_eq_true rfl) ?_
  show HW cX1_forget RX1 (x_X1_forget d S [.ref a0] r cs) 0 0 S 0 [(0, .ref a0)] []
  refine h_aload_n dX1_forget_0 rfl 0 rfl ?_
  refine h_iconst (v := (-1)) dX1_forget_1 rfl ?_
  obtain ⟨S1, h2, hf⟩ := hbd_s hf
  refine h_putI h2 rfl (Nat.le_of_ble_eq_true rfl) rfl q_278 rfl rfl (by decide +kernel) dX1_forget_2 ?_
  obtain rfl := Option.some.inj hf
  exact h_vret rfl rfl rfl (Nat.le_refl _) (Nat.le_refl _) dX1_forget_5
abbrev x_X1_keep (d : Nat) (S0 : hS) (args : List Value) (r : hS) (cs : Nat → Nat) : hX := ((none, 5, d, 0, 0, false), (S0, args, none, r), cs)
theorem v_X1_keep : hVW yX1_keep cX1_keep 5 none RX1 4 := ⟨q_834, q_835, q_8, q_836, by decide +kernel, by decide⟩
def f_X1_keep (a0 : Nat) (a1 : Int32) (a2 : Int32) (a3 : Int32) (a4 : Int32) (S : hS) : Option (hS) :=
  hbd (gR S a0 1 6) fun t1 =>
  hbd (sA S t1 0 a1) fun S3 =>
  hbd (gR S3 a0 1 6) fun t5 =>
  hbd (sA S3 t5 1 a2) fun S7 =>
  hbd (gR S7 a0 1 6) fun t9 =>
  hbd (sA S7 t9 2 a3) fun S11 =>
  hbd (gR S11 a0 1 6) fun t13 =>
  hbd (sA S11 t13 3 a4) fun S15 =>
  hbd (gR S15 a0 1 6) fun t17 =>
  hbd (sA S15 t17 4 0) fun S19 =>
  hbd (sZ S19 a0 1 5 1) fun S21 =>
  some S21
set_option maxRecDepth 100000 in
set_option maxHeartbeats 4000000 in
theorem m_X1_keep {d : Nat} {cs : Nat → Nat} {a0 : Nat} {a1 : Int32} {a2 : Int32} {a3 : Int32} {a4 : Int32} {S : hS} {r : hS} (hd : 1 ≤ d) (hf : f_X1_keep a0 a1 a2 a3 a4 S = some r) : HM yX1_keep cX1_keep 5 none d 0 0 cs [.ref a0, .int a1, .int a2, .int a3, .int a4] S (none) r := by
  unfold f_X1_keep at hf
  refine HM.ofHW false (by decide) (fun h => by cases h) (Nat.le_of_ble_eq_true rfl) ?_
  show HW cX1_keep RX1 (x_X1_keep d S [.ref a0, .int a1, .int a2, .int a3, .int a4] r cs) 0 0 S 0 [(0, .ref a0), (1, .int a1), (2, .int a2), (3, .int a3), (4, .int a4)] []
  refine h_aload_n dX1_keep_0 rfl 0 rfl ?_
  obtain ⟨t1, h2, hf⟩ := hbd_s hf
  refine h_getR h2 rfl (Nat.le_of_ble_eq_true rfl) rfl q_284 rfl dX1_keep_1 ?_
  refine h_iconst (v := 0) dX1_keep_4 rfl ?_
  refine h_iload_n dX1_keep_5 rfl 1 rfl ?_
  obtain ⟨S3, h4, hf⟩ := hbd_s hf
  refine h_iast h4 dX1_keep_6 ?_
  refine h_aload_n dX1_keep_7 rfl 0 rfl ?_
  obtain ⟨t5, h6, hf⟩ := hbd_s hf
  refine h_getR h6 rfl (Nat.le_of_ble_eq_true rfl) rfl q_284 rfl dX1_keep_8 ?_
  refine h_iconst (v := 1) dX1_keep_11 rfl ?_
  refine h_iload_n dX1_keep_12 rfl 2 rfl ?_
  obtain ⟨S7, h8, hf⟩ := hbd_s hf
  refine h_iast h8 dX1_keep_13 ?_
  refine h_aload_n dX1_keep_14 rfl 0 rfl ?_
  obtain ⟨t9, h10, hf⟩ := hbd_s hf
  refine h_getR h10 rfl (Nat.le_of_ble_eq_true rfl) rfl q_284 rfl dX1_keep_15 ?_
  refine h_iconst (v := 2) dX1_keep_18 rfl ?_
  refine h_iload_n dX1_keep_19 rfl 3 rfl ?_
  obtain ⟨S11, h12, hf⟩ := hbd_s hf
  refine h_iast h12 dX1_keep_20 ?_
  refine h_aload_n dX1_keep_21 rfl 0 rfl ?_
  obtain ⟨t13, h14, hf⟩ := hbd_s hf
  refine h_getR h14 rfl (Nat.le_of_ble_eq_true rfl) rfl q_284 rfl dX1_keep_22 ?_
  refine h_iconst (v := 3) dX1_keep_25 rfl ?_
  refine h_iload dX1_keep_26 4 rfl ?_
  obtain ⟨S15, h16, hf⟩ := hbd_s hf
  refine h_iast h16 dX1_keep_28 ?_
  refine h_aload_n dX1_keep_29 rfl 0 rfl ?_
  obtain ⟨t17, h18, hf⟩ := hbd_s hf
  refine h_getR h18 rfl (Nat.le_of_ble_eq_true rfl) rfl q_284 rfl dX1_keep_30 ?_
  refine h_iconst (v := 4) dX1_keep_33 rfl ?_
  refine h_iconst (v := 0) dX1_keep_34 rfl ?_
  obtain ⟨S19, h20, hf⟩ := hbd_s hf
  refine h_iast h20 dX1_keep_35 ?_
  refine h_aload_n dX1_keep_36 rfl 0 rfl ?_
  refine h_iconst (v := 1) dX1_keep_37 rfl ?_
  obtain ⟨S21, h22, hf⟩ := hbd_s hf
  refine h_putZ h22 rfl (Nat.le_of_ble_eq_true rfl) rfl q_283 rfl rfl (by decide +kernel) dX1_keep_38 ?_
  obtain rfl := Option.some.inj hf
  exact h_vret rfl rfl rfl (Nat.le_refl _) (Nat.le_refl _) dX1_keep_41
