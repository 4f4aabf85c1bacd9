abbrev x_X9_fansBlow (d : Nat) (S0 : hS) (args : List Value) (r : hS) (cs : Nat → Nat) : hX := ((none, 4, d, 0, 0, false), (S0, args, none, r), cs)
theorem v_X9_fansBlow : hVW yX9_fansBlow cX9_fansBlow 4 none RX9 0 := ⟨q_1396, q_s73, q_9, q_1397, by decide +kernel, by decide⟩
def f_X9_fansBlow_L2 : Nat → Nat → Int32 → hS → (hS → Option (hS)) → Option (hS)
  | 0, _, _, _, _ => none
  | n + 1, x0, x1, S, k0 =>
    hbd (gR S x0 9 1) fun t1 =>
    hbd (gA S t1 12 3) fun t3 =>
    if t3 ≤ x1 then
      (k0 S)
    else
      (hbd (gR S x0 9 9) fun t6 =>
       hbd (gA S t6 12 x1) fun t8 =>
       hbd (gR S x0 9 2) fun t10 =>
       hbd (gR S x0 9 7) fun t12 =>
       hbd (gA S t12 12 x1) fun t14 =>
       hbd (gA S t10 12 t14) fun t16 =>
       hj (γ := Int32 → Option (hS)) (fun (v19 : Int32) =>
         hbd (gR S x0 9 7) fun t20 =>
         hbd (gA S t20 12 x1) fun t22 =>
         hbd (gR S x0 9 8) fun t24 =>
         hbd (gA S t24 12 x1) fun t26 =>
         hck (S.K x0 = 10) <|
         hb2 (f_X9_by x0 t22 t26 S) fun t30 S29 =>
         hbd (gR S29 x0 9 2) fun t31 =>
         hbd (gR S29 x0 9 7) fun t33 =>
         hbd (gA S29 t33 12 x1) fun t35 =>
         hbd (gA S29 t31 12 t35) fun t37 =>
         hbd (sA S29 t31 t35 (t37 - v19)) fun S39 =>
         if t30 = (-1) then
           (hbd (gR S39 x0 9 1) fun t48 =>
            hbd (gA S39 t48 12 8) fun t50 =>
            hbd (sA S39 t48 8 (t50 + v19)) fun S52 =>
            f_X9_fansBlow_L2 n x0 (x1 + 1) S52 k0)
         else
           (hbd (gR S39 x0 9 2) fun t42 =>
            hbd (gA S39 t42 12 t30) fun t44 =>
            hbd (sA S39 t42 t30 (t44 + v19)) fun S46 =>
            f_X9_fansBlow_L2 n x0 (x1 + 1) S46 k0)
         ) fun J18 =>
       if t16 ≤ t8 then
         (hbd (gR S x0 9 2) fun t56 =>
          hbd (gR S x0 9 7) fun t58 =>
          hbd (gA S t58 12 x1) fun t60 =>
          hbd (gA S t56 12 t60) fun t62 =>
          J18 t62)
       else
         (hbd (gR S x0 9 9) fun t64 =>
          hbd (gA S t64 12 x1) fun t66 =>
          J18 t66))
def f_X9_fansBlow (a0 : Nat) (S : hS) : Option (hS) :=
  f_X9_fansBlow_L2 hfuel a0 0 S
    (fun S68 =>
      some S68
    )
set_option maxRecDepth 100000 in
set_option maxHeartbeats 4000000 in
theorem w_X9_fansBlow_L2 {d : Nat} {S0 : hS} {args : List Value} {cs : Nat → Nat} {r : hS} (hd : 4 ≤ d) : ∀ (n : Nat) (x0 : Nat) (x1 : Int32) (S : hS) (k0 : (hS → Option (hS))) , f_X9_fansBlow_L2 n x0 x1 S k0 = some r → (∀ (T : hS), k0 T = some r → HW cX9_fansBlow RX9 (x_X9_fansBlow d S0 args r cs) 0 0 T 120 [] []) → HW cX9_fansBlow RX9 (x_X9_fansBlow d S0 args r cs) 0 0 S 2 [(0, .ref x0), (1, .int x1)] [] := by
  intro n
  induction n with
  | zero =>
    intro x0 x1 S k0 hf
    cases hf
  | succ n ih =>
    intro x0 x1 S k0 hf hk0
    rw [f_X9_fansBlow_L2] at hf
    refine h_iload_n dX9_fansBlow_2 rfl 1 rfl ?_
    refine h_aload_n dX9_fansBlow_3 rfl 0 rfl ?_
    obtain ⟨t1, h2, hf⟩ := hbd_s hf
    refine h_getR h2 rfl (Nat.le_of_ble_eq_true rfl) rfl q_961 rfl dX9_fansBlow_4 ?_
    refine h_iconst (v := 3) dX9_fansBlow_7 rfl ?_
    obtain ⟨t3, h4, hf⟩ := hbd_s hf
    refine h_iald h4 dX9_fansBlow_8 ?_
    refine h_icmp_ge (tgt := 120) dX9_fansBlow_9 (by decide) (fun c5 => ?_) (fun c5 => ?_)
    · replace hf := hif_p c5 hf
      refine h_sub (lv2 := []) [] rfl ?_
      exact hk0 S hf
    · replace hf := hif_n c5 hf
      refine h_aload_n dX9_fansBlow_12 rfl 0 rfl ?_
      obtain ⟨t6, h7, hf⟩ := hbd_s hf
      refine h_getR h7 rfl (Nat.le_of_ble_eq_true rfl) rfl q_969 rfl dX9_fansBlow_13 ?_
      refine h_iload_n dX9_fansBlow_16 rfl 1 rfl ?_
      obtain ⟨t8, h9, hf⟩ := hbd_s hf
      refine h_iald h9 dX9_fansBlow_17 ?_
      refine h_aload_n dX9_fansBlow_18 rfl 0 rfl ?_
      obtain ⟨t10, h11, hf⟩ := hbd_s hf
      refine h_getR h11 rfl (Nat.le_of_ble_eq_true rfl) rfl q_962 rfl dX9_fansBlow_19 ?_
      refine h_aload_n dX9_fansBlow_22 rfl 0 rfl ?_
      obtain ⟨t12, h13, hf⟩ := hbd_s hf
      refine h_getR h13 rfl (Nat.le_of_ble_eq_true rfl) rfl q_967 rfl dX9_fansBlow_23 ?_
      refine h_iload_n dX9_fansBlow_26 rfl 1 rfl ?_
      obtain ⟨t14, h15, hf⟩ := hbd_s hf
      refine h_iald h15 dX9_fansBlow_27 ?_
      obtain ⟨t16, h17, hf⟩ := hbd_s hf
      refine h_iald h17 dX9_fansBlow_28 ?_
      refine hj_s (fun J18 => ∀ (v19 : Int32), J18 v19 = some r → HW cX9_fansBlow RX9 (x_X9_fansBlow d S0 args r cs) 0 0 S 52 [(0, .ref x0), (1, .int x1)] [.int v19]) hf ?_ ?_
      · intro v19 hf
        refine h_istore_n (lv2 := [(2, .int v19), (0, .ref x0), (1, .int x1)]) dX9_fansBlow_52 rfl (Nat.le_of_ble_eq_true rfl) rfl ?_
        refine h_aload_n dX9_fansBlow_53 rfl 1 rfl ?_
        refine h_aload_n dX9_fansBlow_54 rfl 1 rfl ?_
        obtain ⟨t20, h21, hf⟩ := hbd_s hf
        refine h_getR h21 rfl (Nat.le_of_ble_eq_true rfl) rfl q_967 rfl dX9_fansBlow_55 ?_
        refine h_iload_n dX9_fansBlow_58 rfl 2 rfl ?_
        obtain ⟨t22, h23, hf⟩ := hbd_s hf
        refine h_iald h23 dX9_fansBlow_59 ?_
        refine h_aload_n dX9_fansBlow_60 rfl 1 rfl ?_
        obtain ⟨t24, h25, hf⟩ := hbd_s hf
        refine h_getR h25 rfl (Nat.le_of_ble_eq_true rfl) rfl q_968 rfl dX9_fansBlow_61 ?_
        refine h_iload_n dX9_fansBlow_64 rfl 2 rfl ?_
        obtain ⟨t26, h27, hf⟩ := hbd_s hf
        refine h_iald h27 dX9_fansBlow_65 ?_
        obtain ⟨g54, hf⟩ := hck_s hf
        obtain ⟨t30, S29, h28, hf⟩ := hb2_s hf
        refine h_Vi [.int t22, .int t26] (rest := []) (m_X9_by (d := 3) (cs := cs) (Nat.le_refl _) h28) v_X9_by q_1398 rfl (Nat.le_trans (by decide) hd) g54 rfl rfl (Nat.le_of_ble_eq_true rfl) dX9_fansBlow_66 (Nat.le_refl _) (Nat.le_refl _) ?_
        refine h_istore_n (lv2 := [(3, .int t30), (2, .int v19), (0, .ref x0), (1, .int x1)]) dX9_fansBlow_69 rfl (Nat.le_of_ble_eq_true rfl) rfl ?_
        refine h_aload_n dX9_fansBlow_70 rfl 2 rfl ?_
        obtain ⟨t31, h32, hf⟩ := hbd_s hf
        refine h_getR h32 rfl (Nat.le_of_ble_eq_true rfl) rfl q_962 rfl dX9_fansBlow_71 ?_
        refine h_aload_n dX9_fansBlow_74 rfl 2 rfl ?_
        obtain ⟨t33, h34, hf⟩ := hbd_s hf
        refine h_getR h34 rfl (Nat.le_of_ble_eq_true rfl) rfl q_967 rfl dX9_fansBlow_75 ?_
        refine h_iload_n dX9_fansBlow_78 rfl 3 rfl ?_
        obtain ⟨t35, h36, hf⟩ := hbd_s hf
        refine h_iald h36 dX9_fansBlow_79 ?_
        refine h_dup2 dX9_fansBlow_80 rfl rfl ?_
        obtain ⟨t37, h38, hf⟩ := hbd_s hf
        refine h_iald h38 dX9_fansBlow_81 ?_
        refine h_iload_n dX9_fansBlow_82 rfl 1 rfl ?_
        refine h_isub dX9_fansBlow_83 ?_
        obtain ⟨S39, h40, hf⟩ := hbd_s hf
        refine h_iast h40 dX9_fansBlow_84 ?_
        refine h_iload_n dX9_fansBlow_85 rfl 0 rfl ?_
        refine h_iconst (v := (-1)) dX9_fansBlow_86 rfl ?_
        refine h_icmp_ne (tgt := 104) dX9_fansBlow_87 (by decide) (fun c41 => ?_) (fun c41 => ?_)
        · replace hf := hif_n c41 hf
          refine h_aload_n dX9_fansBlow_104 rfl 2 rfl ?_
          obtain ⟨t42, h43, hf⟩ := hbd_s hf
          refine h_getR h43 rfl (Nat.le_of_ble_eq_true rfl) rfl q_962 rfl dX9_fansBlow_105 ?_
          refine h_iload_n dX9_fansBlow_108 rfl 0 rfl ?_
          refine h_dup2 dX9_fansBlow_109 rfl rfl ?_
          obtain ⟨t44, h45, hf⟩ := hbd_s hf
          refine h_iald h45 dX9_fansBlow_110 ?_
          refine h_iload_n dX9_fansBlow_111 rfl 1 rfl ?_
          refine h_iadd dX9_fansBlow_112 ?_
          obtain ⟨S46, h47, hf⟩ := hbd_s hf
          refine h_iast h47 dX9_fansBlow_113 ?_
          refine h_iinc (q := 3) (v := x1 + 1) (lv2 := [(1, .int (x1 + 1)), (3, .int t30), (2, .int v19), (0, .ref x0)]) dX9_fansBlow_114 rfl rfl (Nat.le_of_ble_eq_true rfl) rfl ?_
          refine h_goto (tgt := 2) dX9_fansBlow_117 (by decide) ?_
          refine h_sub (lv2 := [(0, .ref x0), (1, .int (x1 + 1))]) [3, 0] rfl ?_
          exact ih x0 (x1 + 1) S46 k0  hf hk0
        · replace hf := hif_p c41 hf
          refine h_aload_n dX9_fansBlow_90 rfl 2 rfl ?_
          obtain ⟨t48, h49, hf⟩ := hbd_s hf
          refine h_getR h49 rfl (Nat.le_of_ble_eq_true rfl) rfl q_961 rfl dX9_fansBlow_91 ?_
          refine h_bipush (v := 8) dX9_fansBlow_94 rfl ?_
          refine h_dup2 dX9_fansBlow_96 rfl rfl ?_
          obtain ⟨t50, h51, hf⟩ := hbd_s hf
          refine h_iald h51 dX9_fansBlow_97 ?_
          refine h_iload_n dX9_fansBlow_98 rfl 1 rfl ?_
          refine h_iadd dX9_fansBlow_99 ?_
          obtain ⟨S52, h53, hf⟩ := hbd_s hf
          refine h_iast h53 dX9_fansBlow_100 ?_
          refine h_goto (tgt := 114) dX9_fansBlow_101 (by decide) ?_
          refine h_iinc (q := 3) (v := x1 + 1) (lv2 := [(1, .int (x1 + 1)), (3, .int t30), (2, .int v19), (0, .ref x0)]) dX9_fansBlow_114 rfl rfl (Nat.le_of_ble_eq_true rfl) rfl ?_
          refine h_goto (tgt := 2) dX9_fansBlow_117 (by decide) ?_
          refine h_sub (lv2 := [(0, .ref x0), (1, .int (x1 + 1))]) [3, 0] rfl ?_
          exact ih x0 (x1 + 1) S52 k0  hf hk0
      · intro J18 hJ18 hf
        refine h_icmp_ge (tgt := 41) dX9_fansBlow_29 (by decide) (fun c55 => ?_) (fun c55 => ?_)
        · replace hf := hif_p c55 hf
          refine h_aload_n dX9_fansBlow_41 rfl 0 rfl ?_
          obtain ⟨t56, h57, hf⟩ := hbd_s hf
          refine h_getR h57 rfl (Nat.le_of_ble_eq_true rfl) rfl q_962 rfl dX9_fansBlow_42 ?_
          refine h_aload_n dX9_fansBlow_45 rfl 0 rfl ?_
          obtain ⟨t58, h59, hf⟩ := hbd_s hf
          refine h_getR h59 rfl (Nat.le_of_ble_eq_true rfl) rfl q_967 rfl dX9_fansBlow_46 ?_
          refine h_iload_n dX9_fansBlow_49 rfl 1 rfl ?_
          obtain ⟨t60, h61, hf⟩ := hbd_s hf
          refine h_iald h61 dX9_fansBlow_50 ?_
          obtain ⟨t62, h63, hf⟩ := hbd_s hf
          refine h_iald h63 dX9_fansBlow_51 ?_
          exact hJ18 t62 hf
        · replace hf := hif_n c55 hf
          refine h_aload_n dX9_fansBlow_32 rfl 0 rfl ?_
          obtain ⟨t64, h65, hf⟩ := hbd_s hf
          refine h_getR h65 rfl (Nat.le_of_ble_eq_true rfl) rfl q_969 rfl dX9_fansBlow_33 ?_
          refine h_iload_n dX9_fansBlow_36 rfl 1 rfl ?_
          obtain ⟨t66, h67, hf⟩ := hbd_s hf
          refine h_iald h67 dX9_fansBlow_37 ?_
          refine h_goto (tgt := 52) dX9_fansBlow_38 (by decide) ?_
          exact hJ18 t66 hf
set_option maxRecDepth 100000 in
set_option maxHeartbeats 4000000 in
theorem m_X9_fansBlow {d : Nat} {cs : Nat → Nat} {a0 : Nat} {S : hS} {r : hS} (hd : 4 ≤ d) (hf : f_X9_fansBlow a0 S = some r) : HM yX9_fansBlow cX9_fansBlow 4 none d 0 0 cs [.ref a0] S (none) r := by
  unfold f_X9_fansBlow at hf
  refine HM.ofHW false (by decide) (fun h => by cases h) (Nat.le_of_ble_eq_true rfl) ?_
  show HW cX9_fansBlow RX9 (x_X9_fansBlow d S [.ref a0] r cs) 0 0 S 0 [(0, .ref a0)] []
  refine h_iconst (v := 0) dX9_fansBlow_0 rfl ?_
  refine h_istore_n (lv2 := [(1, .int 0), (0, .ref a0)]) dX9_fansBlow_1 rfl (Nat.le_of_ble_eq_true rfl) rfl ?_
  refine h_sub (lv2 := [(0, .ref a0), (1, .int 0)]) [1, 0] rfl ?_
  refine w_X9_fansBlow_L2 hd hfuel a0 0 S _  hf ?_
  · intro S68 hf
    obtain rfl := Option.some.inj hf
    exact h_vret rfl rfl rfl (Nat.le_refl _) (Nat.le_refl _) dX9_fansBlow_120
abbrev x_X9_snowMelts (d : Nat) (S0 : hS) (args : List Value) (r : hS) (cs : Nat → Nat) : hX := ((none, 3, d, 0, 0, false), (S0, args, none, r), cs)
theorem v_X9_snowMelts : hVW yX9_snowMelts cX9_snowMelts 3 none RX9 0 := ⟨q_1404, q_s75, q_9, q_1405, by decide +kernel, by decide⟩
def f_X9_snowMelts_L2 : Nat → Nat → Int32 → hS → (hS → Option (hS)) → Option (hS)
  | 0, _, _, _, _ => none
  | n + 1, x0, x1, S, k0 =>
    hbd (gR S x0 9 1) fun t1 =>
    hbd (gA S t1 12 4) fun t3 =>
    if t3 ≤ x1 then
      (k0 S)
    else
      (hbd (gR S x0 9 11) fun t6 =>
       hbd (gA S t6 12 x1) fun t8 =>
       hbd (gR S x0 9 2) fun t10 =>
       hbd (gR S x0 9 10) fun t12 =>
       hbd (gA S t12 12 x1) fun t14 =>
       hbd (gA S t10 12 t14) fun t16 =>
       hj (γ := Int32 → Option (hS)) (fun (v19 : Int32) =>
         hbd (gR S x0 9 2) fun t20 =>
         hbd (gR S x0 9 10) fun t22 =>
         hbd (gA S t22 12 x1) fun t24 =>
         hbd (gA S t20 12 t24) fun t26 =>
         hbd (sA S t20 t24 (t26 - v19)) fun S28 =>
         hbd (gR S28 x0 9 1) fun t30 =>
         hbd (gA S28 t30 12 9) fun t32 =>
         hbd (sA S28 t30 9 (t32 + v19)) fun S34 =>
         f_X9_snowMelts_L2 n x0 (x1 + 1) S34 k0
         ) fun J18 =>
       if t16 ≤ t8 then
         (hbd (gR S x0 9 2) fun t37 =>
          hbd (gR S x0 9 10) fun t39 =>
          hbd (gA S t39 12 x1) fun t41 =>
          hbd (gA S t37 12 t41) fun t43 =>
          J18 t43)
       else
         (hbd (gR S x0 9 11) fun t45 =>
          hbd (gA S t45 12 x1) fun t47 =>
          J18 t47))
def f_X9_snowMelts (a0 : Nat) (S : hS) : Option (hS) :=
  f_X9_snowMelts_L2 hfuel a0 0 S
    (fun S49 =>
      some S49
    )
set_option maxRecDepth 100000 in
set_option maxHeartbeats 4000000 in
theorem w_X9_snowMelts_L2 {d : Nat} {S0 : hS} {args : List Value} {cs : Nat → Nat} {r : hS} (hd : 1 ≤ d) : ∀ (n : Nat) (x0 : Nat) (x1 : Int32) (S : hS) (k0 : (hS → Option (hS))) , f_X9_snowMelts_L2 n x0 x1 S k0 = some r → (∀ (T : hS), k0 T = some r → HW cX9_snowMelts RX9 (x_X9_snowMelts d S0 args r cs) 0 0 T 85 [] []) → HW cX9_snowMelts RX9 (x_X9_snowMelts d S0 args r cs) 0 0 S 2 [(0, .ref x0), (1, .int x1)] [] := by
  intro n
  induction n with
  | zero =>
    intro x0 x1 S k0 hf
    cases hf
  | succ n ih =>
    intro x0 x1 S k0 hf hk0
    rw [f_X9_snowMelts_L2] at hf
    refine h_iload_n dX9_snowMelts_2 rfl 1 rfl ?_
    refine h_aload_n dX9_snowMelts_3 rfl 0 rfl ?_
    obtain ⟨t1, h2, hf⟩ := hbd_s hf
    refine h_getR h2 rfl (Nat.le_of_ble_eq_true rfl) rfl q_961 rfl dX9_snowMelts_4 ?_
    refine h_iconst (v := 4) dX9_snowMelts_7 rfl ?_
    obtain ⟨t3, h4, hf⟩ := hbd_s hf
    refine h_iald h4 dX9_snowMelts_8 ?_
    refine h_icmp_ge (tgt := 85) dX9_snowMelts_9 (by decide) (fun c5 => ?_) (fun c5 => ?_)
    · replace hf := hif_p c5 hf
      refine h_sub (lv2 := []) [] rfl ?_
      exact hk0 S hf
    · replace hf := hif_n c5 hf
      refine h_aload_n dX9_snowMelts_12 rfl 0 rfl ?_
      obtain ⟨t6, h7, hf⟩ := hbd_s hf
      refine h_getR h7 rfl (Nat.le_of_ble_eq_true rfl) rfl q_971 rfl dX9_snowMelts_13 ?_
      refine h_iload_n dX9_snowMelts_16 rfl 1 rfl ?_
      obtain ⟨t8, h9, hf⟩ := hbd_s hf
      refine h_iald h9 dX9_snowMelts_17 ?_
      refine h_aload_n dX9_snowMelts_18 rfl 0 rfl ?_
      obtain ⟨t10, h11, hf⟩ := hbd_s hf
      refine h_getR h11 rfl (Nat.le_of_ble_eq_true rfl) rfl q_962 rfl dX9_snowMelts_19 ?_
      refine h_aload_n dX9_snowMelts_22 rfl 0 rfl ?_
      obtain ⟨t12, h13, hf⟩ := hbd_s hf
      refine h_getR h13 rfl (Nat.le_of_ble_eq_true rfl) rfl q_970 rfl dX9_snowMelts_23 ?_
      refine h_iload_n dX9_snowMelts_26 rfl 1 rfl ?_
      obtain ⟨t14, h15, hf⟩ := hbd_s hf
      refine h_iald h15 dX9_snowMelts_27 ?_
      obtain ⟨t16, h17, hf⟩ := hbd_s hf
      refine h_iald h17 dX9_snowMelts_28 ?_
      refine hj_s (fun J18 => ∀ (v19 : Int32), J18 v19 = some r → HW cX9_snowMelts RX9 (x_X9_snowMelts d S0 args r cs) 0 0 S 52 [(0, .ref x0), (1, .int x1)] [.int v19]) hf ?_ ?_
      · intro v19 hf
        refine h_istore_n (lv2 := [(2, .int v19), (0, .ref x0), (1, .int x1)]) dX9_snowMelts_52 rfl (Nat.le_of_ble_eq_true rfl) rfl ?_
        refine h_aload_n dX9_snowMelts_53 rfl 1 rfl ?_
        obtain ⟨t20, h21, hf⟩ := hbd_s hf
        refine h_getR h21 rfl (Nat.le_of_ble_eq_true rfl) rfl q_962 rfl dX9_snowMelts_54 ?_
        refine h_aload_n dX9_snowMelts_57 rfl 1 rfl ?_
        obtain ⟨t22, h23, hf⟩ := hbd_s hf
        refine h_getR h23 rfl (Nat.le_of_ble_eq_true rfl) rfl q_970 rfl dX9_snowMelts_58 ?_
        refine h_iload_n dX9_snowMelts_61 rfl 2 rfl ?_
        obtain ⟨t24, h25, hf⟩ := hbd_s hf
        refine h_iald h25 dX9_snowMelts_62 ?_
        refine h_dup2 dX9_snowMelts_63 rfl rfl ?_
        obtain ⟨t26, h27, hf⟩ := hbd_s hf
        refine h_iald h27 dX9_snowMelts_64 ?_
        refine h_iload_n dX9_snowMelts_65 rfl 0 rfl ?_
        refine h_isub dX9_snowMelts_66 ?_
        obtain ⟨S28, h29, hf⟩ := hbd_s hf
        refine h_iast h29 dX9_snowMelts_67 ?_
        refine h_aload_n dX9_snowMelts_68 rfl 1 rfl ?_
        obtain ⟨t30, h31, hf⟩ := hbd_s hf
        refine h_getR h31 rfl (Nat.le_of_ble_eq_true rfl) rfl q_961 rfl dX9_snowMelts_69 ?_
        refine h_bipush (v := 9) dX9_snowMelts_72 rfl ?_
        refine h_dup2 dX9_snowMelts_74 rfl rfl ?_
        obtain ⟨t32, h33, hf⟩ := hbd_s hf
        refine h_iald h33 dX9_snowMelts_75 ?_
        refine h_iload_n dX9_snowMelts_76 rfl 0 rfl ?_
        refine h_iadd dX9_snowMelts_77 ?_
        obtain ⟨S34, h35, hf⟩ := hbd_s hf
        refine h_iast h35 dX9_snowMelts_78 ?_
        refine h_iinc (q := 2) (v := x1 + 1) (lv2 := [(1, .int (x1 + 1)), (2, .int v19), (0, .ref x0)]) dX9_snowMelts_79 rfl rfl (Nat.le_of_ble_eq_true rfl) rfl ?_
        refine h_goto (tgt := 2) dX9_snowMelts_82 (by decide) ?_
        refine h_sub (lv2 := [(0, .ref x0), (1, .int (x1 + 1))]) [2, 0] rfl ?_
        exact ih x0 (x1 + 1) S34 k0  hf hk0
      · intro J18 hJ18 hf
        refine h_icmp_ge (tgt := 41) dX9_snowMelts_29 (by decide) (fun c36 => ?_) (fun c36 => ?_)
        · replace hf := hif_p c36 hf
          refine h_aload_n dX9_snowMelts_41 rfl 0 rfl ?_
          obtain ⟨t37, h38, hf⟩ := hbd_s hf
          refine h_getR h38 rfl (Nat.le_of_ble_eq_true rfl) rfl q_962 rfl dX9_snowMelts_42 ?_
          refine h_aload_n dX9_snowMelts_45 rfl 0 rfl ?_
          obtain ⟨t39, h40, hf⟩ := hbd_s hf
          refine h_getR h40 rfl (Nat.le_of_ble_eq_true rfl) rfl q_970 rfl dX9_snowMelts_46 ?_
          refine h_iload_n dX9_snowMelts_49 rfl 1 rfl ?_
          obtain ⟨t41, h42, hf⟩ := hbd_s hf
          refine h_iald h42 dX9_snowMelts_50 ?_
          obtain ⟨t43, h44, hf⟩ := hbd_s hf
          refine h_iald h44 dX9_snowMelts_51 ?_
          exact hJ18 t43 hf
        · replace hf := hif_n c36 hf
          refine h_aload_n dX9_snowMelts_32 rfl 0 rfl ?_
          obtain ⟨t45, h46, hf⟩ := hbd_s hf
          refine h_getR h46 rfl (Nat.le_of_ble_eq_true rfl) rfl q_971 rfl dX9_snowMelts_33 ?_
          refine h_iload_n dX9_snowMelts_36 rfl 1 rfl ?_
          obtain ⟨t47, h48, hf⟩ := hbd_s hf
          refine h_iald h48 dX9_snowMelts_37 ?_
          refine h_goto (tgt := 52) dX9_snowMelts_38 (by decide) ?_
          exact hJ18 t47 hf
set_option maxRecDepth 100000 in
set_option maxHeartbeats 4000000 in
theorem m_X9_snowMelts {d : Nat} {cs : Nat → Nat} {a0 : Nat} {S : hS} {r : hS} (hd : 1 ≤ d) (hf : f_X9_snowMelts a0 S = some r) : HM yX9_snowMelts cX9_snowMelts 3 none d 0 0 cs [.ref a0] S (none) r := by
  unfold f_X9_snowMelts at hf
  refine HM.ofHW false (by decide) (fun h => by cases h) (Nat.le_of_ble_eq_true rfl) ?_
  show HW cX9_snowMelts RX9 (x_X9_snowMelts d S [.ref a0] r cs) 0 0 S 0 [(0, .ref a0)] []
  refine h_iconst (v := 0) dX9_snowMelts_0 rfl ?_
  refine h_istore_n (lv2 := [(1, .int 0), (0, .ref a0)]) dX9_snowMelts_1 rfl (Nat.le_of_ble_eq_true rfl) rfl ?_
  refine h_sub (lv2 := [(0, .ref a0), (1, .int 0)]) [1, 0] rfl ?_
  refine w_X9_snowMelts_L2 hd hfuel a0 0 S _  hf ?_
  · intro S49 hf
    obtain rfl := Option.some.inj hf
    exact h_vret rfl rfl rfl (Nat.le_refl _) (Nat.le_refl _) dX9_snowMelts_85
abbrev x_X9_heatSpreads (d : Nat) (S0 : hS) (args : List Value) (r : hS) (cs : Nat → Nat) : hX := ((none, 4, d, 0, 0, false), (S0, args, none, r), cs)
theorem v_X9_heatSpreads : hVW yX9_heatSpreads cX9_heatSpreads 4 none RX9 0 := ⟨q_1408, q_s76, q_9, q_1409, by decide +kernel, by decide⟩
def f_X9_heatSpreads_L21 : Nat → Nat → Int32 → Int32 → hS → (hS → Option (hS)) → Option (hS)
  | 0, _, _, _, _, _ => none
  | n + 1, x0, x1, x2, S, k0 =>
    if 5 ≤ x2 then
      (k0 S)
    else
      (hck (S.K x0 = 10) <|
       hb2 (f_X9_isThere x0 x1 S) fun t4 S3 =>
       if t4 = 0 then
         (k0 S3)
       else
         (hck (S3.K x0 = 10) <|
          hb2 (f_X9_by x0 x1 x2 S3) fun t8 S7 =>
          if t8 = (-1) then
            (f_X9_heatSpreads_L21 n x0 x1 (x2 + 1) S7 k0)
          else
            (hbd (gR S7 x0 9 2) fun t10 =>
             hbd (gA S7 t10 12 x1) fun t12 =>
             hbd (gR S7 x0 9 44) fun t14 =>
             hbd (gA S7 t14 12 x1) fun t16 =>
             hbd (sA S7 t10 x1 (t12 - (t16 / 8))) fun S18 =>
             hbd (gR S18 x0 9 2) fun t20 =>
             hbd (gA S18 t20 12 t8) fun t22 =>
             hbd (gR S18 x0 9 44) fun t24 =>
             hbd (gA S18 t24 12 x1) fun t26 =>
             hbd (sA S18 t20 t8 (t22 + (t26 / 8))) fun S28 =>
             f_X9_heatSpreads_L21 n x0 x1 (x2 + 1) S28 k0)))
def f_X9_heatSpreads_L13 : Nat → Nat → Int32 → hS → (hS → Option (hS)) → Option (hS)
  | 0, _, _, _, _ => none
  | n + 1, x0, x1, S, k0 =>
    if 80 ≤ x1 then
      (k0 S)
    else
      (f_X9_heatSpreads_L21 hfuel x0 x1 1 S
         (fun S2 =>
           f_X9_heatSpreads_L13 n x0 (x1 + 1) S2 k0
         ))
def f_X9_heatSpreads (a0 : Nat) (S : hS) : Option (hS) :=
  hbd (gR S a0 9 2) fun t3 =>
  hbd (gR S a0 9 44) fun t5 =>
  hbd (f_X9_lay t3 t5 S) fun S8 =>
  f_X9_heatSpreads_L13 hfuel a0 0 S8
    (fun S9 =>
      some S9
    )
set_option maxRecDepth 100000 in
set_option maxHeartbeats 4000000 in
theorem w_X9_heatSpreads_L21 {d : Nat} {S0 : hS} {args : List Value} {cs : Nat → Nat} {r : hS} (hd : 4 ≤ d) : ∀ (n : Nat) (x0 : Nat) (x1 : Int32) (x2 : Int32) (S : hS) (k0 : (hS → Option (hS))) , f_X9_heatSpreads_L21 n x0 x1 x2 S k0 = some r → (∀ (T : hS), k0 T = some r → HW cX9_heatSpreads RX9 (x_X9_heatSpreads d S0 args r cs) 0 0 T 88 [(0, .ref x0), (1, .int x1)] []) → HW cX9_heatSpreads RX9 (x_X9_heatSpreads d S0 args r cs) 0 0 S 21 [(0, .ref x0), (1, .int x1), (2, .int x2)] [] := by
  intro n
  induction n with
  | zero =>
    intro x0 x1 x2 S k0 hf
    cases hf
  | succ n ih =>
    intro x0 x1 x2 S k0 hf hk0
    rw [f_X9_heatSpreads_L21] at hf
    refine h_iload_n dX9_heatSpreads_21 rfl 2 rfl ?_
    refine h_iconst (v := 5) dX9_heatSpreads_22 rfl ?_
    refine h_icmp_ge (tgt := 88) dX9_heatSpreads_23 (by decide) (fun c1 => ?_) (fun c1 => ?_)
    · replace hf := hif_p c1 hf
      refine h_sub (lv2 := [(0, .ref x0), (1, .int x1)]) [0, 1] rfl ?_
      exact hk0 S hf
    · replace hf := hif_n c1 hf
      refine h_aload_n dX9_heatSpreads_26 rfl 0 rfl ?_
      refine h_iload_n dX9_heatSpreads_27 rfl 1 rfl ?_
      obtain ⟨g31, hf⟩ := hck_s hf
      obtain ⟨t4, S3, h2, hf⟩ := hb2_s hf
      refine h_Vi [.int x1] (rest := []) (m_X9_isThere (d := 3) (cs := cs) (Nat.le_refl _) h2) v_X9_isThere q_1410 rfl (Nat.le_trans (by decide) hd) g31 rfl rfl (Nat.le_of_ble_eq_true rfl) dX9_heatSpreads_28 (Nat.le_refl _) (Nat.le_refl _) ?_
      refine h_if_eq (tgt := 88) dX9_heatSpreads_31 (by decide) (fun c5 => ?_) (fun c5 => ?_)
      · replace hf := hif_p c5 hf
        refine h_sub (lv2 := [(0, .ref x0), (1, .int x1)]) [0, 1] rfl ?_
        exact hk0 S3 hf
      · replace hf := hif_n c5 hf
        refine h_aload_n dX9_heatSpreads_34 rfl 0 rfl ?_
        refine h_iload_n dX9_heatSpreads_35 rfl 1 rfl ?_
        refine h_iload_n dX9_heatSpreads_36 rfl 2 rfl ?_
        obtain ⟨g30, hf⟩ := hck_s hf
        obtain ⟨t8, S7, h6, hf⟩ := hb2_s hf
        refine h_Vi [.int x1, .int x2] (rest := []) (m_X9_by (d := 3) (cs := cs) (Nat.le_refl _) h6) v_X9_by q_1398 rfl (Nat.le_trans (by decide) hd) g30 rfl rfl (Nat.le_of_ble_eq_true rfl) dX9_heatSpreads_37 (Nat.le_refl _) (Nat.le_refl _) ?_
        refine h_istore_n (lv2 := [(3, .int t8), (0, .ref x0), (1, .int x1), (2, .int x2)]) dX9_heatSpreads_40 rfl (Nat.le_of_ble_eq_true rfl) rfl ?_
        refine h_iload_n dX9_heatSpreads_41 rfl 0 rfl ?_
        refine h_iconst (v := (-1)) dX9_heatSpreads_42 rfl ?_
        refine h_icmp_eq (tgt := 82) dX9_heatSpreads_43 (by decide) (fun c9 => ?_) (fun c9 => ?_)
        · replace hf := hif_p c9 hf
          refine h_iinc (q := 3) (v := x2 + 1) (lv2 := [(2, .int (x2 + 1)), (3, .int t8), (0, .ref x0), (1, .int x1)]) dX9_heatSpreads_82 rfl rfl (Nat.le_of_ble_eq_true rfl) rfl ?_
          refine h_goto (tgt := 21) dX9_heatSpreads_85 (by decide) ?_
          refine h_sub (lv2 := [(0, .ref x0), (1, .int x1), (2, .int (x2 + 1))]) [2, 3, 0] rfl ?_
          exact ih x0 x1 (x2 + 1) S7 k0  hf hk0
        · replace hf := hif_n c9 hf
          refine h_aload_n dX9_heatSpreads_46 rfl 1 rfl ?_
          obtain ⟨t10, h11, hf⟩ := hbd_s hf
          refine h_getR h11 rfl (Nat.le_of_ble_eq_true rfl) rfl q_962 rfl dX9_heatSpreads_47 ?_
          refine h_iload_n dX9_heatSpreads_50 rfl 2 rfl ?_
          refine h_dup2 dX9_heatSpreads_51 rfl rfl ?_
          obtain ⟨t12, h13, hf⟩ := hbd_s hf
          refine h_iald h13 dX9_heatSpreads_52 ?_
          refine h_aload_n dX9_heatSpreads_53 rfl 1 rfl ?_
          obtain ⟨t14, h15, hf⟩ := hbd_s hf
          refine h_getR h15 rfl (Nat.le_of_ble_eq_true rfl) rfl q_1004 rfl dX9_heatSpreads_54 ?_
          refine h_iload_n dX9_heatSpreads_57 rfl 2 rfl ?_
          obtain ⟨t16, h17, hf⟩ := hbd_s hf
          refine h_iald h17 dX9_heatSpreads_58 ?_
          refine h_bipush (v := 8) dX9_heatSpreads_59 rfl ?_
          refine h_idiv dX9_heatSpreads_61 (by decide) ?_
          refine h_isub dX9_heatSpreads_62 ?_
          obtain ⟨S18, h19, hf⟩ := hbd_s hf
          refine h_iast h19 dX9_heatSpreads_63 ?_
          refine h_aload_n dX9_heatSpreads_64 rfl 1 rfl ?_
          obtain ⟨t20, h21, hf⟩ := hbd_s hf
          refine h_getR h21 rfl (Nat.le_of_ble_eq_true rfl) rfl q_962 rfl dX9_heatSpreads_65 ?_
          refine h_iload_n dX9_heatSpreads_68 rfl 0 rfl ?_
          refine h_dup2 dX9_heatSpreads_69 rfl rfl ?_
          obtain ⟨t22, h23, hf⟩ := hbd_s hf
          refine h_iald h23 dX9_heatSpreads_70 ?_
          refine h_aload_n dX9_heatSpreads_71 rfl 1 rfl ?_
          obtain ⟨t24, h25, hf⟩ := hbd_s hf
          refine h_getR h25 rfl (Nat.le_of_ble_eq_true rfl) rfl q_1004 rfl dX9_heatSpreads_72 ?_
          refine h_iload_n dX9_heatSpreads_75 rfl 2 rfl ?_
          obtain ⟨t26, h27, hf⟩ := hbd_s hf
          refine h_iald h27 dX9_heatSpreads_76 ?_
          refine h_bipush (v := 8) dX9_heatSpreads_77 rfl ?_
          refine h_idiv dX9_heatSpreads_79 (by decide) ?_
          refine h_iadd dX9_heatSpreads_80 ?_
          obtain ⟨S28, h29, hf⟩ := hbd_s hf
          refine h_iast h29 dX9_heatSpreads_81 ?_
          refine h_iinc (q := 3) (v := x2 + 1) (lv2 := [(2, .int (x2 + 1)), (3, .int t8), (0, .ref x0), (1, .int x1)]) dX9_heatSpreads_82 rfl rfl (Nat.le_of_ble_eq_true rfl) rfl ?_
          refine h_goto (tgt := 21) dX9_heatSpreads_85 (by decide) ?_
          refine h_sub (lv2 := [(0, .ref x0), (1, .int x1), (2, .int (x2 + 1))]) [2, 3, 0] rfl ?_
          exact ih x0 x1 (x2 + 1) S28 k0  hf hk0
set_option maxRecDepth 100000 in
set_option maxHeartbeats 4000000 in
theorem w_X9_heatSpreads_L13 {d : Nat} {S0 : hS} {args : List Value} {cs : Nat → Nat} {r : hS} (hd : 4 ≤ d) : ∀ (n : Nat) (x0 : Nat) (x1 : Int32) (S : hS) (k0 : (hS → Option (hS))) , f_X9_heatSpreads_L13 n x0 x1 S k0 = some r → (∀ (T : hS), k0 T = some r → HW cX9_heatSpreads RX9 (x_X9_heatSpreads d S0 args r cs) 0 0 T 94 [] []) → HW cX9_heatSpreads RX9 (x_X9_heatSpreads d S0 args r cs) 0 0 S 13 [(0, .ref x0), (1, .int x1)] [] := by
  intro n
  induction n with
  | zero =>
    intro x0 x1 S k0 hf
    cases hf
  | succ n ih =>
    intro x0 x1 S k0 hf hk0
    rw [f_X9_heatSpreads_L13] at hf
    refine h_iload_n dX9_heatSpreads_13 rfl 1 rfl ?_
    refine h_bipush (v := 80) dX9_heatSpreads_14 rfl ?_
    refine h_icmp_ge (tgt := 94) dX9_heatSpreads_16 (by decide) (fun c1 => ?_) (fun c1 => ?_)
    · replace hf := hif_p c1 hf
      refine h_sub (lv2 := []) [] rfl ?_
      exact hk0 S hf
    · replace hf := hif_n c1 hf
      refine h_iconst (v := 1) dX9_heatSpreads_19 rfl ?_
      refine h_istore_n (lv2 := [(2, .int 1), (0, .ref x0), (1, .int x1)]) dX9_heatSpreads_20 rfl (Nat.le_of_ble_eq_true rfl) rfl ?_
      refine h_sub (lv2 := [(0, .ref x0), (1, .int x1), (2, .int 1)]) [1, 2, 0] rfl ?_
      refine w_X9_heatSpreads_L21 hd hfuel x0 x1 1 S _  hf ?_
      · intro S2 hf
        refine h_iinc (q := 1) (v := x1 + 1) (lv2 := [(1, .int (x1 + 1)), (0, .ref x0)]) dX9_heatSpreads_88 rfl rfl (Nat.le_of_ble_eq_true rfl) rfl ?_
        refine h_goto (tgt := 13) dX9_heatSpreads_91 (by decide) ?_
        refine h_sub (lv2 := [(0, .ref x0), (1, .int (x1 + 1))]) [1, 0] rfl ?_
        exact ih x0 (x1 + 1) S2 k0  hf hk0
set_option maxRecDepth 100000 in
set_option maxHeartbeats 4000000 in
theorem m_X9_heatSpreads {d : Nat} {cs : Nat → Nat} {a0 : Nat} {S : hS} {r : hS} (hd : 4 ≤ d) (hf : f_X9_heatSpreads a0 S = some r) : HM yX9_heatSpreads cX9_heatSpreads 4 none d 0 0 cs [.ref a0] S (none) r := by
  unfold f_X9_heatSpreads at hf
  refine HM.ofHW false (by decide) (fun h => by cases h) (Nat.le_of_ble_eq_true rfl) ?_
  show HW cX9_heatSpreads RX9 (x_X9_heatSpreads d S [.ref a0] r cs) 0 0 S 0 [(0, .ref a0)] []
  refine h_aload_n dX9_heatSpreads_0 rfl 0 rfl ?_
  obtain ⟨t3, h4, hf⟩ := hbd_s hf
  refine h_getR h4 rfl (Nat.le_of_ble_eq_true rfl) rfl q_962 rfl dX9_heatSpreads_1 ?_
  refine h_aload_n dX9_heatSpreads_4 rfl 0 rfl ?_
  obtain ⟨t5, h6, hf⟩ := hbd_s hf
  refine h_getR h6 rfl (Nat.le_of_ble_eq_true rfl) rfl q_1004 rfl dX9_heatSpreads_5 ?_
  obtain ⟨S8, h7, hf⟩ := hbd_s hf
  refine h_Sv [.ref t3, .ref t5] (rest := []) (m_X9_lay (d := 1) (cs := cs) (Nat.le_refl _) h7) v_X9_lay q_1240 rfl (Nat.le_trans (by decide) hd) rfl (Nat.le_of_ble_eq_true rfl) dX9_heatSpreads_8 (Nat.le_refl _) (Nat.le_refl _) ?_
  refine h_iconst (v := 0) dX9_heatSpreads_11 rfl ?_
  refine h_istore_n (lv2 := [(1, .int 0), (0, .ref a0)]) dX9_heatSpreads_12 rfl (Nat.le_of_ble_eq_true rfl) rfl ?_
  refine h_sub (lv2 := [(0, .ref a0), (1, .int 0)]) [1, 0] rfl ?_
  refine w_X9_heatSpreads_L13 hd hfuel a0 0 S8 _  hf ?_
  · intro S9 hf
    obtain rfl := Option.some.inj hf
    exact h_vret rfl rfl rfl (Nat.le_refl _) (Nat.le_refl _) dX9_heatSpreads_94
abbrev x_X9_near (d : Nat) (S0 : hS) (args : List Value) (r : Int32 × hS) (cs : Nat → Nat) : hX := (((some .int), 5, d, 0, 0, false), (S0, args, some (.int r.1), r.2), cs)
theorem v_X9_near : hVW yX9_near cX9_near 5 (some .int) RX9 1 := ⟨q_1424, q_s80, q_9, q_1425, by decide +kernel, by decide⟩
def f_X9_near_L4 : Nat → Nat → Int32 → Int32 → Int32 → hS → (Int32 → hS → Option (Int32 × hS)) → Option (Int32 × hS)
  | 0, _, _, _, _, _, _ => none
  | n + 1, x0, x1, x2, x3, S, k0 =>
    if 5 ≤ x3 then
      (k0 x2 S)
    else
      (hck (S.K x0 = 10) <|
       hb2 (f_X9_by x0 x1 x3 S) fun t4 S3 =>
       hj (γ := Int32 → Option (Int32 × hS)) (fun (v6 : Int32) =>
         f_X9_near_L4 n x0 x1 (x2 + v6) (x3 + 1) S3 k0
         ) fun J5 =>
       if t4 = (-1) then
         (J5 0)
       else
         (hbd (gR S3 x0 9 2) fun t8 =>
          hbd (gA S3 t8 12 t4) fun t10 =>
          J5 t10))
def f_X9_near (a0 : Nat) (a1 : Int32) (S : hS) : Option (Int32 × hS) :=
  f_X9_near_L4 hfuel a0 a1 0 1 S
    (fun u13 S14 =>
      some (u13, S14)
    )
set_option maxRecDepth 100000 in
set_option maxHeartbeats 4000000 in
theorem w_X9_near_L4 {d : Nat} {S0 : hS} {args : List Value} {cs : Nat → Nat} {r : Int32 × hS} (hd : 4 ≤ d) : ∀ (n : Nat) (x0 : Nat) (x1 : Int32) (x2 : Int32) (x3 : Int32) (S : hS) (k0 : (Int32 → hS → Option (Int32 × hS))) , f_X9_near_L4 n x0 x1 x2 x3 S k0 = some r → (∀ (y2 : Int32) (T : hS), k0 y2 T = some r → HW cX9_near RX9 (x_X9_near d S0 args r cs) 0 0 T 43 [(2, .int y2)] []) → HW cX9_near RX9 (x_X9_near d S0 args r cs) 0 0 S 4 [(0, .ref x0), (1, .int x1), (2, .int x2), (3, .int x3)] [] := by
  intro n
  induction n with
  | zero =>
    intro x0 x1 x2 x3 S k0 hf
    cases hf
  | succ n ih =>
    intro x0 x1 x2 x3 S k0 hf hk0
    rw [f_X9_near_L4] at hf
    refine h_iload_n dX9_near_4 rfl 3 rfl ?_
    refine h_iconst (v := 5) dX9_near_5 rfl ?_
    refine h_icmp_ge (tgt := 43) dX9_near_6 (by decide) (fun c1 => ?_) (fun c1 => ?_)
    · replace hf := hif_p c1 hf
      refine h_sub (lv2 := [(2, .int x2)]) [2] rfl ?_
      exact hk0 x2 S hf
    · replace hf := hif_n c1 hf
      refine h_aload_n dX9_near_9 rfl 0 rfl ?_
      refine h_iload_n dX9_near_10 rfl 1 rfl ?_
      refine h_iload_n dX9_near_11 rfl 3 rfl ?_
      obtain ⟨g12, hf⟩ := hck_s hf
      obtain ⟨t4, S3, h2, hf⟩ := hb2_s hf
      refine h_Vi [.int x1, .int x3] (rest := []) (m_X9_by (d := 3) (cs := cs) (Nat.le_refl _) h2) v_X9_by q_1398 rfl (Nat.le_trans (by decide) hd) g12 rfl rfl (Nat.le_of_ble_eq_true rfl) dX9_near_12 (Nat.le_refl _) (Nat.le_refl _) ?_
      refine h_istore (lv2 := [(4, .int t4), (0, .ref x0), (1, .int x1), (2, .int x2), (3, .int x3)]) dX9_near_15 (Nat.le_of_ble_eq_true rfl) rfl ?_
      refine h_iload_n dX9_near_17 rfl 3 rfl ?_
      refine h_iload dX9_near_18 0 rfl ?_
      refine h_iconst (v := (-1)) dX9_near_20 rfl ?_
      refine hj_s (fun J5 => ∀ (v6 : Int32), J5 v6 = some r → HW cX9_near RX9 (x_X9_near d S0 args r cs) 0 0 S3 35 [(0, .ref x0), (1, .int x1), (3, .int x3)] [.int v6, .int x2]) hf ?_ ?_
      · intro v6 hf
        refine h_iadd dX9_near_35 ?_
        refine h_istore_n (lv2 := [(2, .int (x2 + v6)), (0, .ref x0), (1, .int x1), (3, .int x3)]) dX9_near_36 rfl (Nat.le_of_ble_eq_true rfl) rfl ?_
        refine h_iinc (q := 3) (v := x3 + 1) (lv2 := [(3, .int (x3 + 1)), (2, .int (x2 + v6)), (0, .ref x0), (1, .int x1)]) dX9_near_37 rfl rfl (Nat.le_of_ble_eq_true rfl) rfl ?_
        refine h_goto (tgt := 4) dX9_near_40 (by decide) ?_
        refine h_sub (lv2 := [(0, .ref x0), (1, .int x1), (2, .int (x2 + v6)), (3, .int (x3 + 1))]) [2, 3, 1, 0] rfl ?_
        exact ih x0 x1 (x2 + v6) (x3 + 1) S3 k0  hf hk0
      · intro J5 hJ5 hf
        refine h_icmp_ne (tgt := 28) dX9_near_21 (by decide) (fun c7 => ?_) (fun c7 => ?_)
        · replace hf := hif_n c7 hf
          refine h_aload_n dX9_near_28 rfl 1 rfl ?_
          obtain ⟨t8, h9, hf⟩ := hbd_s hf
          refine h_getR h9 rfl (Nat.le_of_ble_eq_true rfl) rfl q_962 rfl dX9_near_29 ?_
          refine h_iload dX9_near_32 0 rfl ?_
          obtain ⟨t10, h11, hf⟩ := hbd_s hf
          refine h_iald h11 dX9_near_34 ?_
          refine h_sub (lv2 := [(0, .ref x0), (1, .int x1), (3, .int x3)]) [1, 2, 4] rfl ?_
          exact hJ5 t10 hf
        · replace hf := hif_p c7 hf
          refine h_iconst (v := 0) dX9_near_24 rfl ?_
          refine h_goto (tgt := 35) dX9_near_25 (by decide) ?_
          refine h_sub (lv2 := [(0, .ref x0), (1, .int x1), (3, .int x3)]) [1, 2, 4] rfl ?_
          exact hJ5 0 hf
set_option maxRecDepth 100000 in
set_option maxHeartbeats 4000000 in
theorem m_X9_near {d : Nat} {cs : Nat → Nat} {a0 : Nat} {a1 : Int32} {S : hS} {r : Int32 × hS} (hd : 4 ≤ d) (hf : f_X9_near a0 a1 S = some r) : HM yX9_near cX9_near 5 (some .int) d 0 0 cs [.ref a0, .int a1] S (some (.int r.1)) r.2 := by
  unfold f_X9_near at hf
  refine HM.ofHW false (by decide) (fun h => by cases h) (Nat.le_of_ble_eq_true rfl) ?_
  show HW cX9_near RX9 (x_X9_near d S [.ref a0, .int a1] r cs) 0 0 S 0 [(0, .ref a0), (1, .int a1)] []
  refine h_iconst (v := 0) dX9_near_0 rfl ?_
  refine h_istore_n (lv2 := [(2, .int 0), (0, .ref a0), (1, .int a1)]) dX9_near_1 rfl (Nat.le_of_ble_eq_true rfl) rfl ?_
  refine h_iconst (v := 1) dX9_near_2 rfl ?_
  refine h_istore_n (lv2 := [(3, .int 1), (2, .int 0), (0, .ref a0), (1, .int a1)]) dX9_near_3 rfl (Nat.le_of_ble_eq_true rfl) rfl ?_
  refine h_sub (lv2 := [(0, .ref a0), (1, .int a1), (2, .int 0), (3, .int 1)]) [2, 3, 1, 0] rfl ?_
  refine w_X9_near_L4 hd hfuel a0 a1 0 1 S _  hf ?_
  · intro u13 S14 hf
    refine h_iload_n dX9_near_43 rfl 0 rfl ?_
    obtain rfl := Option.some.inj hf
    exact h_iret rfl rfl rfl (Nat.le_refl _) (Nat.le_refl _) dX9_near_44
abbrev x_X9_sumOf (d : Nat) (S0 : hS) (args : List Value) (r : Int64 × hS) (cs : Nat → Nat) : hX := (((some .long), 5, d, 0, 0, false), (S0, args, some (.long r.1), r.2), cs)
theorem v_X9_sumOf : hVW yX9_sumOf cX9_sumOf 5 (some .long) RX9 3 := ⟨q_1420, q_s79, q_9, q_1421, by decide +kernel, by decide⟩
def f_X9_sumOf_L132 : Nat → Nat → Int32 → Int32 → hS → (hS → Option (Int64 × hS)) → (Int32 → hS → Option (Int64 × hS)) → Option (Int64 × hS)
  | 0, _, _, _, _, _, _ => none
  | n + 1, x0, x1, x4, S, k0, k1 =>
    hbd (gR S x0 9 37) fun t1 =>
    hbd (gA S t1 12 x1) fun t3 =>
    if ((12 * x1) + t3) ≤ x4 then
      (k0 S)
    else
      (hbd (gR S x0 9 39) fun t6 =>
       hbd (gA S t6 12 x4) fun t8 =>
       hbd (gR S x0 9 40) fun t10 =>
       hbd (gA S t10 12 x4) fun t12 =>
       if t8 = t12 then
         (k1 x4 S)
       else
         (hbd (gR S x0 9 39) fun t15 =>
          hbd (gA S t15 12 x4) fun t17 =>
          hbd (gR S x0 9 40) fun t19 =>
          hbd (gA S t19 12 x4) fun t21 =>
          hck (S.K x0 = 10) <|
          hb2 (f_X9_answer x0 x1 t17 t21 S) fun t25 S24 =>
          if (lg_cmp t25 1) = 0 then
            (k1 x4 S24)
          else
            (f_X9_sumOf_L132 n x0 x1 (x4 + 1) S24 k0 k1)))
def f_X9_sumOf (a0 : Nat) (a1 : Int32) (a2 : Int32) (a3 : Int32) (S : hS) : Option (Int64 × hS) :=
  hbd (gR S a0 9 42) fun t28 =>
  hbd (gR S a0 9 2) fun t30 =>
  hbd (gA S t30 12 a2) fun t32 =>
  hbd (sAJ S t28 0 (Int32.toInt64 t32)) fun S34 =>
  hbd (gR S34 a0 9 42) fun t36 =>
  hck (S34.K a0 = 10) <|
  hb2 (f_X9_near a0 a2 S34) fun t40 S39 =>
  hbd (sAJ S39 t36 1 (Int32.toInt64 t40)) fun S41 =>
  hbd (gR S41 a0 9 42) fun t43 =>
  hck (S41.K a0 = 10) <|
  hb2 (f_X9_whoAt a0 a2 S41) fun t47 S46 =>
  hj (γ := Int64 → Option (Int64 × hS)) (fun (v49 : Int64) =>
    hbd (sAJ S46 t43 2 v49) fun S50 =>
    hbd (gR S50 a0 9 42) fun t52 =>
    hbd (sAJ S50 t52 3 (Int32.toInt64 (a2 - a2 / 10 * 10))) fun S54 =>
    hbd (gR S54 a0 9 42) fun t56 =>
    hbd (sAJ S54 t56 4 (Int32.toInt64 (a2 / 10))) fun S58 =>
    hbd (gR S58 a0 9 42) fun t60 =>
    hbd (gR S58 a0 9 1) fun t62 =>
    hbd (gA S58 t62 12 7) fun t64 =>
    hbd (sAJ S58 t60 5 (Int32.toInt64 t64)) fun S66 =>
    hbd (gR S66 a0 9 42) fun t68 =>
    hbd (sAJ S66 t68 6 (Int32.toInt64 a3)) fun S70 =>
    hbd (gR S70 a0 9 42) fun t72 =>
    hbd (gR S70 a0 9 1) fun t74 =>
    hbd (gA S70 t74 12 6) fun t76 =>
    hj (γ := Int64 → Option (Int64 × hS)) (fun (v79 : Int64) =>
      hbd (sAJ S70 t72 7 v79) fun S80 =>
      hbd (gR S80 a0 9 42) fun t82 =>
      hck (S80.K a0 = 10) <|
      hb2 (f_X9_edge a0 a2 S80) fun t86 S85 =>
      hbd (sAJ S85 t82 8 (Int32.toInt64 t86)) fun S87 =>
      f_X9_sumOf_L132 hfuel a0 a1 (12 * a1) S87
        (fun S89 =>
          some (0, S89)
        )
        (fun u90 S91 =>
          hbd (gR S91 a0 9 38) fun t92 =>
          hbd (gA S91 t92 12 u90) fun t94 =>
          hbd (gR S91 a0 9 39) fun t96 =>
          hbd (gA S91 t96 12 u90) fun t98 =>
          hck (S91.K a0 = 10) <|
          hb2 (f_X9_answer a0 a1 t94 t98 S91) fun t102 S101 =>
          some (t102, S101)
        )
      ) fun J78 =>
    if t76 = a2 then
      (J78 1)
    else
      (J78 0)
    ) fun J48 =>
  if t47 = (-1) then
    (J48 0)
  else
    (J48 1)
set_option maxRecDepth 100000 in
set_option maxHeartbeats 4000000 in
theorem w_X9_sumOf_L132 {d : Nat} {S0 : hS} {args : List Value} {cs : Nat → Nat} {r : Int64 × hS} (hd : 5 ≤ d) : ∀ (n : Nat) (x0 : Nat) (x1 : Int32) (x4 : Int32) (S : hS) (k0 : (hS → Option (Int64 × hS))) (k1 : (Int32 → hS → Option (Int64 × hS))) , f_X9_sumOf_L132 n x0 x1 x4 S k0 k1 = some r → (∀ (T : hS), k0 T = some r → HW cX9_sumOf RX9 (x_X9_sumOf d S0 args r cs) 0 0 T 215 [] []) → (∀ (y4 : Int32) (T : hS), k1 y4 T = some r → HW cX9_sumOf RX9 (x_X9_sumOf d S0 args r cs) 0 0 T 189 [(0, .ref x0), (1, .int x1), (4, .int y4)] []) → HW cX9_sumOf RX9 (x_X9_sumOf d S0 args r cs) 0 0 S 132 [(0, .ref x0), (1, .int x1), (4, .int x4)] [] := by
  intro n
  induction n with
  | zero =>
    intro x0 x1 x4 S k0 k1 hf
    cases hf
  | succ n ih =>
    intro x0 x1 x4 S k0 k1 hf hk0 hk1
    rw [f_X9_sumOf_L132] at hf
    refine h_iload dX9_sumOf_132 2 rfl ?_
    refine h_bipush (v := 12) dX9_sumOf_134 rfl ?_
    refine h_iload_n dX9_sumOf_136 rfl 1 rfl ?_
    refine h_imul dX9_sumOf_137 ?_
    refine h_aload_n dX9_sumOf_138 rfl 0 rfl ?_
    obtain ⟨t1, h2, hf⟩ := hbd_s hf
    refine h_getR h2 rfl (Nat.le_of_ble_eq_true rfl) rfl q_997 rfl dX9_sumOf_139 ?_
    refine h_iload_n dX9_sumOf_142 rfl 1 rfl ?_
    obtain ⟨t3, h4, hf⟩ := hbd_s hf
    refine h_iald h4 dX9_sumOf_143 ?_
    refine h_iadd dX9_sumOf_144 ?_
    refine h_icmp_ge (tgt := 215) dX9_sumOf_145 (by decide) (fun c5 => ?_) (fun c5 => ?_)
    · replace hf := hif_p c5 hf
      refine h_sub (lv2 := []) [] rfl ?_
      exact hk0 S hf
    · replace hf := hif_n c5 hf
      refine h_aload_n dX9_sumOf_148 rfl 0 rfl ?_
      obtain ⟨t6, h7, hf⟩ := hbd_s hf
      refine h_getR h7 rfl (Nat.le_of_ble_eq_true rfl) rfl q_999 rfl dX9_sumOf_149 ?_
      refine h_iload dX9_sumOf_152 2 rfl ?_
      obtain ⟨t8, h9, hf⟩ := hbd_s hf
      refine h_iald h9 dX9_sumOf_154 ?_
      refine h_aload_n dX9_sumOf_155 rfl 0 rfl ?_
      obtain ⟨t10, h11, hf⟩ := hbd_s hf
      refine h_getR h11 rfl (Nat.le_of_ble_eq_true rfl) rfl q_1000 rfl dX9_sumOf_156 ?_
      refine h_iload dX9_sumOf_159 2 rfl ?_
      obtain ⟨t12, h13, hf⟩ := hbd_s hf
      refine h_iald h13 dX9_sumOf_161 ?_
      refine h_icmp_eq (tgt := 189) dX9_sumOf_162 (by decide) (fun c14 => ?_) (fun c14 => ?_)
      · replace hf := hif_p c14 hf
        exact hk1 x4 S hf
      · replace hf := hif_n c14 hf
        refine h_aload_n dX9_sumOf_165 rfl 0 rfl ?_
        refine h_iload_n dX9_sumOf_166 rfl 1 rfl ?_
        refine h_aload_n dX9_sumOf_167 rfl 0 rfl ?_
        obtain ⟨t15, h16, hf⟩ := hbd_s hf
        refine h_getR h16 rfl (Nat.le_of_ble_eq_true rfl) rfl q_999 rfl dX9_sumOf_168 ?_
        refine h_iload dX9_sumOf_171 2 rfl ?_
        obtain ⟨t17, h18, hf⟩ := hbd_s hf
        refine h_iald h18 dX9_sumOf_173 ?_
        refine h_aload_n dX9_sumOf_174 rfl 0 rfl ?_
        obtain ⟨t19, h20, hf⟩ := hbd_s hf
        refine h_getR h20 rfl (Nat.le_of_ble_eq_true rfl) rfl q_1000 rfl dX9_sumOf_175 ?_
        refine h_iload dX9_sumOf_178 2 rfl ?_
        obtain ⟨t21, h22, hf⟩ := hbd_s hf
        refine h_iald h22 dX9_sumOf_180 ?_
        obtain ⟨g27, hf⟩ := hck_s hf
        obtain ⟨t25, S24, h23, hf⟩ := hb2_s hf
        refine h_Vl [.int x1, .int t17, .int t21] (rest := []) (m_X9_answer (d := 3) (cs := cs) (Nat.le_refl _) h23) v_X9_answer q_1426 rfl (Nat.le_trans (by decide) hd) g27 rfl rfl (Nat.le_of_ble_eq_true rfl) dX9_sumOf_181 (Nat.le_refl _) (Nat.le_refl _) ?_
        refine h_lconst (v := 1) dX9_sumOf_184 rfl ?_
        refine h_lcmp dX9_sumOf_185 ?_
        refine h_if_ne (tgt := 209) dX9_sumOf_186 (by decide) (fun c26 => ?_) (fun c26 => ?_)
        · replace hf := hif_n c26 hf
          refine h_iinc (q := 2) (v := x4 + 1) (lv2 := [(4, .int (x4 + 1)), (0, .ref x0), (1, .int x1)]) dX9_sumOf_209 rfl rfl (Nat.le_of_ble_eq_true rfl) rfl ?_
          refine h_goto (tgt := 132) dX9_sumOf_212 (by decide) ?_
          refine h_sub (lv2 := [(0, .ref x0), (1, .int x1), (4, .int (x4 + 1))]) [1, 2, 0] rfl ?_
          exact ih x0 x1 (x4 + 1) S24 k0 k1  hf hk0 hk1
        · replace hf := hif_p c26 hf
          exact hk1 x4 S24 hf
set_option maxRecDepth 100000 in
set_option maxHeartbeats 4000000 in
theorem m_X9_sumOf {d : Nat} {cs : Nat → Nat} {a0 : Nat} {a1 : Int32} {a2 : Int32} {a3 : Int32} {S : hS} {r : Int64 × hS} (hd : 5 ≤ d) (hf : f_X9_sumOf a0 a1 a2 a3 S = some r) : HM yX9_sumOf cX9_sumOf 5 (some .long) d 0 0 cs [.ref a0, .int a1, .int a2, .int a3] S (some (.long r.1)) r.2 := by
  unfold f_X9_sumOf at hf
  refine HM.ofHW false (by decide) (fun h => by cases h) (Nat.le_of_ble_eq_true rfl) ?_
  show HW cX9_sumOf RX9 (x_X9_sumOf d S [.ref a0, .int a1, .int a2, .int a3] r cs) 0 0 S 0 [(0, .ref a0), (1, .int a1), (2, .int a2), (3, .int a3)] []
  refine h_aload_n dX9_sumOf_0 rfl 0 rfl ?_
  obtain ⟨t28, h29, hf⟩ := hbd_s hf
  refine h_getR h29 rfl (Nat.le_of_ble_eq_true rfl) rfl q_1002 rfl dX9_sumOf_1 ?_
  refine h_iconst (v := 0) dX9_sumOf_4 rfl ?_
  refine h_aload_n dX9_sumOf_5 rfl 0 rfl ?_
  obtain ⟨t30, h31, hf⟩ := hbd_s hf
  refine h_getR h31 rfl (Nat.le_of_ble_eq_true rfl) rfl q_962 rfl dX9_sumOf_6 ?_
  refine h_iload_n dX9_sumOf_9 rfl 2 rfl ?_
  obtain ⟨t32, h33, hf⟩ := hbd_s hf
  refine h_iald h33 dX9_sumOf_10 ?_
  refine h_i2l dX9_sumOf_11 ?_
  obtain ⟨S34, h35, hf⟩ := hbd_s hf
  refine h_last h35 dX9_sumOf_12 ?_
  refine h_aload_n dX9_sumOf_13 rfl 0 rfl ?_
  obtain ⟨t36, h37, hf⟩ := hbd_s hf
  refine h_getR h37 rfl (Nat.le_of_ble_eq_true rfl) rfl q_1002 rfl dX9_sumOf_14 ?_
  refine h_iconst (v := 1) dX9_sumOf_17 rfl ?_
  refine h_aload_n dX9_sumOf_18 rfl 0 rfl ?_
  refine h_iload_n dX9_sumOf_19 rfl 2 rfl ?_
  obtain ⟨g108, hf⟩ := hck_s hf
  obtain ⟨t40, S39, h38, hf⟩ := hb2_s hf
  refine h_Vi [.int a2] (rest := [.int 1, .ref t36]) (m_X9_near (d := 4) (cs := cs) (Nat.le_refl _) h38) v_X9_near q_1422 rfl (Nat.le_trans (by decide) hd) g108 rfl rfl (Nat.le_of_ble_eq_true rfl) dX9_sumOf_20 (Nat.le_refl _) (Nat.le_refl _) ?_
  refine h_i2l dX9_sumOf_23 ?_
  obtain ⟨S41, h42, hf⟩ := hbd_s hf
  refine h_last h42 dX9_sumOf_24 ?_
  refine h_aload_n dX9_sumOf_25 rfl 0 rfl ?_
  obtain ⟨t43, h44, hf⟩ := hbd_s hf
  refine h_getR h44 rfl (Nat.le_of_ble_eq_true rfl) rfl q_1002 rfl dX9_sumOf_26 ?_
  refine h_iconst (v := 2) dX9_sumOf_29 rfl ?_
  refine h_aload_n dX9_sumOf_30 rfl 0 rfl ?_
  refine h_iload_n dX9_sumOf_31 rfl 2 rfl ?_
  obtain ⟨g107, hf⟩ := hck_s hf
  obtain ⟨t47, S46, h45, hf⟩ := hb2_s hf
  refine h_Vi [.int a2] (rest := [.int 2, .ref t43]) (m_X9_whoAt (d := 1) (cs := cs) (Nat.le_refl _) h45) v_X9_whoAt q_1328 rfl (Nat.le_trans (by decide) hd) g107 rfl rfl (Nat.le_of_ble_eq_true rfl) dX9_sumOf_32 (Nat.le_refl _) (Nat.le_refl _) ?_
  refine h_iconst (v := (-1)) dX9_sumOf_35 rfl ?_
  refine hj_s (fun J48 => ∀ (v49 : Int64), J48 v49 = some r → HW cX9_sumOf RX9 (x_X9_sumOf d S [.ref a0, .int a1, .int a2, .int a3] r cs) 0 0 S46 44 [(0, .ref a0), (1, .int a1), (2, .int a2), (3, .int a3)] [.long v49, .int 2, .ref t43]) hf ?_ ?_
  · intro v49 hf
    obtain ⟨S50, h51, hf⟩ := hbd_s hf
    refine h_last h51 dX9_sumOf_44 ?_
    refine h_aload_n dX9_sumOf_45 rfl 0 rfl ?_
    obtain ⟨t52, h53, hf⟩ := hbd_s hf
    refine h_getR h53 rfl (Nat.le_of_ble_eq_true rfl) rfl q_1002 rfl dX9_sumOf_46 ?_
    refine h_iconst (v := 3) dX9_sumOf_49 rfl ?_
    refine h_iload_n dX9_sumOf_50 rfl 2 rfl ?_
    refine h_bipush (v := 10) dX9_sumOf_51 rfl ?_
    refine h_irem dX9_sumOf_53 (by decide) ?_
    refine h_i2l dX9_sumOf_54 ?_
    obtain ⟨S54, h55, hf⟩ := hbd_s hf
    refine h_last h55 dX9_sumOf_55 ?_
    refine h_aload_n dX9_sumOf_56 rfl 0 rfl ?_
    obtain ⟨t56, h57, hf⟩ := hbd_s hf
    refine h_getR h57 rfl (Nat.le_of_ble_eq_true rfl) rfl q_1002 rfl dX9_sumOf_57 ?_
    refine h_iconst (v := 4) dX9_sumOf_60 rfl ?_
    refine h_iload_n dX9_sumOf_61 rfl 2 rfl ?_
    refine h_bipush (v := 10) dX9_sumOf_62 rfl ?_
    refine h_idiv dX9_sumOf_64 (by decide) ?_
    refine h_i2l dX9_sumOf_65 ?_
    obtain ⟨S58, h59, hf⟩ := hbd_s hf
    refine h_last h59 dX9_sumOf_66 ?_
    refine h_aload_n dX9_sumOf_67 rfl 0 rfl ?_
    obtain ⟨t60, h61, hf⟩ := hbd_s hf
    refine h_getR h61 rfl (Nat.le_of_ble_eq_true rfl) rfl q_1002 rfl dX9_sumOf_68 ?_
    refine h_iconst (v := 5) dX9_sumOf_71 rfl ?_
    refine h_aload_n dX9_sumOf_72 rfl 0 rfl ?_
    obtain ⟨t62, h63, hf⟩ := hbd_s hf
    refine h_getR h63 rfl (Nat.le_of_ble_eq_true rfl) rfl q_961 rfl dX9_sumOf_73 ?_
    refine h_bipush (v := 7) dX9_sumOf_76 rfl ?_
    obtain ⟨t64, h65, hf⟩ := hbd_s hf
    refine h_iald h65 dX9_sumOf_78 ?_
    refine h_i2l dX9_sumOf_79 ?_
    obtain ⟨S66, h67, hf⟩ := hbd_s hf
    refine h_last h67 dX9_sumOf_80 ?_
    refine h_aload_n dX9_sumOf_81 rfl 0 rfl ?_
    obtain ⟨t68, h69, hf⟩ := hbd_s hf
    refine h_getR h69 rfl (Nat.le_of_ble_eq_true rfl) rfl q_1002 rfl dX9_sumOf_82 ?_
    refine h_bipush (v := 6) dX9_sumOf_85 rfl ?_
    refine h_iload_n dX9_sumOf_87 rfl 3 rfl ?_
    refine h_i2l dX9_sumOf_88 ?_
    obtain ⟨S70, h71, hf⟩ := hbd_s hf
    refine h_last h71 dX9_sumOf_89 ?_
    refine h_aload_n dX9_sumOf_90 rfl 0 rfl ?_
    obtain ⟨t72, h73, hf⟩ := hbd_s hf
    refine h_getR h73 rfl (Nat.le_of_ble_eq_true rfl) rfl q_1002 rfl dX9_sumOf_91 ?_
    refine h_bipush (v := 7) dX9_sumOf_94 rfl ?_
    refine h_aload_n dX9_sumOf_96 rfl 0 rfl ?_
    obtain ⟨t74, h75, hf⟩ := hbd_s hf
    refine h_getR h75 rfl (Nat.le_of_ble_eq_true rfl) rfl q_961 rfl dX9_sumOf_97 ?_
    refine h_bipush (v := 6) dX9_sumOf_100 rfl ?_
    obtain ⟨t76, h77, hf⟩ := hbd_s hf
    refine h_iald h77 dX9_sumOf_102 ?_
    refine h_iload_n dX9_sumOf_103 rfl 2 rfl ?_
    refine hj_s (fun J78 => ∀ (v79 : Int64), J78 v79 = some r → HW cX9_sumOf RX9 (x_X9_sumOf d S [.ref a0, .int a1, .int a2, .int a3] r cs) 0 0 S70 112 [(0, .ref a0), (1, .int a1), (2, .int a2)] [.long v79, .int 7, .ref t72]) hf ?_ ?_
    · intro v79 hf
      obtain ⟨S80, h81, hf⟩ := hbd_s hf
      refine h_last h81 dX9_sumOf_112 ?_
      refine h_aload_n dX9_sumOf_113 rfl 0 rfl ?_
      obtain ⟨t82, h83, hf⟩ := hbd_s hf
      refine h_getR h83 rfl (Nat.le_of_ble_eq_true rfl) rfl q_1002 rfl dX9_sumOf_114 ?_
      refine h_bipush (v := 8) dX9_sumOf_117 rfl ?_
      refine h_aload_n dX9_sumOf_119 rfl 0 rfl ?_
      refine h_iload_n dX9_sumOf_120 rfl 2 rfl ?_
      obtain ⟨g104, hf⟩ := hck_s hf
      obtain ⟨t86, S85, h84, hf⟩ := hb2_s hf
      refine h_Vi [.int a2] (rest := [.int 8, .ref t82]) (m_X9_edge (d := 1) (cs := cs) (Nat.le_refl _) h84) v_X9_edge q_1332 rfl (Nat.le_trans (by decide) hd) g104 rfl rfl (Nat.le_of_ble_eq_true rfl) dX9_sumOf_121 (Nat.le_refl _) (Nat.le_refl _) ?_
      refine h_i2l dX9_sumOf_124 ?_
      obtain ⟨S87, h88, hf⟩ := hbd_s hf
      refine h_last h88 dX9_sumOf_125 ?_
      refine h_bipush (v := 12) dX9_sumOf_126 rfl ?_
      refine h_iload_n dX9_sumOf_128 rfl 1 rfl ?_
      refine h_imul dX9_sumOf_129 ?_
      refine h_istore (lv2 := [(4, .int (12 * a1)), (0, .ref a0), (1, .int a1), (2, .int a2)]) dX9_sumOf_130 (Nat.le_of_ble_eq_true rfl) rfl ?_
      refine h_sub (lv2 := [(0, .ref a0), (1, .int a1), (4, .int (12 * a1))]) [1, 2, 0] rfl ?_
      refine w_X9_sumOf_L132 hd hfuel a0 a1 (12 * a1) S87 _ _  hf ?_ ?_
      · intro S89 hf
        refine h_lconst (v := 0) dX9_sumOf_215 rfl ?_
        obtain rfl := Option.some.inj hf
        exact h_lret rfl rfl rfl (Nat.le_refl _) (Nat.le_refl _) dX9_sumOf_216
      · intro u90 S91 hf
        refine h_aload_n dX9_sumOf_189 rfl 0 rfl ?_
        refine h_iload_n dX9_sumOf_190 rfl 1 rfl ?_
        refine h_aload_n dX9_sumOf_191 rfl 0 rfl ?_
        obtain ⟨t92, h93, hf⟩ := hbd_s hf
        refine h_getR h93 rfl (Nat.le_of_ble_eq_true rfl) rfl q_998 rfl dX9_sumOf_192 ?_
        refine h_iload dX9_sumOf_195 2 rfl ?_
        obtain ⟨t94, h95, hf⟩ := hbd_s hf
        refine h_iald h95 dX9_sumOf_197 ?_
        refine h_aload_n dX9_sumOf_198 rfl 0 rfl ?_
        obtain ⟨t96, h97, hf⟩ := hbd_s hf
        refine h_getR h97 rfl (Nat.le_of_ble_eq_true rfl) rfl q_999 rfl dX9_sumOf_199 ?_
        refine h_iload dX9_sumOf_202 2 rfl ?_
        obtain ⟨t98, h99, hf⟩ := hbd_s hf
        refine h_iald h99 dX9_sumOf_204 ?_
        obtain ⟨g103, hf⟩ := hck_s hf
        obtain ⟨t102, S101, h100, hf⟩ := hb2_s hf
        refine h_Vl [.int a1, .int t94, .int t98] (rest := []) (m_X9_answer (d := 3) (cs := cs) (Nat.le_refl _) h100) v_X9_answer q_1426 rfl (Nat.le_trans (by decide) hd) g103 rfl rfl (Nat.le_of_ble_eq_true rfl) dX9_sumOf_205 (Nat.le_refl _) (Nat.le_refl _) ?_
        obtain rfl := Option.some.inj hf
        exact h_lret rfl rfl rfl (Nat.le_refl _) (Nat.le_refl _) dX9_sumOf_208
    · intro J78 hJ78 hf
      refine h_icmp_ne (tgt := 111) dX9_sumOf_104 (by decide) (fun c105 => ?_) (fun c105 => ?_)
      · replace hf := hif_n c105 hf
        refine h_lconst (v := 0) dX9_sumOf_111 rfl ?_
        refine h_sub (lv2 := [(0, .ref a0), (1, .int a1), (2, .int a2)]) [0, 1, 2] rfl ?_
        exact hJ78 0 hf
      · replace hf := hif_p c105 hf
        refine h_lconst (v := 1) dX9_sumOf_107 rfl ?_
        refine h_goto (tgt := 112) dX9_sumOf_108 (by decide) ?_
        refine h_sub (lv2 := [(0, .ref a0), (1, .int a1), (2, .int a2)]) [0, 1, 2] rfl ?_
        exact hJ78 1 hf
  · intro J48 hJ48 hf
    refine h_icmp_ne (tgt := 43) dX9_sumOf_36 (by decide) (fun c106 => ?_) (fun c106 => ?_)
    · replace hf := hif_n c106 hf
      refine h_lconst (v := 1) dX9_sumOf_43 rfl ?_
      exact hJ48 1 hf
    · replace hf := hif_p c106 hf
      refine h_lconst (v := 0) dX9_sumOf_39 rfl ?_
      refine h_goto (tgt := 44) dX9_sumOf_40 (by decide) ?_
      exact hJ48 0 hf
abbrev x_X9_spotGoes (d : Nat) (S0 : hS) (args : List Value) (r : hS) (cs : Nat → Nat) : hX := ((none, 9, d, 0, 0, false), (S0, args, none, r), cs)
theorem v_X9_spotGoes : hVW yX9_spotGoes cX9_spotGoes 9 none RX9 1 := ⟨q_1416, q_s78, q_9, q_1417, by decide +kernel, by decide⟩
def f_X9_spotGoes_L18 : Nat → Nat → Int32 → Int32 → Int64 → Int32 → hS → (Int32 → hS → Option (hS)) → Option (hS)
  | 0, _, _, _, _, _, _, _ => none
  | n + 1, x0, x1, x2, x3, x5, S, k0 =>
    if 5 ≤ x5 then
      (k0 x2 S)
    else
      (hbd (gR S x0 9 1) fun t2 =>
       hbd (gA S t2 12 5) fun t4 =>
       hck (S.K x0 = 10) <|
       hb2 (f_X9_by x0 t4 x5 S) fun t8 S7 =>
       if t8 = (-1) then
         (f_X9_spotGoes_L18 n x0 x1 x2 x3 (x5 + 1) S7 k0)
       else
         (hck (S7.K x0 = 10) <|
          hb2 (f_X9_sumOf x0 x1 t8 x5 S7) fun t12 S11 =>
          if (lg_cmp t12 x3) ≤ 0 then
            (f_X9_spotGoes_L18 n x0 x1 x2 x3 (x5 + 1) S11 k0)
          else
            (f_X9_spotGoes_L18 n x0 x1 t8 t12 (x5 + 1) S11 k0)))
def f_X9_spotGoes (a0 : Nat) (a1 : Int32) (S : hS) : Option (hS) :=
  hbd (gR S a0 9 1) fun t16 =>
  hbd (gA S t16 12 5) fun t18 =>
  hck (S.K a0 = 10) <|
  hb2 (f_X9_sumOf a0 a1 t18 0 S) fun t22 S21 =>
  f_X9_spotGoes_L18 hfuel a0 a1 t18 t22 1 S21
    (fun u23 S24 =>
      hbd (gR S24 a0 9 1) fun t25 =>
      hbd (gR S24 a0 9 1) fun t27 =>
      hbd (gA S24 t27 12 5) fun t29 =>
      hbd (sA S24 t25 6 t29) fun S31 =>
      hbd (gR S31 a0 9 1) fun t33 =>
      hbd (sA S31 t33 5 u23) fun S35 =>
      some S35
    )
set_option maxRecDepth 100000 in
set_option maxHeartbeats 4000000 in
theorem w_X9_spotGoes_L18 {d : Nat} {S0 : hS} {args : List Value} {cs : Nat → Nat} {r : hS} (hd : 6 ≤ d) : ∀ (n : Nat) (x0 : Nat) (x1 : Int32) (x2 : Int32) (x3 : Int64) (x5 : Int32) (S : hS) (k0 : (Int32 → hS → Option (hS))) , f_X9_spotGoes_L18 n x0 x1 x2 x3 x5 S k0 = some r → (∀ (y2 : Int32) (T : hS), k0 y2 T = some r → HW cX9_spotGoes RX9 (x_X9_spotGoes d S0 args r cs) 0 0 T 74 [(0, .ref x0), (2, .int y2)] []) → HW cX9_spotGoes RX9 (x_X9_spotGoes d S0 args r cs) 0 0 S 18 [(0, .ref x0), (1, .int x1), (2, .int x2), (3, .long x3), (5, .int x5)] [] := by
  intro n
  induction n with
  | zero =>
    intro x0 x1 x2 x3 x5 S k0 hf
    cases hf
  | succ n ih =>
    intro x0 x1 x2 x3 x5 S k0 hf hk0
    rw [f_X9_spotGoes_L18] at hf
    refine h_iload dX9_spotGoes_18 4 rfl ?_
    refine h_iconst (v := 5) dX9_spotGoes_20 rfl ?_
    refine h_icmp_ge (tgt := 74) dX9_spotGoes_21 (by decide) (fun c1 => ?_) (fun c1 => ?_)
    · replace hf := hif_p c1 hf
      refine h_sub (lv2 := [(0, .ref x0), (2, .int x2)]) [0, 2] rfl ?_
      exact hk0 x2 S hf
    · replace hf := hif_n c1 hf
      refine h_aload_n dX9_spotGoes_24 rfl 0 rfl ?_
      refine h_aload_n dX9_spotGoes_25 rfl 0 rfl ?_
      obtain ⟨t2, h3, hf⟩ := hbd_s hf
      refine h_getR h3 rfl (Nat.le_of_ble_eq_true rfl) rfl q_961 rfl dX9_spotGoes_26 ?_
      refine h_iconst (v := 5) dX9_spotGoes_29 rfl ?_
      obtain ⟨t4, h5, hf⟩ := hbd_s hf
      refine h_iald h5 dX9_spotGoes_30 ?_
      refine h_iload dX9_spotGoes_31 4 rfl ?_
      obtain ⟨g15, hf⟩ := hck_s hf
      obtain ⟨t8, S7, h6, hf⟩ := hb2_s hf
      refine h_Vi [.int t4, .int x5] (rest := []) (m_X9_by (d := 3) (cs := cs) (Nat.le_refl _) h6) v_X9_by q_1398 rfl (Nat.le_trans (by decide) hd) g15 rfl rfl (Nat.le_of_ble_eq_true rfl) dX9_spotGoes_33 (Nat.le_refl _) (Nat.le_refl _) ?_
      refine h_istore (lv2 := [(6, .int t8), (0, .ref x0), (1, .int x1), (2, .int x2), (3, .long x3), (5, .int x5)]) dX9_spotGoes_36 (Nat.le_of_ble_eq_true rfl) rfl ?_
      refine h_iload dX9_spotGoes_38 0 rfl ?_
      refine h_iconst (v := (-1)) dX9_spotGoes_40 rfl ?_
      refine h_icmp_eq (tgt := 68) dX9_spotGoes_41 (by decide) (fun c9 => ?_) (fun c9 => ?_)
      · replace hf := hif_p c9 hf
        refine h_iinc (q := 5) (v := x5 + 1) (lv2 := [(5, .int (x5 + 1)), (6, .int t8), (0, .ref x0), (1, .int x1), (2, .int x2), (3, .long x3)]) dX9_spotGoes_68 rfl rfl (Nat.le_of_ble_eq_true rfl) rfl ?_
        refine h_goto (tgt := 18) dX9_spotGoes_71 (by decide) ?_
        refine h_sub (lv2 := [(0, .ref x0), (1, .int x1), (2, .int x2), (3, .long x3), (5, .int (x5 + 1))]) [2, 3, 4, 5, 0] rfl ?_
        exact ih x0 x1 x2 x3 (x5 + 1) S7 k0  hf hk0
      · replace hf := hif_n c9 hf
        refine h_aload_n dX9_spotGoes_44 rfl 1 rfl ?_
        refine h_iload_n dX9_spotGoes_45 rfl 2 rfl ?_
        refine h_iload dX9_spotGoes_46 0 rfl ?_
        refine h_iload dX9_spotGoes_48 5 rfl ?_
        obtain ⟨g14, hf⟩ := hck_s hf
        obtain ⟨t12, S11, h10, hf⟩ := hb2_s hf
        refine h_Vl [.int x1, .int t8, .int x5] (rest := []) (m_X9_sumOf (d := 5) (cs := cs) (Nat.le_refl _) h10) v_X9_sumOf q_1418 rfl (Nat.le_trans (by decide) hd) g14 rfl rfl (Nat.le_of_ble_eq_true rfl) dX9_spotGoes_50 (Nat.le_refl _) (Nat.le_refl _) ?_
        refine h_lstore (lv2 := [(7, .long t12), (6, .int t8), (0, .ref x0), (1, .int x1), (2, .int x2), (3, .long x3), (5, .int x5)]) dX9_spotGoes_53 (Nat.le_of_ble_eq_true rfl) rfl ?_
        refine h_lload dX9_spotGoes_55 0 rfl ?_
        refine h_lload_n dX9_spotGoes_57 rfl 5 rfl ?_
        refine h_lcmp dX9_spotGoes_58 ?_
        refine h_if_le (tgt := 68) dX9_spotGoes_59 (by decide) (fun c13 => ?_) (fun c13 => ?_)
        · replace hf := hif_p c13 hf
          refine h_iinc (q := 6) (v := x5 + 1) (lv2 := [(5, .int (x5 + 1)), (7, .long t12), (6, .int t8), (0, .ref x0), (1, .int x1), (2, .int x2), (3, .long x3)]) dX9_spotGoes_68 rfl rfl (Nat.le_of_ble_eq_true rfl) rfl ?_
          refine h_goto (tgt := 18) dX9_spotGoes_71 (by decide) ?_
          refine h_sub (lv2 := [(0, .ref x0), (1, .int x1), (2, .int x2), (3, .long x3), (5, .int (x5 + 1))]) [3, 4, 5, 6, 0] rfl ?_
          exact ih x0 x1 x2 x3 (x5 + 1) S11 k0  hf hk0
        · replace hf := hif_n c13 hf
          refine h_iload dX9_spotGoes_62 1 rfl ?_
          refine h_istore_n (lv2 := [(2, .int t8), (7, .long t12), (6, .int t8), (0, .ref x0), (1, .int x1), (3, .long x3), (5, .int x5)]) dX9_spotGoes_64 rfl (Nat.le_of_ble_eq_true rfl) rfl ?_
          refine h_lload dX9_spotGoes_65 1 rfl ?_
          refine h_lstore_n (lv2 := [(3, .long t12), (2, .int t8), (7, .long t12), (6, .int t8), (0, .ref x0), (1, .int x1), (5, .int x5)]) dX9_spotGoes_67 rfl (Nat.le_of_ble_eq_true rfl) rfl ?_
          refine h_iinc (q := 6) (v := x5 + 1) (lv2 := [(5, .int (x5 + 1)), (3, .long t12), (2, .int t8), (7, .long t12), (6, .int t8), (0, .ref x0), (1, .int x1)]) dX9_spotGoes_68 rfl rfl (Nat.le_of_ble_eq_true rfl) rfl ?_
          refine h_goto (tgt := 18) dX9_spotGoes_71 (by decide) ?_
          refine h_sub (lv2 := [(0, .ref x0), (1, .int x1), (2, .int t8), (3, .long t12), (5, .int (x5 + 1))]) [5, 6, 2, 1, 0] rfl ?_
          exact ih x0 x1 t8 t12 (x5 + 1) S11 k0  hf hk0
set_option maxRecDepth 100000 in
set_option maxHeartbeats 4000000 in
theorem m_X9_spotGoes {d : Nat} {cs : Nat → Nat} {a0 : Nat} {a1 : Int32} {S : hS} {r : hS} (hd : 6 ≤ d) (hf : f_X9_spotGoes a0 a1 S = some r) : HM yX9_spotGoes cX9_spotGoes 9 none d 0 0 cs [.ref a0, .int a1] S (none) r := by
  unfold f_X9_spotGoes at hf
  refine HM.ofHW false (by decide) (fun h => by cases h) (Nat.le_of_ble_eq_true rfl) ?_
  show HW cX9_spotGoes RX9 (x_X9_spotGoes d S [.ref a0, .int a1] r cs) 0 0 S 0 [(0, .ref a0), (1, .int a1)] []
  refine h_aload_n dX9_spotGoes_0 rfl 0 rfl ?_
  obtain ⟨t16, h17, hf⟩ := hbd_s hf
  refine h_getR h17 rfl (Nat.le_of_ble_eq_true rfl) rfl q_961 rfl dX9_spotGoes_1 ?_
  refine h_iconst (v := 5) dX9_spotGoes_4 rfl ?_
  obtain ⟨t18, h19, hf⟩ := hbd_s hf
  refine h_iald h19 dX9_spotGoes_5 ?_
  refine h_istore_n (lv2 := [(2, .int t18), (0, .ref a0), (1, .int a1)]) dX9_spotGoes_6 rfl (Nat.le_of_ble_eq_true rfl) rfl ?_
  refine h_aload_n dX9_spotGoes_7 rfl 1 rfl ?_
  refine h_iload_n dX9_spotGoes_8 rfl 2 rfl ?_
  refine h_iload_n dX9_spotGoes_9 rfl 0 rfl ?_
  refine h_iconst (v := 0) dX9_spotGoes_10 rfl ?_
  obtain ⟨g37, hf⟩ := hck_s hf
  obtain ⟨t22, S21, h20, hf⟩ := hb2_s hf
  refine h_Vl [.int a1, .int t18, .int 0] (rest := []) (m_X9_sumOf (d := 5) (cs := cs) (Nat.le_refl _) h20) v_X9_sumOf q_1418 rfl (Nat.le_trans (by decide) hd) g37 rfl rfl (Nat.le_of_ble_eq_true rfl) dX9_spotGoes_11 (Nat.le_refl _) (Nat.le_refl _) ?_
  refine h_lstore_n (lv2 := [(3, .long t22), (2, .int t18), (0, .ref a0), (1, .int a1)]) dX9_spotGoes_14 rfl (Nat.le_of_ble_eq_true rfl) rfl ?_
  refine h_iconst (v := 1) dX9_spotGoes_15 rfl ?_
  refine h_istore (lv2 := [(5, .int 1), (3, .long t22), (2, .int t18), (0, .ref a0), (1, .int a1)]) dX9_spotGoes_16 (Nat.le_of_ble_eq_true rfl) rfl ?_
  refine h_sub (lv2 := [(0, .ref a0), (1, .int a1), (2, .int t18), (3, .long t22), (5, .int 1)]) [3, 4, 2, 1, 0] rfl ?_
  refine w_X9_spotGoes_L18 hd hfuel a0 a1 t18 t22 1 S21 _  hf ?_
  · intro u23 S24 hf
    refine h_aload_n dX9_spotGoes_74 rfl 0 rfl ?_
    obtain ⟨t25, h26, hf⟩ := hbd_s hf
    refine h_getR h26 rfl (Nat.le_of_ble_eq_true rfl) rfl q_961 rfl dX9_spotGoes_75 ?_
    refine h_bipush (v := 6) dX9_spotGoes_78 rfl ?_
    refine h_aload_n dX9_spotGoes_80 rfl 0 rfl ?_
    obtain ⟨t27, h28, hf⟩ := hbd_s hf
    refine h_getR h28 rfl (Nat.le_of_ble_eq_true rfl) rfl q_961 rfl dX9_spotGoes_81 ?_
    refine h_iconst (v := 5) dX9_spotGoes_84 rfl ?_
    obtain ⟨t29, h30, hf⟩ := hbd_s hf
    refine h_iald h30 dX9_spotGoes_85 ?_
    obtain ⟨S31, h32, hf⟩ := hbd_s hf
    refine h_iast h32 dX9_spotGoes_86 ?_
    refine h_aload_n dX9_spotGoes_87 rfl 0 rfl ?_
    obtain ⟨t33, h34, hf⟩ := hbd_s hf
    refine h_getR h34 rfl (Nat.le_of_ble_eq_true rfl) rfl q_961 rfl dX9_spotGoes_88 ?_
    refine h_iconst (v := 5) dX9_spotGoes_91 rfl ?_
    refine h_iload_n dX9_spotGoes_92 rfl 1 rfl ?_
    obtain ⟨S35, h36, hf⟩ := hbd_s hf
    refine h_iast h36 dX9_spotGoes_93 ?_
    obtain rfl := Option.some.inj hf
    exact h_vret rfl rfl rfl (Nat.le_refl _) (Nat.le_refl _) dX9_spotGoes_94
abbrev x_X9_minute (d : Nat) (S0 : hS) (args : List Value) (r : hS) (cs : Nat → Nat) : hX := ((none, 4, d, 0, 0, false), (S0, args, none, r), cs)
theorem v_X9_minute : hVW yX9_minute cX9_minute 4 none RX9 1 := ⟨q_1388, q_s71, q_9, q_1389, by decide +kernel, by decide⟩
def f_X9_minute_L61 : Nat → Nat → Int32 → hS → (hS → Option (hS)) → Option (hS)
  | 0, _, _, _, _ => none
  | n + 1, x0, x3, S, k0 =>
    if x3 ≤ 0 then
      (k0 S)
    else
      (hbd (gR S x0 9 12) fun t2 =>
       hbd (gR S x0 9 12) fun t4 =>
       hbd (gA S t4 12 (x3 - 1)) fun t6 =>
       hbd (sA S t2 x3 t6) fun S8 =>
       f_X9_minute_L61 n x0 (x3 + (-1)) S8 k0)
def f_X9_minute (a0 : Nat) (a1 : Int32) (S : hS) : Option (hS) :=
  hck (S.K a0 = 10) <|
  hbd (f_X9_guestsGive a0 S) fun S11 =>
  hck (S11.K a0 = 10) <|
  hbd (f_X9_fansBlow a0 S11) fun S13 =>
  hck (S13.K a0 = 10) <|
  hbd (f_X9_snowMelts a0 S13) fun S15 =>
  hck (S15.K a0 = 10) <|
  hbd (f_X9_heatSpreads a0 S15) fun S17 =>
  hck (S17.K a0 = 10) <|
  hbd (f_X9_spotGoes a0 a1 S17) fun S19 =>
  hbd (gR S19 a0 9 1) fun t20 =>
  hbd (gA S19 t20 12 7) fun t22 =>
  hbd (sA S19 t20 7 (t22 + 1)) fun S24 =>
  hbd (gR S24 a0 9 1) fun t26 =>
  hbd (gA S24 t26 12 5) fun t28 =>
  hck (S24.K a0 = 10) <|
  hb2 (f_X9_whoAt a0 t28 S24) fun t32 S31 =>
  hj (γ := hS → Option (hS)) (fun (S34 : hS) =>
    f_X9_minute_L61 hfuel a0 119 S34
      (fun S35 =>
        hbd (gR S35 a0 9 12) fun t36 =>
        hbd (gR S35 a0 9 1) fun t38 =>
        hbd (gA S35 t38 12 5) fun t40 =>
        hbd (sA S35 t36 0 t40) fun S42 =>
        hbd (gR S42 a0 9 1) fun t44 =>
        hbd (gA S42 t44 12 12) fun t46 =>
        hbd (gR S42 a0 9 1) fun t48 =>
        hbd (gA S42 t48 12 12) fun t50 =>
        hj (γ := Int32 → Option (hS)) (fun (v53 : Int32) =>
          hbd (sA S42 t44 12 (t46 + v53)) fun S54 =>
          some S54
          ) fun J52 =>
        if 120 ≤ t50 then
          (J52 0)
        else
          (J52 1)
      )
    ) fun J33 =>
  if t32 = (-1) then
    (J33 S31)
  else
    (hbd (gR S31 a0 9 6) fun t58 =>
     hbd (gA S31 t58 12 t32) fun t60 =>
     hbd (sA S31 t58 t32 (t60 + 1)) fun S62 =>
     J33 S62)
set_option maxRecDepth 100000 in
set_option maxHeartbeats 4000000 in
theorem w_X9_minute_L61 {d : Nat} {S0 : hS} {args : List Value} {cs : Nat → Nat} {r : hS} (hd : 7 ≤ d) : ∀ (n : Nat) (x0 : Nat) (x3 : Int32) (S : hS) (k0 : (hS → Option (hS))) , f_X9_minute_L61 n x0 x3 S k0 = some r → (∀ (T : hS), k0 T = some r → HW cX9_minute RX9 (x_X9_minute d S0 args r cs) 0 0 T 85 [(0, .ref x0)] []) → HW cX9_minute RX9 (x_X9_minute d S0 args r cs) 0 0 S 61 [(0, .ref x0), (3, .int x3)] [] := by
  intro n
  induction n with
  | zero =>
    intro x0 x3 S k0 hf
    cases hf
  | succ n ih =>
    intro x0 x3 S k0 hf hk0
    rw [f_X9_minute_L61] at hf
    refine h_iload_n dX9_minute_61 rfl 1 rfl ?_
    refine h_if_le (tgt := 85) dX9_minute_62 (by decide) (fun c1 => ?_) (fun c1 => ?_)
    · replace hf := hif_p c1 hf
      refine h_sub (lv2 := [(0, .ref x0)]) [0] rfl ?_
      exact hk0 S hf
    · replace hf := hif_n c1 hf
      refine h_aload_n dX9_minute_65 rfl 0 rfl ?_
      obtain ⟨t2, h3, hf⟩ := hbd_s hf
      refine h_getR h3 rfl (Nat.le_of_ble_eq_true rfl) rfl q_972 rfl dX9_minute_66 ?_
      refine h_iload_n dX9_minute_69 rfl 1 rfl ?_
      refine h_aload_n dX9_minute_70 rfl 0 rfl ?_
      obtain ⟨t4, h5, hf⟩ := hbd_s hf
      refine h_getR h5 rfl (Nat.le_of_ble_eq_true rfl) rfl q_972 rfl dX9_minute_71 ?_
      refine h_iload_n dX9_minute_74 rfl 1 rfl ?_
      refine h_iconst (v := 1) dX9_minute_75 rfl ?_
      refine h_isub dX9_minute_76 ?_
      obtain ⟨t6, h7, hf⟩ := hbd_s hf
      refine h_iald h7 dX9_minute_77 ?_
      obtain ⟨S8, h9, hf⟩ := hbd_s hf
      refine h_iast h9 dX9_minute_78 ?_
      refine h_iinc (q := 1) (v := x3 + (-1)) (lv2 := [(3, .int (x3 + (-1))), (0, .ref x0)]) dX9_minute_79 rfl rfl (Nat.le_of_ble_eq_true rfl) rfl ?_
      refine h_goto (tgt := 61) dX9_minute_82 (by decide) ?_
      refine h_sub (lv2 := [(0, .ref x0), (3, .int (x3 + (-1)))]) [1, 0] rfl ?_
      exact ih x0 (x3 + (-1)) S8 k0  hf hk0
set_option maxRecDepth 100000 in
set_option maxHeartbeats 4000000 in
theorem m_X9_minute {d : Nat} {cs : Nat → Nat} {a0 : Nat} {a1 : Int32} {S : hS} {r : hS} (hd : 7 ≤ d) (hf : f_X9_minute a0 a1 S = some r) : HM yX9_minute cX9_minute 4 none d 0 0 cs [.ref a0, .int a1] S (none) r := by
  unfold f_X9_minute at hf
  refine HM.ofHW false (by decide) (fun h => by cases h) (Nat.le_of_ble_eq_true rfl) ?_
  show HW cX9_minute RX9 (x_X9_minute d S [.ref a0, .int a1] r cs) 0 0 S 0 [(0, .ref a0), (1, .int a1)] []
  refine h_aload_n dX9_minute_0 rfl 0 rfl ?_
  obtain ⟨g69, hf⟩ := hck_s hf
  obtain ⟨S11, h10, hf⟩ := hbd_s hf
  refine h_Vv [] (rest := []) (m_X9_guestsGive (d := 1) (cs := cs) (Nat.le_refl _) h10) v_X9_guestsGive q_1390 rfl (Nat.le_trans (by decide) hd) g69 rfl rfl (Nat.le_of_ble_eq_true rfl) dX9_minute_1 (Nat.le_refl _) (Nat.le_refl _) ?_
  refine h_aload_n dX9_minute_4 rfl 0 rfl ?_
  obtain ⟨g68, hf⟩ := hck_s hf
  obtain ⟨S13, h12, hf⟩ := hbd_s hf
  refine h_Vv [] (rest := []) (m_X9_fansBlow (d := 4) (cs := cs) (Nat.le_refl _) h12) v_X9_fansBlow q_1394 rfl (Nat.le_trans (by decide) hd) g68 rfl rfl (Nat.le_of_ble_eq_true rfl) dX9_minute_5 (Nat.le_refl _) (Nat.le_refl _) ?_
  refine h_aload_n dX9_minute_8 rfl 0 rfl ?_
  obtain ⟨g67, hf⟩ := hck_s hf
  obtain ⟨S15, h14, hf⟩ := hbd_s hf
  refine h_Vv [] (rest := []) (m_X9_snowMelts (d := 1) (cs := cs) (Nat.le_refl _) h14) v_X9_snowMelts q_1402 rfl (Nat.le_trans (by decide) hd) g67 rfl rfl (Nat.le_of_ble_eq_true rfl) dX9_minute_9 (Nat.le_refl _) (Nat.le_refl _) ?_
  refine h_aload_n dX9_minute_12 rfl 0 rfl ?_
  obtain ⟨g66, hf⟩ := hck_s hf
  obtain ⟨S17, h16, hf⟩ := hbd_s hf
  refine h_Vv [] (rest := []) (m_X9_heatSpreads (d := 4) (cs := cs) (Nat.le_refl _) h16) v_X9_heatSpreads q_1406 rfl (Nat.le_trans (by decide) hd) g66 rfl rfl (Nat.le_of_ble_eq_true rfl) dX9_minute_13 (Nat.le_refl _) (Nat.le_refl _) ?_
  refine h_aload_n dX9_minute_16 rfl 0 rfl ?_
  refine h_iload_n dX9_minute_17 rfl 1 rfl ?_
  obtain ⟨g65, hf⟩ := hck_s hf
  obtain ⟨S19, h18, hf⟩ := hbd_s hf
  refine h_Vv [.int a1] (rest := []) (m_X9_spotGoes (d := 6) (cs := cs) (Nat.le_refl _) h18) v_X9_spotGoes q_1414 rfl (Nat.le_trans (by decide) hd) g65 rfl rfl (Nat.le_of_ble_eq_true rfl) dX9_minute_18 (Nat.le_refl _) (Nat.le_refl _) ?_
  refine h_aload_n dX9_minute_21 rfl 0 rfl ?_
  obtain ⟨t20, h21, hf⟩ := hbd_s hf
  refine h_getR h21 rfl (Nat.le_of_ble_eq_true rfl) rfl q_961 rfl dX9_minute_22 ?_
  refine h_bipush (v := 7) dX9_minute_25 rfl ?_
  refine h_dup2 dX9_minute_27 rfl rfl ?_
  obtain ⟨t22, h23, hf⟩ := hbd_s hf
  refine h_iald h23 dX9_minute_28 ?_
  refine h_iconst (v := 1) dX9_minute_29 rfl ?_
  refine h_iadd dX9_minute_30 ?_
  obtain ⟨S24, h25, hf⟩ := hbd_s hf
  refine h_iast h25 dX9_minute_31 ?_
  refine h_aload_n dX9_minute_32 rfl 0 rfl ?_
  refine h_aload_n dX9_minute_33 rfl 0 rfl ?_
  obtain ⟨t26, h27, hf⟩ := hbd_s hf
  refine h_getR h27 rfl (Nat.le_of_ble_eq_true rfl) rfl q_961 rfl dX9_minute_34 ?_
  refine h_iconst (v := 5) dX9_minute_37 rfl ?_
  obtain ⟨t28, h29, hf⟩ := hbd_s hf
  refine h_iald h29 dX9_minute_38 ?_
  obtain ⟨g64, hf⟩ := hck_s hf
  obtain ⟨t32, S31, h30, hf⟩ := hb2_s hf
  refine h_Vi [.int t28] (rest := []) (m_X9_whoAt (d := 1) (cs := cs) (Nat.le_refl _) h30) v_X9_whoAt q_1328 rfl (Nat.le_trans (by decide) hd) g64 rfl rfl (Nat.le_of_ble_eq_true rfl) dX9_minute_39 (Nat.le_refl _) (Nat.le_refl _) ?_
  refine h_istore_n (lv2 := [(2, .int t32), (0, .ref a0), (1, .int a1)]) dX9_minute_42 rfl (Nat.le_of_ble_eq_true rfl) rfl ?_
  refine h_iload_n dX9_minute_43 rfl 0 rfl ?_
  refine h_iconst (v := (-1)) dX9_minute_44 rfl ?_
  refine hj_s (fun J33 => ∀ (S34 : hS), J33 S34 = some r → HW cX9_minute RX9 (x_X9_minute d S [.ref a0, .int a1] r cs) 0 0 S34 58 [(0, .ref a0)] []) hf ?_ ?_
  · intro S34 hf
    refine h_bipush (v := 119) dX9_minute_58 rfl ?_
    refine h_istore_n (lv2 := [(3, .int 119), (0, .ref a0)]) dX9_minute_60 rfl (Nat.le_of_ble_eq_true rfl) rfl ?_
    refine h_sub (lv2 := [(0, .ref a0), (3, .int 119)]) [1, 0] rfl ?_
    refine w_X9_minute_L61 hd hfuel a0 119 S34 _  hf ?_
    · intro S35 hf
      refine h_aload_n dX9_minute_85 rfl 0 rfl ?_
      obtain ⟨t36, h37, hf⟩ := hbd_s hf
      refine h_getR h37 rfl (Nat.le_of_ble_eq_true rfl) rfl q_972 rfl dX9_minute_86 ?_
      refine h_iconst (v := 0) dX9_minute_89 rfl ?_
      refine h_aload_n dX9_minute_90 rfl 0 rfl ?_
      obtain ⟨t38, h39, hf⟩ := hbd_s hf
      refine h_getR h39 rfl (Nat.le_of_ble_eq_true rfl) rfl q_961 rfl dX9_minute_91 ?_
      refine h_iconst (v := 5) dX9_minute_94 rfl ?_
      obtain ⟨t40, h41, hf⟩ := hbd_s hf
      refine h_iald h41 dX9_minute_95 ?_
      obtain ⟨S42, h43, hf⟩ := hbd_s hf
      refine h_iast h43 dX9_minute_96 ?_
      refine h_aload_n dX9_minute_97 rfl 0 rfl ?_
      obtain ⟨t44, h45, hf⟩ := hbd_s hf
      refine h_getR h45 rfl (Nat.le_of_ble_eq_true rfl) rfl q_961 rfl dX9_minute_98 ?_
      refine h_bipush (v := 12) dX9_minute_101 rfl ?_
      refine h_dup2 dX9_minute_103 rfl rfl ?_
      obtain ⟨t46, h47, hf⟩ := hbd_s hf
      refine h_iald h47 dX9_minute_104 ?_
      refine h_aload_n dX9_minute_105 rfl 0 rfl ?_
      obtain ⟨t48, h49, hf⟩ := hbd_s hf
      refine h_getR h49 rfl (Nat.le_of_ble_eq_true rfl) rfl q_961 rfl dX9_minute_106 ?_
      refine h_bipush (v := 12) dX9_minute_109 rfl ?_
      obtain ⟨t50, h51, hf⟩ := hbd_s hf
      refine h_iald h51 dX9_minute_111 ?_
      refine h_bipush (v := 120) dX9_minute_112 rfl ?_
      refine hj_s (fun J52 => ∀ (v53 : Int32), J52 v53 = some r → HW cX9_minute RX9 (x_X9_minute d S [.ref a0, .int a1] r cs) 0 0 S42 122 [] [.int v53, .int t46, .int 12, .ref t44]) hf ?_ ?_
      · intro v53 hf
        refine h_iadd dX9_minute_122 ?_
        obtain ⟨S54, h55, hf⟩ := hbd_s hf
        refine h_iast h55 dX9_minute_123 ?_
        obtain rfl := Option.some.inj hf
        exact h_vret rfl rfl rfl (Nat.le_refl _) (Nat.le_refl _) dX9_minute_124
      · intro J52 hJ52 hf
        refine h_icmp_ge (tgt := 121) dX9_minute_114 (by decide) (fun c56 => ?_) (fun c56 => ?_)
        · replace hf := hif_p c56 hf
          refine h_iconst (v := 0) dX9_minute_121 rfl ?_
          refine h_sub (lv2 := []) [] rfl ?_
          exact hJ52 0 hf
        · replace hf := hif_n c56 hf
          refine h_iconst (v := 1) dX9_minute_117 rfl ?_
          refine h_goto (tgt := 122) dX9_minute_118 (by decide) ?_
          refine h_sub (lv2 := []) [] rfl ?_
          exact hJ52 1 hf
  · intro J33 hJ33 hf
    refine h_icmp_eq (tgt := 58) dX9_minute_45 (by decide) (fun c57 => ?_) (fun c57 => ?_)
    · replace hf := hif_p c57 hf
      refine h_sub (lv2 := [(0, .ref a0)]) [1] rfl ?_
      exact hJ33 S31 hf
    · replace hf := hif_n c57 hf
      refine h_aload_n dX9_minute_48 rfl 1 rfl ?_
      obtain ⟨t58, h59, hf⟩ := hbd_s hf
      refine h_getR h59 rfl (Nat.le_of_ble_eq_true rfl) rfl q_966 rfl dX9_minute_49 ?_
      refine h_iload_n dX9_minute_52 rfl 0 rfl ?_
      refine h_dup2 dX9_minute_53 rfl rfl ?_
      obtain ⟨t60, h61, hf⟩ := hbd_s hf
      refine h_iald h61 dX9_minute_54 ?_
      refine h_iconst (v := 1) dX9_minute_55 rfl ?_
      refine h_iadd dX9_minute_56 ?_
      obtain ⟨S62, h63, hf⟩ := hbd_s hf
      refine h_iast h63 dX9_minute_57 ?_
      refine h_sub (lv2 := [(0, .ref a0)]) [1] rfl ?_
      exact hJ33 S62 hf
abbrev x_X9_tick (d : Nat) (S0 : hS) (args : List Value) (r : Int32 × hS) (cs : Nat → Nat) : hX := (((some .int), 4, d, 0, 0, false), (S0, args, some (.int r.1), r.2), cs)
theorem v_X9_tick : hVW yX9_tick cX9_tick 4 (some .int) RX9 2 := ⟨q_1374, q_1375, q_9, q_1376, by decide +kernel, by decide⟩
def f_X9_tick_L46 : Nat → Nat → Int32 → Int32 → Int32 → hS → (hS → Option (Int32 × hS)) → Option (Int32 × hS)
  | 0, _, _, _, _, _, _ => none
  | n + 1, x0, x1, x2, x3, S, k0 =>
    if x2 ≤ x3 then
      (k0 S)
    else
      (hck (S.K x0 = 10) <|
       hbd (f_X9_minute x0 x1 S) fun S3 =>
       f_X9_tick_L46 n x0 x1 x2 (x3 + 1) S3 k0)
def f_X9_tick (a0 : Nat) (a1 : Int32) (a2 : Int32) (S : hS) : Option (Int32 × hS) :=
  hck (S.K a0 = 10) <|
  hb2 (f_X9_isHall a0 S) fun t7 S6 =>
  if t7 = 0 then
    (some ((-1), S6))
  else
    (hck (S6.K a0 = 10) <|
     hb2 (f_X9_isLaw a0 a1 S6) fun t11 S10 =>
     if t11 = 0 then
       (some ((-1), S10))
     else
       (hb2 (f_X9_in (Int32.toInt64 a2) 1 120 S10) fun t15 S14 =>
        if t15 = 0 then
          (some ((-1), S14))
        else
          (hbd (gR S14 a0 9 1) fun t17 =>
           hbd (gA S14 t17 12 7) fun t19 =>
           if (t19 + a2) ≤ 9999 then
             (f_X9_tick_L46 hfuel a0 a1 a2 0 S14
                (fun S22 =>
                  hbd (gR S22 a0 9 1) fun t23 =>
                  hbd (gA S22 t23 12 7) fun t25 =>
                  some (t25, S22)
                ))
           else
             (some ((-1), S14)))))
set_option maxRecDepth 100000 in
set_option maxHeartbeats 4000000 in
theorem w_X9_tick_L46 {d : Nat} {S0 : hS} {args : List Value} {cs : Nat → Nat} {r : Int32 × hS} (hd : 8 ≤ d) : ∀ (n : Nat) (x0 : Nat) (x1 : Int32) (x2 : Int32) (x3 : Int32) (S : hS) (k0 : (hS → Option (Int32 × hS))) , f_X9_tick_L46 n x0 x1 x2 x3 S k0 = some r → (∀ (T : hS), k0 T = some r → HW cX9_tick RX9 (x_X9_tick d S0 args r cs) 0 0 T 62 [(0, .ref x0)] []) → HW cX9_tick RX9 (x_X9_tick d S0 args r cs) 0 0 S 46 [(0, .ref x0), (1, .int x1), (2, .int x2), (3, .int x3)] [] := by
  intro n
  induction n with
  | zero =>
    intro x0 x1 x2 x3 S k0 hf
    cases hf
  | succ n ih =>
    intro x0 x1 x2 x3 S k0 hf hk0
    rw [f_X9_tick_L46] at hf
    refine h_iload_n dX9_tick_46 rfl 3 rfl ?_
    refine h_iload_n dX9_tick_47 rfl 2 rfl ?_
    refine h_icmp_ge (tgt := 62) dX9_tick_48 (by decide) (fun c1 => ?_) (fun c1 => ?_)
    · replace hf := hif_p c1 hf
      refine h_sub (lv2 := [(0, .ref x0)]) [0] rfl ?_
      exact hk0 S hf
    · replace hf := hif_n c1 hf
      refine h_aload_n dX9_tick_51 rfl 0 rfl ?_
      refine h_iload_n dX9_tick_52 rfl 1 rfl ?_
      obtain ⟨g4, hf⟩ := hck_s hf
      obtain ⟨S3, h2, hf⟩ := hbd_s hf
      refine h_Vv [.int x1] (rest := []) (m_X9_minute (d := 7) (cs := cs) (Nat.le_refl _) h2) v_X9_minute q_1386 rfl (Nat.le_trans (by decide) hd) g4 rfl rfl (Nat.le_of_ble_eq_true rfl) dX9_tick_53 (Nat.le_refl _) (Nat.le_refl _) ?_
      refine h_iinc (q := 3) (v := x3 + 1) (lv2 := [(3, .int (x3 + 1)), (0, .ref x0), (1, .int x1), (2, .int x2)]) dX9_tick_56 rfl rfl (Nat.le_of_ble_eq_true rfl) rfl ?_
      refine h_goto (tgt := 46) dX9_tick_59 (by decide) ?_
      refine h_sub (lv2 := [(0, .ref x0), (1, .int x1), (2, .int x2), (3, .int (x3 + 1))]) [1, 2, 3, 0] rfl ?_
      exact ih x0 x1 x2 (x3 + 1) S3 k0  hf hk0
set_option maxRecDepth 100000 in
set_option maxHeartbeats 4000000 in
theorem m_X9_tick {d : Nat} {cs : Nat → Nat} {a0 : Nat} {a1 : Int32} {a2 : Int32} {S : hS} {r : Int32 × hS} (hd : 8 ≤ d) (hf : f_X9_tick a0 a1 a2 S = some r) : HM yX9_tick cX9_tick 4 (some .int) d 0 0 cs [.ref a0, .int a1, .int a2] S (some (.int r.1)) r.2 := by
  unfold f_X9_tick at hf
  refine HM.ofHW false (by decide) (fun h => by cases h) (Nat.le_of_ble_eq_true rfl) ?_
  show HW cX9_tick RX9 (x_X9_tick d S [.ref a0, .int a1, .int a2] r cs) 0 0 S 0 [(0, .ref a0), (1, .int a1), (2, .int a2)] []
  refine h_aload_n dX9_tick_0 rfl 0 rfl ?_
  obtain ⟨g28, hf⟩ := hck_s hf
  obtain ⟨t7, S6, h5, hf⟩ := hb2_s hf
  refine h_Vi [] (rest := []) (m_X9_isHall (d := 1) (cs := cs) (Nat.le_refl _) h5) v_X9_isHall q_1377 rfl (Nat.le_trans (by decide) hd) g28 rfl rfl (Nat.le_of_ble_eq_true rfl) dX9_tick_1 (Nat.le_refl _) (Nat.le_refl _) ?_
  refine h_if_eq (tgt := 42) dX9_tick_4 (by decide) (fun c8 => ?_) (fun c8 => ?_)
  · replace hf := hif_p c8 hf
    refine h_iconst (v := (-1)) dX9_tick_42 rfl ?_
    obtain rfl := Option.some.inj hf
    exact h_iret rfl rfl rfl (Nat.le_refl _) (Nat.le_refl _) dX9_tick_43
  · replace hf := hif_n c8 hf
    refine h_aload_n dX9_tick_7 rfl 0 rfl ?_
    refine h_iload_n dX9_tick_8 rfl 1 rfl ?_
    obtain ⟨g27, hf⟩ := hck_s hf
    obtain ⟨t11, S10, h9, hf⟩ := hb2_s hf
    refine h_Vi [.int a1] (rest := []) (m_X9_isLaw (d := 2) (cs := cs) (Nat.le_refl _) h9) v_X9_isLaw q_1381 rfl (Nat.le_trans (by decide) hd) g27 rfl rfl (Nat.le_of_ble_eq_true rfl) dX9_tick_9 (Nat.le_refl _) (Nat.le_refl _) ?_
    refine h_if_eq (tgt := 42) dX9_tick_12 (by decide) (fun c12 => ?_) (fun c12 => ?_)
    · replace hf := hif_p c12 hf
      refine h_iconst (v := (-1)) dX9_tick_42 rfl ?_
      obtain rfl := Option.some.inj hf
      exact h_iret rfl rfl rfl (Nat.le_refl _) (Nat.le_refl _) dX9_tick_43
    · replace hf := hif_n c12 hf
      refine h_iload_n dX9_tick_15 rfl 2 rfl ?_
      refine h_i2l dX9_tick_16 ?_
      refine h_lconst (v := 1) dX9_tick_17 rfl ?_
      refine h_ldc2 (v := 120) dX9_tick_18 q_1385 ?_
      obtain ⟨t15, S14, h13, hf⟩ := hb2_s hf
      refine h_Si [.long (Int32.toInt64 a2), .long 1, .long 120] (rest := []) (m_X9_in (d := 1) (cs := cs) (Nat.le_refl _) h13) v_X9_in q_1225 rfl (Nat.le_trans (by decide) hd) rfl (Nat.le_of_ble_eq_true rfl) dX9_tick_21 (Nat.le_refl _) (Nat.le_refl _) ?_
      refine h_if_eq (tgt := 42) dX9_tick_24 (by decide) (fun c16 => ?_) (fun c16 => ?_)
      · replace hf := hif_p c16 hf
        refine h_iconst (v := (-1)) dX9_tick_42 rfl ?_
        obtain rfl := Option.some.inj hf
        exact h_iret rfl rfl rfl (Nat.le_refl _) (Nat.le_refl _) dX9_tick_43
      · replace hf := hif_n c16 hf
        refine h_aload_n dX9_tick_27 rfl 0 rfl ?_
        obtain ⟨t17, h18, hf⟩ := hbd_s hf
        refine h_getR h18 rfl (Nat.le_of_ble_eq_true rfl) rfl q_961 rfl dX9_tick_28 ?_
        refine h_bipush (v := 7) dX9_tick_31 rfl ?_
        obtain ⟨t19, h20, hf⟩ := hbd_s hf
        refine h_iald h20 dX9_tick_33 ?_
        refine h_iload_n dX9_tick_34 rfl 2 rfl ?_
        refine h_iadd dX9_tick_35 ?_
        refine h_sipush (v := 9999) dX9_tick_36 rfl ?_
        refine h_icmp_le (tgt := 44) dX9_tick_39 (by decide) (fun c21 => ?_) (fun c21 => ?_)
        · replace hf := hif_p c21 hf
          refine h_iconst (v := 0) dX9_tick_44 rfl ?_
          refine h_istore_n (lv2 := [(3, .int 0), (0, .ref a0), (1, .int a1), (2, .int a2)]) dX9_tick_45 rfl (Nat.le_of_ble_eq_true rfl) rfl ?_
          refine h_sub (lv2 := [(0, .ref a0), (1, .int a1), (2, .int a2), (3, .int 0)]) [1, 2, 3, 0] rfl ?_
          refine w_X9_tick_L46 hd hfuel a0 a1 a2 0 S14 _  hf ?_
          · intro S22 hf
            refine h_aload_n dX9_tick_62 rfl 0 rfl ?_
            obtain ⟨t23, h24, hf⟩ := hbd_s hf
            refine h_getR h24 rfl (Nat.le_of_ble_eq_true rfl) rfl q_961 rfl dX9_tick_63 ?_
            refine h_bipush (v := 7) dX9_tick_66 rfl ?_
            obtain ⟨t25, h26, hf⟩ := hbd_s hf
            refine h_iald h26 dX9_tick_68 ?_
            obtain rfl := Option.some.inj hf
            exact h_iret rfl rfl rfl (Nat.le_refl _) (Nat.le_refl _) dX9_tick_69
        · replace hf := hif_n c21 hf
          refine h_iconst (v := (-1)) dX9_tick_42 rfl ?_
          obtain rfl := Option.some.inj hf
          exact h_iret rfl rfl rfl (Nat.le_refl _) (Nat.le_refl _) dX9_tick_43
abbrev x_X9_keeps (d : Nat) (S0 : hS) (args : List Value) (r : hS) (cs : Nat → Nat) : hX := ((none, 1, d, 0, 0, false), (S0, args, none, r), cs)
theorem v_X9_keeps : hVW yX9_keeps cX9_keeps 1 none RX9 0 := ⟨q_1450, q_s84, q_9, q_1451, by decide +kernel, by decide⟩
def f_X9_keeps (a0 : Nat) (S : hS) : Option (hS) :=
  hbd (gR S a0 9 1) fun t1 =>
  hbd (gR S a0 9 45) fun t3 =>
  hbd (f_X9_lay t1 t3 S) fun S6 =>
  hbd (gR S6 a0 9 2) fun t7 =>
  hbd (gR S6 a0 9 46) fun t9 =>
  hbd (f_X9_lay t7 t9 S6) fun S12 =>
  hbd (gR S12 a0 9 6) fun t13 =>
  hbd (gR S12 a0 9 47) fun t15 =>
  hbd (f_X9_lay t13 t15 S12) fun S18 =>
  hbd (gR S18 a0 9 12) fun t19 =>
  hbd (gR S18 a0 9 48) fun t21 =>
  hbd (f_X9_lay t19 t21 S18) fun S24 =>
  some S24
set_option maxRecDepth 100000 in
set_option maxHeartbeats 4000000 in
theorem m_X9_keeps {d : Nat} {cs : Nat → Nat} {a0 : Nat} {S : hS} {r : hS} (hd : 2 ≤ d) (hf : f_X9_keeps a0 S = some r) : HM yX9_keeps cX9_keeps 1 none d 0 0 cs [.ref a0] S (none) r := by
  unfold f_X9_keeps at hf
  refine HM.ofHW false (by decide) (fun h => by cases h) (Nat.le_of_ble_eq_true rfl) ?_
  show HW cX9_keeps RX9 (x_X9_keeps d S [.ref a0] r cs) 0 0 S 0 [(0, .ref a0)] []
  refine h_aload_n dX9_keeps_0 rfl 0 rfl ?_
  obtain ⟨t1, h2, hf⟩ := hbd_s hf
  refine h_getR h2 rfl (Nat.le_of_ble_eq_true rfl) rfl q_961 rfl dX9_keeps_1 ?_
  refine h_aload_n dX9_keeps_4 rfl 0 rfl ?_
  obtain ⟨t3, h4, hf⟩ := hbd_s hf
  refine h_getR h4 rfl (Nat.le_of_ble_eq_true rfl) rfl q_1005 rfl dX9_keeps_5 ?_
  obtain ⟨S6, h5, hf⟩ := hbd_s hf
  refine h_Sv [.ref t1, .ref t3] (rest := []) (m_X9_lay (d := 1) (cs := cs) (Nat.le_refl _) h5) v_X9_lay q_1240 rfl (Nat.le_trans (by decide) hd) rfl (Nat.le_of_ble_eq_true rfl) dX9_keeps_8 (Nat.le_refl _) (Nat.le_refl _) ?_
  refine h_aload_n dX9_keeps_11 rfl 0 rfl ?_
  obtain ⟨t7, h8, hf⟩ := hbd_s hf
  refine h_getR h8 rfl (Nat.le_of_ble_eq_true rfl) rfl q_962 rfl dX9_keeps_12 ?_
  refine h_aload_n dX9_keeps_15 rfl 0 rfl ?_
  obtain ⟨t9, h10, hf⟩ := hbd_s hf
  refine h_getR h10 rfl (Nat.le_of_ble_eq_true rfl) rfl q_1006 rfl dX9_keeps_16 ?_
  obtain ⟨S12, h11, hf⟩ := hbd_s hf
  refine h_Sv [.ref t7, .ref t9] (rest := []) (m_X9_lay (d := 1) (cs := cs) (Nat.le_refl _) h11) v_X9_lay q_1240 rfl (Nat.le_trans (by decide) hd) rfl (Nat.le_of_ble_eq_true rfl) dX9_keeps_19 (Nat.le_refl _) (Nat.le_refl _) ?_
  refine h_aload_n dX9_keeps_22 rfl 0 rfl ?_
  obtain ⟨t13, h14, hf⟩ := hbd_s hf
  refine h_getR h14 rfl (Nat.le_of_ble_eq_true rfl) rfl q_966 rfl dX9_keeps_23 ?_
  refine h_aload_n dX9_keeps_26 rfl 0 rfl ?_
  obtain ⟨t15, h16, hf⟩ := hbd_s hf
  refine h_getR h16 rfl (Nat.le_of_ble_eq_true rfl) rfl q_1007 rfl dX9_keeps_27 ?_
  obtain ⟨S18, h17, hf⟩ := hbd_s hf
  refine h_Sv [.ref t13, .ref t15] (rest := []) (m_X9_lay (d := 1) (cs := cs) (Nat.le_refl _) h17) v_X9_lay q_1240 rfl (Nat.le_trans (by decide) hd) rfl (Nat.le_of_ble_eq_true rfl) dX9_keeps_30 (Nat.le_refl _) (Nat.le_refl _) ?_
  refine h_aload_n dX9_keeps_33 rfl 0 rfl ?_
  obtain ⟨t19, h20, hf⟩ := hbd_s hf
  refine h_getR h20 rfl (Nat.le_of_ble_eq_true rfl) rfl q_972 rfl dX9_keeps_34 ?_
  refine h_aload_n dX9_keeps_37 rfl 0 rfl ?_
  obtain ⟨t21, h22, hf⟩ := hbd_s hf
  refine h_getR h22 rfl (Nat.le_of_ble_eq_true rfl) rfl q_1008 rfl dX9_keeps_38 ?_
  obtain ⟨S24, h23, hf⟩ := hbd_s hf
  refine h_Sv [.ref t19, .ref t21] (rest := []) (m_X9_lay (d := 1) (cs := cs) (Nat.le_refl _) h23) v_X9_lay q_1240 rfl (Nat.le_trans (by decide) hd) rfl (Nat.le_of_ble_eq_true rfl) dX9_keeps_41 (Nat.le_refl _) (Nat.le_refl _) ?_
  obtain rfl := Option.some.inj hf
  exact h_vret rfl rfl rfl (Nat.le_refl _) (Nat.le_refl _) dX9_keeps_44
abbrev x_X9_laysBack (d : Nat) (S0 : hS) (args : List Value) (r : hS) (cs : Nat → Nat) : hX := ((none, 1, d, 0, 0, false), (S0, args, none, r), cs)
theorem v_X9_laysBack : hVW yX9_laysBack cX9_laysBack 1 none RX9 0 := ⟨q_1454, q_s85, q_9, q_1455, by decide +kernel, by decide⟩
def f_X9_laysBack (a0 : Nat) (S : hS) : Option (hS) :=
  hbd (gR S a0 9 45) fun t1 =>
  hbd (gR S a0 9 1) fun t3 =>
  hbd (f_X9_lay t1 t3 S) fun S6 =>
  hbd (gR S6 a0 9 46) fun t7 =>
  hbd (gR S6 a0 9 2) fun t9 =>
  hbd (f_X9_lay t7 t9 S6) fun S12 =>
  hbd (gR S12 a0 9 47) fun t13 =>
  hbd (gR S12 a0 9 6) fun t15 =>
  hbd (f_X9_lay t13 t15 S12) fun S18 =>
  hbd (gR S18 a0 9 48) fun t19 =>
  hbd (gR S18 a0 9 12) fun t21 =>
  hbd (f_X9_lay t19 t21 S18) fun S24 =>
  some S24
set_option maxRecDepth 100000 in
set_option maxHeartbeats 4000000 in
theorem m_X9_laysBack {d : Nat} {cs : Nat → Nat} {a0 : Nat} {S : hS} {r : hS} (hd : 2 ≤ d) (hf : f_X9_laysBack a0 S = some r) : HM yX9_laysBack cX9_laysBack 1 none d 0 0 cs [.ref a0] S (none) r := by
  unfold f_X9_laysBack at hf
  refine HM.ofHW false (by decide) (fun h => by cases h) (Nat.le_of_ble_eq_true rfl) ?_
  show HW cX9_laysBack RX9 (x_X9_laysBack d S [.ref a0] r cs) 0 0 S 0 [(0, .ref a0)] []
  refine h_aload_n dX9_laysBack_0 rfl 0 rfl ?_
  obtain ⟨t1, h2, hf⟩ := hbd_s hf
  refine h_getR h2 rfl (Nat.le_of_ble_eq_true rfl) rfl q_1005 rfl dX9_laysBack_1 ?_
  refine h_aload_n dX9_laysBack_4 rfl 0 rfl ?_
  obtain ⟨t3, h4, hf⟩ := hbd_s hf
  refine h_getR h4 rfl (Nat.le_of_ble_eq_true rfl) rfl q_961 rfl dX9_laysBack_5 ?_
  obtain ⟨S6, h5, hf⟩ := hbd_s hf
  refine h_Sv [.ref t1, .ref t3] (rest := []) (m_X9_lay (d := 1) (cs := cs) (Nat.le_refl _) h5) v_X9_lay q_1240 rfl (Nat.le_trans (by decide) hd) rfl (Nat.le_of_ble_eq_true rfl) dX9_laysBack_8 (Nat.le_refl _) (Nat.le_refl _) ?_
  refine h_aload_n dX9_laysBack_11 rfl 0 rfl ?_
  obtain ⟨t7, h8, hf⟩ := hbd_s hf
  refine h_getR h8 rfl (Nat.le_of_ble_eq_true rfl) rfl q_1006 rfl dX9_laysBack_12 ?_
  refine h_aload_n dX9_laysBack_15 rfl 0 rfl ?_
  obtain ⟨t9, h10, hf⟩ := hbd_s hf
  refine h_getR h10 rfl (Nat.le_of_ble_eq_true rfl) rfl q_962 rfl dX9_laysBack_16 ?_
  obtain ⟨S12, h11, hf⟩ := hbd_s hf
  refine h_Sv [.ref t7, .ref t9] (rest := []) (m_X9_lay (d := 1) (cs := cs) (Nat.le_refl _) h11) v_X9_lay q_1240 rfl (Nat.le_trans (by decide) hd) rfl (Nat.le_of_ble_eq_true rfl) dX9_laysBack_19 (Nat.le_refl _) (Nat.le_refl _) ?_
  refine h_aload_n dX9_laysBack_22 rfl 0 rfl ?_
  obtain ⟨t13, h14, hf⟩ := hbd_s hf
  refine h_getR h14 rfl (Nat.le_of_ble_eq_true rfl) rfl q_1007 rfl dX9_laysBack_23 ?_
  refine h_aload_n dX9_laysBack_26 rfl 0 rfl ?_
  obtain ⟨t15, h16, hf⟩ := hbd_s hf
  refine h_getR h16 rfl (Nat.le_of_ble_eq_true rfl) rfl q_966 rfl dX9_laysBack_27 ?_
  obtain ⟨S18, h17, hf⟩ := hbd_s hf
  refine h_Sv [.ref t13, .ref t15] (rest := []) (m_X9_lay (d := 1) (cs := cs) (Nat.le_refl _) h17) v_X9_lay q_1240 rfl (Nat.le_trans (by decide) hd) rfl (Nat.le_of_ble_eq_true rfl) dX9_laysBack_30 (Nat.le_refl _) (Nat.le_refl _) ?_
  refine h_aload_n dX9_laysBack_33 rfl 0 rfl ?_
  obtain ⟨t19, h20, hf⟩ := hbd_s hf
  refine h_getR h20 rfl (Nat.le_of_ble_eq_true rfl) rfl q_1008 rfl dX9_laysBack_34 ?_
  refine h_aload_n dX9_laysBack_37 rfl 0 rfl ?_
  obtain ⟨t21, h22, hf⟩ := hbd_s hf
  refine h_getR h22 rfl (Nat.le_of_ble_eq_true rfl) rfl q_972 rfl dX9_laysBack_38 ?_
  obtain ⟨S24, h23, hf⟩ := hbd_s hf
  refine h_Sv [.ref t19, .ref t21] (rest := []) (m_X9_lay (d := 1) (cs := cs) (Nat.le_refl _) h23) v_X9_lay q_1240 rfl (Nat.le_trans (by decide) hd) rfl (Nat.le_of_ble_eq_true rfl) dX9_laysBack_41 (Nat.le_refl _) (Nat.le_refl _) ?_
  obtain rfl := Option.some.inj hf
  exact h_vret rfl rfl rfl (Nat.le_refl _) (Nat.le_refl _) dX9_laysBack_44
