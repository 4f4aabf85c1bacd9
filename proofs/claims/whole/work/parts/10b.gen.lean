abbrev x_X1_keepSpan (d : Nat) (S0 : hS) (args : List Value) (r : hS) (cs : Nat → Nat) : hX := ((none, 4, d, 0, 0, false), (S0, args, none, r), cs)
theorem v_X1_keepSpan : hVW yX1_keepSpan cX1_keepSpan 4 none RX1 2 := ⟨q_885, q_886, q_8, q_887, by decide +kernel, by decide⟩
def f_X1_keepSpan_L16 : Nat → Nat → Nat → Nat → Int32 → hS → (hS → Option (hS)) → Option (hS)
  | 0, _, _, _, _, _, _ => none
  | n + 1, x0, x1, x2, x3, S, k0 =>
    hbd (gI S x1 6 2) fun t1 =>
    if t1 ≤ x3 then
      (k0 S)
    else
      (hbd (gN S x2) fun t4 =>
       if t4 ≤ x3 then
         (k0 S)
       else
         (hbd (gA S x2 12 x3) fun t7 =>
          if t7 = 1 then
            (hbd (gR S x0 1 6) fun t10 =>
             hbd (gR S x0 1 6) fun t12 =>
             hbd (gA S t12 12 0) fun t14 =>
             hbd (gR S x1 6 4) fun t16 =>
             hbd (gA S t16 12 x3) fun t18 =>
             hbd (sA S t10 0 (if t18 < t14 then t18 else t14)) fun S20 =>
             hbd (gR S20 x0 1 6) fun t22 =>
             hbd (gR S20 x0 1 6) fun t24 =>
             hbd (gA S20 t24 12 1) fun t26 =>
             hbd (gR S20 x1 6 4) fun t28 =>
             hbd (gA S20 t28 12 x3) fun t30 =>
             hbd (sA S20 t22 1 (if t26 < t30 then t30 else t26)) fun S32 =>
             hbd (gR S32 x0 1 6) fun t34 =>
             hbd (gR S32 x0 1 6) fun t36 =>
             hbd (gA S32 t36 12 2) fun t38 =>
             hbd (gR S32 x1 6 5) fun t40 =>
             hbd (gA S32 t40 12 x3) fun t42 =>
             hbd (sA S32 t34 2 (if t42 < t38 then t42 else t38)) fun S44 =>
             hbd (gR S44 x0 1 6) fun t46 =>
             hbd (gR S44 x0 1 6) fun t48 =>
             hbd (gA S44 t48 12 3) fun t50 =>
             hbd (gR S44 x1 6 5) fun t52 =>
             hbd (gA S44 t52 12 x3) fun t54 =>
             hbd (sA S44 t46 3 (if t50 < t54 then t54 else t50)) fun S56 =>
             hbd (gR S56 x0 1 6) fun t58 =>
             hbd (gA S56 t58 12 4) fun t60 =>
             hbd (sA S56 t58 4 (t60 + 1)) fun S62 =>
             f_X1_keepSpan_L16 n x0 x1 x2 (x3 + 1) S62 k0)
          else
            (f_X1_keepSpan_L16 n x0 x1 x2 (x3 + 1) S k0)))
def f_X1_keepSpan (a0 : Nat) (a1 : Nat) (a2 : Nat) (S : hS) : Option (hS) :=
  hbd (gI S a1 6 0) fun t64 =>
  hbd (gI S a1 6 1) fun t66 =>
  hck (S.K a0 = 2) <|
  hbd (f_X1_keep a0 t64 (-1) t66 (-1) S) fun S69 =>
  f_X1_keepSpan_L16 hfuel a0 a1 a2 0 S69
    (fun S70 =>
      some S70
    )
set_option maxRecDepth 100000 in
set_option maxHeartbeats 4000000 in
theorem w_X1_keepSpan_L16 {d : Nat} {S0 : hS} {args : List Value} {cs : Nat → Nat} {r : hS} (hd : 2 ≤ d) : ∀ (n : Nat) (x0 : Nat) (x1 : Nat) (x2 : Nat) (x3 : Int32) (S : hS) (k0 : (hS → Option (hS))) , f_X1_keepSpan_L16 n x0 x1 x2 x3 S k0 = some r → (∀ (T : hS), k0 T = some r → HW cX1_keepSpan RX1 (x_X1_keepSpan d S0 args r cs) 0 0 T 137 [] []) → HW cX1_keepSpan RX1 (x_X1_keepSpan d S0 args r cs) 0 0 S 16 [(0, .ref x0), (1, .ref x1), (2, .ref x2), (3, .int x3)] [] := by
  intro n
  induction n with
  | zero =>
    intro x0 x1 x2 x3 S k0 hf
    cases hf
  | succ n ih =>
    intro x0 x1 x2 x3 S k0 hf hk0
    rw [f_X1_keepSpan_L16] at hf
    refine h_iload_n dX1_keepSpan_16 rfl 3 rfl ?_
    refine h_aload_n dX1_keepSpan_17 rfl 1 rfl ?_
    obtain ⟨t1, h2, hf⟩ := hbd_s hf
    refine h_getIN (host := "DeafSpot") h2 rfl (Nat.le_of_ble_eq_true rfl) rfl (List.mem_of_getElem? (i := 10) rfl) rfl dX1_keepSpan_18 ?_
    refine h_icmp_ge (tgt := 137) dX1_keepSpan_21 (by decide) (fun c3 => ?_) (fun c3 => ?_)
    · replace hf := hif_p c3 hf
      refine h_sub (lv2 := []) [] rfl ?_
      exact hk0 S hf
    · replace hf := hif_n c3 hf
      refine h_iload_n dX1_keepSpan_24 rfl 3 rfl ?_
      refine h_aload_n dX1_keepSpan_25 rfl 2 rfl ?_
      obtain ⟨t4, h5, hf⟩ := hbd_s hf
      refine h_alen h5 dX1_keepSpan_26 ?_
      refine h_icmp_ge (tgt := 137) dX1_keepSpan_27 (by decide) (fun c6 => ?_) (fun c6 => ?_)
      · replace hf := hif_p c6 hf
        refine h_sub (lv2 := []) [] rfl ?_
        exact hk0 S hf
      · replace hf := hif_n c6 hf
        refine h_aload_n dX1_keepSpan_30 rfl 2 rfl ?_
        refine h_iload_n dX1_keepSpan_31 rfl 3 rfl ?_
        obtain ⟨t7, h8, hf⟩ := hbd_s hf
        refine h_iald h8 dX1_keepSpan_32 ?_
        refine h_iconst (v := 1) dX1_keepSpan_33 rfl ?_
        refine h_icmp_ne (tgt := 131) dX1_keepSpan_34 (by decide) (fun c9 => ?_) (fun c9 => ?_)
        · replace hf := hif_n c9 hf
          refine h_iinc (q := 3) (v := x3 + 1) (lv2 := [(3, .int (x3 + 1)), (0, .ref x0), (1, .ref x1), (2, .ref x2)]) dX1_keepSpan_131 rfl rfl (Nat.le_of_ble_eq_true rfl) rfl ?_
          refine h_goto (tgt := 16) dX1_keepSpan_134 (by decide) ?_
          refine h_sub (lv2 := [(0, .ref x0), (1, .ref x1), (2, .ref x2), (3, .int (x3 + 1))]) [1, 2, 3, 0] rfl ?_
          exact ih x0 x1 x2 (x3 + 1) S k0  hf hk0
        · replace hf := hif_p c9 hf
          refine h_aload_n dX1_keepSpan_37 rfl 0 rfl ?_
          obtain ⟨t10, h11, hf⟩ := hbd_s hf
          refine h_getR h11 rfl (Nat.le_of_ble_eq_true rfl) rfl q_284 rfl dX1_keepSpan_38 ?_
          refine h_iconst (v := 0) dX1_keepSpan_41 rfl ?_
          refine h_aload_n dX1_keepSpan_42 rfl 0 rfl ?_
          obtain ⟨t12, h13, hf⟩ := hbd_s hf
          refine h_getR h13 rfl (Nat.le_of_ble_eq_true rfl) rfl q_284 rfl dX1_keepSpan_43 ?_
          refine h_iconst (v := 0) dX1_keepSpan_46 rfl ?_
          obtain ⟨t14, h15, hf⟩ := hbd_s hf
          refine h_iald h15 dX1_keepSpan_47 ?_
          refine h_aload_n dX1_keepSpan_48 rfl 1 rfl ?_
          obtain ⟨t16, h17, hf⟩ := hbd_s hf
          refine h_getRN (host := "DeafSpot") h17 rfl (Nat.le_of_ble_eq_true rfl) rfl (List.mem_of_getElem? (i := 15) rfl) rfl dX1_keepSpan_49 ?_
          refine h_iload_n dX1_keepSpan_52 rfl 3 rfl ?_
          obtain ⟨t18, h19, hf⟩ := hbd_s hf
          refine h_iald h19 dX1_keepSpan_53 ?_
          refine h_mmin q_889 q_485 q_15 qm_min (Nat.le_trans (by decide) hd) (Nat.le_of_ble_eq_true rfl) (Nat.le_refl _) (Nat.le_refl _) dX1_keepSpan_54 ?_
          obtain ⟨S20, h21, hf⟩ := hbd_s hf
          refine h_iast h21 dX1_keepSpan_57 ?_
          refine h_aload_n dX1_keepSpan_58 rfl 0 rfl ?_
          obtain ⟨t22, h23, hf⟩ := hbd_s hf
          refine h_getR h23 rfl (Nat.le_of_ble_eq_true rfl) rfl q_284 rfl dX1_keepSpan_59 ?_
          refine h_iconst (v := 1) dX1_keepSpan_62 rfl ?_
          refine h_aload_n dX1_keepSpan_63 rfl 0 rfl ?_
          obtain ⟨t24, h25, hf⟩ := hbd_s hf
          refine h_getR h25 rfl (Nat.le_of_ble_eq_true rfl) rfl q_284 rfl dX1_keepSpan_64 ?_
          refine h_iconst (v := 1) dX1_keepSpan_67 rfl ?_
          obtain ⟨t26, h27, hf⟩ := hbd_s hf
          refine h_iald h27 dX1_keepSpan_68 ?_
          refine h_aload_n dX1_keepSpan_69 rfl 1 rfl ?_
          obtain ⟨t28, h29, hf⟩ := hbd_s hf
          refine h_getRN (host := "DeafSpot") h29 rfl (Nat.le_of_ble_eq_true rfl) rfl (List.mem_of_getElem? (i := 15) rfl) rfl dX1_keepSpan_70 ?_
          refine h_iload_n dX1_keepSpan_73 rfl 3 rfl ?_
          obtain ⟨t30, h31, hf⟩ := hbd_s hf
          refine h_iald h31 dX1_keepSpan_74 ?_
          refine h_mmax q_890 q_882 q_15 qm_max (Nat.le_trans (by decide) hd) (Nat.le_of_ble_eq_true rfl) (Nat.le_refl _) (Nat.le_refl _) dX1_keepSpan_75 ?_
          obtain ⟨S32, h33, hf⟩ := hbd_s hf
          refine h_iast h33 dX1_keepSpan_78 ?_
          refine h_aload_n dX1_keepSpan_79 rfl 0 rfl ?_
          obtain ⟨t34, h35, hf⟩ := hbd_s hf
          refine h_getR h35 rfl (Nat.le_of_ble_eq_true rfl) rfl q_284 rfl dX1_keepSpan_80 ?_
          refine h_iconst (v := 2) dX1_keepSpan_83 rfl ?_
          refine h_aload_n dX1_keepSpan_84 rfl 0 rfl ?_
          obtain ⟨t36, h37, hf⟩ := hbd_s hf
          refine h_getR h37 rfl (Nat.le_of_ble_eq_true rfl) rfl q_284 rfl dX1_keepSpan_85 ?_
          refine h_iconst (v := 2) dX1_keepSpan_88 rfl ?_
          obtain ⟨t38, h39, hf⟩ := hbd_s hf
          refine h_iald h39 dX1_keepSpan_89 ?_
          refine h_aload_n dX1_keepSpan_90 rfl 1 rfl ?_
          obtain ⟨t40, h41, hf⟩ := hbd_s hf
          refine h_getRN (host := "DeafSpot") h41 rfl (Nat.le_of_ble_eq_true rfl) rfl (List.mem_of_getElem? (i := 17) rfl) rfl dX1_keepSpan_91 ?_
          refine h_iload_n dX1_keepSpan_94 rfl 3 rfl ?_
          obtain ⟨t42, h43, hf⟩ := hbd_s hf
          refine h_iald h43 dX1_keepSpan_95 ?_
          refine h_mmin q_889 q_485 q_15 qm_min (Nat.le_trans (by decide) hd) (Nat.le_of_ble_eq_true rfl) (Nat.le_refl _) (Nat.le_refl _) dX1_keepSpan_96 ?_
          obtain ⟨S44, h45, hf⟩ := hbd_s hf
          refine h_iast h45 dX1_keepSpan_99 ?_
          refine h_aload_n dX1_keepSpan_100 rfl 0 rfl ?_
          obtain ⟨t46, h47, hf⟩ := hbd_s hf
          refine h_getR h47 rfl (Nat.le_of_ble_eq_true rfl) rfl q_284 rfl dX1_keepSpan_101 ?_
          refine h_iconst (v := 3) dX1_keepSpan_104 rfl ?_
          refine h_aload_n dX1_keepSpan_105 rfl 0 rfl ?_
          obtain ⟨t48, h49, hf⟩ := hbd_s hf
          refine h_getR h49 rfl (Nat.le_of_ble_eq_true rfl) rfl q_284 rfl dX1_keepSpan_106 ?_
          refine h_iconst (v := 3) dX1_keepSpan_109 rfl ?_
          obtain ⟨t50, h51, hf⟩ := hbd_s hf
          refine h_iald h51 dX1_keepSpan_110 ?_
          refine h_aload_n dX1_keepSpan_111 rfl 1 rfl ?_
          obtain ⟨t52, h53, hf⟩ := hbd_s hf
          refine h_getRN (host := "DeafSpot") h53 rfl (Nat.le_of_ble_eq_true rfl) rfl (List.mem_of_getElem? (i := 17) rfl) rfl dX1_keepSpan_112 ?_
          refine h_iload_n dX1_keepSpan_115 rfl 3 rfl ?_
          obtain ⟨t54, h55, hf⟩ := hbd_s hf
          refine h_iald h55 dX1_keepSpan_116 ?_
          refine h_mmax q_890 q_882 q_15 qm_max (Nat.le_trans (by decide) hd) (Nat.le_of_ble_eq_true rfl) (Nat.le_refl _) (Nat.le_refl _) dX1_keepSpan_117 ?_
          obtain ⟨S56, h57, hf⟩ := hbd_s hf
          refine h_iast h57 dX1_keepSpan_120 ?_
          refine h_aload_n dX1_keepSpan_121 rfl 0 rfl ?_
          obtain ⟨t58, h59, hf⟩ := hbd_s hf
          refine h_getR h59 rfl (Nat.le_of_ble_eq_true rfl) rfl q_284 rfl dX1_keepSpan_122 ?_
          refine h_iconst (v := 4) dX1_keepSpan_125 rfl ?_
          refine h_dup2 dX1_keepSpan_126 rfl rfl ?_
          obtain ⟨t60, h61, hf⟩ := hbd_s hf
          refine h_iald h61 dX1_keepSpan_127 ?_
          refine h_iconst (v := 1) dX1_keepSpan_128 rfl ?_
          refine h_iadd dX1_keepSpan_129 ?_
          obtain ⟨S62, h63, hf⟩ := hbd_s hf
          refine h_iast h63 dX1_keepSpan_130 ?_
          refine h_iinc (q := 3) (v := x3 + 1) (lv2 := [(3, .int (x3 + 1)), (0, .ref x0), (1, .ref x1), (2, .ref x2)]) dX1_keepSpan_131 rfl rfl (Nat.le_of_ble_eq_true rfl) rfl ?_
          refine h_goto (tgt := 16) dX1_keepSpan_134 (by decide) ?_
          refine h_sub (lv2 := [(0, .ref x0), (1, .ref x1), (2, .ref x2), (3, .int (x3 + 1))]) [1, 2, 3, 0] rfl ?_
          exact ih x0 x1 x2 (x3 + 1) S62 k0  hf hk0
set_option maxRecDepth 100000 in
set_option maxHeartbeats 4000000 in
theorem m_X1_keepSpan {d : Nat} {cs : Nat → Nat} {a0 : Nat} {a1 : Nat} {a2 : Nat} {S : hS} {r : hS} (hd : 2 ≤ d) (hf : f_X1_keepSpan a0 a1 a2 S = some r) : HM yX1_keepSpan cX1_keepSpan 4 none d 0 0 cs [.ref a0, .ref a1, .ref a2] S (none) r := by
  unfold f_X1_keepSpan at hf
  refine HM.ofHW false (by decide) (fun h => by cases h) (Nat.le_of_ble_eq_true rfl) ?_
  show HW cX1_keepSpan RX1 (x_X1_keepSpan d S [.ref a0, .ref a1, .ref a2] r cs) 0 0 S 0 [(0, .ref a0), (1, .ref a1), (2, .ref a2)] []
  refine h_aload_n dX1_keepSpan_0 rfl 0 rfl ?_
  refine h_aload_n dX1_keepSpan_1 rfl 1 rfl ?_
  obtain ⟨t64, h65, hf⟩ := hbd_s hf
  refine h_getIN (host := "DeafSpot") h65 rfl (Nat.le_of_ble_eq_true rfl) rfl (List.mem_of_getElem? (i := 4) rfl) rfl dX1_keepSpan_2 ?_
  refine h_iconst (v := (-1)) dX1_keepSpan_5 rfl ?_
  refine h_aload_n dX1_keepSpan_6 rfl 1 rfl ?_
  obtain ⟨t66, h67, hf⟩ := hbd_s hf
  refine h_getIN (host := "DeafSpot") h67 rfl (Nat.le_of_ble_eq_true rfl) rfl (List.mem_of_getElem? (i := 7) rfl) rfl dX1_keepSpan_7 ?_
  refine h_iconst (v := (-1)) dX1_keepSpan_10 rfl ?_
  obtain ⟨g71, hf⟩ := hck_s hf
  obtain ⟨S69, h68, hf⟩ := hbd_s hf
  refine h_Vv [.int t64, .int (-1), .int t66, .int (-1)] (rest := []) (m_X1_keep (d := 1) (cs := cs) (Nat.le_refl _) h68) v_X1_keep q_888 rfl (Nat.le_trans (by decide) hd) g71 rfl rfl (Nat.le_of_ble_eq_true rfl) dX1_keepSpan_11 (Nat.le_refl _) (Nat.le_refl _) ?_
  refine h_iconst (v := 0) dX1_keepSpan_14 rfl ?_
  refine h_istore_n (lv2 := [(3, .int 0), (0, .ref a0), (1, .ref a1), (2, .ref a2)]) dX1_keepSpan_15 rfl (Nat.le_of_ble_eq_true rfl) rfl ?_
  refine h_sub (lv2 := [(0, .ref a0), (1, .ref a1), (2, .ref a2), (3, .int 0)]) [1, 2, 3, 0] rfl ?_
  refine w_X1_keepSpan_L16 hd hfuel a0 a1 a2 0 S69 _  hf ?_
  · intro S70 hf
    obtain rfl := Option.some.inj hf
    exact h_vret rfl rfl rfl (Nat.le_refl _) (Nat.le_refl _) dX1_keepSpan_137
abbrev x_X1_part (d : Nat) (S0 : hS) (args : List Value) (r : Int32 × hS) (cs : Nat → Nat) : hX := (((some .int), 2, d, 0, 0, false), (S0, args, some (.int r.1), r.2), cs)
theorem v_X1_part : hVW yX1_part cX1_part 2 (some .int) RX1 1 := ⟨q_838, q_839, q_8, q_840, by decide +kernel, by decide⟩
def f_X1_part (a0 : Nat) (a1 : Int32) (S : hS) : Option (Int32 × hS) :=
  hbd (gI S a0 1 5) fun t1 =>
  hj (γ := Unit → Option (Int32 × hS)) (fun (_ : Unit) =>
    some ((-2), S)
    ) fun J3 =>
  if t1 = 0 then
    (J3 ())
  else
    (if a1 < 0 then
       (J3 ())
     else
       (if 5 ≤ a1 then
          (J3 ())
        else
          (hbd (gR S a0 1 6) fun t7 =>
           hbd (gA S t7 12 a1) fun t9 =>
           some (t9, S))))
set_option maxRecDepth 100000 in
set_option maxHeartbeats 4000000 in
theorem m_X1_part {d : Nat} {cs : Nat → Nat} {a0 : Nat} {a1 : Int32} {S : hS} {r : Int32 × hS} (hd : 1 ≤ d) (hf : f_X1_part a0 a1 S = some r) : HM yX1_part cX1_part 2 (some .int) d 0 0 cs [.ref a0, .int a1] S (some (.int r.1)) r.2 := by
  unfold f_X1_part at hf
  refine HM.ofHW false (by decide) (fun h => by cases h) (Nat.le_of_ble_eq_true rfl) ?_
  show HW cX1_part RX1 (x_X1_part d S [.ref a0, .int a1] r cs) 0 0 S 0 [(0, .ref a0), (1, .int a1)] []
  refine h_aload_n dX1_part_0 rfl 0 rfl ?_
  obtain ⟨t1, h2, hf⟩ := hbd_s hf
  refine h_getI h2 rfl (Nat.le_of_ble_eq_true rfl) rfl q_283 rfl dX1_part_1 ?_
  refine hj_s (fun J3 => ∀ (w : Unit), J3 w = some r → HW cX1_part RX1 (x_X1_part d S [.ref a0, .int a1] r cs) 0 0 S 25 [] []) hf ?_ ?_
  · intro w hf
    refine h_bipush (v := (-2)) dX1_part_25 rfl ?_
    obtain rfl := Option.some.inj hf
    exact h_iret rfl rfl rfl (Nat.le_refl _) (Nat.le_refl _) dX1_part_27
  · intro J3 hJ3 hf
    refine h_if_eq (tgt := 25) dX1_part_4 (by decide) (fun c4 => ?_) (fun c4 => ?_)
    · replace hf := hif_p c4 hf
      refine h_sub (lv2 := []) [] rfl ?_
      exact hJ3 () hf
    · replace hf := hif_n c4 hf
      refine h_iload_n dX1_part_7 rfl 1 rfl ?_
      refine h_if_lt (tgt := 25) dX1_part_8 (by decide) (fun c5 => ?_) (fun c5 => ?_)
      · replace hf := hif_p c5 hf
        refine h_sub (lv2 := []) [] rfl ?_
        exact hJ3 () hf
      · replace hf := hif_n c5 hf
        refine h_iload_n dX1_part_11 rfl 1 rfl ?_
        refine h_iconst (v := 5) dX1_part_12 rfl ?_
        refine h_icmp_ge (tgt := 25) dX1_part_13 (by decide) (fun c6 => ?_) (fun c6 => ?_)
        · replace hf := hif_p c6 hf
          refine h_sub (lv2 := []) [] rfl ?_
          exact hJ3 () hf
        · replace hf := hif_n c6 hf
          refine h_aload_n dX1_part_16 rfl 0 rfl ?_
          obtain ⟨t7, h8, hf⟩ := hbd_s hf
          refine h_getR h8 rfl (Nat.le_of_ble_eq_true rfl) rfl q_284 rfl dX1_part_17 ?_
          refine h_iload_n dX1_part_20 rfl 1 rfl ?_
          obtain ⟨t9, h10, hf⟩ := hbd_s hf
          refine h_iald h10 dX1_part_21 ?_
          refine h_goto (tgt := 27) dX1_part_22 (by decide) ?_
          obtain rfl := Option.some.inj hf
          exact h_iret rfl rfl rfl (Nat.le_refl _) (Nat.le_refl _) dX1_part_27
abbrev x_X2_init (d : Nat) (S0 : hS) (args : List Value) (r : hS) (cs : Nat → Nat) : hX := ((none, 1, d, 5, 128, true), (S0, args, none, r), cs)
theorem v_X2_init : hIW yX2_init cX2_init 1 0 := ⟨q_145, q_5, q_146, rfl, by decide +kernel, by decide⟩
def f_X2_init (a0 : Nat) (S : hS) : Option (hS) :=
  hbd (sI S a0 2 0 0) fun S1 =>
  hnw S1 12 12 fun q3 S4 =>
  hbd (sR S4 a0 2 1 q3) fun S7 =>
  hnw S7 12 12 fun q9 S10 =>
  hbd (sR S10 a0 2 2 q9) fun S13 =>
  hnw S13 12 12 fun q15 S16 =>
  hbd (sR S16 a0 2 3 q15) fun S19 =>
  hnw S19 12 12 fun q21 S22 =>
  hbd (sR S22 a0 2 4 q21) fun S25 =>
  hnw S25 12 80 fun q27 S28 =>
  hbd (sR S28 a0 2 5 q27) fun S31 =>
  some S31
set_option maxRecDepth 100000 in
set_option maxHeartbeats 4000000 in
theorem m_X2_init {d : Nat} {cs : Nat → Nat} {a0 : Nat} {S : hS} {r : hS} (hd : 1 ≤ d) (hf : f_X2_init a0 S = some r) : HM yX2_init cX2_init 1 none d 5 128 cs [.ref a0] S (none) r := by
  unfold f_X2_init at hf
  refine HM.ofHW true (by decide) (fun h => by rfl) (Nat.le_of_ble_eq_true rfl) ?_
  show HW cX2_init RX2 (x_X2_init d S [.ref a0] r cs) 0 0 S 0 [(0, .ref a0)] []
  refine h_aload_n dX2_init_0 rfl 0 rfl ?_
  refine h_obj q_147 (Nat.le_trans (by decide) hd) (Nat.le_of_ble_eq_true rfl) dX2_init_1 ?_
  refine h_aload_n dX2_init_4 rfl 0 rfl ?_
  refine h_iconst (v := 0) dX2_init_5 rfl ?_
  obtain ⟨S1, h2, hf⟩ := hbd_s hf
  refine h_putI h2 rfl (Nat.le_of_ble_eq_true rfl) rfl q_148 rfl rfl (by decide +kernel) dX2_init_6 ?_
  refine h_aload_n dX2_init_9 rfl 0 rfl ?_
  refine h_bipush (v := 12) dX2_init_10 rfl ?_
  obtain ⟨q3, S4, h5, h6, hf⟩ := hnw_s hf
  refine h_newI (N := 12) h5 h6 (by decide) rfl (by decide) dX2_init_12 (Nat.le_of_ble_eq_true rfl) (Nat.le_of_ble_eq_true rfl) ?_
  obtain ⟨S7, h8, hf⟩ := hbd_s hf
  refine h_putF rfl h8 rfl (Nat.le_of_ble_eq_true rfl) rfl q_152 rfl rfl rfl (tyX2_ok 1 (by decide)) rfl rfl dX2_init_14 ?_
  refine h_aload_n dX2_init_17 rfl 0 rfl ?_
  refine h_bipush (v := 12) dX2_init_18 rfl ?_
  obtain ⟨q9, S10, h11, h12, hf⟩ := hnw_s hf
  refine h_newI (N := 12) h11 h12 (by decide) rfl (by decide) dX2_init_20 (Nat.le_of_ble_eq_true rfl) (Nat.le_of_ble_eq_true rfl) ?_
  obtain ⟨S13, h14, hf⟩ := hbd_s hf
  refine h_putF rfl h14 rfl (Nat.le_of_ble_eq_true rfl) rfl q_155 rfl rfl rfl (tyX2_ok 2 (by decide)) rfl rfl dX2_init_22 ?_
  refine h_aload_n dX2_init_25 rfl 0 rfl ?_
  refine h_bipush (v := 12) dX2_init_26 rfl ?_
  obtain ⟨q15, S16, h17, h18, hf⟩ := hnw_s hf
  refine h_newI (N := 12) h17 h18 (by decide) rfl (by decide) dX2_init_28 (Nat.le_of_ble_eq_true rfl) (Nat.le_of_ble_eq_true rfl) ?_
  obtain ⟨S19, h20, hf⟩ := hbd_s hf
  refine h_putF rfl h20 rfl (Nat.le_of_ble_eq_true rfl) rfl q_158 rfl rfl rfl (tyX2_ok 3 (by decide)) rfl rfl dX2_init_30 ?_
  refine h_aload_n dX2_init_33 rfl 0 rfl ?_
  refine h_bipush (v := 12) dX2_init_34 rfl ?_
  obtain ⟨q21, S22, h23, h24, hf⟩ := hnw_s hf
  refine h_newI (N := 12) h23 h24 (by decide) rfl (by decide) dX2_init_36 (Nat.le_of_ble_eq_true rfl) (Nat.le_of_ble_eq_true rfl) ?_
  obtain ⟨S25, h26, hf⟩ := hbd_s hf
  refine h_putF rfl h26 rfl (Nat.le_of_ble_eq_true rfl) rfl q_160 rfl rfl rfl (tyX2_ok 4 (by decide)) rfl rfl dX2_init_38 ?_
  refine h_aload_n dX2_init_41 rfl 0 rfl ?_
  refine h_bipush (v := 80) dX2_init_42 rfl ?_
  obtain ⟨q27, S28, h29, h30, hf⟩ := hnw_s hf
  refine h_newI (N := 80) h29 h30 (by decide) rfl (by decide) dX2_init_44 (Nat.le_of_ble_eq_true rfl) (Nat.le_of_ble_eq_true rfl) ?_
  obtain ⟨S31, h32, hf⟩ := hbd_s hf
  refine h_putF rfl h32 rfl (Nat.le_of_ble_eq_true rfl) rfl q_163 rfl rfl rfl (tyX2_ok 5 (by decide)) rfl rfl dX2_init_46 ?_
  obtain rfl := Option.some.inj hf
  exact h_vret rfl rfl rfl (Nat.le_of_ble_eq_true rfl) (Nat.le_of_ble_eq_true rfl) dX2_init_49
abbrev x_X2_clear (d : Nat) (S0 : hS) (args : List Value) (r : hS) (cs : Nat → Nat) : hX := ((none, 1, d, 0, 0, false), (S0, args, none, r), cs)
theorem v_X2_clear : hVW yX2_clear cX2_clear 1 none RX2 0 := ⟨q_375, q_376, q_5, q_377, by decide +kernel, by decide⟩
def f_X2_clear (a0 : Nat) (S : hS) : Option (hS) :=
  hbd (sI S a0 2 0 0) fun S1 =>
  hbd (gR S1 a0 2 5) fun t3 =>
  hbd (f_J7_fill_53178 t3 (-1) S1) fun S6 =>
  some S6
set_option maxRecDepth 100000 in
set_option maxHeartbeats 4000000 in
theorem m_X2_clear {d : Nat} {cs : Nat → Nat} {a0 : Nat} {S : hS} {r : hS} (hd : 2 ≤ d) (hf : f_X2_clear a0 S = some r) : HM yX2_clear cX2_clear 1 none d 0 0 cs [.ref a0] S (none) r := by
  unfold f_X2_clear at hf
  refine HM.ofHW false (by decide) (fun h => by cases h) (Nat.le_of_ble_eq_true rfl) ?_
  show HW cX2_clear RX2 (x_X2_clear d S [.ref a0] r cs) 0 0 S 0 [(0, .ref a0)] []
  refine h_aload_n dX2_clear_0 rfl 0 rfl ?_
  refine h_iconst (v := 0) dX2_clear_1 rfl ?_
  obtain ⟨S1, h2, hf⟩ := hbd_s hf
  refine h_putI h2 rfl (Nat.le_of_ble_eq_true rfl) rfl q_148 rfl rfl (by decide +kernel) dX2_clear_2 ?_
  refine h_aload_n dX2_clear_5 rfl 0 rfl ?_
  obtain ⟨t3, h4, hf⟩ := hbd_s hf
  refine h_getR h4 rfl (Nat.le_of_ble_eq_true rfl) rfl q_163 rfl dX2_clear_6 ?_
  refine h_iconst (v := (-1)) dX2_clear_9 rfl ?_
  obtain ⟨S6, h5, hf⟩ := hbd_s hf
  refine h_Sv [.ref t3, .int (-1)] (rest := []) (m_J7_fill_53178 (d := 1) (cs := cs) (Nat.le_refl _) h5) v_J7_fill_53178 q_378 rfl (Nat.le_trans (by decide) hd) rfl (Nat.le_of_ble_eq_true rfl) dX2_clear_10 (Nat.le_refl _) (Nat.le_refl _) ?_
  obtain rfl := Option.some.inj hf
  exact h_vret rfl rfl rfl (Nat.le_refl _) (Nat.le_refl _) dX2_clear_13
abbrev x_X2_known (d : Nat) (S0 : hS) (args : List Value) (r : Int32 × hS) (cs : Nat → Nat) : hX := (((some .boolean), 2, d, 0, 0, false), (S0, args, some (.int r.1), r.2), cs)
theorem v_X2_known : hVW yX2_known cX2_known 2 (some .boolean) RX2 1 := ⟨q_510, q_511, q_5, q_512, by decide +kernel, by decide⟩
def f_X2_known (a0 : Nat) (a1 : Int32) (S : hS) : Option (Int32 × hS) :=
  hj (γ := Unit → Option (Int32 × hS)) (fun (_ : Unit) =>
    some (0, S)
    ) fun J1 =>
  if a1 < 0 then
    (J1 ())
  else
    (hbd (gI S a0 2 0) fun t3 =>
     if t3 ≤ a1 then
       (J1 ())
     else
       (some (1, S)))
set_option maxRecDepth 100000 in
set_option maxHeartbeats 4000000 in
theorem m_X2_known {d : Nat} {cs : Nat → Nat} {a0 : Nat} {a1 : Int32} {S : hS} {r : Int32 × hS} (hd : 1 ≤ d) (hf : f_X2_known a0 a1 S = some r) : HM yX2_known cX2_known 2 (some .boolean) d 0 0 cs [.ref a0, .int a1] S (some (.int r.1)) r.2 := by
  unfold f_X2_known at hf
  refine HM.ofHW false (by decide) (fun h => by cases h) (Nat.le_of_ble_eq_true rfl) ?_
  show HW cX2_known RX2 (x_X2_known d S [.ref a0, .int a1] r cs) 0 0 S 0 [(0, .ref a0), (1, .int a1)] []
  refine h_iload_n dX2_known_0 rfl 1 rfl ?_
  refine hj_s (fun J1 => ∀ (w : Unit), J1 w = some r → HW cX2_known RX2 (x_X2_known d S [.ref a0, .int a1] r cs) 0 0 S 16 [] []) hf ?_ ?_
  · intro w hf
    refine h_iconst (v := 0) dX2_known_16 rfl ?_
    obtain rfl := Option.some.inj hf
    exact h_zret rfl (by decide) rfl rfl (Nat.le_refl _) (Nat.le_refl _) dX2_known_17
  · intro J1 hJ1 hf
    refine h_if_lt (tgt := 16) dX2_known_1 (by decide) (fun c2 => ?_) (fun c2 => ?_)
    · replace hf := hif_p c2 hf
      refine h_sub (lv2 := []) [] rfl ?_
      exact hJ1 () hf
    · replace hf := hif_n c2 hf
      refine h_iload_n dX2_known_4 rfl 1 rfl ?_
      refine h_aload_n dX2_known_5 rfl 0 rfl ?_
      obtain ⟨t3, h4, hf⟩ := hbd_s hf
      refine h_getI h4 rfl (Nat.le_of_ble_eq_true rfl) rfl q_148 rfl dX2_known_6 ?_
      refine h_icmp_ge (tgt := 16) dX2_known_9 (by decide) (fun c5 => ?_) (fun c5 => ?_)
      · replace hf := hif_p c5 hf
        refine h_sub (lv2 := []) [] rfl ?_
        exact hJ1 () hf
      · replace hf := hif_n c5 hf
        refine h_iconst (v := 1) dX2_known_12 rfl ?_
        refine h_goto (tgt := 17) dX2_known_13 (by decide) ?_
        obtain rfl := Option.some.inj hf
        exact h_zret rfl (by decide) rfl rfl (Nat.le_refl _) (Nat.le_refl _) dX2_known_17
abbrev x_X2_here (d : Nat) (S0 : hS) (args : List Value) (r : Int32 × hS) (cs : Nat → Nat) : hX := (((some .boolean), 2, d, 0, 0, false), (S0, args, some (.int r.1), r.2), cs)
theorem v_X2_here : hVW yX2_here cX2_here 2 (some .boolean) RX2 1 := ⟨q_518, q_519, q_5, q_520, by decide +kernel, by decide⟩
def f_X2_here (a0 : Nat) (a1 : Int32) (S : hS) : Option (Int32 × hS) :=
  hj (γ := Unit → Option (Int32 × hS)) (fun (_ : Unit) =>
    some (0, S)
    ) fun J1 =>
  if a1 < 0 then
    (J1 ())
  else
    (hbd (gI S a0 2 0) fun t3 =>
     if t3 ≤ a1 then
       (J1 ())
     else
       (hbd (gR S a0 2 1) fun t6 =>
        hbd (gA S t6 12 a1) fun t8 =>
        if t8 = (-1) then
          (J1 ())
        else
          (some (1, S))))
set_option maxRecDepth 100000 in
set_option maxHeartbeats 4000000 in
theorem m_X2_here {d : Nat} {cs : Nat → Nat} {a0 : Nat} {a1 : Int32} {S : hS} {r : Int32 × hS} (hd : 1 ≤ d) (hf : f_X2_here a0 a1 S = some r) : HM yX2_here cX2_here 2 (some .boolean) d 0 0 cs [.ref a0, .int a1] S (some (.int r.1)) r.2 := by
  unfold f_X2_here at hf
  refine HM.ofHW false (by decide) (fun h => by cases h) (Nat.le_of_ble_eq_true rfl) ?_
  show HW cX2_here RX2 (x_X2_here d S [.ref a0, .int a1] r cs) 0 0 S 0 [(0, .ref a0), (1, .int a1)] []
  refine h_iload_n dX2_here_0 rfl 1 rfl ?_
  refine hj_s (fun J1 => ∀ (w : Unit), J1 w = some r → HW cX2_here RX2 (x_X2_here d S [.ref a0, .int a1] r cs) 0 0 S 26 [] []) hf ?_ ?_
  · intro w hf
    refine h_iconst (v := 0) dX2_here_26 rfl ?_
    obtain rfl := Option.some.inj hf
    exact h_zret rfl (by decide) rfl rfl (Nat.le_refl _) (Nat.le_refl _) dX2_here_27
  · intro J1 hJ1 hf
    refine h_if_lt (tgt := 26) dX2_here_1 (by decide) (fun c2 => ?_) (fun c2 => ?_)
    · replace hf := hif_p c2 hf
      refine h_sub (lv2 := []) [] rfl ?_
      exact hJ1 () hf
    · replace hf := hif_n c2 hf
      refine h_iload_n dX2_here_4 rfl 1 rfl ?_
      refine h_aload_n dX2_here_5 rfl 0 rfl ?_
      obtain ⟨t3, h4, hf⟩ := hbd_s hf
      refine h_getI h4 rfl (Nat.le_of_ble_eq_true rfl) rfl q_148 rfl dX2_here_6 ?_
      refine h_icmp_ge (tgt := 26) dX2_here_9 (by decide) (fun c5 => ?_) (fun c5 => ?_)
      · replace hf := hif_p c5 hf
        refine h_sub (lv2 := []) [] rfl ?_
        exact hJ1 () hf
      · replace hf := hif_n c5 hf
        refine h_aload_n dX2_here_12 rfl 0 rfl ?_
        obtain ⟨t6, h7, hf⟩ := hbd_s hf
        refine h_getR h7 rfl (Nat.le_of_ble_eq_true rfl) rfl q_152 rfl dX2_here_13 ?_
        refine h_iload_n dX2_here_16 rfl 1 rfl ?_
        obtain ⟨t8, h9, hf⟩ := hbd_s hf
        refine h_iald h9 dX2_here_17 ?_
        refine h_iconst (v := (-1)) dX2_here_18 rfl ?_
        refine h_icmp_eq (tgt := 26) dX2_here_19 (by decide) (fun c10 => ?_) (fun c10 => ?_)
        · replace hf := hif_p c10 hf
          refine h_sub (lv2 := []) [] rfl ?_
          exact hJ1 () hf
        · replace hf := hif_n c10 hf
          refine h_iconst (v := 1) dX2_here_22 rfl ?_
          refine h_goto (tgt := 27) dX2_here_23 (by decide) ?_
          obtain rfl := Option.some.inj hf
          exact h_zret rfl (by decide) rfl rfl (Nat.le_refl _) (Nat.le_refl _) dX2_here_27
abbrev x_X2_isSet (d : Nat) (S0 : hS) (args : List Value) (r : Int32 × hS) (cs : Nat → Nat) : hX := (((some .boolean), 2, d, 0, 0, false), (S0, args, some (.int r.1), r.2), cs)
theorem v_X2_isSet : hVW yX2_isSet cX2_isSet 2 (some .boolean) RX2 1 := ⟨q_896, q_897, q_5, q_898, by decide +kernel, by decide⟩
def f_X2_isSet (a0 : Nat) (a1 : Int32) (S : hS) : Option (Int32 × hS) :=
  hj (γ := Unit → Option (Int32 × hS)) (fun (_ : Unit) =>
    some (0, S)
    ) fun J1 =>
  if a1 < 0 then
    (J1 ())
  else
    (hbd (gI S a0 2 0) fun t3 =>
     if (1 <<< (t3 &&& 31)) ≤ a1 then
       (J1 ())
     else
       (some (1, S)))
set_option maxRecDepth 100000 in
set_option maxHeartbeats 4000000 in
theorem m_X2_isSet {d : Nat} {cs : Nat → Nat} {a0 : Nat} {a1 : Int32} {S : hS} {r : Int32 × hS} (hd : 1 ≤ d) (hf : f_X2_isSet a0 a1 S = some r) : HM yX2_isSet cX2_isSet 2 (some .boolean) d 0 0 cs [.ref a0, .int a1] S (some (.int r.1)) r.2 := by
  unfold f_X2_isSet at hf
  refine HM.ofHW false (by decide) (fun h => by cases h) (Nat.le_of_ble_eq_true rfl) ?_
  show HW cX2_isSet RX2 (x_X2_isSet d S [.ref a0, .int a1] r cs) 0 0 S 0 [(0, .ref a0), (1, .int a1)] []
  refine h_iload_n dX2_isSet_0 rfl 1 rfl ?_
  refine hj_s (fun J1 => ∀ (w : Unit), J1 w = some r → HW cX2_isSet RX2 (x_X2_isSet d S [.ref a0, .int a1] r cs) 0 0 S 18 [] []) hf ?_ ?_
  · intro w hf
    refine h_iconst (v := 0) dX2_isSet_18 rfl ?_
    obtain rfl := Option.some.inj hf
    exact h_zret rfl (by decide) rfl rfl (Nat.le_refl _) (Nat.le_refl _) dX2_isSet_19
  · intro J1 hJ1 hf
    refine h_if_lt (tgt := 18) dX2_isSet_1 (by decide) (fun c2 => ?_) (fun c2 => ?_)
    · replace hf := hif_p c2 hf
      refine h_sub (lv2 := []) [] rfl ?_
      exact hJ1 () hf
    · replace hf := hif_n c2 hf
      refine h_iload_n dX2_isSet_4 rfl 1 rfl ?_
      refine h_iconst (v := 1) dX2_isSet_5 rfl ?_
      refine h_aload_n dX2_isSet_6 rfl 0 rfl ?_
      obtain ⟨t3, h4, hf⟩ := hbd_s hf
      refine h_getI h4 rfl (Nat.le_of_ble_eq_true rfl) rfl q_148 rfl dX2_isSet_7 ?_
      refine h_ishl dX2_isSet_10 ?_
      refine h_icmp_ge (tgt := 18) dX2_isSet_11 (by decide) (fun c5 => ?_) (fun c5 => ?_)
      · replace hf := hif_p c5 hf
        refine h_sub (lv2 := []) [] rfl ?_
        exact hJ1 () hf
      · replace hf := hif_n c5 hf
        refine h_iconst (v := 1) dX2_isSet_14 rfl ?_
        refine h_goto (tgt := 19) dX2_isSet_15 (by decide) ?_
        obtain rfl := Option.some.inj hf
        exact h_zret rfl (by decide) rfl rfl (Nat.le_refl _) (Nat.le_refl _) dX2_isSet_19
abbrev x_X2_leave (d : Nat) (S0 : hS) (args : List Value) (r : hS) (cs : Nat → Nat) : hX := ((none, 2, d, 0, 0, false), (S0, args, none, r), cs)
theorem v_X2_leave : hVW yX2_leave cX2_leave 2 none RX2 1 := ⟨q_514, q_515, q_5, q_516, by decide +kernel, by decide⟩
def f_X2_leave (a0 : Nat) (a1 : Int32) (S : hS) : Option (hS) :=
  hck (S.K a0 = 3) <|
  hb2 (f_X2_here a0 a1 S) fun t3 S2 =>
  if t3 = 0 then
    (some S2)
  else
    (hbd (gR S2 a0 2 5) fun t5 =>
     hbd (gR S2 a0 2 1) fun t7 =>
     hbd (gA S2 t7 12 a1) fun t9 =>
     hbd (sA S2 t5 t9 (-1)) fun S11 =>
     hbd (gR S11 a0 2 1) fun t13 =>
     hbd (sA S11 t13 a1 (-1)) fun S15 =>
     some S15)
set_option maxRecDepth 100000 in
set_option maxHeartbeats 4000000 in
theorem m_X2_leave {d : Nat} {cs : Nat → Nat} {a0 : Nat} {a1 : Int32} {S : hS} {r : hS} (hd : 2 ≤ d) (hf : f_X2_leave a0 a1 S = some r) : HM yX2_leave cX2_leave 2 none d 0 0 cs [.ref a0, .int a1] S (none) r := by
  unfold f_X2_leave at hf
  refine HM.ofHW false (by decide) (fun h => by cases h) (Nat.le_of_ble_eq_true rfl) ?_
  show HW cX2_leave RX2 (x_X2_leave d S [.ref a0, .int a1] r cs) 0 0 S 0 [(0, .ref a0), (1, .int a1)] []
  refine h_aload_n dX2_leave_0 rfl 0 rfl ?_
  refine h_iload_n dX2_leave_1 rfl 1 rfl ?_
  obtain ⟨g17, hf⟩ := hck_s hf
  obtain ⟨t3, S2, h1, hf⟩ := hb2_s hf
  refine h_Vi [.int a1] (rest := []) (m_X2_here (d := 1) (cs := cs) (Nat.le_refl _) h1) v_X2_here q_517 rfl (Nat.le_trans (by decide) hd) g17 rfl rfl (Nat.le_of_ble_eq_true rfl) dX2_leave_2 (Nat.le_refl _) (Nat.le_refl _) ?_
  refine h_if_eq (tgt := 27) dX2_leave_5 (by decide) (fun c4 => ?_) (fun c4 => ?_)
  · replace hf := hif_p c4 hf
    obtain rfl := Option.some.inj hf
    exact h_vret rfl rfl rfl (Nat.le_refl _) (Nat.le_refl _) dX2_leave_27
  · replace hf := hif_n c4 hf
    refine h_aload_n dX2_leave_8 rfl 0 rfl ?_
    obtain ⟨t5, h6, hf⟩ := hbd_s hf
    refine h_getR h6 rfl (Nat.le_of_ble_eq_true rfl) rfl q_163 rfl dX2_leave_9 ?_
    refine h_aload_n dX2_leave_12 rfl 0 rfl ?_
    obtain ⟨t7, h8, hf⟩ := hbd_s hf
    refine h_getR h8 rfl (Nat.le_of_ble_eq_true rfl) rfl q_152 rfl dX2_leave_13 ?_
    refine h_iload_n dX2_leave_16 rfl 1 rfl ?_
    obtain ⟨t9, h10, hf⟩ := hbd_s hf
    refine h_iald h10 dX2_leave_17 ?_
    refine h_iconst (v := (-1)) dX2_leave_18 rfl ?_
    obtain ⟨S11, h12, hf⟩ := hbd_s hf
    refine h_iast h12 dX2_leave_19 ?_
    refine h_aload_n dX2_leave_20 rfl 0 rfl ?_
    obtain ⟨t13, h14, hf⟩ := hbd_s hf
    refine h_getR h14 rfl (Nat.le_of_ble_eq_true rfl) rfl q_152 rfl dX2_leave_21 ?_
    refine h_iload_n dX2_leave_24 rfl 1 rfl ?_
    refine h_iconst (v := (-1)) dX2_leave_25 rfl ?_
    obtain ⟨S15, h16, hf⟩ := hbd_s hf
    refine h_iast h16 dX2_leave_26 ?_
    obtain rfl := Option.some.inj hf
    exact h_vret rfl rfl rfl (Nat.le_refl _) (Nat.le_refl _) dX2_leave_27
abbrev x_X2_copy (d : Nat) (S0 : hS) (args : List Value) (r : hS) (cs : Nat → Nat) : hX := ((none, 2, d, 0, 0, false), (S0, args, none, r), cs)
theorem v_X2_copy : hVW yX2_copy cX2_copy 2 none RX2 1 := ⟨q_584, q_585, q_5, q_586, by decide +kernel, by decide⟩
def f_X2_copy (a0 : Nat) (a1 : Nat) (S : hS) : Option (hS) :=
  hbd (gI S a1 2 0) fun t1 =>
  hbd (sI S a0 2 0 t1) fun S3 =>
  hbd (gR S3 a1 2 1) fun t5 =>
  hbd (gR S3 a0 2 1) fun t7 =>
  hbd (cpA S3 t5 0 t7 0 12) fun S9 =>
  hbd (gR S9 a1 2 2) fun t11 =>
  hbd (gR S9 a0 2 2) fun t13 =>
  hbd (cpA S9 t11 0 t13 0 12) fun S15 =>
  hbd (gR S15 a1 2 3) fun t17 =>
  hbd (gR S15 a0 2 3) fun t19 =>
  hbd (cpA S15 t17 0 t19 0 12) fun S21 =>
  hbd (gR S21 a1 2 4) fun t23 =>
  hbd (gR S21 a0 2 4) fun t25 =>
  hbd (cpA S21 t23 0 t25 0 12) fun S27 =>
  hbd (gR S27 a1 2 5) fun t29 =>
  hbd (gR S27 a0 2 5) fun t31 =>
  hbd (cpA S27 t29 0 t31 0 80) fun S33 =>
  some S33
set_option maxRecDepth 100000 in
set_option maxHeartbeats 4000000 in
theorem m_X2_copy {d : Nat} {cs : Nat → Nat} {a0 : Nat} {a1 : Nat} {S : hS} {r : hS} (hd : 1 ≤ d) (hf : f_X2_copy a0 a1 S = some r) : HM yX2_copy cX2_copy 2 none d 0 0 cs [.ref a0, .ref a1] S (none) r := by
  unfold f_X2_copy at hf
  refine HM.ofHW false (by decide) (fun h => by cases h) (Nat.le_of_ble_eq_true rfl) ?_
  show HW cX2_copy RX2 (x_X2_copy d S [.ref a0, .ref a1] r cs) 0 0 S 0 [(0, .ref a0), (1, .ref a1)] []
  refine h_aload_n dX2_copy_0 rfl 0 rfl ?_
  refine h_aload_n dX2_copy_1 rfl 1 rfl ?_
  obtain ⟨t1, h2, hf⟩ := hbd_s hf
  refine h_getI h2 rfl (Nat.le_of_ble_eq_true rfl) rfl q_148 rfl dX2_copy_2 ?_
  obtain ⟨S3, h4, hf⟩ := hbd_s hf
  refine h_putI h4 rfl (Nat.le_of_ble_eq_true rfl) rfl q_148 rfl rfl (by decide +kernel) dX2_copy_5 ?_
  refine h_aload_n dX2_copy_8 rfl 1 rfl ?_
  obtain ⟨t5, h6, hf⟩ := hbd_s hf
  refine h_getR h6 rfl (Nat.le_of_ble_eq_true rfl) rfl q_152 rfl dX2_copy_9 ?_
  refine h_iconst (v := 0) dX2_copy_12 rfl ?_
  refine h_aload_n dX2_copy_13 rfl 0 rfl ?_
  obtain ⟨t7, h8, hf⟩ := hbd_s hf
  refine h_getR h8 rfl (Nat.le_of_ble_eq_true rfl) rfl q_152 rfl dX2_copy_14 ?_
  refine h_iconst (v := 0) dX2_copy_17 rfl ?_
  refine h_bipush (v := 12) dX2_copy_18 rfl ?_
  obtain ⟨S9, h10, hf⟩ := hbd_s hf
  refine h_acopy h10 q_587 (Nat.le_trans (by decide) hd) (Nat.le_of_ble_eq_true rfl) dX2_copy_20 ?_
  refine h_aload_n dX2_copy_23 rfl 1 rfl ?_
  obtain ⟨t11, h12, hf⟩ := hbd_s hf
  refine h_getR h12 rfl (Nat.le_of_ble_eq_true rfl) rfl q_155 rfl dX2_copy_24 ?_
  refine h_iconst (v := 0) dX2_copy_27 rfl ?_
  refine h_aload_n dX2_copy_28 rfl 0 rfl ?_
  obtain ⟨t13, h14, hf⟩ := hbd_s hf
  refine h_getR h14 rfl (Nat.le_of_ble_eq_true rfl) rfl q_155 rfl dX2_copy_29 ?_
  refine h_iconst (v := 0) dX2_copy_32 rfl ?_
  refine h_bipush (v := 12) dX2_copy_33 rfl ?_
  obtain ⟨S15, h16, hf⟩ := hbd_s hf
  refine h_acopy h16 q_587 (Nat.le_trans (by decide) hd) (Nat.le_of_ble_eq_true rfl) dX2_copy_35 ?_
  refine h_aload_n dX2_copy_38 rfl 1 rfl ?_
  obtain ⟨t17, h18, hf⟩ := hbd_s hf
  refine h_getR h18 rfl (Nat.le_of_ble_eq_true rfl) rfl q_158 rfl dX2_copy_39 ?_
  refine h_iconst (v := 0) dX2_copy_42 rfl ?_
  refine h_aload_n dX2_copy_43 rfl 0 rfl ?_
  obtain ⟨t19, h20, hf⟩ := hbd_s hf
  refine h_getR h20 rfl (Nat.le_of_ble_eq_true rfl) rfl q_158 rfl dX2_copy_44 ?_
  refine h_iconst (v := 0) dX2_copy_47 rfl ?_
  refine h_bipush (v := 12) dX2_copy_48 rfl ?_
  obtain ⟨S21, h22, hf⟩ := hbd_s hf
  refine h_acopy h22 q_587 (Nat.le_trans (by decide) hd) (Nat.le_of_ble_eq_true rfl) dX2_copy_50 ?_
  refine h_aload_n dX2_copy_53 rfl 1 rfl ?_
  obtain ⟨t23, h24, hf⟩ := hbd_s hf
  refine h_getR h24 rfl (Nat.le_of_ble_eq_true rfl) rfl q_160 rfl dX2_copy_54 ?_
  refine h_iconst (v := 0) dX2_copy_57 rfl ?_
  refine h_aload_n dX2_copy_58 rfl 0 rfl ?_
  obtain ⟨t25, h26, hf⟩ := hbd_s hf
  refine h_getR h26 rfl (Nat.le_of_ble_eq_true rfl) rfl q_160 rfl dX2_copy_59 ?_
  refine h_iconst (v := 0) dX2_copy_62 rfl ?_
  refine h_bipush (v := 12) dX2_copy_63 rfl ?_
  obtain ⟨S27, h28, hf⟩ := hbd_s hf
  refine h_acopy h28 q_587 (Nat.le_trans (by decide) hd) (Nat.le_of_ble_eq_true rfl) dX2_copy_65 ?_
  refine h_aload_n dX2_copy_68 rfl 1 rfl ?_
  obtain ⟨t29, h30, hf⟩ := hbd_s hf
  refine h_getR h30 rfl (Nat.le_of_ble_eq_true rfl) rfl q_163 rfl dX2_copy_69 ?_
  refine h_iconst (v := 0) dX2_copy_72 rfl ?_
  refine h_aload_n dX2_copy_73 rfl 0 rfl ?_
  obtain ⟨t31, h32, hf⟩ := hbd_s hf
  refine h_getR h32 rfl (Nat.le_of_ble_eq_true rfl) rfl q_163 rfl dX2_copy_74 ?_
  refine h_iconst (v := 0) dX2_copy_77 rfl ?_
  refine h_bipush (v := 80) dX2_copy_78 rfl ?_
  obtain ⟨S33, h34, hf⟩ := hbd_s hf
  refine h_acopy h34 q_587 (Nat.le_trans (by decide) hd) (Nat.le_of_ble_eq_true rfl) dX2_copy_80 ?_
  obtain rfl := Option.some.inj hf
  exact h_vret rfl rfl rfl (Nat.le_refl _) (Nat.le_refl _) dX2_copy_83
abbrev x_X3_init (d : Nat) (S0 : hS) (args : List Value) (r : hS) (cs : Nat → Nat) : hX := ((none, 3, d, 0, 0, true), (S0, args, none, r), cs)
theorem v_X3_init : hIW yX3_init cX3_init 3 2 := ⟨q_234, q_6, q_235, rfl, by decide +kernel, by decide⟩
def f_X3_init (a0 : Nat) (a1 : Nat) (a2 : Nat) (S : hS) : Option (hS) :=
  hbd (sZ S a0 3 2 0) fun S1 =>
  hbd (sR S1 a0 3 0 a1) fun S3 =>
  hbd (sR S3 a0 3 1 a2) fun S5 =>
  some S5
set_option maxRecDepth 100000 in
set_option maxHeartbeats 4000000 in
theorem m_X3_init {d : Nat} {cs : Nat → Nat} {a0 : Nat} {a1 : Nat} {a2 : Nat} {S : hS} {r : hS} (hd : 1 ≤ d) (hf : f_X3_init a0 a1 a2 S = some r) : HM yX3_init cX3_init 3 none d 0 0 cs [.ref a0, .ref a1, .ref a2] S (none) r := by
  unfold f_X3_init at hf
  refine HM.ofHW true (by decide) (fun h => by rfl) (Nat.le_of_ble_eq_true rfl) ?_
  show HW cX3_init RX3 (x_X3_init d S [.ref a0, .ref a1, .ref a2] r cs) 0 0 S 0 [(0, .ref a0), (1, .ref a1), (2, .ref a2)] []
  refine h_aload_n dX3_init_0 rfl 0 rfl ?_
  refine h_obj q_236 (Nat.le_trans (by decide) hd) (Nat.le_of_ble_eq_true rfl) dX3_init_1 ?_
  refine h_aload_n dX3_init_4 rfl 0 rfl ?_
  refine h_iconst (v := 0) dX3_init_5 rfl ?_
  obtain ⟨S1, h2, hf⟩ := hbd_s hf
  refine h_putZ h2 rfl (Nat.le_of_ble_eq_true rfl) rfl q_239 rfl rfl (by decide +kernel) dX3_init_6 ?_
  refine h_aload_n dX3_init_9 rfl 0 rfl ?_
  refine h_aload_n dX3_init_10 rfl 1 rfl ?_
  obtain ⟨S3, h4, hf⟩ := hbd_s hf
  refine h_putF rfl h4 rfl (Nat.le_of_ble_eq_true rfl) rfl q_237 rfl rfl rfl (tyX3_ok 0 (by decide)) rfl rfl dX3_init_11 ?_
  refine h_aload_n dX3_init_14 rfl 0 rfl ?_
  refine h_aload_n dX3_init_15 rfl 2 rfl ?_
  obtain ⟨S5, h6, hf⟩ := hbd_s hf
  refine h_putF rfl h6 rfl (Nat.le_of_ble_eq_true rfl) rfl q_238 rfl rfl rfl (tyX3_ok 1 (by decide)) rfl rfl dX3_init_16 ?_
  obtain rfl := Option.some.inj hf
  exact h_vret rfl rfl rfl (Nat.le_refl _) (Nat.le_refl _) dX3_init_19
abbrev x_X3_isFull (d : Nat) (S0 : hS) (args : List Value) (r : Int32 × hS) (cs : Nat → Nat) : hX := (((some .boolean), 2, d, 0, 0, false), (S0, args, some (.int r.1), r.2), cs)
theorem v_X3_isFull : hVW yX3_isFull cX3_isFull 2 (some .boolean) RX3 1 := ⟨q_457, q_s4, q_6, q_458, by decide +kernel, by decide⟩
def f_X3_isFull (a0 : Nat) (a1 : Int32) (S : hS) : Option (Int32 × hS) :=
  if a1 = 1 then
    (hbd (gR S a0 3 1) fun t2 =>
     hbd (gR S t2 0 1) fun t4 =>
     hbd (gI S t4 2 0) fun t6 =>
     if t6 < 12 then
       (some (0, S))
     else
       (some (1, S)))
  else
    (if a1 = 2 then
       (hbd (gR S a0 3 1) fun t10 =>
        hbd (gR S t10 0 0) fun t12 =>
        hbd (gI S t12 6 8) fun t14 =>
        if t14 < 6 then
          (some (0, S))
        else
          (some (1, S)))
     else
       (if a1 = 3 then
          (hbd (gR S a0 3 1) fun t18 =>
           hbd (gR S t18 0 0) fun t20 =>
           hbd (gI S t20 6 12) fun t22 =>
           if t22 < 8 then
             (some (0, S))
           else
             (some (1, S)))
        else
          (if a1 = 4 then
             (hbd (gI S a0 3 2) fun t26 =>
              hck (t26 = 0 ∨ t26 = 1) <|
              some (t26, S))
           else
             (some (0, S)))))
set_option maxRecDepth 100000 in
set_option maxHeartbeats 4000000 in
theorem m_X3_isFull {d : Nat} {cs : Nat → Nat} {a0 : Nat} {a1 : Int32} {S : hS} {r : Int32 × hS} (hd : 1 ≤ d) (hf : f_X3_isFull a0 a1 S = some r) : HM yX3_isFull cX3_isFull 2 (some .boolean) d 0 0 cs [.ref a0, .int a1] S (some (.int r.1)) r.2 := by
  unfold f_X3_isFull at hf
  refine HM.ofHW false (by decide) (fun h => by cases h) (Nat.le_of_ble_eq_true rfl) ?_
  show HW cX3_isFull RX3 (x_X3_isFull d S [.ref a0, .int a1] r cs) 0 0 S 0 [(0, .ref a0), (1, .int a1)] []
  refine h_iload_n dX3_isFull_0 rfl 1 rfl ?_
  by_cases c1 : a1 = 1
  · replace hf := hif_p c1 hf
    refine h_tabIn (tgt := 32) 1 (by rw [c1]; rfl) dX3_isFull_1 (by decide) (by decide) rfl (by decide) ?_
    refine h_aload_n dX3_isFull_32 rfl 0 rfl ?_
    obtain ⟨t2, h3, hf⟩ := hbd_s hf
    refine h_getR h3 rfl (Nat.le_of_ble_eq_true rfl) rfl q_238 rfl dX3_isFull_33 ?_
    obtain ⟨t4, h5, hf⟩ := hbd_s hf
    refine h_getRN (host := "DeafSpot") h5 rfl (Nat.le_of_ble_eq_true rfl) rfl (List.mem_of_getElem? (i := 51) rfl) rfl dX3_isFull_36 ?_
    obtain ⟨t6, h7, hf⟩ := hbd_s hf
    refine h_getIN (host := "DeafSpot") h7 rfl (Nat.le_of_ble_eq_true rfl) rfl (List.mem_of_getElem? (i := 36) rfl) rfl dX3_isFull_39 ?_
    refine h_bipush (v := 12) dX3_isFull_42 rfl ?_
    refine h_icmp_lt (tgt := 51) dX3_isFull_44 (by decide) (fun c8 => ?_) (fun c8 => ?_)
    · replace hf := hif_p c8 hf
      refine h_iconst (v := 0) dX3_isFull_51 rfl ?_
      obtain rfl := Option.some.inj hf
      exact h_zret rfl (by decide) rfl rfl (Nat.le_refl _) (Nat.le_refl _) dX3_isFull_52
    · replace hf := hif_n c8 hf
      refine h_iconst (v := 1) dX3_isFull_47 rfl ?_
      refine h_goto (tgt := 52) dX3_isFull_48 (by decide) ?_
      obtain rfl := Option.some.inj hf
      exact h_zret rfl (by decide) rfl rfl (Nat.le_refl _) (Nat.le_refl _) dX3_isFull_52
  · replace hf := hif_n c1 hf
    by_cases c9 : a1 = 2
    · replace hf := hif_p c9 hf
      refine h_tabIn (tgt := 53) 2 (by rw [c9]; rfl) dX3_isFull_1 (by decide) (by decide) rfl (by decide) ?_
      refine h_aload_n dX3_isFull_53 rfl 0 rfl ?_
      obtain ⟨t10, h11, hf⟩ := hbd_s hf
      refine h_getR h11 rfl (Nat.le_of_ble_eq_true rfl) rfl q_238 rfl dX3_isFull_54 ?_
      obtain ⟨t12, h13, hf⟩ := hbd_s hf
      refine h_getRN (host := "DeafSpot") h13 rfl (Nat.le_of_ble_eq_true rfl) rfl (List.mem_of_getElem? (i := 49) rfl) rfl dX3_isFull_57 ?_
      obtain ⟨t14, h15, hf⟩ := hbd_s hf
      refine h_getIN (host := "DeafSpot") h15 rfl (Nat.le_of_ble_eq_true rfl) rfl (List.mem_of_getElem? (i := 22) rfl) rfl dX3_isFull_60 ?_
      refine h_bipush (v := 6) dX3_isFull_63 rfl ?_
      refine h_icmp_lt (tgt := 72) dX3_isFull_65 (by decide) (fun c16 => ?_) (fun c16 => ?_)
      · replace hf := hif_p c16 hf
        refine h_iconst (v := 0) dX3_isFull_72 rfl ?_
        obtain rfl := Option.some.inj hf
        exact h_zret rfl (by decide) rfl rfl (Nat.le_refl _) (Nat.le_refl _) dX3_isFull_73
      · replace hf := hif_n c16 hf
        refine h_iconst (v := 1) dX3_isFull_68 rfl ?_
        refine h_goto (tgt := 73) dX3_isFull_69 (by decide) ?_
        obtain rfl := Option.some.inj hf
        exact h_zret rfl (by decide) rfl rfl (Nat.le_refl _) (Nat.le_refl _) dX3_isFull_73
    · replace hf := hif_n c9 hf
      by_cases c17 : a1 = 3
      · replace hf := hif_p c17 hf
        refine h_tabIn (tgt := 74) 3 (by rw [c17]; rfl) dX3_isFull_1 (by decide) (by decide) rfl (by decide) ?_
        refine h_aload_n dX3_isFull_74 rfl 0 rfl ?_
        obtain ⟨t18, h19, hf⟩ := hbd_s hf
        refine h_getR h19 rfl (Nat.le_of_ble_eq_true rfl) rfl q_238 rfl dX3_isFull_75 ?_
        obtain ⟨t20, h21, hf⟩ := hbd_s hf
        refine h_getRN (host := "DeafSpot") h21 rfl (Nat.le_of_ble_eq_true rfl) rfl (List.mem_of_getElem? (i := 49) rfl) rfl dX3_isFull_78 ?_
        obtain ⟨t22, h23, hf⟩ := hbd_s hf
        refine h_getIN (host := "DeafSpot") h23 rfl (Nat.le_of_ble_eq_true rfl) rfl (List.mem_of_getElem? (i := 31) rfl) rfl dX3_isFull_81 ?_
        refine h_bipush (v := 8) dX3_isFull_84 rfl ?_
        refine h_icmp_lt (tgt := 93) dX3_isFull_86 (by decide) (fun c24 => ?_) (fun c24 => ?_)
        · replace hf := hif_p c24 hf
          refine h_iconst (v := 0) dX3_isFull_93 rfl ?_
          obtain rfl := Option.some.inj hf
          exact h_zret rfl (by decide) rfl rfl (Nat.le_refl _) (Nat.le_refl _) dX3_isFull_94
        · replace hf := hif_n c24 hf
          refine h_iconst (v := 1) dX3_isFull_89 rfl ?_
          refine h_goto (tgt := 94) dX3_isFull_90 (by decide) ?_
          obtain rfl := Option.some.inj hf
          exact h_zret rfl (by decide) rfl rfl (Nat.le_refl _) (Nat.le_refl _) dX3_isFull_94
      · replace hf := hif_n c17 hf
        by_cases c25 : a1 = 4
        · replace hf := hif_p c25 hf
          refine h_tabIn (tgt := 95) 4 (by rw [c25]; rfl) dX3_isFull_1 (by decide) (by decide) rfl (by decide) ?_
          refine h_aload_n dX3_isFull_95 rfl 0 rfl ?_
          obtain ⟨t26, h27, hf⟩ := hbd_s hf
          refine h_getI h27 rfl (Nat.le_of_ble_eq_true rfl) rfl q_239 rfl dX3_isFull_96 ?_
          obtain ⟨hz, hf⟩ := hck_s hf
          obtain rfl := Option.some.inj hf
          exact h_zret rfl hz rfl rfl (Nat.le_refl _) (Nat.le_refl _) dX3_isFull_99
        · replace hf := hif_n c25 hf
          refine h_tabOut (tgt := 100) dX3_isFull_1 (by have g0 := hne_t (a := 1) c1 rfl; have g1 := hne_t (a := 2) c9 rfl; have g2 := hne_t (a := 3) c17 rfl; have g3 := hne_t (a := 4) c25 rfl; omega) (by decide) ?_
          refine h_iconst (v := 0) dX3_isFull_100 rfl ?_
          obtain rfl := Option.some.inj hf
          exact h_zret rfl (by decide) rfl rfl (Nat.le_refl _) (Nat.le_refl _) dX3_isFull_101
abbrev x_X4_init (d : Nat) (S0 : hS) (args : List Value) (r : hS) (cs : Nat → Nat) : hX := ((none, 4, d, 1, 64, true), (S0, args, none, r), cs)
theorem v_X4_init : hIW yX4_init cX4_init 4 3 := ⟨q_669, q_17, q_670, rfl, by decide +kernel, by decide⟩
def f_X4_init (a0 : Nat) (a1 : Nat) (a2 : Nat) (a3 : Nat) (S : hS) : Option (hS) :=
  hnw S 13 64 fun q1 S2 =>
  hbd (sR S2 a0 4 3 q1) fun S5 =>
  hbd (sR S5 a0 4 0 a1) fun S7 =>
  hbd (sR S7 a0 4 1 a2) fun S9 =>
  hbd (sR S9 a0 4 2 a3) fun S11 =>
  some S11
set_option maxRecDepth 100000 in
set_option maxHeartbeats 4000000 in
theorem m_X4_init {d : Nat} {cs : Nat → Nat} {a0 : Nat} {a1 : Nat} {a2 : Nat} {a3 : Nat} {S : hS} {r : hS} (hd : 1 ≤ d) (hf : f_X4_init a0 a1 a2 a3 S = some r) : HM yX4_init cX4_init 4 none d 1 64 cs [.ref a0, .ref a1, .ref a2, .ref a3] S (none) r := by
  unfold f_X4_init at hf
  refine HM.ofHW true (by decide) (fun h => by rfl) (Nat.le_of_ble_eq_true rfl) ?_
  show HW cX4_init RX4 (x_X4_init d S [.ref a0, .ref a1, .ref a2, .ref a3] r cs) 0 0 S 0 [(0, .ref a0), (1, .ref a1), (2, .ref a2), (3, .ref a3)] []
  refine h_aload_n dX4_init_0 rfl 0 rfl ?_
  refine h_obj q_671 (Nat.le_trans (by decide) hd) (Nat.le_of_ble_eq_true rfl) dX4_init_1 ?_
  refine h_aload_n dX4_init_4 rfl 0 rfl ?_
  refine h_bipush (v := 64) dX4_init_5 rfl ?_
  obtain ⟨q1, S2, h3, h4, hf⟩ := hnw_s hf
  refine h_newJ (N := 64) h3 h4 (by decide) rfl (by decide) dX4_init_7 (Nat.le_of_ble_eq_true rfl) (Nat.le_of_ble_eq_true rfl) ?_
  obtain ⟨S5, h6, hf⟩ := hbd_s hf
  refine h_putF rfl h6 rfl (Nat.le_of_ble_eq_true rfl) rfl q_675 rfl rfl rfl (tyX4_ok 3 (by decide)) rfl rfl dX4_init_9 ?_
  refine h_aload_n dX4_init_12 rfl 0 rfl ?_
  refine h_aload_n dX4_init_13 rfl 1 rfl ?_
  obtain ⟨S7, h8, hf⟩ := hbd_s hf
  refine h_putF rfl h8 rfl (Nat.le_of_ble_eq_true rfl) rfl q_672 rfl rfl rfl (tyX4_ok 0 (by decide)) rfl rfl dX4_init_14 ?_
  refine h_aload_n dX4_init_17 rfl 0 rfl ?_
  refine h_aload_n dX4_init_18 rfl 2 rfl ?_
  obtain ⟨S9, h10, hf⟩ := hbd_s hf
  refine h_putF rfl h10 rfl (Nat.le_of_ble_eq_true rfl) rfl q_673 rfl rfl rfl (tyX4_ok 1 (by decide)) rfl rfl dX4_init_19 ?_
  refine h_aload_n dX4_init_22 rfl 0 rfl ?_
  refine h_aload_n dX4_init_23 rfl 3 rfl ?_
  obtain ⟨S11, h12, hf⟩ := hbd_s hf
  refine h_putF rfl h12 rfl (Nat.le_of_ble_eq_true rfl) rfl q_674 rfl rfl rfl (tyX4_ok 2 (by decide)) rfl rfl dX4_init_24 ?_
  obtain rfl := Option.some.inj hf
  exact h_vret rfl rfl rfl (Nat.le_of_ble_eq_true rfl) (Nat.le_of_ble_eq_true rfl) dX4_init_27
abbrev x_X4_join (d : Nat) (S0 : hS) (args : List Value) (r : Int64 × hS) (cs : Nat → Nat) : hX := (((some .long), 5, d, 0, 0, false), (S0, args, some (.long r.1), r.2), cs)
theorem v_X4_join : hSW yX4_join cX4_join 5 (some .long) 3 := ⟨q_781, q_17, q_782, by decide +kernel, by decide⟩
def f_X4_join (a0 : Int32) (a1 : Int64) (a3 : Int64) (S : hS) : Option (Int64 × hS) :=
  if a0 = (-20) then
    (some (a1 &&& a3, S))
  else
    (if a0 = (-19) then
       (if (lg_cmp a1 a3) ≤ 0 then
          (some (0, S))
        else
          (some (1, S)))
     else
       (if a0 = (-18) then
          (if (lg_cmp a1 a3) < 0 then
             (some (0, S))
           else
             (some (1, S)))
        else
          (if a0 = (-17) then
             (if (lg_cmp a1 a3) = 0 then
                (some (1, S))
              else
                (some (0, S)))
           else
             (if a0 = (-16) then
                (if 0 < (lg_cmp a1 a3) then
                   (some (0, S))
                 else
                   (some (1, S)))
              else
                (if a0 = (-15) then
                   (if 0 ≤ (lg_cmp a1 a3) then
                      (some (0, S))
                    else
                      (some (1, S)))
                 else
                   (if a0 = (-14) then
                      (if (lg_cmp a3 0) = 0 then
                         (some (0, S))
                       else
                         (hck (¬ a3 = 0) <|
                          some (a1 - a1 / a3 * a3, S)))
                    else
                      (if a0 = (-13) then
                         (if (lg_cmp a3 0) = 0 then
                            (some (0, S))
                          else
                            (hck (¬ a3 = 0) <|
                             some (a1 / a3, S)))
                       else
                         (if a0 = (-12) then
                            (some (a1 * a3, S))
                          else
                            (if a0 = (-11) then
                               (some (a1 - a3, S))
                             else
                               (if a0 = (-10) then
                                  (some (a1 + a3, S))
                                else
                                  (some (a1 ||| a3, S))))))))))))
set_option maxRecDepth 100000 in
set_option maxHeartbeats 4000000 in
theorem m_X4_join {d : Nat} {cs : Nat → Nat} {a0 : Int32} {a1 : Int64} {a3 : Int64} {S : hS} {r : Int64 × hS} (hd : 1 ≤ d) (hf : f_X4_join a0 a1 a3 S = some r) : HM yX4_join cX4_join 5 (some .long) d 0 0 cs [.int a0, .long a1, .long a3] S (some (.long r.1)) r.2 := by
  unfold f_X4_join at hf
  refine HM.ofHW false (by decide) (fun h => by cases h) (Nat.le_of_ble_eq_true rfl) ?_
  show HW cX4_join RX4 (x_X4_join d S [.int a0, .long a1, .long a3] r cs) 0 0 S 0 [(0, .int a0), (1, .long a1), (3, .long a3)] []
  refine h_iload_n dX4_join_0 rfl 0 rfl ?_
  by_cases c1 : a0 = (-20)
  · replace hf := hif_p c1 hf
    refine h_tabIn (tgt := 160) (-20) (by rw [c1]; rfl) dX4_join_1 (by decide) (by decide) rfl (by decide) ?_
    refine h_lload_n dX4_join_160 rfl 1 rfl ?_
    refine h_lload_n dX4_join_161 rfl 2 rfl ?_
    refine h_land dX4_join_162 ?_
    obtain rfl := Option.some.inj hf
    exact h_lret rfl rfl rfl (Nat.le_refl _) (Nat.le_refl _) dX4_join_163
  · replace hf := hif_n c1 hf
    by_cases c2 : a0 = (-19)
    · replace hf := hif_p c2 hf
      refine h_tabIn (tgt := 148) (-19) (by rw [c2]; rfl) dX4_join_1 (by decide) (by decide) rfl (by decide) ?_
      refine h_lload_n dX4_join_148 rfl 1 rfl ?_
      refine h_lload_n dX4_join_149 rfl 2 rfl ?_
      refine h_lcmp dX4_join_150 ?_
      refine h_if_le (tgt := 158) dX4_join_151 (by decide) (fun c3 => ?_) (fun c3 => ?_)
      · replace hf := hif_p c3 hf
        refine h_lconst (v := 0) dX4_join_158 rfl ?_
        obtain rfl := Option.some.inj hf
        exact h_lret rfl rfl rfl (Nat.le_refl _) (Nat.le_refl _) dX4_join_159
      · replace hf := hif_n c3 hf
        refine h_lconst (v := 1) dX4_join_154 rfl ?_
        refine h_goto (tgt := 159) dX4_join_155 (by decide) ?_
        obtain rfl := Option.some.inj hf
        exact h_lret rfl rfl rfl (Nat.le_refl _) (Nat.le_refl _) dX4_join_159
    · replace hf := hif_n c2 hf
      by_cases c4 : a0 = (-18)
      · replace hf := hif_p c4 hf
        refine h_tabIn (tgt := 136) (-18) (by rw [c4]; rfl) dX4_join_1 (by decide) (by decide) rfl (by decide) ?_
        refine h_lload_n dX4_join_136 rfl 1 rfl ?_
        refine h_lload_n dX4_join_137 rfl 2 rfl ?_
        refine h_lcmp dX4_join_138 ?_
        refine h_if_lt (tgt := 146) dX4_join_139 (by decide) (fun c5 => ?_) (fun c5 => ?_)
        · replace hf := hif_p c5 hf
          refine h_lconst (v := 0) dX4_join_146 rfl ?_
          obtain rfl := Option.some.inj hf
          exact h_lret rfl rfl rfl (Nat.le_refl _) (Nat.le_refl _) dX4_join_147
        · replace hf := hif_n c5 hf
          refine h_lconst (v := 1) dX4_join_142 rfl ?_
          refine h_goto (tgt := 147) dX4_join_143 (by decide) ?_
          obtain rfl := Option.some.inj hf
          exact h_lret rfl rfl rfl (Nat.le_refl _) (Nat.le_refl _) dX4_join_147
      · replace hf := hif_n c4 hf
        by_cases c6 : a0 = (-17)
        · replace hf := hif_p c6 hf
          refine h_tabIn (tgt := 124) (-17) (by rw [c6]; rfl) dX4_join_1 (by decide) (by decide) rfl (by decide) ?_
          refine h_lload_n dX4_join_124 rfl 1 rfl ?_
          refine h_lload_n dX4_join_125 rfl 2 rfl ?_
          refine h_lcmp dX4_join_126 ?_
          refine h_if_ne (tgt := 134) dX4_join_127 (by decide) (fun c7 => ?_) (fun c7 => ?_)
          · replace hf := hif_n c7 hf
            refine h_lconst (v := 0) dX4_join_134 rfl ?_
            obtain rfl := Option.some.inj hf
            exact h_lret rfl rfl rfl (Nat.le_refl _) (Nat.le_refl _) dX4_join_135
          · replace hf := hif_p c7 hf
            refine h_lconst (v := 1) dX4_join_130 rfl ?_
            refine h_goto (tgt := 135) dX4_join_131 (by decide) ?_
            obtain rfl := Option.some.inj hf
            exact h_lret rfl rfl rfl (Nat.le_refl _) (Nat.le_refl _) dX4_join_135
        · replace hf := hif_n c6 hf
          by_cases c8 : a0 = (-16)
          · replace hf := hif_p c8 hf
            refine h_tabIn (tgt := 112) (-16) (by rw [c8]; rfl) dX4_join_1 (by decide) (by decide) rfl (by decide) ?_
            refine h_lload_n dX4_join_112 rfl 1 rfl ?_
            refine h_lload_n dX4_join_113 rfl 2 rfl ?_
            refine h_lcmp dX4_join_114 ?_
            refine h_if_gt (tgt := 122) dX4_join_115 (by decide) (fun c9 => ?_) (fun c9 => ?_)
            · replace hf := hif_p c9 hf
              refine h_lconst (v := 0) dX4_join_122 rfl ?_
              obtain rfl := Option.some.inj hf
              exact h_lret rfl rfl rfl (Nat.le_refl _) (Nat.le_refl _) dX4_join_123
            · replace hf := hif_n c9 hf
              refine h_lconst (v := 1) dX4_join_118 rfl ?_
              refine h_goto (tgt := 123) dX4_join_119 (by decide) ?_
              obtain rfl := Option.some.inj hf
              exact h_lret rfl rfl rfl (Nat.le_refl _) (Nat.le_refl _) dX4_join_123
          · replace hf := hif_n c8 hf
            by_cases c10 : a0 = (-15)
            · replace hf := hif_p c10 hf
              refine h_tabIn (tgt := 100) (-15) (by rw [c10]; rfl) dX4_join_1 (by decide) (by decide) rfl (by decide) ?_
              refine h_lload_n dX4_join_100 rfl 1 rfl ?_
              refine h_lload_n dX4_join_101 rfl 2 rfl ?_
              refine h_lcmp dX4_join_102 ?_
              refine h_if_ge (tgt := 110) dX4_join_103 (by decide) (fun c11 => ?_) (fun c11 => ?_)
              · replace hf := hif_p c11 hf
                refine h_lconst (v := 0) dX4_join_110 rfl ?_
                obtain rfl := Option.some.inj hf
                exact h_lret rfl rfl rfl (Nat.le_refl _) (Nat.le_refl _) dX4_join_111
              · replace hf := hif_n c11 hf
                refine h_lconst (v := 1) dX4_join_106 rfl ?_
                refine h_goto (tgt := 111) dX4_join_107 (by decide) ?_
                obtain rfl := Option.some.inj hf
                exact h_lret rfl rfl rfl (Nat.le_refl _) (Nat.le_refl _) dX4_join_111
            · replace hf := hif_n c10 hf
              by_cases c12 : a0 = (-14)
              · replace hf := hif_p c12 hf
                refine h_tabIn (tgt := 86) (-14) (by rw [c12]; rfl) dX4_join_1 (by decide) (by decide) rfl (by decide) ?_
                refine h_lload_n dX4_join_86 rfl 2 rfl ?_
                refine h_lconst (v := 0) dX4_join_87 rfl ?_
                refine h_lcmp dX4_join_88 ?_
                refine h_if_ne (tgt := 96) dX4_join_89 (by decide) (fun c13 => ?_) (fun c13 => ?_)
                · replace hf := hif_n c13 hf
                  refine h_lload_n dX4_join_96 rfl 1 rfl ?_
                  refine h_lload_n dX4_join_97 rfl 2 rfl ?_
                  obtain ⟨h14, hf⟩ := hck_s hf
                  refine h_lrem dX4_join_98 h14 ?_
                  obtain rfl := Option.some.inj hf
                  exact h_lret rfl rfl rfl (Nat.le_refl _) (Nat.le_refl _) dX4_join_99
                · replace hf := hif_p c13 hf
                  refine h_lconst (v := 0) dX4_join_92 rfl ?_
                  refine h_goto (tgt := 99) dX4_join_93 (by decide) ?_
                  obtain rfl := Option.some.inj hf
                  exact h_lret rfl rfl rfl (Nat.le_refl _) (Nat.le_refl _) dX4_join_99
              · replace hf := hif_n c12 hf
                by_cases c15 : a0 = (-13)
                · replace hf := hif_p c15 hf
                  refine h_tabIn (tgt := 72) (-13) (by rw [c15]; rfl) dX4_join_1 (by decide) (by decide) rfl (by decide) ?_
                  refine h_lload_n dX4_join_72 rfl 2 rfl ?_
                  refine h_lconst (v := 0) dX4_join_73 rfl ?_
                  refine h_lcmp dX4_join_74 ?_
                  refine h_if_ne (tgt := 82) dX4_join_75 (by decide) (fun c16 => ?_) (fun c16 => ?_)
                  · replace hf := hif_n c16 hf
                    refine h_lload_n dX4_join_82 rfl 1 rfl ?_
                    refine h_lload_n dX4_join_83 rfl 2 rfl ?_
                    obtain ⟨h17, hf⟩ := hck_s hf
                    refine h_ldiv dX4_join_84 h17 ?_
                    obtain rfl := Option.some.inj hf
                    exact h_lret rfl rfl rfl (Nat.le_refl _) (Nat.le_refl _) dX4_join_85
                  · replace hf := hif_p c16 hf
                    refine h_lconst (v := 0) dX4_join_78 rfl ?_
                    refine h_goto (tgt := 85) dX4_join_79 (by decide) ?_
                    obtain rfl := Option.some.inj hf
                    exact h_lret rfl rfl rfl (Nat.le_refl _) (Nat.le_refl _) dX4_join_85
                · replace hf := hif_n c15 hf
                  by_cases c18 : a0 = (-12)
                  · replace hf := hif_p c18 hf
                    refine h_tabIn (tgt := 68) (-12) (by rw [c18]; rfl) dX4_join_1 (by decide) (by decide) rfl (by decide) ?_
                    refine h_lload_n dX4_join_68 rfl 1 rfl ?_
                    refine h_lload_n dX4_join_69 rfl 2 rfl ?_
                    refine h_lmul dX4_join_70 ?_
                    obtain rfl := Option.some.inj hf
                    exact h_lret rfl rfl rfl (Nat.le_refl _) (Nat.le_refl _) dX4_join_71
                  · replace hf := hif_n c18 hf
                    by_cases c19 : a0 = (-11)
                    · replace hf := hif_p c19 hf
                      refine h_tabIn (tgt := 64) (-11) (by rw [c19]; rfl) dX4_join_1 (by decide) (by decide) rfl (by decide) ?_
                      refine h_lload_n dX4_join_64 rfl 1 rfl ?_
                      refine h_lload_n dX4_join_65 rfl 2 rfl ?_
                      refine h_lsub dX4_join_66 ?_
                      obtain rfl := Option.some.inj hf
                      exact h_lret rfl rfl rfl (Nat.le_refl _) (Nat.le_refl _) dX4_join_67
                    · replace hf := hif_n c19 hf
                      by_cases c20 : a0 = (-10)
                      · replace hf := hif_p c20 hf
                        refine h_tabIn (tgt := 60) (-10) (by rw [c20]; rfl) dX4_join_1 (by decide) (by decide) rfl (by decide) ?_
                        refine h_lload_n dX4_join_60 rfl 1 rfl ?_
                        refine h_lload_n dX4_join_61 rfl 2 rfl ?_
                        refine h_ladd dX4_join_62 ?_
                        obtain rfl := Option.some.inj hf
                        exact h_lret rfl rfl rfl (Nat.le_refl _) (Nat.le_refl _) dX4_join_63
                      · replace hf := hif_n c20 hf
                        refine h_tabOut (tgt := 164) dX4_join_1 (by have g0 := hne_t (a := (-20)) c1 rfl; have g1 := hne_t (a := (-19)) c2 rfl; have g2 := hne_t (a := (-18)) c4 rfl; have g3 := hne_t (a := (-17)) c6 rfl; have g4 := hne_t (a := (-16)) c8 rfl; have g5 := hne_t (a := (-15)) c10 rfl; have g6 := hne_t (a := (-14)) c12 rfl; have g7 := hne_t (a := (-13)) c15 rfl; have g8 := hne_t (a := (-12)) c18 rfl; have g9 := hne_t (a := (-11)) c19 rfl; have g10 := hne_t (a := (-10)) c20 rfl; omega) (by decide) ?_
                        refine h_lload_n dX4_join_164 rfl 1 rfl ?_
                        refine h_lload_n dX4_join_165 rfl 2 rfl ?_
                        refine h_lor dX4_join_166 ?_
                        obtain rfl := Option.some.inj hf
                        exact h_lret rfl rfl rfl (Nat.le_refl _) (Nat.le_refl _) dX4_join_167
abbrev x_X5_init (d : Nat) (S0 : hS) (args : List Value) (r : hS) (cs : Nat → Nat) : hX := ((none, 2, d, 3, 424, true), (S0, args, none, r), cs)
theorem v_X5_init : hIW yX5_init cX5_init 2 1 := ⟨q_250, q_7, q_251, rfl, by decide +kernel, by decide⟩
def f_X5_init (a0 : Nat) (a1 : Nat) (S : hS) : Option (hS) :=
  hnw S 12 400 fun q1 S2 =>
  hbd (sR S2 a0 5 1 q1) fun S5 =>
  hbd (sI S5 a0 5 2 0) fun S7 =>
  hbd (sI S7 a0 5 3 0) fun S9 =>
  hnw S9 12 12 fun q11 S12 =>
  hbd (sR S12 a0 5 4 q11) fun S15 =>
  hnw S15 12 12 fun q17 S18 =>
  hbd (sR S18 a0 5 5 q17) fun S21 =>
  hbd (sR S21 a0 5 0 a1) fun S23 =>
  some S23
set_option maxRecDepth 100000 in
set_option maxHeartbeats 4000000 in
theorem m_X5_init {d : Nat} {cs : Nat → Nat} {a0 : Nat} {a1 : Nat} {S : hS} {r : hS} (hd : 1 ≤ d) (hf : f_X5_init a0 a1 S = some r) : HM yX5_init cX5_init 2 none d 3 424 cs [.ref a0, .ref a1] S (none) r := by
  unfold f_X5_init at hf
  refine HM.ofHW true (by decide) (fun h => by rfl) (Nat.le_of_ble_eq_true rfl) ?_
  show HW cX5_init RX5 (x_X5_init d S [.ref a0, .ref a1] r cs) 0 0 S 0 [(0, .ref a0), (1, .ref a1)] []
  refine h_aload_n dX5_init_0 rfl 0 rfl ?_
  refine h_obj q_252 (Nat.le_trans (by decide) hd) (Nat.le_of_ble_eq_true rfl) dX5_init_1 ?_
  refine h_aload_n dX5_init_4 rfl 0 rfl ?_
  refine h_sipush (v := 400) dX5_init_5 rfl ?_
  obtain ⟨q1, S2, h3, h4, hf⟩ := hnw_s hf
  refine h_newI (N := 400) h3 h4 (by decide) rfl (by decide) dX5_init_8 (Nat.le_of_ble_eq_true rfl) (Nat.le_of_ble_eq_true rfl) ?_
  obtain ⟨S5, h6, hf⟩ := hbd_s hf
  refine h_putF rfl h6 rfl (Nat.le_of_ble_eq_true rfl) rfl q_254 rfl rfl rfl (tyX5_ok 1 (by decide)) rfl rfl dX5_init_10 ?_
  refine h_aload_n dX5_init_13 rfl 0 rfl ?_
  refine h_iconst (v := 0) dX5_init_14 rfl ?_
  obtain ⟨S7, h8, hf⟩ := hbd_s hf
  refine h_putI h8 rfl (Nat.le_of_ble_eq_true rfl) rfl q_255 rfl rfl (by decide +kernel) dX5_init_15 ?_
  refine h_aload_n dX5_init_18 rfl 0 rfl ?_
  refine h_iconst (v := 0) dX5_init_19 rfl ?_
  obtain ⟨S9, h10, hf⟩ := hbd_s hf
  refine h_putI h10 rfl (Nat.le_of_ble_eq_true rfl) rfl q_256 rfl rfl (by decide +kernel) dX5_init_20 ?_
  refine h_aload_n dX5_init_23 rfl 0 rfl ?_
  refine h_bipush (v := 12) dX5_init_24 rfl ?_
  obtain ⟨q11, S12, h13, h14, hf⟩ := hnw_s hf
  refine h_newI (N := 12) h13 h14 (by decide) rfl (by decide) dX5_init_26 (Nat.le_of_ble_eq_true rfl) (Nat.le_of_ble_eq_true rfl) ?_
  obtain ⟨S15, h16, hf⟩ := hbd_s hf
  refine h_putF rfl h16 rfl (Nat.le_of_ble_eq_true rfl) rfl q_257 rfl rfl rfl (tyX5_ok 4 (by decide)) rfl rfl dX5_init_28 ?_
  refine h_aload_n dX5_init_31 rfl 0 rfl ?_
  refine h_bipush (v := 12) dX5_init_32 rfl ?_
  obtain ⟨q17, S18, h19, h20, hf⟩ := hnw_s hf
  refine h_newI (N := 12) h19 h20 (by decide) rfl (by decide) dX5_init_34 (Nat.le_of_ble_eq_true rfl) (Nat.le_of_ble_eq_true rfl) ?_
  obtain ⟨S21, h22, hf⟩ := hbd_s hf
  refine h_putF rfl h22 rfl (Nat.le_of_ble_eq_true rfl) rfl q_258 rfl rfl rfl (tyX5_ok 5 (by decide)) rfl rfl dX5_init_36 ?_
  refine h_aload_n dX5_init_39 rfl 0 rfl ?_
  refine h_aload_n dX5_init_40 rfl 1 rfl ?_
  obtain ⟨S23, h24, hf⟩ := hbd_s hf
  refine h_putF rfl h24 rfl (Nat.le_of_ble_eq_true rfl) rfl q_253 rfl rfl rfl (tyX5_ok 0 (by decide)) rfl rfl dX5_init_41 ?_
  obtain rfl := Option.some.inj hf
  exact h_vret rfl rfl rfl (Nat.le_of_ble_eq_true rfl) (Nat.le_of_ble_eq_true rfl) dX5_init_44
abbrev x_X5_emit (d : Nat) (S0 : hS) (args : List Value) (r : hS) (cs : Nat → Nat) : hX := ((none, 2, d, 0, 0, false), (S0, args, none, r), cs)
theorem v_X5_emit : hVW yX5_emit cX5_emit 2 none RX5 1 := ⟨q_621, q_s16, q_7, q_622, by decide +kernel, by decide⟩
def f_X5_emit (a0 : Nat) (a1 : Int32) (S : hS) : Option (hS) :=
  hbd (gI S a0 5 2) fun t1 =>
  hbd (gR S a0 5 1) fun t3 =>
  hbd (gN S t3) fun t5 =>
  if t5 ≤ t1 then
    (some S)
  else
    (hbd (gR S a0 5 1) fun t8 =>
     hbd (gI S a0 5 2) fun t10 =>
     hbd (sA S t8 t10 a1) fun S12 =>
     hbd (gI S12 a0 5 2) fun t14 =>
     hbd (sI S12 a0 5 2 (t14 + 1)) fun S16 =>
     some S16)
set_option maxRecDepth 100000 in
set_option maxHeartbeats 4000000 in
theorem m_X5_emit {d : Nat} {cs : Nat → Nat} {a0 : Nat} {a1 : Int32} {S : hS} {r : hS} (hd : 1 ≤ d) (hf : f_X5_emit a0 a1 S = some r) : HM yX5_emit cX5_emit 2 none d 0 0 cs [.ref a0, .int a1] S (none) r := by
  unfold f_X5_emit at hf
  refine HM.ofHW false (by decide) (fun h => by cases h) (Nat.le_of_ble_eq_true rfl) ?_
  show HW cX5_emit RX5 (x_X5_emit d S [.ref a0, .int a1] r cs) 0 0 S 0 [(0, .ref a0), (1, .int a1)] []
  refine h_aload_n dX5_emit_0 rfl 0 rfl ?_
  obtain ⟨t1, h2, hf⟩ := hbd_s hf
  refine h_getI h2 rfl (Nat.le_of_ble_eq_true rfl) rfl q_255 rfl dX5_emit_1 ?_
  refine h_aload_n dX5_emit_4 rfl 0 rfl ?_
  obtain ⟨t3, h4, hf⟩ := hbd_s hf
  refine h_getR h4 rfl (Nat.le_of_ble_eq_true rfl) rfl q_254 rfl dX5_emit_5 ?_
  obtain ⟨t5, h6, hf⟩ := hbd_s hf
  refine h_alen h6 dX5_emit_8 ?_
  refine h_icmp_ge (tgt := 32) dX5_emit_9 (by decide) (fun c7 => ?_) (fun c7 => ?_)
  · replace hf := hif_p c7 hf
    obtain rfl := Option.some.inj hf
    exact h_vret rfl rfl rfl (Nat.le_refl _) (Nat.le_refl _) dX5_emit_32
  · replace hf := hif_n c7 hf
    refine h_aload_n dX5_emit_12 rfl 0 rfl ?_
    obtain ⟨t8, h9, hf⟩ := hbd_s hf
    refine h_getR h9 rfl (Nat.le_of_ble_eq_true rfl) rfl q_254 rfl dX5_emit_13 ?_
    refine h_aload_n dX5_emit_16 rfl 0 rfl ?_
    obtain ⟨t10, h11, hf⟩ := hbd_s hf
    refine h_getI h11 rfl (Nat.le_of_ble_eq_true rfl) rfl q_255 rfl dX5_emit_17 ?_
    refine h_iload_n dX5_emit_20 rfl 1 rfl ?_
    obtain ⟨S12, h13, hf⟩ := hbd_s hf
    refine h_iast h13 dX5_emit_21 ?_
    refine h_aload_n dX5_emit_22 rfl 0 rfl ?_
    refine h_dup dX5_emit_23 rfl ?_
    obtain ⟨t14, h15, hf⟩ := hbd_s hf
    refine h_getI h15 rfl (Nat.le_of_ble_eq_true rfl) rfl q_255 rfl dX5_emit_24 ?_
    refine h_iconst (v := 1) dX5_emit_27 rfl ?_
    refine h_iadd dX5_emit_28 ?_
    obtain ⟨S16, h17, hf⟩ := hbd_s hf
    refine h_putI h17 rfl (Nat.le_of_ble_eq_true rfl) rfl q_255 rfl rfl (by decide +kernel) dX5_emit_29 ?_
    obtain rfl := Option.some.inj hf
    exact h_vret rfl rfl rfl (Nat.le_refl _) (Nat.le_refl _) dX5_emit_32
abbrev x_X6_init (d : Nat) (S0 : hS) (args : List Value) (r : hS) (cs : Nat → Nat) : hX := ((none, 1, d, 9, 677, true), (S0, args, none, r), cs)
theorem v_X6_init : hIW yX6_init cX6_init 1 0 := ⟨q_61, q_4, q_62, rfl, by decide +kernel, by decide⟩
def f_X6_init (a0 : Nat) (S : hS) : Option (hS) :=
  hbd (sI S a0 6 0 0) fun S1 =>
  hbd (sI S1 a0 6 1 0) fun S3 =>
  hbd (sI S3 a0 6 2 0) fun S5 =>
  hbd (sI S5 a0 6 3 0) fun S7 =>
  hnw S7 12 80 fun q9 S10 =>
  hbd (sR S10 a0 6 4 q9) fun S13 =>
  hnw S13 12 80 fun q15 S16 =>
  hbd (sR S16 a0 6 5 q15) fun S19 =>
  hnw S19 12 80 fun q21 S22 =>
  hbd (sR S22 a0 6 6 q21) fun S25 =>
  hnw S25 12 400 fun q27 S28 =>
  hbd (sR S28 a0 6 7 q27) fun S31 =>
  hbd (sI S31 a0 6 8 0) fun S33 =>
  hnw S33 12 7 fun q35 S36 =>
  hbd (sR S36 a0 6 9 q35) fun S39 =>
  hnw S39 12 7 fun q41 S42 =>
  hbd (sR S42 a0 6 10 q41) fun S45 =>
  hnw S45 12 7 fun q47 S48 =>
  hbd (sR S48 a0 6 11 q47) fun S51 =>
  hbd (sI S51 a0 6 12 0) fun S53 =>
  hnw S53 12 8 fun q55 S56 =>
  hbd (sR S56 a0 6 13 q55) fun S59 =>
  hnw S59 12 8 fun q61 S62 =>
  hbd (sR S62 a0 6 14 q61) fun S65 =>
  some S65
set_option maxRecDepth 100000 in
set_option maxHeartbeats 4000000 in
theorem m_X6_init {d : Nat} {cs : Nat → Nat} {a0 : Nat} {S : hS} {r : hS} (hd : 1 ≤ d) (hf : f_X6_init a0 S = some r) : HM yX6_init cX6_init 1 none d 9 677 cs [.ref a0] S (none) r := by
  unfold f_X6_init at hf
  refine HM.ofHW true (by decide) (fun h => by rfl) (Nat.le_of_ble_eq_true rfl) ?_
  show HW cX6_init RX6 (x_X6_init d S [.ref a0] r cs) 0 0 S 0 [(0, .ref a0)] []
  refine h_aload_n dX6_init_0 rfl 0 rfl ?_
  refine h_obj q_63 (Nat.le_trans (by decide) hd) (Nat.le_of_ble_eq_true rfl) dX6_init_1 ?_
  refine h_aload_n dX6_init_4 rfl 0 rfl ?_
  refine h_iconst (v := 0) dX6_init_5 rfl ?_
  obtain ⟨S1, h2, hf⟩ := hbd_s hf
  refine h_putI h2 rfl (Nat.le_of_ble_eq_true rfl) rfl q_64 rfl rfl (by decide +kernel) dX6_init_6 ?_
  refine h_aload_n dX6_init_9 rfl 0 rfl ?_
  refine h_iconst (v := 0) dX6_init_10 rfl ?_
  obtain ⟨S3, h4, hf⟩ := hbd_s hf
  refine h_putI h4 rfl (Nat.le_of_ble_eq_true rfl) rfl q_68 rfl rfl (by decide +kernel) dX6_init_11 ?_
  refine h_aload_n dX6_init_14 rfl 0 rfl ?_
  refine h_iconst (v := 0) dX6_init_15 rfl ?_
  obtain ⟨S5, h6, hf⟩ := hbd_s hf
  refine h_putI h6 rfl (Nat.le_of_ble_eq_true rfl) rfl q_72 rfl rfl (by decide +kernel) dX6_init_16 ?_
  refine h_aload_n dX6_init_19 rfl 0 rfl ?_
  refine h_iconst (v := 0) dX6_init_20 rfl ?_
  obtain ⟨S7, h8, hf⟩ := hbd_s hf
  refine h_putI h8 rfl (Nat.le_of_ble_eq_true rfl) rfl q_76 rfl rfl (by decide +kernel) dX6_init_21 ?_
  refine h_aload_n dX6_init_24 rfl 0 rfl ?_
  refine h_bipush (v := 80) dX6_init_25 rfl ?_
  obtain ⟨q9, S10, h11, h12, hf⟩ := hnw_s hf
  refine h_newI (N := 80) h11 h12 (by decide) rfl (by decide) dX6_init_27 (Nat.le_of_ble_eq_true rfl) (Nat.le_of_ble_eq_true rfl) ?_
  obtain ⟨S13, h14, hf⟩ := hbd_s hf
  refine h_putF rfl h14 rfl (Nat.le_of_ble_eq_true rfl) rfl q_79 rfl rfl rfl (tyX6_ok 4 (by decide)) rfl rfl dX6_init_29 ?_
  refine h_aload_n dX6_init_32 rfl 0 rfl ?_
  refine h_bipush (v := 80) dX6_init_33 rfl ?_
  obtain ⟨q15, S16, h17, h18, hf⟩ := hnw_s hf
  refine h_newI (N := 80) h17 h18 (by decide) rfl (by decide) dX6_init_35 (Nat.le_of_ble_eq_true rfl) (Nat.le_of_ble_eq_true rfl) ?_
  obtain ⟨S19, h20, hf⟩ := hbd_s hf
  refine h_putF rfl h20 rfl (Nat.le_of_ble_eq_true rfl) rfl q_82 rfl rfl rfl (tyX6_ok 5 (by decide)) rfl rfl dX6_init_37 ?_
  refine h_aload_n dX6_init_40 rfl 0 rfl ?_
  refine h_bipush (v := 80) dX6_init_41 rfl ?_
  obtain ⟨q21, S22, h23, h24, hf⟩ := hnw_s hf
  refine h_newI (N := 80) h23 h24 (by decide) rfl (by decide) dX6_init_43 (Nat.le_of_ble_eq_true rfl) (Nat.le_of_ble_eq_true rfl) ?_
  obtain ⟨S25, h26, hf⟩ := hbd_s hf
  refine h_putF rfl h26 rfl (Nat.le_of_ble_eq_true rfl) rfl q_85 rfl rfl rfl (tyX6_ok 6 (by decide)) rfl rfl dX6_init_45 ?_
  refine h_aload_n dX6_init_48 rfl 0 rfl ?_
  refine h_sipush (v := 400) dX6_init_49 rfl ?_
  obtain ⟨q27, S28, h29, h30, hf⟩ := hnw_s hf
  refine h_newI (N := 400) h29 h30 (by decide) rfl (by decide) dX6_init_52 (Nat.le_of_ble_eq_true rfl) (Nat.le_of_ble_eq_true rfl) ?_
  obtain ⟨S31, h32, hf⟩ := hbd_s hf
  refine h_putF rfl h32 rfl (Nat.le_of_ble_eq_true rfl) rfl q_88 rfl rfl rfl (tyX6_ok 7 (by decide)) rfl rfl dX6_init_54 ?_
  refine h_aload_n dX6_init_57 rfl 0 rfl ?_
  refine h_iconst (v := 0) dX6_init_58 rfl ?_
  obtain ⟨S33, h34, hf⟩ := hbd_s hf
  refine h_putI h34 rfl (Nat.le_of_ble_eq_true rfl) rfl q_90 rfl rfl (by decide +kernel) dX6_init_59 ?_
  refine h_aload_n dX6_init_62 rfl 0 rfl ?_
  refine h_bipush (v := 7) dX6_init_63 rfl ?_
  obtain ⟨q35, S36, h37, h38, hf⟩ := hnw_s hf
  refine h_newI (N := 7) h37 h38 (by decide) rfl (by decide) dX6_init_65 (Nat.le_of_ble_eq_true rfl) (Nat.le_of_ble_eq_true rfl) ?_
  obtain ⟨S39, h40, hf⟩ := hbd_s hf
  refine h_putF rfl h40 rfl (Nat.le_of_ble_eq_true rfl) rfl q_94 rfl rfl rfl (tyX6_ok 9 (by decide)) rfl rfl dX6_init_67 ?_
  refine h_aload_n dX6_init_70 rfl 0 rfl ?_
  refine h_bipush (v := 7) dX6_init_71 rfl ?_
  obtain ⟨q41, S42, h43, h44, hf⟩ := hnw_s hf
  refine h_newI (N := 7) h43 h44 (by decide) rfl (by decide) dX6_init_73 (Nat.le_of_ble_eq_true rfl) (Nat.le_of_ble_eq_true rfl) ?_
  obtain ⟨S45, h46, hf⟩ := hbd_s hf
  refine h_putF rfl h46 rfl (Nat.le_of_ble_eq_true rfl) rfl q_97 rfl rfl rfl (tyX6_ok 10 (by decide)) rfl rfl dX6_init_75 ?_
  refine h_aload_n dX6_init_78 rfl 0 rfl ?_
  refine h_bipush (v := 7) dX6_init_79 rfl ?_
  obtain ⟨q47, S48, h49, h50, hf⟩ := hnw_s hf
  refine h_newI (N := 7) h49 h50 (by decide) rfl (by decide) dX6_init_81 (Nat.le_of_ble_eq_true rfl) (Nat.le_of_ble_eq_true rfl) ?_
  obtain ⟨S51, h52, hf⟩ := hbd_s hf
  refine h_putF rfl h52 rfl (Nat.le_of_ble_eq_true rfl) rfl q_100 rfl rfl rfl (tyX6_ok 11 (by decide)) rfl rfl dX6_init_83 ?_
  refine h_aload_n dX6_init_86 rfl 0 rfl ?_
  refine h_iconst (v := 0) dX6_init_87 rfl ?_
  obtain ⟨S53, h54, hf⟩ := hbd_s hf
  refine h_putI h54 rfl (Nat.le_of_ble_eq_true rfl) rfl q_103 rfl rfl (by decide +kernel) dX6_init_88 ?_
  refine h_aload_n dX6_init_91 rfl 0 rfl ?_
  refine h_bipush (v := 8) dX6_init_92 rfl ?_
  obtain ⟨q55, S56, h57, h58, hf⟩ := hnw_s hf
  refine h_newI (N := 8) h57 h58 (by decide) rfl (by decide) dX6_init_94 (Nat.le_of_ble_eq_true rfl) (Nat.le_of_ble_eq_true rfl) ?_
  obtain ⟨S59, h60, hf⟩ := hbd_s hf
  refine h_putF rfl h60 rfl (Nat.le_of_ble_eq_true rfl) rfl q_107 rfl rfl rfl (tyX6_ok 13 (by decide)) rfl rfl dX6_init_96 ?_
  refine h_aload_n dX6_init_99 rfl 0 rfl ?_
  refine h_bipush (v := 8) dX6_init_100 rfl ?_
  obtain ⟨q61, S62, h63, h64, hf⟩ := hnw_s hf
  refine h_newI (N := 8) h63 h64 (by decide) rfl (by decide) dX6_init_102 (Nat.le_of_ble_eq_true rfl) (Nat.le_of_ble_eq_true rfl) ?_
  obtain ⟨S65, h66, hf⟩ := hbd_s hf
  refine h_putF rfl h66 rfl (Nat.le_of_ble_eq_true rfl) rfl q_109 rfl rfl rfl (tyX6_ok 14 (by decide)) rfl rfl dX6_init_104 ?_
  obtain rfl := Option.some.inj hf
  exact h_vret rfl rfl rfl (Nat.le_of_ble_eq_true rfl) (Nat.le_of_ble_eq_true rfl) dX6_init_107
abbrev x_X6_clear (d : Nat) (S0 : hS) (args : List Value) (r : hS) (cs : Nat → Nat) : hX := ((none, 1, d, 0, 0, false), (S0, args, none, r), cs)
theorem v_X6_clear : hVW yX6_clear cX6_clear 1 none RX6 0 := ⟨q_371, q_372, q_4, q_373, by decide +kernel, by decide⟩
def f_X6_clear (a0 : Nat) (S : hS) : Option (hS) :=
  hbd (sI S a0 6 0 0) fun S1 =>
  hbd (sI S1 a0 6 1 0) fun S3 =>
  hbd (sI S3 a0 6 2 0) fun S5 =>
  hbd (sI S5 a0 6 3 0) fun S7 =>
  hbd (sI S7 a0 6 8 0) fun S9 =>
  hbd (sI S9 a0 6 12 0) fun S11 =>
  some S11
set_option maxRecDepth 100000 in
set_option maxHeartbeats 4000000 in
theorem m_X6_clear {d : Nat} {cs : Nat → Nat} {a0 : Nat} {S : hS} {r : hS} (hd : 1 ≤ d) (hf : f_X6_clear a0 S = some r) : HM yX6_clear cX6_clear 1 none d 0 0 cs [.ref a0] S (none) r := by
  unfold f_X6_clear at hf
  refine HM.ofHW false (by decide) (fun h => by cases h) (Nat.le_of_ble_eq_true rfl) ?_
  show HW cX6_clear RX6 (x_X6_clear d S [.ref a0] r cs) 0 0 S 0 [(0, .ref a0)] []
  refine h_aload_n dX6_clear_0 rfl 0 rfl ?_
  refine h_iconst (v := 0) dX6_clear_1 rfl ?_
  obtain ⟨S1, h2, hf⟩ := hbd_s hf
  refine h_putI h2 rfl (Nat.le_of_ble_eq_true rfl) rfl q_64 rfl rfl (by decide +kernel) dX6_clear_2 ?_
  refine h_aload_n dX6_clear_5 rfl 0 rfl ?_
  refine h_iconst (v := 0) dX6_clear_6 rfl ?_
  obtain ⟨S3, h4, hf⟩ := hbd_s hf
  refine h_putI h4 rfl (Nat.le_of_ble_eq_true rfl) rfl q_68 rfl rfl (by decide +kernel) dX6_clear_7 ?_
  refine h_aload_n dX6_clear_10 rfl 0 rfl ?_
  refine h_iconst (v := 0) dX6_clear_11 rfl ?_
  obtain ⟨S5, h6, hf⟩ := hbd_s hf
  refine h_putI h6 rfl (Nat.le_of_ble_eq_true rfl) rfl q_72 rfl rfl (by decide +kernel) dX6_clear_12 ?_
  refine h_aload_n dX6_clear_15 rfl 0 rfl ?_
  refine h_iconst (v := 0) dX6_clear_16 rfl ?_
  obtain ⟨S7, h8, hf⟩ := hbd_s hf
  refine h_putI h8 rfl (Nat.le_of_ble_eq_true rfl) rfl q_76 rfl rfl (by decide +kernel) dX6_clear_17 ?_
  refine h_aload_n dX6_clear_20 rfl 0 rfl ?_
  refine h_iconst (v := 0) dX6_clear_21 rfl ?_
  obtain ⟨S9, h10, hf⟩ := hbd_s hf
  refine h_putI h10 rfl (Nat.le_of_ble_eq_true rfl) rfl q_90 rfl rfl (by decide +kernel) dX6_clear_22 ?_
  refine h_aload_n dX6_clear_25 rfl 0 rfl ?_
  refine h_iconst (v := 0) dX6_clear_26 rfl ?_
  obtain ⟨S11, h12, hf⟩ := hbd_s hf
  refine h_putI h12 rfl (Nat.le_of_ble_eq_true rfl) rfl q_103 rfl rfl (by decide +kernel) dX6_clear_27 ?_
  obtain rfl := Option.some.inj hf
  exact h_vret rfl rfl rfl (Nat.le_refl _) (Nat.le_refl _) dX6_clear_30
abbrev x_X6_seatAt (d : Nat) (S0 : hS) (args : List Value) (r : Int32 × hS) (cs : Nat → Nat) : hX := (((some .int), 3, d, 0, 0, false), (S0, args, some (.int r.1), r.2), cs)
theorem v_X6_seatAt : hVW yX6_seatAt cX6_seatAt 3 (some .int) RX6 2 := ⟨q_488, q_489, q_4, q_490, by decide +kernel, by decide⟩
def f_X6_seatAt (a0 : Nat) (a1 : Int32) (a2 : Int32) (S : hS) : Option (Int32 × hS) :=
  hj (γ := Unit → Option (Int32 × hS)) (fun (_ : Unit) =>
    some ((-1), S)
    ) fun J1 =>
  if a1 < 0 then
    (J1 ())
  else
    (hbd (gI S a0 6 0) fun t3 =>
     if t3 ≤ a1 then
       (J1 ())
     else
       (if a2 < 0 then
          (J1 ())
        else
          (hbd (gI S a0 6 1) fun t7 =>
           if a2 < t7 then
             (hbd (gI S a0 6 0) fun t10 =>
              some ((a2 * t10) + a1, S))
           else
             (J1 ()))))
set_option maxRecDepth 100000 in
set_option maxHeartbeats 4000000 in
theorem m_X6_seatAt {d : Nat} {cs : Nat → Nat} {a0 : Nat} {a1 : Int32} {a2 : Int32} {S : hS} {r : Int32 × hS} (hd : 1 ≤ d) (hf : f_X6_seatAt a0 a1 a2 S = some r) : HM yX6_seatAt cX6_seatAt 3 (some .int) d 0 0 cs [.ref a0, .int a1, .int a2] S (some (.int r.1)) r.2 := by
  unfold f_X6_seatAt at hf
  refine HM.ofHW false (by decide) (fun h => by cases h) (Nat.le_of_ble_eq_true rfl) ?_
  show HW cX6_seatAt RX6 (x_X6_seatAt d S [.ref a0, .int a1, .int a2] r cs) 0 0 S 0 [(0, .ref a0), (1, .int a1), (2, .int a2)] []
  refine h_iload_n dX6_seatAt_0 rfl 1 rfl ?_
  refine hj_s (fun J1 => ∀ (w : Unit), J1 w = some r → HW cX6_seatAt RX6 (x_X6_seatAt d S [.ref a0, .int a1, .int a2] r cs) 0 0 S 24 [] []) hf ?_ ?_
  · intro w hf
    refine h_iconst (v := (-1)) dX6_seatAt_24 rfl ?_
    refine h_goto (tgt := 36) dX6_seatAt_25 (by decide) ?_
    obtain rfl := Option.some.inj hf
    exact h_iret rfl rfl rfl (Nat.le_refl _) (Nat.le_refl _) dX6_seatAt_36
  · intro J1 hJ1 hf
    refine h_if_lt (tgt := 24) dX6_seatAt_1 (by decide) (fun c2 => ?_) (fun c2 => ?_)
    · replace hf := hif_p c2 hf
      refine h_sub (lv2 := []) [] rfl ?_
      exact hJ1 () hf
    · replace hf := hif_n c2 hf
      refine h_iload_n dX6_seatAt_4 rfl 1 rfl ?_
      refine h_aload_n dX6_seatAt_5 rfl 0 rfl ?_
      obtain ⟨t3, h4, hf⟩ := hbd_s hf
      refine h_getI h4 rfl (Nat.le_of_ble_eq_true rfl) rfl q_64 rfl dX6_seatAt_6 ?_
      refine h_icmp_ge (tgt := 24) dX6_seatAt_9 (by decide) (fun c5 => ?_) (fun c5 => ?_)
      · replace hf := hif_p c5 hf
        refine h_sub (lv2 := []) [] rfl ?_
        exact hJ1 () hf
      · replace hf := hif_n c5 hf
        refine h_iload_n dX6_seatAt_12 rfl 2 rfl ?_
        refine h_if_lt (tgt := 24) dX6_seatAt_13 (by decide) (fun c6 => ?_) (fun c6 => ?_)
        · replace hf := hif_p c6 hf
          refine h_sub (lv2 := []) [] rfl ?_
          exact hJ1 () hf
        · replace hf := hif_n c6 hf
          refine h_iload_n dX6_seatAt_16 rfl 2 rfl ?_
          refine h_aload_n dX6_seatAt_17 rfl 0 rfl ?_
          obtain ⟨t7, h8, hf⟩ := hbd_s hf
          refine h_getI h8 rfl (Nat.le_of_ble_eq_true rfl) rfl q_68 rfl dX6_seatAt_18 ?_
          refine h_icmp_lt (tgt := 28) dX6_seatAt_21 (by decide) (fun c9 => ?_) (fun c9 => ?_)
          · replace hf := hif_p c9 hf
            refine h_iload_n dX6_seatAt_28 rfl 2 rfl ?_
            refine h_aload_n dX6_seatAt_29 rfl 0 rfl ?_
            obtain ⟨t10, h11, hf⟩ := hbd_s hf
            refine h_getI h11 rfl (Nat.le_of_ble_eq_true rfl) rfl q_64 rfl dX6_seatAt_30 ?_
            refine h_imul dX6_seatAt_33 ?_
            refine h_iload_n dX6_seatAt_34 rfl 1 rfl ?_
            refine h_iadd dX6_seatAt_35 ?_
            obtain rfl := Option.some.inj hf
            exact h_iret rfl rfl rfl (Nat.le_refl _) (Nat.le_refl _) dX6_seatAt_36
          · replace hf := hif_n c9 hf
            refine h_sub (lv2 := []) [] rfl ?_
            exact hJ1 () hf
abbrev x_X6_columnOf (d : Nat) (S0 : hS) (args : List Value) (r : Int32 × hS) (cs : Nat → Nat) : hX := (((some .int), 2, d, 0, 0, false), (S0, args, some (.int r.1), r.2), cs)
theorem v_X6_columnOf : hVW yX6_columnOf cX6_columnOf 2 (some .int) RX6 1 := ⟨q_697, q_698, q_4, q_699, by decide +kernel, by decide⟩
def f_X6_columnOf (a0 : Nat) (a1 : Int32) (S : hS) : Option (Int32 × hS) :=
  hj (γ := Unit → Option (Int32 × hS)) (fun (_ : Unit) =>
    some ((-1), S)
    ) fun J1 =>
  if a1 < 0 then
    (J1 ())
  else
    (hbd (gI S a0 6 2) fun t3 =>
     if a1 < t3 then
       (hbd (gR S a0 6 4) fun t6 =>
        hbd (gA S t6 12 a1) fun t8 =>
        some (t8, S))
     else
       (J1 ()))
set_option maxRecDepth 100000 in
set_option maxHeartbeats 4000000 in
theorem m_X6_columnOf {d : Nat} {cs : Nat → Nat} {a0 : Nat} {a1 : Int32} {S : hS} {r : Int32 × hS} (hd : 1 ≤ d) (hf : f_X6_columnOf a0 a1 S = some r) : HM yX6_columnOf cX6_columnOf 2 (some .int) d 0 0 cs [.ref a0, .int a1] S (some (.int r.1)) r.2 := by
  unfold f_X6_columnOf at hf
  refine HM.ofHW false (by decide) (fun h => by cases h) (Nat.le_of_ble_eq_true rfl) ?_
  show HW cX6_columnOf RX6 (x_X6_columnOf d S [.ref a0, .int a1] r cs) 0 0 S 0 [(0, .ref a0), (1, .int a1)] []
  refine h_iload_n dX6_columnOf_0 rfl 1 rfl ?_
  refine hj_s (fun J1 => ∀ (w : Unit), J1 w = some r → HW cX6_columnOf RX6 (x_X6_columnOf d S [.ref a0, .int a1] r cs) 0 0 S 12 [] []) hf ?_ ?_
  · intro w hf
    refine h_iconst (v := (-1)) dX6_columnOf_12 rfl ?_
    refine h_goto (tgt := 22) dX6_columnOf_13 (by decide) ?_
    obtain rfl := Option.some.inj hf
    exact h_iret rfl rfl rfl (Nat.le_refl _) (Nat.le_refl _) dX6_columnOf_22
  · intro J1 hJ1 hf
    refine h_if_lt (tgt := 12) dX6_columnOf_1 (by decide) (fun c2 => ?_) (fun c2 => ?_)
    · replace hf := hif_p c2 hf
      refine h_sub (lv2 := []) [] rfl ?_
      exact hJ1 () hf
    · replace hf := hif_n c2 hf
      refine h_iload_n dX6_columnOf_4 rfl 1 rfl ?_
      refine h_aload_n dX6_columnOf_5 rfl 0 rfl ?_
      obtain ⟨t3, h4, hf⟩ := hbd_s hf
      refine h_getI h4 rfl (Nat.le_of_ble_eq_true rfl) rfl q_72 rfl dX6_columnOf_6 ?_
      refine h_icmp_lt (tgt := 16) dX6_columnOf_9 (by decide) (fun c5 => ?_) (fun c5 => ?_)
      · replace hf := hif_p c5 hf
        refine h_aload_n dX6_columnOf_16 rfl 0 rfl ?_
        obtain ⟨t6, h7, hf⟩ := hbd_s hf
        refine h_getR h7 rfl (Nat.le_of_ble_eq_true rfl) rfl q_79 rfl dX6_columnOf_17 ?_
        refine h_iload_n dX6_columnOf_20 rfl 1 rfl ?_
        obtain ⟨t8, h9, hf⟩ := hbd_s hf
        refine h_iald h9 dX6_columnOf_21 ?_
        obtain rfl := Option.some.inj hf
        exact h_iret rfl rfl rfl (Nat.le_refl _) (Nat.le_refl _) dX6_columnOf_22
      · replace hf := hif_n c5 hf
        refine h_sub (lv2 := []) [] rfl ?_
        exact hJ1 () hf
abbrev x_X6_rowOf (d : Nat) (S0 : hS) (args : List Value) (r : Int32 × hS) (cs : Nat → Nat) : hX := (((some .int), 2, d, 0, 0, false), (S0, args, some (.int r.1), r.2), cs)
theorem v_X6_rowOf : hVW yX6_rowOf cX6_rowOf 2 (some .int) RX6 1 := ⟨q_701, q_702, q_4, q_703, by decide +kernel, by decide⟩
def f_X6_rowOf (a0 : Nat) (a1 : Int32) (S : hS) : Option (Int32 × hS) :=
  hj (γ := Unit → Option (Int32 × hS)) (fun (_ : Unit) =>
    some ((-1), S)
    ) fun J1 =>
  if a1 < 0 then
    (J1 ())
  else
    (hbd (gI S a0 6 2) fun t3 =>
     if a1 < t3 then
       (hbd (gR S a0 6 5) fun t6 =>
        hbd (gA S t6 12 a1) fun t8 =>
        some (t8, S))
     else
       (J1 ()))
set_option maxRecDepth 100000 in
set_option maxHeartbeats 4000000 in
theorem m_X6_rowOf {d : Nat} {cs : Nat → Nat} {a0 : Nat} {a1 : Int32} {S : hS} {r : Int32 × hS} (hd : 1 ≤ d) (hf : f_X6_rowOf a0 a1 S = some r) : HM yX6_rowOf cX6_rowOf 2 (some .int) d 0 0 cs [.ref a0, .int a1] S (some (.int r.1)) r.2 := by
  unfold f_X6_rowOf at hf
  refine HM.ofHW false (by decide) (fun h => by cases h) (Nat.le_of_ble_eq_true rfl) ?_
  show HW cX6_rowOf RX6 (x_X6_rowOf d S [.ref a0, .int a1] r cs) 0 0 S 0 [(0, .ref a0), (1, .int a1)] []
  refine h_iload_n dX6_rowOf_0 rfl 1 rfl ?_
  refine hj_s (fun J1 => ∀ (w : Unit), J1 w = some r → HW cX6_rowOf RX6 (x_X6_rowOf d S [.ref a0, .int a1] r cs) 0 0 S 12 [] []) hf ?_ ?_
  · intro w hf
    refine h_iconst (v := (-1)) dX6_rowOf_12 rfl ?_
    refine h_goto (tgt := 22) dX6_rowOf_13 (by decide) ?_
    obtain rfl := Option.some.inj hf
    exact h_iret rfl rfl rfl (Nat.le_refl _) (Nat.le_refl _) dX6_rowOf_22
  · intro J1 hJ1 hf
    refine h_if_lt (tgt := 12) dX6_rowOf_1 (by decide) (fun c2 => ?_) (fun c2 => ?_)
    · replace hf := hif_p c2 hf
      refine h_sub (lv2 := []) [] rfl ?_
      exact hJ1 () hf
    · replace hf := hif_n c2 hf
      refine h_iload_n dX6_rowOf_4 rfl 1 rfl ?_
      refine h_aload_n dX6_rowOf_5 rfl 0 rfl ?_
      obtain ⟨t3, h4, hf⟩ := hbd_s hf
      refine h_getI h4 rfl (Nat.le_of_ble_eq_true rfl) rfl q_72 rfl dX6_rowOf_6 ?_
      refine h_icmp_lt (tgt := 16) dX6_rowOf_9 (by decide) (fun c5 => ?_) (fun c5 => ?_)
      · replace hf := hif_p c5 hf
        refine h_aload_n dX6_rowOf_16 rfl 0 rfl ?_
        obtain ⟨t6, h7, hf⟩ := hbd_s hf
        refine h_getR h7 rfl (Nat.le_of_ble_eq_true rfl) rfl q_82 rfl dX6_rowOf_17 ?_
        refine h_iload_n dX6_rowOf_20 rfl 1 rfl ?_
        obtain ⟨t8, h9, hf⟩ := hbd_s hf
        refine h_iald h9 dX6_rowOf_21 ?_
        obtain rfl := Option.some.inj hf
        exact h_iret rfl rfl rfl (Nat.le_refl _) (Nat.le_refl _) dX6_rowOf_22
      · replace hf := hif_n c5 hf
        refine h_sub (lv2 := []) [] rfl ?_
        exact hJ1 () hf
