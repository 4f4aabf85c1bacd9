abbrev x_X4_reckon (d : Nat) (S0 : hS) (args : List Value) (r : Int64 × hS) (cs : Nat → Nat) : hX := (((some .long), 9, d, 0, 0, false), (S0, args, some (.long r.1), r.2), cs)
theorem v_X4_reckon : hVW yX4_reckon cX4_reckon 9 (some .long) RX4 5 := ⟨q_774, q_s26, q_17, q_775, by decide +kernel, by decide⟩
def f_X4_reckon_L6 : Nat → Nat → Int32 → Nat → Int32 → Int32 → Int32 → Int32 → hS → (Int32 → hS → Option (Int64 × hS)) → Option (Int64 × hS)
  | 0, _, _, _, _, _, _, _, _, _ => none
  | n + 1, x0, x2, x3, x4, x5, x6, x7, S, k0 =>
    if x2 ≤ x7 then
      (k0 x6 S)
    else
      (hbd (gR S x0 4 0) fun t2 =>
       hbd (gN S t2) fun t4 =>
       if t4 ≤ x7 then
         (k0 x6 S)
       else
         (hbd (gR S x0 4 0) fun t7 =>
          hbd (gA S t7 12 x7) fun t9 =>
          if t9 ≤ (-10) then
            (if t9 = (-22) then
               (if x6 ≤ 0 then
                  (f_X4_reckon_L6 n x0 x2 x3 x4 x5 x6 (x7 + 1) S k0)
                else
                  (hbd (gR S x0 4 3) fun t30 =>
                   hbd (gR S x0 4 3) fun t32 =>
                   hbd (gAJ S t32 (x6 - 1)) fun t34 =>
                   hbd (sAJ S t30 (x6 - 1) (1 - t34)) fun S36 =>
                   f_X4_reckon_L6 n x0 x2 x3 x4 x5 x6 (x7 + 1) S36 k0))
             else
               (if x6 ≤ 1 then
                  (f_X4_reckon_L6 n x0 x2 x3 x4 x5 x6 (x7 + 1) S k0)
                else
                  (hbd (gR S x0 4 3) fun t14 =>
                   hbd (gR S x0 4 3) fun t16 =>
                   hbd (gAJ S t16 ((x6 + (-1)) - 1)) fun t18 =>
                   hbd (gR S x0 4 3) fun t20 =>
                   hbd (gAJ S t20 (x6 + (-1))) fun t22 =>
                   hb2 (f_X4_join t9 t18 t22 S) fun t26 S25 =>
                   hbd (sAJ S25 t14 ((x6 + (-1)) - 1) t26) fun S27 =>
                   f_X4_reckon_L6 n x0 x2 x3 x4 x5 (x6 + (-1)) (x7 + 1) S27 k0)))
          else
            (if 64 ≤ x6 then
               (f_X4_reckon_L6 n x0 x2 x3 x4 x5 x6 (x7 + 1) S k0)
             else
               (hbd (gR S x0 4 3) fun t39 =>
                hj (γ := Int64 → hS → Option (Int64 × hS)) (fun (v42 : Int64) (S43 : hS) =>
                  hbd (sAJ S43 t39 x6 v42) fun S44 =>
                  f_X4_reckon_L6 n x0 x2 x3 x4 x5 (x6 + 1) (x7 + 1) S44 k0
                  ) fun J41 =>
                if t9 < 0 then
                  (hck (S.K x3 = 1) <|
                   hb2 (f_X0_wordOf x3 t9 x4 x5 S) fun t49 S48 =>
                   J41 t49 S48)
                else
                  (J41 (Int32.toInt64 t9) S)))))
def f_X4_reckon (a0 : Nat) (a1 : Int32) (a2 : Int32) (a3 : Nat) (a4 : Int32) (a5 : Int32) (S : hS) : Option (Int64 × hS) :=
  f_X4_reckon_L6 hfuel a0 a2 a3 a4 a5 0 a1 S
    (fun u51 S52 =>
      if u51 ≤ 0 then
        (some (0, S52))
      else
        (hbd (gR S52 a0 4 3) fun t54 =>
         hbd (gAJ S52 t54 (u51 - 1)) fun t56 =>
         some (t56, S52))
    )
set_option maxRecDepth 100000 in
set_option maxHeartbeats 4000000 in
theorem w_X4_reckon_L6 {d : Nat} {S0 : hS} {args : List Value} {cs : Nat → Nat} {r : Int64 × hS} (hd : 2 ≤ d) : ∀ (n : Nat) (x0 : Nat) (x2 : Int32) (x3 : Nat) (x4 : Int32) (x5 : Int32) (x6 : Int32) (x7 : Int32) (S : hS) (k0 : (Int32 → hS → Option (Int64 × hS))) , f_X4_reckon_L6 n x0 x2 x3 x4 x5 x6 x7 S k0 = some r → (∀ (y6 : Int32) (T : hS), k0 y6 T = some r → HW cX4_reckon RX4 (x_X4_reckon d S0 args r cs) 0 0 T 159 [(0, .ref x0), (6, .int y6)] []) → HW cX4_reckon RX4 (x_X4_reckon d S0 args r cs) 0 0 S 6 [(0, .ref x0), (2, .int x2), (3, .ref x3), (4, .int x4), (5, .int x5), (6, .int x6), (7, .int x7)] [] := by
  intro n
  induction n with
  | zero =>
    intro x0 x2 x3 x4 x5 x6 x7 S k0 hf
    cases hf
  | succ n ih =>
    intro x0 x2 x3 x4 x5 x6 x7 S k0 hf hk0
    rw [f_X4_reckon_L6] at hf
    refine h_iload dX4_reckon_6 6 rfl ?_
    refine h_iload_n dX4_reckon_8 rfl 1 rfl ?_
    refine h_icmp_ge (tgt := 159) dX4_reckon_9 (by decide) (fun c1 => ?_) (fun c1 => ?_)
    · replace hf := hif_p c1 hf
      refine h_sub (lv2 := [(0, .ref x0), (6, .int x6)]) [0, 5] rfl ?_
      exact hk0 x6 S hf
    · replace hf := hif_n c1 hf
      refine h_iload dX4_reckon_12 6 rfl ?_
      refine h_aload_n dX4_reckon_14 rfl 0 rfl ?_
      obtain ⟨t2, h3, hf⟩ := hbd_s hf
      refine h_getR h3 rfl (Nat.le_of_ble_eq_true rfl) rfl q_672 rfl dX4_reckon_15 ?_
      obtain ⟨t4, h5, hf⟩ := hbd_s hf
      refine h_alen h5 dX4_reckon_18 ?_
      refine h_icmp_ge (tgt := 159) dX4_reckon_19 (by decide) (fun c6 => ?_) (fun c6 => ?_)
      · replace hf := hif_p c6 hf
        refine h_sub (lv2 := [(0, .ref x0), (6, .int x6)]) [0, 5] rfl ?_
        exact hk0 x6 S hf
      · replace hf := hif_n c6 hf
        refine h_aload_n dX4_reckon_22 rfl 0 rfl ?_
        obtain ⟨t7, h8, hf⟩ := hbd_s hf
        refine h_getR h8 rfl (Nat.le_of_ble_eq_true rfl) rfl q_672 rfl dX4_reckon_23 ?_
        refine h_iload dX4_reckon_26 6 rfl ?_
        obtain ⟨t9, h10, hf⟩ := hbd_s hf
        refine h_iald h10 dX4_reckon_28 ?_
        refine h_istore (lv2 := [(8, .int t9), (0, .ref x0), (2, .int x2), (3, .ref x3), (4, .int x4), (5, .int x5), (6, .int x6), (7, .int x7)]) dX4_reckon_29 (Nat.le_of_ble_eq_true rfl) rfl ?_
        refine h_iload dX4_reckon_31 0 rfl ?_
        refine h_bipush (v := (-10)) dX4_reckon_33 rfl ?_
        refine h_icmp_le (tgt := 79) dX4_reckon_35 (by decide) (fun c11 => ?_) (fun c11 => ?_)
        · replace hf := hif_p c11 hf
          refine h_iload dX4_reckon_79 0 rfl ?_
          refine h_bipush (v := (-22)) dX4_reckon_81 rfl ?_
          refine h_icmp_ne (tgt := 114) dX4_reckon_83 (by decide) (fun c12 => ?_) (fun c12 => ?_)
          · replace hf := hif_n c12 hf
            refine h_iload dX4_reckon_114 6 rfl ?_
            refine h_iconst (v := 1) dX4_reckon_116 rfl ?_
            refine h_icmp_le (tgt := 153) dX4_reckon_117 (by decide) (fun c13 => ?_) (fun c13 => ?_)
            · replace hf := hif_p c13 hf
              refine h_iinc (q := 7) (v := x7 + 1) (lv2 := [(7, .int (x7 + 1)), (8, .int t9), (0, .ref x0), (2, .int x2), (3, .ref x3), (4, .int x4), (5, .int x5), (6, .int x6)]) dX4_reckon_153 rfl rfl (Nat.le_of_ble_eq_true rfl) rfl ?_
              refine h_goto (tgt := 6) dX4_reckon_156 (by decide) ?_
              refine h_sub (lv2 := [(0, .ref x0), (2, .int x2), (3, .ref x3), (4, .int x4), (5, .int x5), (6, .int x6), (7, .int (x7 + 1))]) [2, 3, 4, 5, 6, 7, 0] rfl ?_
              exact ih x0 x2 x3 x4 x5 x6 (x7 + 1) S k0  hf hk0
            · replace hf := hif_n c13 hf
              refine h_iinc (q := 6) (v := x6 + (-1)) (lv2 := [(6, .int (x6 + (-1))), (8, .int t9), (0, .ref x0), (2, .int x2), (3, .ref x3), (4, .int x4), (5, .int x5), (7, .int x7)]) dX4_reckon_120 rfl rfl (Nat.le_of_ble_eq_true rfl) rfl ?_
              refine h_aload_n dX4_reckon_123 rfl 2 rfl ?_
              obtain ⟨t14, h15, hf⟩ := hbd_s hf
              refine h_getR h15 rfl (Nat.le_of_ble_eq_true rfl) rfl q_675 rfl dX4_reckon_124 ?_
              refine h_iload dX4_reckon_127 0 rfl ?_
              refine h_iconst (v := 1) dX4_reckon_129 rfl ?_
              refine h_isub dX4_reckon_130 ?_
              refine h_iload dX4_reckon_131 1 rfl ?_
              refine h_aload_n dX4_reckon_133 rfl 2 rfl ?_
              obtain ⟨t16, h17, hf⟩ := hbd_s hf
              refine h_getR h17 rfl (Nat.le_of_ble_eq_true rfl) rfl q_675 rfl dX4_reckon_134 ?_
              refine h_iload dX4_reckon_137 0 rfl ?_
              refine h_iconst (v := 1) dX4_reckon_139 rfl ?_
              refine h_isub dX4_reckon_140 ?_
              obtain ⟨t18, h19, hf⟩ := hbd_s hf
              refine h_lald h19 dX4_reckon_141 ?_
              refine h_aload_n dX4_reckon_142 rfl 2 rfl ?_
              obtain ⟨t20, h21, hf⟩ := hbd_s hf
              refine h_getR h21 rfl (Nat.le_of_ble_eq_true rfl) rfl q_675 rfl dX4_reckon_143 ?_
              refine h_iload dX4_reckon_146 0 rfl ?_
              obtain ⟨t22, h23, hf⟩ := hbd_s hf
              refine h_lald h23 dX4_reckon_148 ?_
              obtain ⟨t26, S25, h24, hf⟩ := hb2_s hf
              refine h_Sl [.int t9, .long t18, .long t22] (rest := [.int ((x6 + (-1)) - 1), .ref t14]) (m_X4_join (d := 1) (cs := cs) (Nat.le_refl _) h24) v_X4_join q_780 rfl (Nat.le_trans (by decide) hd) rfl (Nat.le_of_ble_eq_true rfl) dX4_reckon_149 (Nat.le_refl _) (Nat.le_refl _) ?_
              obtain ⟨S27, h28, hf⟩ := hbd_s hf
              refine h_last h28 dX4_reckon_152 ?_
              refine h_iinc (q := 7) (v := x7 + 1) (lv2 := [(7, .int (x7 + 1)), (6, .int (x6 + (-1))), (8, .int t9), (0, .ref x0), (2, .int x2), (3, .ref x3), (4, .int x4), (5, .int x5)]) dX4_reckon_153 rfl rfl (Nat.le_of_ble_eq_true rfl) rfl ?_
              refine h_goto (tgt := 6) dX4_reckon_156 (by decide) ?_
              refine h_sub (lv2 := [(0, .ref x0), (2, .int x2), (3, .ref x3), (4, .int x4), (5, .int x5), (6, .int (x6 + (-1))), (7, .int (x7 + 1))]) [3, 4, 5, 6, 7, 1, 0] rfl ?_
              exact ih x0 x2 x3 x4 x5 (x6 + (-1)) (x7 + 1) S27 k0  hf hk0
          · replace hf := hif_p c12 hf
            refine h_iload dX4_reckon_86 6 rfl ?_
            refine h_if_le (tgt := 153) dX4_reckon_88 (by decide) (fun c29 => ?_) (fun c29 => ?_)
            · replace hf := hif_p c29 hf
              refine h_iinc (q := 7) (v := x7 + 1) (lv2 := [(7, .int (x7 + 1)), (8, .int t9), (0, .ref x0), (2, .int x2), (3, .ref x3), (4, .int x4), (5, .int x5), (6, .int x6)]) dX4_reckon_153 rfl rfl (Nat.le_of_ble_eq_true rfl) rfl ?_
              refine h_goto (tgt := 6) dX4_reckon_156 (by decide) ?_
              refine h_sub (lv2 := [(0, .ref x0), (2, .int x2), (3, .ref x3), (4, .int x4), (5, .int x5), (6, .int x6), (7, .int (x7 + 1))]) [2, 3, 4, 5, 6, 7, 0] rfl ?_
              exact ih x0 x2 x3 x4 x5 x6 (x7 + 1) S k0  hf hk0
            · replace hf := hif_n c29 hf
              refine h_aload_n dX4_reckon_91 rfl 1 rfl ?_
              obtain ⟨t30, h31, hf⟩ := hbd_s hf
              refine h_getR h31 rfl (Nat.le_of_ble_eq_true rfl) rfl q_675 rfl dX4_reckon_92 ?_
              refine h_iload dX4_reckon_95 6 rfl ?_
              refine h_iconst (v := 1) dX4_reckon_97 rfl ?_
              refine h_isub dX4_reckon_98 ?_
              refine h_lconst (v := 1) dX4_reckon_99 rfl ?_
              refine h_aload_n dX4_reckon_100 rfl 1 rfl ?_
              obtain ⟨t32, h33, hf⟩ := hbd_s hf
              refine h_getR h33 rfl (Nat.le_of_ble_eq_true rfl) rfl q_675 rfl dX4_reckon_101 ?_
              refine h_iload dX4_reckon_104 6 rfl ?_
              refine h_iconst (v := 1) dX4_reckon_106 rfl ?_
              refine h_isub dX4_reckon_107 ?_
              obtain ⟨t34, h35, hf⟩ := hbd_s hf
              refine h_lald h35 dX4_reckon_108 ?_
              refine h_lsub dX4_reckon_109 ?_
              obtain ⟨S36, h37, hf⟩ := hbd_s hf
              refine h_last h37 dX4_reckon_110 ?_
              refine h_goto (tgt := 153) dX4_reckon_111 (by decide) ?_
              refine h_iinc (q := 7) (v := x7 + 1) (lv2 := [(7, .int (x7 + 1)), (8, .int t9), (0, .ref x0), (2, .int x2), (3, .ref x3), (4, .int x4), (5, .int x5), (6, .int x6)]) dX4_reckon_153 rfl rfl (Nat.le_of_ble_eq_true rfl) rfl ?_
              refine h_goto (tgt := 6) dX4_reckon_156 (by decide) ?_
              refine h_sub (lv2 := [(0, .ref x0), (2, .int x2), (3, .ref x3), (4, .int x4), (5, .int x5), (6, .int x6), (7, .int (x7 + 1))]) [2, 3, 4, 5, 6, 7, 0] rfl ?_
              exact ih x0 x2 x3 x4 x5 x6 (x7 + 1) S36 k0  hf hk0
        · replace hf := hif_n c11 hf
          refine h_iload dX4_reckon_38 6 rfl ?_
          refine h_bipush (v := 64) dX4_reckon_40 rfl ?_
          refine h_icmp_ge (tgt := 153) dX4_reckon_42 (by decide) (fun c38 => ?_) (fun c38 => ?_)
          · replace hf := hif_p c38 hf
            refine h_iinc (q := 7) (v := x7 + 1) (lv2 := [(7, .int (x7 + 1)), (8, .int t9), (0, .ref x0), (2, .int x2), (3, .ref x3), (4, .int x4), (5, .int x5), (6, .int x6)]) dX4_reckon_153 rfl rfl (Nat.le_of_ble_eq_true rfl) rfl ?_
            refine h_goto (tgt := 6) dX4_reckon_156 (by decide) ?_
            refine h_sub (lv2 := [(0, .ref x0), (2, .int x2), (3, .ref x3), (4, .int x4), (5, .int x5), (6, .int x6), (7, .int (x7 + 1))]) [2, 3, 4, 5, 6, 7, 0] rfl ?_
            exact ih x0 x2 x3 x4 x5 x6 (x7 + 1) S k0  hf hk0
          · replace hf := hif_n c38 hf
            refine h_aload_n dX4_reckon_45 rfl 1 rfl ?_
            obtain ⟨t39, h40, hf⟩ := hbd_s hf
            refine h_getR h40 rfl (Nat.le_of_ble_eq_true rfl) rfl q_675 rfl dX4_reckon_46 ?_
            refine h_iload dX4_reckon_49 6 rfl ?_
            refine h_iload dX4_reckon_51 0 rfl ?_
            refine hj_s (fun J41 => ∀ (v42 : Int64) (S43 : hS), J41 v42 S43 = some r → HW cX4_reckon RX4 (x_X4_reckon d S0 args r cs) 0 0 S43 72 [(0, .ref x0), (2, .int x2), (3, .ref x3), (4, .int x4), (5, .int x5), (6, .int x6), (7, .int x7)] [.long v42, .int x6, .ref t39]) hf ?_ ?_
            · intro v42 S43 hf
              obtain ⟨S44, h45, hf⟩ := hbd_s hf
              refine h_last h45 dX4_reckon_72 ?_
              refine h_iinc (q := 5) (v := x6 + 1) (lv2 := [(6, .int (x6 + 1)), (0, .ref x0), (2, .int x2), (3, .ref x3), (4, .int x4), (5, .int x5), (7, .int x7)]) dX4_reckon_73 rfl rfl (Nat.le_of_ble_eq_true rfl) rfl ?_
              refine h_goto (tgt := 153) dX4_reckon_76 (by decide) ?_
              refine h_iinc (q := 6) (v := x7 + 1) (lv2 := [(7, .int (x7 + 1)), (6, .int (x6 + 1)), (0, .ref x0), (2, .int x2), (3, .ref x3), (4, .int x4), (5, .int x5)]) dX4_reckon_153 rfl rfl (Nat.le_of_ble_eq_true rfl) rfl ?_
              refine h_goto (tgt := 6) dX4_reckon_156 (by decide) ?_
              refine h_sub (lv2 := [(0, .ref x0), (2, .int x2), (3, .ref x3), (4, .int x4), (5, .int x5), (6, .int (x6 + 1)), (7, .int (x7 + 1))]) [2, 3, 4, 5, 6, 1, 0] rfl ?_
              exact ih x0 x2 x3 x4 x5 (x6 + 1) (x7 + 1) S44 k0  hf hk0
            · intro J41 hJ41 hf
              refine h_if_lt (tgt := 62) dX4_reckon_53 (by decide) (fun c46 => ?_) (fun c46 => ?_)
              · replace hf := hif_p c46 hf
                refine h_aload_n dX4_reckon_62 rfl 3 rfl ?_
                refine h_iload dX4_reckon_63 0 rfl ?_
                refine h_iload dX4_reckon_65 4 rfl ?_
                refine h_iload dX4_reckon_67 5 rfl ?_
                obtain ⟨g50, hf⟩ := hck_s hf
                obtain ⟨t49, S48, h47, hf⟩ := hb2_s hf
                refine h_Vl [.int t9, .int x4, .int x5] (rest := [.int x6, .ref t39]) (m_X0_wordOf (d := 1) (cs := cs) (Nat.le_refl _) h47) v_X0_wordOf q_776 rfl (Nat.le_trans (by decide) hd) g50 rfl rfl (Nat.le_of_ble_eq_true rfl) dX4_reckon_69 (Nat.le_refl _) (Nat.le_refl _) ?_
                refine h_sub (lv2 := [(0, .ref x0), (2, .int x2), (3, .ref x3), (4, .int x4), (5, .int x5), (6, .int x6), (7, .int x7)]) [1, 2, 3, 4, 5, 6, 7] rfl ?_
                exact hJ41 t49 S48 hf
              · replace hf := hif_n c46 hf
                refine h_iload dX4_reckon_56 0 rfl ?_
                refine h_i2l dX4_reckon_58 ?_
                refine h_goto (tgt := 72) dX4_reckon_59 (by decide) ?_
                refine h_sub (lv2 := [(0, .ref x0), (2, .int x2), (3, .ref x3), (4, .int x4), (5, .int x5), (6, .int x6), (7, .int x7)]) [1, 2, 3, 4, 5, 6, 7] rfl ?_
                exact hJ41 (Int32.toInt64 t9) S hf
set_option maxRecDepth 100000 in
set_option maxHeartbeats 4000000 in
theorem m_X4_reckon {d : Nat} {cs : Nat → Nat} {a0 : Nat} {a1 : Int32} {a2 : Int32} {a3 : Nat} {a4 : Int32} {a5 : Int32} {S : hS} {r : Int64 × hS} (hd : 2 ≤ d) (hf : f_X4_reckon a0 a1 a2 a3 a4 a5 S = some r) : HM yX4_reckon cX4_reckon 9 (some .long) d 0 0 cs [.ref a0, .int a1, .int a2, .ref a3, .int a4, .int a5] S (some (.long r.1)) r.2 := by
  unfold f_X4_reckon at hf
  refine HM.ofHW false (by decide) (fun h => by cases h) (Nat.le_of_ble_eq_true rfl) ?_
  show HW cX4_reckon RX4 (x_X4_reckon d S [.ref a0, .int a1, .int a2, .ref a3, .int a4, .int a5] r cs) 0 0 S 0 [(0, .ref a0), (1, .int a1), (2, .int a2), (3, .ref a3), (4, .int a4), (5, .int a5)] []
  refine h_iconst (v := 0) dX4_reckon_0 rfl ?_
  refine h_istore (lv2 := [(6, .int 0), (0, .ref a0), (1, .int a1), (2, .int a2), (3, .ref a3), (4, .int a4), (5, .int a5)]) dX4_reckon_1 (Nat.le_of_ble_eq_true rfl) rfl ?_
  refine h_iload_n dX4_reckon_3 rfl 2 rfl ?_
  refine h_istore (lv2 := [(7, .int a1), (6, .int 0), (0, .ref a0), (1, .int a1), (2, .int a2), (3, .ref a3), (4, .int a4), (5, .int a5)]) dX4_reckon_4 (Nat.le_of_ble_eq_true rfl) rfl ?_
  refine h_sub (lv2 := [(0, .ref a0), (2, .int a2), (3, .ref a3), (4, .int a4), (5, .int a5), (6, .int 0), (7, .int a1)]) [2, 4, 5, 6, 7, 1, 0] rfl ?_
  refine w_X4_reckon_L6 hd hfuel a0 a2 a3 a4 a5 0 a1 S _  hf ?_
  · intro u51 S52 hf
    refine h_iload dX4_reckon_159 1 rfl ?_
    refine h_if_le (tgt := 176) dX4_reckon_161 (by decide) (fun c53 => ?_) (fun c53 => ?_)
    · replace hf := hif_p c53 hf
      refine h_lconst (v := 0) dX4_reckon_176 rfl ?_
      obtain rfl := Option.some.inj hf
      exact h_lret rfl rfl rfl (Nat.le_refl _) (Nat.le_refl _) dX4_reckon_177
    · replace hf := hif_n c53 hf
      refine h_aload_n dX4_reckon_164 rfl 0 rfl ?_
      obtain ⟨t54, h55, hf⟩ := hbd_s hf
      refine h_getR h55 rfl (Nat.le_of_ble_eq_true rfl) rfl q_675 rfl dX4_reckon_165 ?_
      refine h_iload dX4_reckon_168 1 rfl ?_
      refine h_iconst (v := 1) dX4_reckon_170 rfl ?_
      refine h_isub dX4_reckon_171 ?_
      obtain ⟨t56, h57, hf⟩ := hbd_s hf
      refine h_lald h57 dX4_reckon_172 ?_
      refine h_goto (tgt := 177) dX4_reckon_173 (by decide) ?_
      obtain rfl := Option.some.inj hf
      exact h_lret rfl rfl rfl (Nat.le_refl _) (Nat.le_refl _) dX4_reckon_177
abbrev x_X5_countAt (d : Nat) (S0 : hS) (args : List Value) (r : hS) (cs : Nat → Nat) : hX := ((none, 2, d, 0, 0, false), (S0, args, none, r), cs)
theorem v_X5_countAt : hVW yX5_countAt cX5_countAt 2 none RX5 1 := ⟨q_617, q_s15, q_7, q_618, by decide +kernel, by decide⟩
def f_X5_countAt (a0 : Nat) (a1 : Int32) (S : hS) : Option (hS) :=
  hbd (gI S a0 5 3) fun t1 =>
  hj (γ := hS → Option (hS)) (fun (S4 : hS) =>
    hbd (gI S4 a0 5 3) fun t5 =>
    hbd (sI S4 a0 5 3 (t5 + 1)) fun S7 =>
    some S7
    ) fun J3 =>
  if t1 < 60 then
    (J3 S)
  else
    (hbd (gR S a0 5 0) fun t10 =>
     hck (S.K t10 = 8) <|
     hbd (f_X7_fail t10 3 a1 S) fun S13 =>
     J3 S13)
set_option maxRecDepth 100000 in
set_option maxHeartbeats 4000000 in
theorem m_X5_countAt {d : Nat} {cs : Nat → Nat} {a0 : Nat} {a1 : Int32} {S : hS} {r : hS} (hd : 2 ≤ d) (hf : f_X5_countAt a0 a1 S = some r) : HM yX5_countAt cX5_countAt 2 none d 0 0 cs [.ref a0, .int a1] S (none) r := by
  unfold f_X5_countAt at hf
  refine HM.ofHW false (by decide) (fun h => by cases h) (Nat.le_of_ble_eq_true rfl) ?_
  show HW cX5_countAt RX5 (x_X5_countAt d S [.ref a0, .int a1] r cs) 0 0 S 0 [(0, .ref a0), (1, .int a1)] []
  refine h_aload_n dX5_countAt_0 rfl 0 rfl ?_
  obtain ⟨t1, h2, hf⟩ := hbd_s hf
  refine h_getI h2 rfl (Nat.le_of_ble_eq_true rfl) rfl q_256 rfl dX5_countAt_1 ?_
  refine h_bipush (v := 60) dX5_countAt_4 rfl ?_
  refine hj_s (fun J3 => ∀ (S4 : hS), J3 S4 = some r → HW cX5_countAt RX5 (x_X5_countAt d S [.ref a0, .int a1] r cs) 0 0 S4 18 [(0, .ref a0)] []) hf ?_ ?_
  · intro S4 hf
    refine h_aload_n dX5_countAt_18 rfl 0 rfl ?_
    refine h_dup dX5_countAt_19 rfl ?_
    obtain ⟨t5, h6, hf⟩ := hbd_s hf
    refine h_getI h6 rfl (Nat.le_of_ble_eq_true rfl) rfl q_256 rfl dX5_countAt_20 ?_
    refine h_iconst (v := 1) dX5_countAt_23 rfl ?_
    refine h_iadd dX5_countAt_24 ?_
    obtain ⟨S7, h8, hf⟩ := hbd_s hf
    refine h_putI h8 rfl (Nat.le_of_ble_eq_true rfl) rfl q_256 rfl rfl (by decide +kernel) dX5_countAt_25 ?_
    obtain rfl := Option.some.inj hf
    exact h_vret rfl rfl rfl (Nat.le_refl _) (Nat.le_refl _) dX5_countAt_28
  · intro J3 hJ3 hf
    refine h_icmp_lt (tgt := 18) dX5_countAt_6 (by decide) (fun c9 => ?_) (fun c9 => ?_)
    · replace hf := hif_p c9 hf
      refine h_sub (lv2 := [(0, .ref a0)]) [0] rfl ?_
      exact hJ3 S hf
    · replace hf := hif_n c9 hf
      refine h_aload_n dX5_countAt_9 rfl 0 rfl ?_
      obtain ⟨t10, h11, hf⟩ := hbd_s hf
      refine h_getR h11 rfl (Nat.le_of_ble_eq_true rfl) rfl q_253 rfl dX5_countAt_10 ?_
      refine h_iconst (v := 3) dX5_countAt_13 rfl ?_
      refine h_iload_n dX5_countAt_14 rfl 1 rfl ?_
      obtain ⟨g14, hf⟩ := hck_s hf
      obtain ⟨S13, h12, hf⟩ := hbd_s hf
      refine h_Vv [.int 3, .int a1] (rest := []) (m_X7_fail (d := 1) (cs := cs) (Nat.le_refl _) h12) v_X7_fail q_600 rfl (Nat.le_trans (by decide) hd) g14 rfl rfl (Nat.le_of_ble_eq_true rfl) dX5_countAt_15 (Nat.le_refl _) (Nat.le_refl _) ?_
      refine h_sub (lv2 := [(0, .ref a0)]) [0] rfl ?_
      exact hJ3 S13 hf
abbrev x_X6_layOut (d : Nat) (S0 : hS) (args : List Value) (r : hS) (cs : Nat → Nat) : hX := ((none, 5, d, 0, 0, false), (S0, args, none, r), cs)
theorem v_X6_layOut : hVW yX6_layOut cX6_layOut 5 none RX6 2 := ⟨q_481, q_482, q_4, q_483, by decide +kernel, by decide⟩
def f_X6_layOut_L23 : Nat → Nat → Int32 → Int32 → hS → (hS → Option (hS)) → Option (hS)
  | 0, _, _, _, _, _ => none
  | n + 1, x0, x3, x4, S, k0 =>
    hbd (gI S x0 6 0) fun t1 =>
    if t1 ≤ x4 then
      (k0 S)
    else
      (hbd (gI S x0 6 2) fun t4 =>
       if 80 ≤ t4 then
         (k0 S)
       else
         (hbd (gR S x0 6 4) fun t7 =>
          hbd (gI S x0 6 2) fun t9 =>
          hbd (sA S t7 t9 x4) fun S11 =>
          hbd (gR S11 x0 6 5) fun t13 =>
          hbd (gI S11 x0 6 2) fun t15 =>
          hbd (sA S11 t13 t15 x3) fun S17 =>
          hbd (gR S17 x0 6 6) fun t19 =>
          hbd (gI S17 x0 6 2) fun t21 =>
          hbd (gI S17 x0 6 0) fun t23 =>
          hbd (gI S17 x0 6 1) fun t25 =>
          hbd (sA S17 t19 t21 (if (if ((t25 - 1) - x3) < x3 then ((t25 - 1) - x3) else x3) < (if ((t23 - 1) - x4) < x4 then ((t23 - 1) - x4) else x4) then (if ((t25 - 1) - x3) < x3 then ((t25 - 1) - x3) else x3) else (if ((t23 - 1) - x4) < x4 then ((t23 - 1) - x4) else x4))) fun S27 =>
          hbd (gR S27 x0 6 7) fun t29 =>
          hbd (gI S27 x0 6 2) fun t31 =>
          hbd (gI S27 x0 6 2) fun t33 =>
          hbd (sA S27 t29 (t31 * 5) t33) fun S35 =>
          hbd (gR S35 x0 6 7) fun t37 =>
          hbd (gI S35 x0 6 2) fun t39 =>
          hck (S35.K x0 = 7) <|
          hb2 (f_X6_seatAt x0 x4 (x3 - 1) S35) fun t43 S42 =>
          hbd (sA S42 t37 ((t39 * 5) + 1) t43) fun S44 =>
          hbd (gR S44 x0 6 7) fun t46 =>
          hbd (gI S44 x0 6 2) fun t48 =>
          hck (S44.K x0 = 7) <|
          hb2 (f_X6_seatAt x0 (x4 + 1) x3 S44) fun t52 S51 =>
          hbd (sA S51 t46 ((t48 * 5) + 2) t52) fun S53 =>
          hbd (gR S53 x0 6 7) fun t55 =>
          hbd (gI S53 x0 6 2) fun t57 =>
          hck (S53.K x0 = 7) <|
          hb2 (f_X6_seatAt x0 x4 (x3 + 1) S53) fun t61 S60 =>
          hbd (sA S60 t55 ((t57 * 5) + 3) t61) fun S62 =>
          hbd (gR S62 x0 6 7) fun t64 =>
          hbd (gI S62 x0 6 2) fun t66 =>
          hck (S62.K x0 = 7) <|
          hb2 (f_X6_seatAt x0 (x4 - 1) x3 S62) fun t70 S69 =>
          hbd (sA S69 t64 ((t66 * 5) + 4) t70) fun S71 =>
          hbd (gI S71 x0 6 2) fun t73 =>
          hbd (sI S71 x0 6 2 (t73 + 1)) fun S75 =>
          f_X6_layOut_L23 n x0 x3 (x4 + 1) S75 k0))
def f_X6_layOut_L12 : Nat → Nat → Int32 → hS → (hS → Option (hS)) → Option (hS)
  | 0, _, _, _, _ => none
  | n + 1, x0, x3, S, k0 =>
    hbd (gI S x0 6 1) fun t1 =>
    if t1 ≤ x3 then
      (k0 S)
    else
      (f_X6_layOut_L23 hfuel x0 x3 0 S
         (fun S4 =>
           f_X6_layOut_L12 n x0 (x3 + 1) S4 k0
         ))
def f_X6_layOut (a0 : Nat) (a1 : Int32) (a2 : Int32) (S : hS) : Option (hS) :=
  hbd (sI S a0 6 0 a1) fun S5 =>
  hbd (sI S5 a0 6 1 a2) fun S7 =>
  f_X6_layOut_L12 hfuel a0 0 S7
    (fun S9 =>
      some S9
    )
set_option maxRecDepth 100000 in
set_option maxHeartbeats 4000000 in
theorem w_X6_layOut_L23 {d : Nat} {S0 : hS} {args : List Value} {cs : Nat → Nat} {r : hS} (hd : 2 ≤ d) : ∀ (n : Nat) (x0 : Nat) (x3 : Int32) (x4 : Int32) (S : hS) (k0 : (hS → Option (hS))) , f_X6_layOut_L23 n x0 x3 x4 S k0 = some r → (∀ (T : hS), k0 T = some r → HW cX6_layOut RX6 (x_X6_layOut d S0 args r cs) 0 0 T 219 [(0, .ref x0), (3, .int x3)] []) → HW cX6_layOut RX6 (x_X6_layOut d S0 args r cs) 0 0 S 23 [(0, .ref x0), (3, .int x3), (4, .int x4)] [] := by
  intro n
  induction n with
  | zero =>
    intro x0 x3 x4 S k0 hf
    cases hf
  | succ n ih =>
    intro x0 x3 x4 S k0 hf hk0
    rw [f_X6_layOut_L23] at hf
    refine h_iload dX6_layOut_23 2 rfl ?_
    refine h_aload_n dX6_layOut_25 rfl 0 rfl ?_
    obtain ⟨t1, h2, hf⟩ := hbd_s hf
    refine h_getI h2 rfl (Nat.le_of_ble_eq_true rfl) rfl q_64 rfl dX6_layOut_26 ?_
    refine h_icmp_ge (tgt := 219) dX6_layOut_29 (by decide) (fun c3 => ?_) (fun c3 => ?_)
    · replace hf := hif_p c3 hf
      refine h_sub (lv2 := [(0, .ref x0), (3, .int x3)]) [0, 1] rfl ?_
      exact hk0 S hf
    · replace hf := hif_n c3 hf
      refine h_aload_n dX6_layOut_32 rfl 0 rfl ?_
      obtain ⟨t4, h5, hf⟩ := hbd_s hf
      refine h_getI h5 rfl (Nat.le_of_ble_eq_true rfl) rfl q_72 rfl dX6_layOut_33 ?_
      refine h_bipush (v := 80) dX6_layOut_36 rfl ?_
      refine h_icmp_ge (tgt := 219) dX6_layOut_38 (by decide) (fun c6 => ?_) (fun c6 => ?_)
      · replace hf := hif_p c6 hf
        refine h_sub (lv2 := [(0, .ref x0), (3, .int x3)]) [0, 1] rfl ?_
        exact hk0 S hf
      · replace hf := hif_n c6 hf
        refine h_aload_n dX6_layOut_41 rfl 0 rfl ?_
        obtain ⟨t7, h8, hf⟩ := hbd_s hf
        refine h_getR h8 rfl (Nat.le_of_ble_eq_true rfl) rfl q_79 rfl dX6_layOut_42 ?_
        refine h_aload_n dX6_layOut_45 rfl 0 rfl ?_
        obtain ⟨t9, h10, hf⟩ := hbd_s hf
        refine h_getI h10 rfl (Nat.le_of_ble_eq_true rfl) rfl q_72 rfl dX6_layOut_46 ?_
        refine h_iload dX6_layOut_49 2 rfl ?_
        obtain ⟨S11, h12, hf⟩ := hbd_s hf
        refine h_iast h12 dX6_layOut_51 ?_
        refine h_aload_n dX6_layOut_52 rfl 0 rfl ?_
        obtain ⟨t13, h14, hf⟩ := hbd_s hf
        refine h_getR h14 rfl (Nat.le_of_ble_eq_true rfl) rfl q_82 rfl dX6_layOut_53 ?_
        refine h_aload_n dX6_layOut_56 rfl 0 rfl ?_
        obtain ⟨t15, h16, hf⟩ := hbd_s hf
        refine h_getI h16 rfl (Nat.le_of_ble_eq_true rfl) rfl q_72 rfl dX6_layOut_57 ?_
        refine h_iload_n dX6_layOut_60 rfl 1 rfl ?_
        obtain ⟨S17, h18, hf⟩ := hbd_s hf
        refine h_iast h18 dX6_layOut_61 ?_
        refine h_aload_n dX6_layOut_62 rfl 0 rfl ?_
        obtain ⟨t19, h20, hf⟩ := hbd_s hf
        refine h_getR h20 rfl (Nat.le_of_ble_eq_true rfl) rfl q_85 rfl dX6_layOut_63 ?_
        refine h_aload_n dX6_layOut_66 rfl 0 rfl ?_
        obtain ⟨t21, h22, hf⟩ := hbd_s hf
        refine h_getI h22 rfl (Nat.le_of_ble_eq_true rfl) rfl q_72 rfl dX6_layOut_67 ?_
        refine h_iload dX6_layOut_70 2 rfl ?_
        refine h_aload_n dX6_layOut_72 rfl 0 rfl ?_
        obtain ⟨t23, h24, hf⟩ := hbd_s hf
        refine h_getI h24 rfl (Nat.le_of_ble_eq_true rfl) rfl q_64 rfl dX6_layOut_73 ?_
        refine h_iconst (v := 1) dX6_layOut_76 rfl ?_
        refine h_isub dX6_layOut_77 ?_
        refine h_iload dX6_layOut_78 2 rfl ?_
        refine h_isub dX6_layOut_80 ?_
        refine h_mmin q_484 q_485 q_15 qm_min (Nat.le_trans (by decide) hd) (Nat.le_of_ble_eq_true rfl) (Nat.le_refl _) (Nat.le_refl _) dX6_layOut_81 ?_
        refine h_iload_n dX6_layOut_84 rfl 1 rfl ?_
        refine h_aload_n dX6_layOut_85 rfl 0 rfl ?_
        obtain ⟨t25, h26, hf⟩ := hbd_s hf
        refine h_getI h26 rfl (Nat.le_of_ble_eq_true rfl) rfl q_68 rfl dX6_layOut_86 ?_
        refine h_iconst (v := 1) dX6_layOut_89 rfl ?_
        refine h_isub dX6_layOut_90 ?_
        refine h_iload_n dX6_layOut_91 rfl 1 rfl ?_
        refine h_isub dX6_layOut_92 ?_
        refine h_mmin q_484 q_485 q_15 qm_min (Nat.le_trans (by decide) hd) (Nat.le_of_ble_eq_true rfl) (Nat.le_refl _) (Nat.le_refl _) dX6_layOut_93 ?_
        refine h_mmin q_484 q_485 q_15 qm_min (Nat.le_trans (by decide) hd) (Nat.le_of_ble_eq_true rfl) (Nat.le_refl _) (Nat.le_refl _) dX6_layOut_96 ?_
        obtain ⟨S27, h28, hf⟩ := hbd_s hf
        refine h_iast h28 dX6_layOut_99 ?_
        refine h_aload_n dX6_layOut_100 rfl 0 rfl ?_
        obtain ⟨t29, h30, hf⟩ := hbd_s hf
        refine h_getR h30 rfl (Nat.le_of_ble_eq_true rfl) rfl q_88 rfl dX6_layOut_101 ?_
        refine h_aload_n dX6_layOut_104 rfl 0 rfl ?_
        obtain ⟨t31, h32, hf⟩ := hbd_s hf
        refine h_getI h32 rfl (Nat.le_of_ble_eq_true rfl) rfl q_72 rfl dX6_layOut_105 ?_
        refine h_iconst (v := 5) dX6_layOut_108 rfl ?_
        refine h_imul dX6_layOut_109 ?_
        refine h_aload_n dX6_layOut_110 rfl 0 rfl ?_
        obtain ⟨t33, h34, hf⟩ := hbd_s hf
        refine h_getI h34 rfl (Nat.le_of_ble_eq_true rfl) rfl q_72 rfl dX6_layOut_111 ?_
        obtain ⟨S35, h36, hf⟩ := hbd_s hf
        refine h_iast h36 dX6_layOut_114 ?_
        refine h_aload_n dX6_layOut_115 rfl 0 rfl ?_
        obtain ⟨t37, h38, hf⟩ := hbd_s hf
        refine h_getR h38 rfl (Nat.le_of_ble_eq_true rfl) rfl q_88 rfl dX6_layOut_116 ?_
        refine h_aload_n dX6_layOut_119 rfl 0 rfl ?_
        obtain ⟨t39, h40, hf⟩ := hbd_s hf
        refine h_getI h40 rfl (Nat.le_of_ble_eq_true rfl) rfl q_72 rfl dX6_layOut_120 ?_
        refine h_iconst (v := 5) dX6_layOut_123 rfl ?_
        refine h_imul dX6_layOut_124 ?_
        refine h_iconst (v := 1) dX6_layOut_125 rfl ?_
        refine h_iadd dX6_layOut_126 ?_
        refine h_aload_n dX6_layOut_127 rfl 0 rfl ?_
        refine h_iload dX6_layOut_128 2 rfl ?_
        refine h_iload_n dX6_layOut_130 rfl 1 rfl ?_
        refine h_iconst (v := 1) dX6_layOut_131 rfl ?_
        refine h_isub dX6_layOut_132 ?_
        obtain ⟨g80, hf⟩ := hck_s hf
        obtain ⟨t43, S42, h41, hf⟩ := hb2_s hf
        refine h_Vi [.int x4, .int (x3 - 1)] (rest := [.int ((t39 * 5) + 1), .ref t37]) (m_X6_seatAt (d := 1) (cs := cs) (Nat.le_refl _) h41) v_X6_seatAt q_487 rfl (Nat.le_trans (by decide) hd) g80 rfl rfl (Nat.le_of_ble_eq_true rfl) dX6_layOut_133 (Nat.le_refl _) (Nat.le_refl _) ?_
        obtain ⟨S44, h45, hf⟩ := hbd_s hf
        refine h_iast h45 dX6_layOut_136 ?_
        refine h_aload_n dX6_layOut_137 rfl 0 rfl ?_
        obtain ⟨t46, h47, hf⟩ := hbd_s hf
        refine h_getR h47 rfl (Nat.le_of_ble_eq_true rfl) rfl q_88 rfl dX6_layOut_138 ?_
        refine h_aload_n dX6_layOut_141 rfl 0 rfl ?_
        obtain ⟨t48, h49, hf⟩ := hbd_s hf
        refine h_getI h49 rfl (Nat.le_of_ble_eq_true rfl) rfl q_72 rfl dX6_layOut_142 ?_
        refine h_iconst (v := 5) dX6_layOut_145 rfl ?_
        refine h_imul dX6_layOut_146 ?_
        refine h_iconst (v := 2) dX6_layOut_147 rfl ?_
        refine h_iadd dX6_layOut_148 ?_
        refine h_aload_n dX6_layOut_149 rfl 0 rfl ?_
        refine h_iload dX6_layOut_150 2 rfl ?_
        refine h_iconst (v := 1) dX6_layOut_152 rfl ?_
        refine h_iadd dX6_layOut_153 ?_
        refine h_iload_n dX6_layOut_154 rfl 1 rfl ?_
        obtain ⟨g79, hf⟩ := hck_s hf
        obtain ⟨t52, S51, h50, hf⟩ := hb2_s hf
        refine h_Vi [.int (x4 + 1), .int x3] (rest := [.int ((t48 * 5) + 2), .ref t46]) (m_X6_seatAt (d := 1) (cs := cs) (Nat.le_refl _) h50) v_X6_seatAt q_487 rfl (Nat.le_trans (by decide) hd) g79 rfl rfl (Nat.le_of_ble_eq_true rfl) dX6_layOut_155 (Nat.le_refl _) (Nat.le_refl _) ?_
        obtain ⟨S53, h54, hf⟩ := hbd_s hf
        refine h_iast h54 dX6_layOut_158 ?_
        refine h_aload_n dX6_layOut_159 rfl 0 rfl ?_
        obtain ⟨t55, h56, hf⟩ := hbd_s hf
        refine h_getR h56 rfl (Nat.le_of_ble_eq_true rfl) rfl q_88 rfl dX6_layOut_160 ?_
        refine h_aload_n dX6_layOut_163 rfl 0 rfl ?_
        obtain ⟨t57, h58, hf⟩ := hbd_s hf
        refine h_getI h58 rfl (Nat.le_of_ble_eq_true rfl) rfl q_72 rfl dX6_layOut_164 ?_
        refine h_iconst (v := 5) dX6_layOut_167 rfl ?_
        refine h_imul dX6_layOut_168 ?_
        refine h_iconst (v := 3) dX6_layOut_169 rfl ?_
        refine h_iadd dX6_layOut_170 ?_
        refine h_aload_n dX6_layOut_171 rfl 0 rfl ?_
        refine h_iload dX6_layOut_172 2 rfl ?_
        refine h_iload_n dX6_layOut_174 rfl 1 rfl ?_
        refine h_iconst (v := 1) dX6_layOut_175 rfl ?_
        refine h_iadd dX6_layOut_176 ?_
        obtain ⟨g78, hf⟩ := hck_s hf
        obtain ⟨t61, S60, h59, hf⟩ := hb2_s hf
        refine h_Vi [.int x4, .int (x3 + 1)] (rest := [.int ((t57 * 5) + 3), .ref t55]) (m_X6_seatAt (d := 1) (cs := cs) (Nat.le_refl _) h59) v_X6_seatAt q_487 rfl (Nat.le_trans (by decide) hd) g78 rfl rfl (Nat.le_of_ble_eq_true rfl) dX6_layOut_177 (Nat.le_refl _) (Nat.le_refl _) ?_
        obtain ⟨S62, h63, hf⟩ := hbd_s hf
        refine h_iast h63 dX6_layOut_180 ?_
        refine h_aload_n dX6_layOut_181 rfl 0 rfl ?_
        obtain ⟨t64, h65, hf⟩ := hbd_s hf
        refine h_getR h65 rfl (Nat.le_of_ble_eq_true rfl) rfl q_88 rfl dX6_layOut_182 ?_
        refine h_aload_n dX6_layOut_185 rfl 0 rfl ?_
        obtain ⟨t66, h67, hf⟩ := hbd_s hf
        refine h_getI h67 rfl (Nat.le_of_ble_eq_true rfl) rfl q_72 rfl dX6_layOut_186 ?_
        refine h_iconst (v := 5) dX6_layOut_189 rfl ?_
        refine h_imul dX6_layOut_190 ?_
        refine h_iconst (v := 4) dX6_layOut_191 rfl ?_
        refine h_iadd dX6_layOut_192 ?_
        refine h_aload_n dX6_layOut_193 rfl 0 rfl ?_
        refine h_iload dX6_layOut_194 2 rfl ?_
        refine h_iconst (v := 1) dX6_layOut_196 rfl ?_
        refine h_isub dX6_layOut_197 ?_
        refine h_iload_n dX6_layOut_198 rfl 1 rfl ?_
        obtain ⟨g77, hf⟩ := hck_s hf
        obtain ⟨t70, S69, h68, hf⟩ := hb2_s hf
        refine h_Vi [.int (x4 - 1), .int x3] (rest := [.int ((t66 * 5) + 4), .ref t64]) (m_X6_seatAt (d := 1) (cs := cs) (Nat.le_refl _) h68) v_X6_seatAt q_487 rfl (Nat.le_trans (by decide) hd) g77 rfl rfl (Nat.le_of_ble_eq_true rfl) dX6_layOut_199 (Nat.le_refl _) (Nat.le_refl _) ?_
        obtain ⟨S71, h72, hf⟩ := hbd_s hf
        refine h_iast h72 dX6_layOut_202 ?_
        refine h_aload_n dX6_layOut_203 rfl 0 rfl ?_
        refine h_dup dX6_layOut_204 rfl ?_
        obtain ⟨t73, h74, hf⟩ := hbd_s hf
        refine h_getI h74 rfl (Nat.le_of_ble_eq_true rfl) rfl q_72 rfl dX6_layOut_205 ?_
        refine h_iconst (v := 1) dX6_layOut_208 rfl ?_
        refine h_iadd dX6_layOut_209 ?_
        obtain ⟨S75, h76, hf⟩ := hbd_s hf
        refine h_putI h76 rfl (Nat.le_of_ble_eq_true rfl) rfl q_72 rfl rfl (by decide +kernel) dX6_layOut_210 ?_
        refine h_iinc (q := 2) (v := x4 + 1) (lv2 := [(4, .int (x4 + 1)), (0, .ref x0), (3, .int x3)]) dX6_layOut_213 rfl rfl (Nat.le_of_ble_eq_true rfl) rfl ?_
        refine h_goto (tgt := 23) dX6_layOut_216 (by decide) ?_
        refine h_sub (lv2 := [(0, .ref x0), (3, .int x3), (4, .int (x4 + 1))]) [1, 2, 0] rfl ?_
        exact ih x0 x3 (x4 + 1) S75 k0  hf hk0
set_option maxRecDepth 100000 in
set_option maxHeartbeats 4000000 in
theorem w_X6_layOut_L12 {d : Nat} {S0 : hS} {args : List Value} {cs : Nat → Nat} {r : hS} (hd : 2 ≤ d) : ∀ (n : Nat) (x0 : Nat) (x3 : Int32) (S : hS) (k0 : (hS → Option (hS))) , f_X6_layOut_L12 n x0 x3 S k0 = some r → (∀ (T : hS), k0 T = some r → HW cX6_layOut RX6 (x_X6_layOut d S0 args r cs) 0 0 T 225 [] []) → HW cX6_layOut RX6 (x_X6_layOut d S0 args r cs) 0 0 S 12 [(0, .ref x0), (3, .int x3)] [] := by
  intro n
  induction n with
  | zero =>
    intro x0 x3 S k0 hf
    cases hf
  | succ n ih =>
    intro x0 x3 S k0 hf hk0
    rw [f_X6_layOut_L12] at hf
    refine h_iload_n dX6_layOut_12 rfl 1 rfl ?_
    refine h_aload_n dX6_layOut_13 rfl 0 rfl ?_
    obtain ⟨t1, h2, hf⟩ := hbd_s hf
    refine h_getI h2 rfl (Nat.le_of_ble_eq_true rfl) rfl q_68 rfl dX6_layOut_14 ?_
    refine h_icmp_ge (tgt := 225) dX6_layOut_17 (by decide) (fun c3 => ?_) (fun c3 => ?_)
    · replace hf := hif_p c3 hf
      refine h_sub (lv2 := []) [] rfl ?_
      exact hk0 S hf
    · replace hf := hif_n c3 hf
      refine h_iconst (v := 0) dX6_layOut_20 rfl ?_
      refine h_istore (lv2 := [(4, .int 0), (0, .ref x0), (3, .int x3)]) dX6_layOut_21 (Nat.le_of_ble_eq_true rfl) rfl ?_
      refine h_sub (lv2 := [(0, .ref x0), (3, .int x3), (4, .int 0)]) [1, 2, 0] rfl ?_
      refine w_X6_layOut_L23 hd hfuel x0 x3 0 S _  hf ?_
      · intro S4 hf
        refine h_iinc (q := 1) (v := x3 + 1) (lv2 := [(3, .int (x3 + 1)), (0, .ref x0)]) dX6_layOut_219 rfl rfl (Nat.le_of_ble_eq_true rfl) rfl ?_
        refine h_goto (tgt := 12) dX6_layOut_222 (by decide) ?_
        refine h_sub (lv2 := [(0, .ref x0), (3, .int (x3 + 1))]) [1, 0] rfl ?_
        exact ih x0 (x3 + 1) S4 k0  hf hk0
set_option maxRecDepth 100000 in
set_option maxHeartbeats 4000000 in
theorem m_X6_layOut {d : Nat} {cs : Nat → Nat} {a0 : Nat} {a1 : Int32} {a2 : Int32} {S : hS} {r : hS} (hd : 2 ≤ d) (hf : f_X6_layOut a0 a1 a2 S = some r) : HM yX6_layOut cX6_layOut 5 none d 0 0 cs [.ref a0, .int a1, .int a2] S (none) r := by
  unfold f_X6_layOut at hf
  refine HM.ofHW false (by decide) (fun h => by cases h) (Nat.le_of_ble_eq_true rfl) ?_
  show HW cX6_layOut RX6 (x_X6_layOut d S [.ref a0, .int a1, .int a2] r cs) 0 0 S 0 [(0, .ref a0), (1, .int a1), (2, .int a2)] []
  refine h_aload_n dX6_layOut_0 rfl 0 rfl ?_
  refine h_iload_n dX6_layOut_1 rfl 1 rfl ?_
  obtain ⟨S5, h6, hf⟩ := hbd_s hf
  refine h_putI h6 rfl (Nat.le_of_ble_eq_true rfl) rfl q_64 rfl rfl (by decide +kernel) dX6_layOut_2 ?_
  refine h_aload_n dX6_layOut_5 rfl 0 rfl ?_
  refine h_iload_n dX6_layOut_6 rfl 2 rfl ?_
  obtain ⟨S7, h8, hf⟩ := hbd_s hf
  refine h_putI h8 rfl (Nat.le_of_ble_eq_true rfl) rfl q_68 rfl rfl (by decide +kernel) dX6_layOut_7 ?_
  refine h_iconst (v := 0) dX6_layOut_10 rfl ?_
  refine h_istore_n (lv2 := [(3, .int 0), (0, .ref a0), (1, .int a1), (2, .int a2)]) dX6_layOut_11 rfl (Nat.le_of_ble_eq_true rfl) rfl ?_
  refine h_sub (lv2 := [(0, .ref a0), (3, .int 0)]) [1, 0] rfl ?_
  refine w_X6_layOut_L12 hd hfuel a0 0 S7 _  hf ?_
  · intro S9 hf
    obtain rfl := Option.some.inj hf
    exact h_vret rfl rfl rfl (Nat.le_refl _) (Nat.le_refl _) dX6_layOut_225
abbrev x_X7_add (d : Nat) (S0 : hS) (args : List Value) (r : Int32 × hS) (cs : Nat → Nat) : hX := (((some .int), 6, d, 0, 0, false), (S0, args, some (.int r.1), r.2), cs)
theorem v_X7_add : hVW yX7_add cX7_add 6 (some .int) RX7 5 := ⟨q_339, q_340, q_2, q_341, by decide +kernel, by decide⟩
def f_X7_add (a0 : Nat) (a1 : Int32) (a2 : Int32) (a3 : Int32) (a4 : Int32) (a5 : Int32) (S : hS) : Option (Int32 × hS) :=
  hbd (gI S a0 7 1) fun t1 =>
  if (t1 + 20) ≤ 400 then
    (hck (S.K a0 = 8) <|
     hbd (f_X7_addBytes a0 a1 S) fun S5 =>
     hck (S5.K a0 = 8) <|
     hbd (f_X7_addBytes a0 a2 S5) fun S7 =>
     hck (S7.K a0 = 8) <|
     hbd (f_X7_addBytes a0 a3 S7) fun S9 =>
     hck (S9.K a0 = 8) <|
     hbd (f_X7_addBytes a0 a4 S9) fun S11 =>
     hck (S11.K a0 = 8) <|
     hbd (f_X7_addBytes a0 a5 S11) fun S13 =>
     hbd (gI S13 a0 7 1) fun t14 =>
     some (t14, S13))
  else
    (some ((-1), S))
set_option maxRecDepth 100000 in
set_option maxHeartbeats 4000000 in
theorem m_X7_add {d : Nat} {cs : Nat → Nat} {a0 : Nat} {a1 : Int32} {a2 : Int32} {a3 : Int32} {a4 : Int32} {a5 : Int32} {S : hS} {r : Int32 × hS} (hd : 2 ≤ d) (hf : f_X7_add a0 a1 a2 a3 a4 a5 S = some r) : HM yX7_add cX7_add 6 (some .int) d 0 0 cs [.ref a0, .int a1, .int a2, .int a3, .int a4, .int a5] S (some (.int r.1)) r.2 := by
  unfold f_X7_add at hf
  refine HM.ofHW false (by decide) (fun h => by cases h) (Nat.le_of_ble_eq_true rfl) ?_
  show HW cX7_add RX7 (x_X7_add d S [.ref a0, .int a1, .int a2, .int a3, .int a4, .int a5] r cs) 0 0 S 0 [(0, .ref a0), (1, .int a1), (2, .int a2), (3, .int a3), (4, .int a4), (5, .int a5)] []
  refine h_aload_n dX7_add_0 rfl 0 rfl ?_
  obtain ⟨t1, h2, hf⟩ := hbd_s hf
  refine h_getI h2 rfl (Nat.le_of_ble_eq_true rfl) rfl q_33 rfl dX7_add_1 ?_
  refine h_bipush (v := 20) dX7_add_4 rfl ?_
  refine h_iadd dX7_add_6 ?_
  refine h_sipush (v := 400) dX7_add_7 rfl ?_
  refine h_icmp_le (tgt := 15) dX7_add_10 (by decide) (fun c3 => ?_) (fun c3 => ?_)
  · replace hf := hif_p c3 hf
    refine h_aload_n dX7_add_15 rfl 0 rfl ?_
    refine h_iload_n dX7_add_16 rfl 1 rfl ?_
    obtain ⟨g20, hf⟩ := hck_s hf
    obtain ⟨S5, h4, hf⟩ := hbd_s hf
    refine h_Vv [.int a1] (rest := []) (m_X7_addBytes (d := 1) (cs := cs) (Nat.le_refl _) h4) v_X7_addBytes q_342 rfl (Nat.le_trans (by decide) hd) g20 rfl rfl (Nat.le_of_ble_eq_true rfl) dX7_add_17 (Nat.le_refl _) (Nat.le_refl _) ?_
    refine h_aload_n dX7_add_20 rfl 0 rfl ?_
    refine h_iload_n dX7_add_21 rfl 2 rfl ?_
    obtain ⟨g19, hf⟩ := hck_s hf
    obtain ⟨S7, h6, hf⟩ := hbd_s hf
    refine h_Vv [.int a2] (rest := []) (m_X7_addBytes (d := 1) (cs := cs) (Nat.le_refl _) h6) v_X7_addBytes q_342 rfl (Nat.le_trans (by decide) hd) g19 rfl rfl (Nat.le_of_ble_eq_true rfl) dX7_add_22 (Nat.le_refl _) (Nat.le_refl _) ?_
    refine h_aload_n dX7_add_25 rfl 0 rfl ?_
    refine h_iload_n dX7_add_26 rfl 3 rfl ?_
    obtain ⟨g18, hf⟩ := hck_s hf
    obtain ⟨S9, h8, hf⟩ := hbd_s hf
    refine h_Vv [.int a3] (rest := []) (m_X7_addBytes (d := 1) (cs := cs) (Nat.le_refl _) h8) v_X7_addBytes q_342 rfl (Nat.le_trans (by decide) hd) g18 rfl rfl (Nat.le_of_ble_eq_true rfl) dX7_add_27 (Nat.le_refl _) (Nat.le_refl _) ?_
    refine h_aload_n dX7_add_30 rfl 0 rfl ?_
    refine h_iload dX7_add_31 4 rfl ?_
    obtain ⟨g17, hf⟩ := hck_s hf
    obtain ⟨S11, h10, hf⟩ := hbd_s hf
    refine h_Vv [.int a4] (rest := []) (m_X7_addBytes (d := 1) (cs := cs) (Nat.le_refl _) h10) v_X7_addBytes q_342 rfl (Nat.le_trans (by decide) hd) g17 rfl rfl (Nat.le_of_ble_eq_true rfl) dX7_add_33 (Nat.le_refl _) (Nat.le_refl _) ?_
    refine h_aload_n dX7_add_36 rfl 0 rfl ?_
    refine h_iload dX7_add_37 5 rfl ?_
    obtain ⟨g16, hf⟩ := hck_s hf
    obtain ⟨S13, h12, hf⟩ := hbd_s hf
    refine h_Vv [.int a5] (rest := []) (m_X7_addBytes (d := 1) (cs := cs) (Nat.le_refl _) h12) v_X7_addBytes q_342 rfl (Nat.le_trans (by decide) hd) g16 rfl rfl (Nat.le_of_ble_eq_true rfl) dX7_add_39 (Nat.le_refl _) (Nat.le_refl _) ?_
    refine h_aload_n dX7_add_42 rfl 0 rfl ?_
    obtain ⟨t14, h15, hf⟩ := hbd_s hf
    refine h_getI h15 rfl (Nat.le_of_ble_eq_true rfl) rfl q_33 rfl dX7_add_43 ?_
    obtain rfl := Option.some.inj hf
    exact h_iret rfl rfl rfl (Nat.le_refl _) (Nat.le_refl _) dX7_add_46
  · replace hf := hif_n c3 hf
    refine h_iconst (v := (-1)) dX7_add_13 rfl ?_
    obtain rfl := Option.some.inj hf
    exact h_iret rfl rfl rfl (Nat.le_refl _) (Nat.le_refl _) dX7_add_14
abbrev x_X7_wordOf (d : Nat) (S0 : hS) (args : List Value) (r : Int32 × hS) (cs : Nat → Nat) : hX := (((some .int), 6, d, 0, 0, false), (S0, args, some (.int r.1), r.2), cs)
theorem v_X7_wordOf : hVW yX7_wordOf cX7_wordOf 6 (some .int) RX7 1 := ⟨q_388, q_389, q_2, q_390, by decide +kernel, by decide⟩
def f_X7_wordOf_L18 : Nat → Nat → Nat → Int32 → Int32 → Int32 → Int32 → hS → (hS → Option (Int32 × hS)) → (Int32 → hS → Option (Int32 × hS)) → Option (Int32 × hS)
  | 0, _, _, _, _, _, _, _, _, _ => none
  | n + 1, x0, x1, x2, x3, x4, x5, S, k0, k1 =>
    hbd (gTL x1) fun t1 =>
    if t1 < x5 then
      (k0 S)
    else
      (hbd (gTL x1) fun t4 =>
       hj (γ := hS → Option (Int32 × hS)) (fun (S7 : hS) =>
         hj (γ := hS → Option (Int32 × hS)) (fun (S9 : hS) =>
           f_X7_wordOf_L18 n x0 x1 x2 (x5 + 1) (x4 + 1) (x5 + 1) S9 k0 k1
           ) fun J8 =>
         if (x5 - x3) = x2 then
           (hck (S7.K x0 = 8) <|
            hb2 (f_X7_isNext x0 x1 x3 x2 S7) fun t13 S12 =>
            if t13 = 0 then
              (J8 S12)
            else
              (k1 x4 S12))
         else
           (J8 S7)
         ) fun J6 =>
       if x5 = t4 then
         (J6 S)
       else
         (hbd (gTC x1 x5) fun t17 =>
          if t17 = 32 then
            (J6 S)
          else
            (f_X7_wordOf_L18 n x0 x1 x2 x3 x4 (x5 + 1) S k0 k1)))
def f_X7_wordOf (a0 : Nat) (a1 : Nat) (S : hS) : Option (Int32 × hS) :=
  hck (S.K a0 = 8) <|
  hb2 (f_X7_next a0 S) fun t22 S21 =>
  hck (S21.K a0 = 8) <|
  hb2 (f_X7_letters a0 S21) fun t25 S24 =>
  f_X7_wordOf_L18 hfuel a0 a1 t25 0 0 0 S24
    (fun S26 =>
      some ((-1), S26)
    )
    (fun u27 S28 =>
      some (u27, S28)
    )
set_option maxRecDepth 100000 in
set_option maxHeartbeats 4000000 in
theorem w_X7_wordOf_L18 {d : Nat} {S0 : hS} {args : List Value} {cs : Nat → Nat} {r : Int32 × hS} (hd : 6 ≤ d) : ∀ (n : Nat) (x0 : Nat) (x1 : Nat) (x2 : Int32) (x3 : Int32) (x4 : Int32) (x5 : Int32) (S : hS) (k0 : (hS → Option (Int32 × hS))) (k1 : (Int32 → hS → Option (Int32 × hS))) , f_X7_wordOf_L18 n x0 x1 x2 x3 x4 x5 S k0 k1 = some r → (∀ (T : hS), k0 T = some r → HW cX7_wordOf RX7 (x_X7_wordOf d S0 args r cs) 0 0 T 82 [] []) → (∀ (y4 : Int32) (T : hS), k1 y4 T = some r → HW cX7_wordOf RX7 (x_X7_wordOf d S0 args r cs) 0 0 T 65 [(4, .int y4)] []) → HW cX7_wordOf RX7 (x_X7_wordOf d S0 args r cs) 0 0 S 18 [(0, .ref x0), (1, .ref (cs x1)), (2, .int x2), (3, .int x3), (4, .int x4), (5, .int x5)] [] := by
  intro n
  induction n with
  | zero =>
    intro x0 x1 x2 x3 x4 x5 S k0 k1 hf
    cases hf
  | succ n ih =>
    intro x0 x1 x2 x3 x4 x5 S k0 k1 hf hk0 hk1
    rw [f_X7_wordOf_L18] at hf
    refine h_iload dX7_wordOf_18 5 rfl ?_
    refine h_aload_n dX7_wordOf_20 rfl 1 rfl ?_
    obtain ⟨t1, h2, hf⟩ := hbd_s hf
    refine h_Ti [] (rest := [.int x5]) (m_J0_length_8abf5 (d := 2) (cs := cs) (Nat.le_refl _) h2) v_J0_length_8abf5 (gTL_s h2).1 q_399 rfl (Nat.le_trans (by decide) hd) rfl (Nat.le_of_ble_eq_true rfl) dX7_wordOf_21 (Nat.le_refl _) (Nat.le_refl _) ?_
    refine h_icmp_gt (tgt := 82) dX7_wordOf_24 (by decide) (fun c3 => ?_) (fun c3 => ?_)
    · replace hf := hif_p c3 hf
      refine h_sub (lv2 := []) [] rfl ?_
      exact hk0 S hf
    · replace hf := hif_n c3 hf
      refine h_iload dX7_wordOf_27 5 rfl ?_
      refine h_aload_n dX7_wordOf_29 rfl 1 rfl ?_
      obtain ⟨t4, h5, hf⟩ := hbd_s hf
      refine h_Ti [] (rest := [.int x5]) (m_J0_length_8abf5 (d := 2) (cs := cs) (Nat.le_refl _) h5) v_J0_length_8abf5 (gTL_s h5).1 q_399 rfl (Nat.le_trans (by decide) hd) rfl (Nat.le_of_ble_eq_true rfl) dX7_wordOf_30 (Nat.le_refl _) (Nat.le_refl _) ?_
      refine hj_s (fun J6 => ∀ (S7 : hS), J6 S7 = some r → HW cX7_wordOf RX7 (x_X7_wordOf d S0 args r cs) 0 0 S7 47 [(0, .ref x0), (1, .ref (cs x1)), (2, .int x2), (3, .int x3), (4, .int x4), (5, .int x5)] []) hf ?_ ?_
      · intro S7 hf
        refine h_iload dX7_wordOf_47 5 rfl ?_
        refine h_iload_n dX7_wordOf_49 rfl 3 rfl ?_
        refine h_isub dX7_wordOf_50 ?_
        refine h_iload_n dX7_wordOf_51 rfl 2 rfl ?_
        refine hj_s (fun J8 => ∀ (S9 : hS), J8 S9 = some r → HW cX7_wordOf RX7 (x_X7_wordOf d S0 args r cs) 0 0 S9 68 [(0, .ref x0), (1, .ref (cs x1)), (2, .int x2), (4, .int x4), (5, .int x5)] []) hf ?_ ?_
        · intro S9 hf
          refine h_iload dX7_wordOf_68 4 rfl ?_
          refine h_iconst (v := 1) dX7_wordOf_70 rfl ?_
          refine h_iadd dX7_wordOf_71 ?_
          refine h_istore_n (lv2 := [(3, .int (x5 + 1)), (0, .ref x0), (1, .ref (cs x1)), (2, .int x2), (4, .int x4), (5, .int x5)]) dX7_wordOf_72 rfl (Nat.le_of_ble_eq_true rfl) rfl ?_
          refine h_iinc (q := 4) (v := x4 + 1) (lv2 := [(4, .int (x4 + 1)), (3, .int (x5 + 1)), (0, .ref x0), (1, .ref (cs x1)), (2, .int x2), (5, .int x5)]) dX7_wordOf_73 rfl rfl (Nat.le_of_ble_eq_true rfl) rfl ?_
          refine h_iinc (q := 5) (v := x5 + 1) (lv2 := [(5, .int (x5 + 1)), (4, .int (x4 + 1)), (3, .int (x5 + 1)), (0, .ref x0), (1, .ref (cs x1)), (2, .int x2)]) dX7_wordOf_76 rfl rfl (Nat.le_of_ble_eq_true rfl) rfl ?_
          refine h_goto (tgt := 18) dX7_wordOf_79 (by decide) ?_
          refine h_sub (lv2 := [(0, .ref x0), (1, .ref (cs x1)), (2, .int x2), (3, .int (x5 + 1)), (4, .int (x4 + 1)), (5, .int (x5 + 1))]) [3, 4, 5, 2, 1, 0] rfl ?_
          exact ih x0 x1 x2 (x5 + 1) (x4 + 1) (x5 + 1) S9 k0 k1  hf hk0 hk1
        · intro J8 hJ8 hf
          refine h_icmp_ne (tgt := 68) dX7_wordOf_52 (by decide) (fun c10 => ?_) (fun c10 => ?_)
          · replace hf := hif_n c10 hf
            refine h_sub (lv2 := [(0, .ref x0), (1, .ref (cs x1)), (2, .int x2), (4, .int x4), (5, .int x5)]) [0, 1, 2, 4, 5] rfl ?_
            exact hJ8 S7 hf
          · replace hf := hif_p c10 hf
            refine h_aload_n dX7_wordOf_55 rfl 0 rfl ?_
            refine h_aload_n dX7_wordOf_56 rfl 1 rfl ?_
            refine h_iload_n dX7_wordOf_57 rfl 3 rfl ?_
            refine h_iload_n dX7_wordOf_58 rfl 2 rfl ?_
            obtain ⟨g15, hf⟩ := hck_s hf
            obtain ⟨t13, S12, h11, hf⟩ := hb2_s hf
            refine h_Vi [.ref (cs x1), .int x3, .int x2] (rest := []) (m_X7_isNext (d := 5) (cs := cs) (Nat.le_refl _) h11) v_X7_isNext q_447 rfl (Nat.le_trans (by decide) hd) g15 rfl rfl (Nat.le_of_ble_eq_true rfl) dX7_wordOf_59 (Nat.le_refl _) (Nat.le_refl _) ?_
            refine h_if_eq (tgt := 68) dX7_wordOf_62 (by decide) (fun c14 => ?_) (fun c14 => ?_)
            · replace hf := hif_p c14 hf
              refine h_sub (lv2 := [(0, .ref x0), (1, .ref (cs x1)), (2, .int x2), (4, .int x4), (5, .int x5)]) [0, 1, 2, 4, 5] rfl ?_
              exact hJ8 S12 hf
            · replace hf := hif_n c14 hf
              refine h_sub (lv2 := [(4, .int x4)]) [4] rfl ?_
              exact hk1 x4 S12 hf
      · intro J6 hJ6 hf
        refine h_icmp_eq (tgt := 47) dX7_wordOf_33 (by decide) (fun c16 => ?_) (fun c16 => ?_)
        · replace hf := hif_p c16 hf
          exact hJ6 S hf
        · replace hf := hif_n c16 hf
          refine h_aload_n dX7_wordOf_36 rfl 1 rfl ?_
          refine h_iload dX7_wordOf_37 5 rfl ?_
          obtain ⟨t17, h18, hf⟩ := hbd_s hf
          refine h_Ti [.int x5] (rest := []) (m_J0_charAt_5068e (d := 4) (cs := cs) (Nat.le_refl _) h18) v_J0_charAt_5068e (gTC_s h18).1 q_409 rfl (Nat.le_trans (by decide) hd) rfl (Nat.le_of_ble_eq_true rfl) dX7_wordOf_39 (Nat.le_refl _) (Nat.le_refl _) ?_
          refine h_bipush (v := 32) dX7_wordOf_42 rfl ?_
          refine h_icmp_ne (tgt := 76) dX7_wordOf_44 (by decide) (fun c19 => ?_) (fun c19 => ?_)
          · replace hf := hif_n c19 hf
            refine h_iinc (q := 5) (v := x5 + 1) (lv2 := [(5, .int (x5 + 1)), (0, .ref x0), (1, .ref (cs x1)), (2, .int x2), (3, .int x3), (4, .int x4)]) dX7_wordOf_76 rfl rfl (Nat.le_of_ble_eq_true rfl) rfl ?_
            refine h_goto (tgt := 18) dX7_wordOf_79 (by decide) ?_
            refine h_sub (lv2 := [(0, .ref x0), (1, .ref (cs x1)), (2, .int x2), (3, .int x3), (4, .int x4), (5, .int (x5 + 1))]) [1, 2, 3, 4, 5, 0] rfl ?_
            exact ih x0 x1 x2 x3 x4 (x5 + 1) S k0 k1  hf hk0 hk1
          · replace hf := hif_p c19 hf
            exact hJ6 S hf
set_option maxRecDepth 100000 in
set_option maxHeartbeats 4000000 in
theorem m_X7_wordOf {d : Nat} {cs : Nat → Nat} {a0 : Nat} {a1 : Nat} {S : hS} {r : Int32 × hS} (hd : 6 ≤ d) (hf : f_X7_wordOf a0 a1 S = some r) : HM yX7_wordOf cX7_wordOf 6 (some .int) d 0 0 cs [.ref a0, .ref (cs a1)] S (some (.int r.1)) r.2 := by
  unfold f_X7_wordOf at hf
  refine HM.ofHW false (by decide) (fun h => by cases h) (Nat.le_of_ble_eq_true rfl) ?_
  show HW cX7_wordOf RX7 (x_X7_wordOf d S [.ref a0, .ref (cs a1)] r cs) 0 0 S 0 [(0, .ref a0), (1, .ref (cs a1))] []
  refine h_aload_n dX7_wordOf_0 rfl 0 rfl ?_
  obtain ⟨g30, hf⟩ := hck_s hf
  obtain ⟨t22, S21, h20, hf⟩ := hb2_s hf
  refine h_Vi [] (rest := []) (m_X7_next (d := 1) (cs := cs) (Nat.le_refl _) h20) v_X7_next q_391 rfl (Nat.le_trans (by decide) hd) g30 rfl rfl (Nat.le_of_ble_eq_true rfl) dX7_wordOf_1 (Nat.le_refl _) (Nat.le_refl _) ?_
  refine h_pop dX7_wordOf_4 rfl ?_
  refine h_aload_n dX7_wordOf_5 rfl 0 rfl ?_
  obtain ⟨g29, hf⟩ := hck_s hf
  obtain ⟨t25, S24, h23, hf⟩ := hb2_s hf
  refine h_Vi [] (rest := []) (m_X7_letters (d := 1) (cs := cs) (Nat.le_refl _) h23) v_X7_letters q_395 rfl (Nat.le_trans (by decide) hd) g29 rfl rfl (Nat.le_of_ble_eq_true rfl) dX7_wordOf_6 (Nat.le_refl _) (Nat.le_refl _) ?_
  refine h_istore_n (lv2 := [(2, .int t25), (0, .ref a0), (1, .ref (cs a1))]) dX7_wordOf_9 rfl (Nat.le_of_ble_eq_true rfl) rfl ?_
  refine h_iconst (v := 0) dX7_wordOf_10 rfl ?_
  refine h_istore_n (lv2 := [(3, .int 0), (2, .int t25), (0, .ref a0), (1, .ref (cs a1))]) dX7_wordOf_11 rfl (Nat.le_of_ble_eq_true rfl) rfl ?_
  refine h_iconst (v := 0) dX7_wordOf_12 rfl ?_
  refine h_istore (lv2 := [(4, .int 0), (3, .int 0), (2, .int t25), (0, .ref a0), (1, .ref (cs a1))]) dX7_wordOf_13 (Nat.le_of_ble_eq_true rfl) rfl ?_
  refine h_iconst (v := 0) dX7_wordOf_15 rfl ?_
  refine h_istore (lv2 := [(5, .int 0), (4, .int 0), (3, .int 0), (2, .int t25), (0, .ref a0), (1, .ref (cs a1))]) dX7_wordOf_16 (Nat.le_of_ble_eq_true rfl) rfl ?_
  refine h_sub (lv2 := [(0, .ref a0), (1, .ref (cs a1)), (2, .int t25), (3, .int 0), (4, .int 0), (5, .int 0)]) [4, 5, 3, 2, 1, 0] rfl ?_
  refine w_X7_wordOf_L18 hd hfuel a0 a1 t25 0 0 0 S24 _ _  hf ?_ ?_
  · intro S26 hf
    refine h_iconst (v := (-1)) dX7_wordOf_82 rfl ?_
    obtain rfl := Option.some.inj hf
    exact h_iret rfl rfl rfl (Nat.le_refl _) (Nat.le_refl _) dX7_wordOf_83
  · intro u27 S28 hf
    refine h_iload dX7_wordOf_65 0 rfl ?_
    obtain rfl := Option.some.inj hf
    exact h_iret rfl rfl rfl (Nat.le_refl _) (Nat.le_refl _) dX7_wordOf_67
abbrev x_X7_skipWord (d : Nat) (S0 : hS) (args : List Value) (r : hS) (cs : Nat → Nat) : hX := ((none, 1, d, 0, 0, false), (S0, args, none, r), cs)
theorem v_X7_skipWord : hVW yX7_skipWord cX7_skipWord 1 none RX7 0 := ⟨q_460, q_461, q_2, q_462, by decide +kernel, by decide⟩
def f_X7_skipWord (a0 : Nat) (S : hS) : Option (hS) :=
  hbd (gI S a0 7 2) fun t1 =>
  hck (S.K a0 = 8) <|
  hb2 (f_X7_letters a0 S) fun t5 S4 =>
  hbd (sI S4 a0 7 2 (t1 + t5)) fun S6 =>
  some S6
set_option maxRecDepth 100000 in
set_option maxHeartbeats 4000000 in
theorem m_X7_skipWord {d : Nat} {cs : Nat → Nat} {a0 : Nat} {S : hS} {r : hS} (hd : 2 ≤ d) (hf : f_X7_skipWord a0 S = some r) : HM yX7_skipWord cX7_skipWord 1 none d 0 0 cs [.ref a0] S (none) r := by
  unfold f_X7_skipWord at hf
  refine HM.ofHW false (by decide) (fun h => by cases h) (Nat.le_of_ble_eq_true rfl) ?_
  show HW cX7_skipWord RX7 (x_X7_skipWord d S [.ref a0] r cs) 0 0 S 0 [(0, .ref a0)] []
  refine h_aload_n dX7_skipWord_0 rfl 0 rfl ?_
  refine h_dup dX7_skipWord_1 rfl ?_
  obtain ⟨t1, h2, hf⟩ := hbd_s hf
  refine h_getI h2 rfl (Nat.le_of_ble_eq_true rfl) rfl q_35 rfl dX7_skipWord_2 ?_
  refine h_aload_n dX7_skipWord_5 rfl 0 rfl ?_
  obtain ⟨g8, hf⟩ := hck_s hf
  obtain ⟨t5, S4, h3, hf⟩ := hb2_s hf
  refine h_Vi [] (rest := [.int t1, .ref a0]) (m_X7_letters (d := 1) (cs := cs) (Nat.le_refl _) h3) v_X7_letters q_395 rfl (Nat.le_trans (by decide) hd) g8 rfl rfl (Nat.le_of_ble_eq_true rfl) dX7_skipWord_6 (Nat.le_refl _) (Nat.le_refl _) ?_
  refine h_iadd dX7_skipWord_9 ?_
  obtain ⟨S6, h7, hf⟩ := hbd_s hf
  refine h_putI h7 rfl (Nat.le_of_ble_eq_true rfl) rfl q_35 rfl rfl (by decide +kernel) dX7_skipWord_10 ?_
  obtain rfl := Option.some.inj hf
  exact h_vret rfl rfl rfl (Nat.le_refl _) (Nat.le_refl _) dX7_skipWord_13
abbrev x_X8_init (d : Nat) (S0 : hS) (args : List Value) (r : hS) (cs : Nat → Nat) : hX := ((none, 1, d, 72, 4293, true), (S0, args, none, r), cs)
theorem v_X8_init : hIW yX8_init cX8_init 1 0 := ⟨q_21, q_1, q_22, rfl, by decide +kernel, by decide⟩
def f_X8_init (a0 : Nat) (S : hS) : Option (hS) :=
  hnw S 8 0 fun q1 S2 =>
  hbd (f_X7_init q1 S2) fun S5 =>
  hbd (sR S5 a0 8 0 q1) fun S7 =>
  hnw S7 16 6 fun q9 S10 =>
  hbd (sR S10 a0 8 1 q9) fun S13 =>
  hbd (sI S13 a0 8 2 0) fun S15 =>
  hnw S15 1 0 fun q17 S18 =>
  hbd (f_X0_init q17 S18) fun S21 =>
  hbd (sR S21 a0 8 3 q17) fun S23 =>
  hnw S23 1 0 fun q25 S26 =>
  hbd (f_X0_init q25 S26) fun S29 =>
  hbd (sR S29 a0 8 4 q25) fun S31 =>
  hnw S31 1 0 fun q33 S34 =>
  hbd (f_X0_init q33 S34) fun S37 =>
  hbd (sR S37 a0 8 5 q33) fun S39 =>
  hnw S39 15 4 fun q41 S42 =>
  hbd (sR S42 a0 8 6 q41) fun S45 =>
  hnw S45 4 0 fun q47 S48 =>
  hbd (gR S48 a0 8 0) fun t51 =>
  hbd (gR S48 a0 8 4) fun t53 =>
  hbd (f_X3_init q47 t51 t53 S48) fun S55 =>
  hbd (sR S55 a0 8 7 q47) fun S57 =>
  hnw S57 6 0 fun q59 S60 =>
  hbd (gR S60 a0 8 0) fun t63 =>
  hbd (f_X5_init q59 t63 S60) fun S65 =>
  hbd (sR S65 a0 8 8 q59) fun S67 =>
  hnw S67 2 0 fun q69 S70 =>
  hbd (f_X1_init q69 S70) fun S73 =>
  hbd (sR S73 a0 8 9 q69) fun S75 =>
  hnw S75 12 80 fun q77 S78 =>
  hbd (sR S78 a0 8 10 q77) fun S81 =>
  some S81
set_option maxRecDepth 100000 in
set_option maxHeartbeats 4000000 in
theorem m_X8_init {d : Nat} {cs : Nat → Nat} {a0 : Nat} {S : hS} {r : hS} (hd : 3 ≤ d) (hf : f_X8_init a0 S = some r) : HM yX8_init cX8_init 1 none d 72 4293 cs [.ref a0] S (none) r := by
  unfold f_X8_init at hf
  refine HM.ofHW true (by decide) (fun h => by rfl) (Nat.le_of_ble_eq_true rfl) ?_
  show HW cX8_init RX8 (x_X8_init d S [.ref a0] r cs) 0 0 S 0 [(0, .ref a0)] []
  refine h_aload_n dX8_init_0 rfl 0 rfl ?_
  refine h_obj q_23 (Nat.le_trans (by decide) hd) (Nat.le_of_ble_eq_true rfl) dX8_init_1 ?_
  refine h_aload_n dX8_init_4 rfl 0 rfl ?_
  obtain ⟨q1, S2, h3, h4, hf⟩ := hnw_s hf
  refine h_new h3 h4 rfl q_26 q_27 q_2 dX8_init_5 (Nat.le_of_ble_eq_true rfl) (Nat.le_of_ble_eq_true rfl) ?_
  refine h_dup dX8_init_8 rfl ?_
  obtain ⟨S5, h6, hf⟩ := hbd_s hf
  refine h_callIN (host := "DeafSpot") [] (rest := [.ref q1, .ref a0]) (m_X7_init (d := 1) (cs := cs) (Nat.le_refl _) h6) (List.mem_of_getElem? (i := 0) rfl) v_X7_init.1 v_X7_init.2.1 v_X7_init.2.2.1 v_X7_init.2.2.2.1 v_X7_init.2.2.2.2.1 rfl (Nat.le_trans (by decide) hd) v_X7_init.2.2.2.2.2 rfl (Nat.le_of_ble_eq_true rfl) dX8_init_9 (Nat.le_of_ble_eq_true rfl) (Nat.le_of_ble_eq_true rfl) ?_
  obtain ⟨S7, h8, hf⟩ := hbd_s hf
  refine h_putF rfl h8 rfl (Nat.le_of_ble_eq_true rfl) rfl q_300 rfl rfl rfl (tyX8_ok 0 (by decide)) rfl rfl dX8_init_12 ?_
  refine h_aload_n dX8_init_15 rfl 0 rfl ?_
  refine h_bipush (v := 6) dX8_init_16 rfl ?_
  obtain ⟨q9, S10, h11, h12, hf⟩ := hnw_s hf
  refine h_newQ16 (N := 6) h11 h12 (by decide) rfl (by decide) q_50 dX8_init_18 (Nat.le_of_ble_eq_true rfl) (Nat.le_of_ble_eq_true rfl) ?_
  obtain ⟨S13, h14, hf⟩ := hbd_s hf
  refine h_putF rfl h14 rfl (Nat.le_of_ble_eq_true rfl) rfl q_301 rfl rfl rfl (tyX8_ok 1 (by decide)) rfl rfl dX8_init_21 ?_
  refine h_aload_n dX8_init_24 rfl 0 rfl ?_
  refine h_iconst (v := 0) dX8_init_25 rfl ?_
  obtain ⟨S15, h16, hf⟩ := hbd_s hf
  refine h_putI h16 rfl (Nat.le_of_ble_eq_true rfl) rfl q_302 rfl rfl (by decide +kernel) dX8_init_26 ?_
  refine h_aload_n dX8_init_29 rfl 0 rfl ?_
  obtain ⟨q17, S18, h19, h20, hf⟩ := hnw_s hf
  refine h_new h19 h20 rfl q_52 q_53 q_3 dX8_init_30 (Nat.le_of_ble_eq_true rfl) (Nat.le_of_ble_eq_true rfl) ?_
  refine h_dup dX8_init_33 rfl ?_
  obtain ⟨S21, h22, hf⟩ := hbd_s hf
  refine h_callIN (host := "DeafSpot") [] (rest := [.ref q17, .ref a0]) (m_X0_init (d := 2) (cs := cs) (Nat.le_refl _) h22) (List.mem_of_getElem? (i := 1) rfl) v_X0_init.1 v_X0_init.2.1 v_X0_init.2.2.1 v_X0_init.2.2.2.1 v_X0_init.2.2.2.2.1 rfl (Nat.le_trans (by decide) hd) v_X0_init.2.2.2.2.2 rfl (Nat.le_of_ble_eq_true rfl) dX8_init_34 (Nat.le_of_ble_eq_true rfl) (Nat.le_of_ble_eq_true rfl) ?_
  obtain ⟨S23, h24, hf⟩ := hbd_s hf
  refine h_putF rfl h24 rfl (Nat.le_of_ble_eq_true rfl) rfl q_303 rfl rfl rfl (tyX8_ok 3 (by decide)) rfl rfl dX8_init_37 ?_
  refine h_aload_n dX8_init_40 rfl 0 rfl ?_
  obtain ⟨q25, S26, h27, h28, hf⟩ := hnw_s hf
  refine h_new h27 h28 rfl q_52 q_53 q_3 dX8_init_41 (Nat.le_of_ble_eq_true rfl) (Nat.le_of_ble_eq_true rfl) ?_
  refine h_dup dX8_init_44 rfl ?_
  obtain ⟨S29, h30, hf⟩ := hbd_s hf
  refine h_callIN (host := "DeafSpot") [] (rest := [.ref q25, .ref a0]) (m_X0_init (d := 2) (cs := cs) (Nat.le_refl _) h30) (List.mem_of_getElem? (i := 1) rfl) v_X0_init.1 v_X0_init.2.1 v_X0_init.2.2.1 v_X0_init.2.2.2.1 v_X0_init.2.2.2.2.1 rfl (Nat.le_trans (by decide) hd) v_X0_init.2.2.2.2.2 rfl (Nat.le_of_ble_eq_true rfl) dX8_init_45 (Nat.le_of_ble_eq_true rfl) (Nat.le_of_ble_eq_true rfl) ?_
  obtain ⟨S31, h32, hf⟩ := hbd_s hf
  refine h_putF rfl h32 rfl (Nat.le_of_ble_eq_true rfl) rfl q_304 rfl rfl rfl (tyX8_ok 4 (by decide)) rfl rfl dX8_init_48 ?_
  refine h_aload_n dX8_init_51 rfl 0 rfl ?_
  obtain ⟨q33, S34, h35, h36, hf⟩ := hnw_s hf
  refine h_new h35 h36 rfl q_52 q_53 q_3 dX8_init_52 (Nat.le_of_ble_eq_true rfl) (Nat.le_of_ble_eq_true rfl) ?_
  refine h_dup dX8_init_55 rfl ?_
  obtain ⟨S37, h38, hf⟩ := hbd_s hf
  refine h_callIN (host := "DeafSpot") [] (rest := [.ref q33, .ref a0]) (m_X0_init (d := 2) (cs := cs) (Nat.le_refl _) h38) (List.mem_of_getElem? (i := 1) rfl) v_X0_init.1 v_X0_init.2.1 v_X0_init.2.2.1 v_X0_init.2.2.2.1 v_X0_init.2.2.2.2.1 rfl (Nat.le_trans (by decide) hd) v_X0_init.2.2.2.2.2 rfl (Nat.le_of_ble_eq_true rfl) dX8_init_56 (Nat.le_of_ble_eq_true rfl) (Nat.le_of_ble_eq_true rfl) ?_
  obtain ⟨S39, h40, hf⟩ := hbd_s hf
  refine h_putF rfl h40 rfl (Nat.le_of_ble_eq_true rfl) rfl q_305 rfl rfl rfl (tyX8_ok 5 (by decide)) rfl rfl dX8_init_59 ?_
  refine h_aload_n dX8_init_62 rfl 0 rfl ?_
  refine h_iconst (v := 4) dX8_init_63 rfl ?_
  obtain ⟨q41, S42, h43, h44, hf⟩ := hnw_s hf
  refine h_newQ15 (N := 4) h43 h44 (by decide) rfl (by decide) q_52 dX8_init_64 (Nat.le_of_ble_eq_true rfl) (Nat.le_of_ble_eq_true rfl) ?_
  obtain ⟨S45, h46, hf⟩ := hbd_s hf
  refine h_putF rfl h46 rfl (Nat.le_of_ble_eq_true rfl) rfl q_306 rfl rfl rfl (tyX8_ok 6 (by decide)) rfl rfl dX8_init_67 ?_
  refine h_aload_n dX8_init_70 rfl 0 rfl ?_
  obtain ⟨q47, S48, h49, h50, hf⟩ := hnw_s hf
  refine h_new h49 h50 rfl q_231 q_232 q_6 dX8_init_71 (Nat.le_of_ble_eq_true rfl) (Nat.le_of_ble_eq_true rfl) ?_
  refine h_dup dX8_init_74 rfl ?_
  refine h_aload_n dX8_init_75 rfl 0 rfl ?_
  obtain ⟨t51, h52, hf⟩ := hbd_s hf
  refine h_getR h52 rfl (Nat.le_of_ble_eq_true rfl) rfl q_300 rfl dX8_init_76 ?_
  refine h_aload_n dX8_init_79 rfl 0 rfl ?_
  obtain ⟨t53, h54, hf⟩ := hbd_s hf
  refine h_getR h54 rfl (Nat.le_of_ble_eq_true rfl) rfl q_304 rfl dX8_init_80 ?_
  obtain ⟨S55, h56, hf⟩ := hbd_s hf
  refine h_callI [.ref t51, .ref t53] (rest := [.ref q47, .ref a0]) (m_X3_init (d := 1) (cs := cs) (Nat.le_refl _) h56) q_233 v_X3_init.1 v_X3_init.2.1 v_X3_init.2.2.1 v_X3_init.2.2.2.1 v_X3_init.2.2.2.2.1 rfl (Nat.le_trans (by decide) hd) v_X3_init.2.2.2.2.2 rfl (Nat.le_of_ble_eq_true rfl) dX8_init_83 (Nat.le_of_ble_eq_true rfl) (Nat.le_of_ble_eq_true rfl) ?_
  obtain ⟨S57, h58, hf⟩ := hbd_s hf
  refine h_putF rfl h58 rfl (Nat.le_of_ble_eq_true rfl) rfl q_307 rfl rfl rfl (tyX8_ok 7 (by decide)) rfl rfl dX8_init_86 ?_
  refine h_aload_n dX8_init_89 rfl 0 rfl ?_
  obtain ⟨q59, S60, h61, h62, hf⟩ := hnw_s hf
  refine h_new h61 h62 rfl q_247 q_248 q_7 dX8_init_90 (Nat.le_of_ble_eq_true rfl) (Nat.le_of_ble_eq_true rfl) ?_
  refine h_dup dX8_init_93 rfl ?_
  refine h_aload_n dX8_init_94 rfl 0 rfl ?_
  obtain ⟨t63, h64, hf⟩ := hbd_s hf
  refine h_getR h64 rfl (Nat.le_of_ble_eq_true rfl) rfl q_300 rfl dX8_init_95 ?_
  obtain ⟨S65, h66, hf⟩ := hbd_s hf
  refine h_callI [.ref t63] (rest := [.ref q59, .ref a0]) (m_X5_init (d := 1) (cs := cs) (Nat.le_refl _) h66) q_249 v_X5_init.1 v_X5_init.2.1 v_X5_init.2.2.1 v_X5_init.2.2.2.1 v_X5_init.2.2.2.2.1 rfl (Nat.le_trans (by decide) hd) v_X5_init.2.2.2.2.2 rfl (Nat.le_of_ble_eq_true rfl) dX8_init_98 (Nat.le_of_ble_eq_true rfl) (Nat.le_of_ble_eq_true rfl) ?_
  obtain ⟨S67, h68, hf⟩ := hbd_s hf
  refine h_putF rfl h68 rfl (Nat.le_of_ble_eq_true rfl) rfl q_308 rfl rfl rfl (tyX8_ok 8 (by decide)) rfl rfl dX8_init_101 ?_
  refine h_aload_n dX8_init_104 rfl 0 rfl ?_
  obtain ⟨q69, S70, h71, h72, hf⟩ := hnw_s hf
  refine h_new h71 h72 rfl q_272 q_273 q_8 dX8_init_105 (Nat.le_of_ble_eq_true rfl) (Nat.le_of_ble_eq_true rfl) ?_
  refine h_dup dX8_init_108 rfl ?_
  obtain ⟨S73, h74, hf⟩ := hbd_s hf
  refine h_callIN (host := "DeafSpot") [] (rest := [.ref q69, .ref a0]) (m_X1_init (d := 1) (cs := cs) (Nat.le_refl _) h74) (List.mem_of_getElem? (i := 4) rfl) v_X1_init.1 v_X1_init.2.1 v_X1_init.2.2.1 v_X1_init.2.2.2.1 v_X1_init.2.2.2.2.1 rfl (Nat.le_trans (by decide) hd) v_X1_init.2.2.2.2.2 rfl (Nat.le_of_ble_eq_true rfl) dX8_init_109 (Nat.le_of_ble_eq_true rfl) (Nat.le_of_ble_eq_true rfl) ?_
  obtain ⟨S75, h76, hf⟩ := hbd_s hf
  refine h_putF rfl h76 rfl (Nat.le_of_ble_eq_true rfl) rfl q_309 rfl rfl rfl (tyX8_ok 9 (by decide)) rfl rfl dX8_init_112 ?_
  refine h_aload_n dX8_init_115 rfl 0 rfl ?_
  refine h_bipush (v := 80) dX8_init_116 rfl ?_
  obtain ⟨q77, S78, h79, h80, hf⟩ := hnw_s hf
  refine h_newI (N := 80) h79 h80 (by decide) rfl (by decide) dX8_init_118 (Nat.le_of_ble_eq_true rfl) (Nat.le_of_ble_eq_true rfl) ?_
  obtain ⟨S81, h82, hf⟩ := hbd_s hf
  refine h_putF rfl h82 rfl (Nat.le_of_ble_eq_true rfl) rfl q_310 rfl rfl rfl (tyX8_ok 10 (by decide)) rfl rfl dX8_init_120 ?_
  obtain rfl := Option.some.inj hf
  exact h_vret rfl rfl rfl (Nat.le_of_ble_eq_true rfl) (Nat.le_of_ble_eq_true rfl) dX8_init_123
abbrev x_X8_feed (d : Nat) (S0 : hS) (args : List Value) (r : Int32 × hS) (cs : Nat → Nat) : hX := (((some .int), 6, d, 0, 0, false), (S0, args, some (.int r.1), r.2), cs)
theorem v_X8_feed : hVW yX8_feed cX8_feed 6 (some .int) RX8 5 := ⟨q_335, q_336, q_1, q_337, by decide +kernel, by decide⟩
def f_X8_feed (a0 : Nat) (a1 : Int32) (a2 : Int32) (a3 : Int32) (a4 : Int32) (a5 : Int32) (S : hS) : Option (Int32 × hS) :=
  hbd (gR S a0 8 0) fun t1 =>
  hck (S.K t1 = 8) <|
  hb2 (f_X7_add t1 a1 a2 a3 a4 a5 S) fun t5 S4 =>
  some (t5, S4)
set_option maxRecDepth 100000 in
set_option maxHeartbeats 4000000 in
theorem m_X8_feed {d : Nat} {cs : Nat → Nat} {a0 : Nat} {a1 : Int32} {a2 : Int32} {a3 : Int32} {a4 : Int32} {a5 : Int32} {S : hS} {r : Int32 × hS} (hd : 3 ≤ d) (hf : f_X8_feed a0 a1 a2 a3 a4 a5 S = some r) : HM yX8_feed cX8_feed 6 (some .int) d 0 0 cs [.ref a0, .int a1, .int a2, .int a3, .int a4, .int a5] S (some (.int r.1)) r.2 := by
  unfold f_X8_feed at hf
  refine HM.ofHW false (by decide) (fun h => by cases h) (Nat.le_of_ble_eq_true rfl) ?_
  show HW cX8_feed RX8 (x_X8_feed d S [.ref a0, .int a1, .int a2, .int a3, .int a4, .int a5] r cs) 0 0 S 0 [(0, .ref a0), (1, .int a1), (2, .int a2), (3, .int a3), (4, .int a4), (5, .int a5)] []
  refine h_aload_n dX8_feed_0 rfl 0 rfl ?_
  obtain ⟨t1, h2, hf⟩ := hbd_s hf
  refine h_getR h2 rfl (Nat.le_of_ble_eq_true rfl) rfl q_300 rfl dX8_feed_1 ?_
  refine h_iload_n dX8_feed_4 rfl 1 rfl ?_
  refine h_iload_n dX8_feed_5 rfl 2 rfl ?_
  refine h_iload_n dX8_feed_6 rfl 3 rfl ?_
  refine h_iload dX8_feed_7 4 rfl ?_
  refine h_iload dX8_feed_9 5 rfl ?_
  obtain ⟨g6, hf⟩ := hck_s hf
  obtain ⟨t5, S4, h3, hf⟩ := hb2_s hf
  refine h_Vi [.int a1, .int a2, .int a3, .int a4, .int a5] (rest := []) (m_X7_add (d := 2) (cs := cs) (Nat.le_refl _) h3) v_X7_add q_338 rfl (Nat.le_trans (by decide) hd) g6 rfl rfl (Nat.le_of_ble_eq_true rfl) dX8_feed_11 (Nat.le_refl _) (Nat.le_refl _) ?_
  obtain rfl := Option.some.inj hf
  exact h_iret rfl rfl rfl (Nat.le_refl _) (Nat.le_refl _) dX8_feed_14
abbrev x_X8_sits (d : Nat) (S0 : hS) (args : List Value) (r : Int32 × hS) (cs : Nat → Nat) : hX := (((some .boolean), 5, d, 0, 0, false), (S0, args, some (.int r.1), r.2), cs)
theorem v_X8_sits : hVW yX8_sits cX8_sits 5 (some .boolean) RX8 3 := ⟨q_709, q_710, q_1, q_711, by decide +kernel, by decide⟩
def f_X8_sits (a0 : Nat) (a1 : Int32) (a2 : Int32) (a3 : Int32) (S : hS) : Option (Int32 × hS) :=
  hbd (gR S a0 8 3) fun t1 =>
  hbd (gR S t1 0 0) fun t3 =>
  hck (S.K t3 = 7) <|
  hb2 (f_X6_seatAt t3 a2 a3 S) fun t7 S6 =>
  hbd (gR S6 a0 8 3) fun t8 =>
  hbd (gR S6 t8 0 1) fun t10 =>
  hck (S6.K t10 = 3) <|
  hb2 (f_X2_known t10 a1 S6) fun t14 S13 =>
  if t14 = 0 then
    (some (0, S13))
  else
    (if t7 = (-1) then
       (some (0, S13))
     else
       (hbd (gR S13 a0 8 3) fun t17 =>
        hbd (gR S13 t17 0 1) fun t19 =>
        hbd (gR S13 t19 2 5) fun t21 =>
        hbd (gA S13 t21 12 t7) fun t23 =>
        if t23 = (-1) then
          (hbd (gR S13 a0 8 9) fun t26 =>
           hck (S13.K t26 = 2) <|
           hbd (f_X1_forget t26 S13) fun S29 =>
           hbd (gR S29 a0 8 3) fun t30 =>
           hbd (gR S29 t30 0 1) fun t32 =>
           hck (S29.K t32 = 3) <|
           hbd (f_X2_put t32 a1 t7 S29) fun S35 =>
           some (1, S35))
        else
          (some (0, S13))))
set_option maxRecDepth 100000 in
set_option maxHeartbeats 4000000 in
theorem m_X8_sits {d : Nat} {cs : Nat → Nat} {a0 : Nat} {a1 : Int32} {a2 : Int32} {a3 : Int32} {S : hS} {r : Int32 × hS} (hd : 4 ≤ d) (hf : f_X8_sits a0 a1 a2 a3 S = some r) : HM yX8_sits cX8_sits 5 (some .boolean) d 0 0 cs [.ref a0, .int a1, .int a2, .int a3] S (some (.int r.1)) r.2 := by
  unfold f_X8_sits at hf
  refine HM.ofHW false (by decide) (fun h => by cases h) (Nat.le_of_ble_eq_true rfl) ?_
  show HW cX8_sits RX8 (x_X8_sits d S [.ref a0, .int a1, .int a2, .int a3] r cs) 0 0 S 0 [(0, .ref a0), (1, .int a1), (2, .int a2), (3, .int a3)] []
  refine h_aload_n dX8_sits_0 rfl 0 rfl ?_
  obtain ⟨t1, h2, hf⟩ := hbd_s hf
  refine h_getR h2 rfl (Nat.le_of_ble_eq_true rfl) rfl q_303 rfl dX8_sits_1 ?_
  obtain ⟨t3, h4, hf⟩ := hbd_s hf
  refine h_getRN (host := "DeafSpot") h4 rfl (Nat.le_of_ble_eq_true rfl) rfl (List.mem_of_getElem? (i := 50) rfl) rfl dX8_sits_4 ?_
  refine h_iload_n dX8_sits_7 rfl 2 rfl ?_
  refine h_iload_n dX8_sits_8 rfl 3 rfl ?_
  obtain ⟨g39, hf⟩ := hck_s hf
  obtain ⟨t7, S6, h5, hf⟩ := hb2_s hf
  refine h_Vi [.int a2, .int a3] (rest := []) (m_X6_seatAt (d := 1) (cs := cs) (Nat.le_refl _) h5) v_X6_seatAt q_690 rfl (Nat.le_trans (by decide) hd) g39 rfl rfl (Nat.le_of_ble_eq_true rfl) dX8_sits_9 (Nat.le_refl _) (Nat.le_refl _) ?_
  refine h_istore (lv2 := [(4, .int t7), (0, .ref a0), (1, .int a1), (2, .int a2), (3, .int a3)]) dX8_sits_12 (Nat.le_of_ble_eq_true rfl) rfl ?_
  refine h_aload_n dX8_sits_14 rfl 1 rfl ?_
  obtain ⟨t8, h9, hf⟩ := hbd_s hf
  refine h_getR h9 rfl (Nat.le_of_ble_eq_true rfl) rfl q_303 rfl dX8_sits_15 ?_
  obtain ⟨t10, h11, hf⟩ := hbd_s hf
  refine h_getRN (host := "DeafSpot") h11 rfl (Nat.le_of_ble_eq_true rfl) rfl (List.mem_of_getElem? (i := 52) rfl) rfl dX8_sits_18 ?_
  refine h_iload_n dX8_sits_21 rfl 2 rfl ?_
  obtain ⟨g38, hf⟩ := hck_s hf
  obtain ⟨t14, S13, h12, hf⟩ := hb2_s hf
  refine h_Vi [.int a1] (rest := []) (m_X2_known (d := 1) (cs := cs) (Nat.le_refl _) h12) v_X2_known q_695 rfl (Nat.le_trans (by decide) hd) g38 rfl rfl (Nat.le_of_ble_eq_true rfl) dX8_sits_22 (Nat.le_refl _) (Nat.le_refl _) ?_
  refine h_if_eq (tgt := 51) dX8_sits_25 (by decide) (fun c15 => ?_) (fun c15 => ?_)
  · replace hf := hif_p c15 hf
    refine h_iconst (v := 0) dX8_sits_51 rfl ?_
    obtain rfl := Option.some.inj hf
    exact h_zret rfl (by decide) rfl rfl (Nat.le_refl _) (Nat.le_refl _) dX8_sits_52
  · replace hf := hif_n c15 hf
    refine h_iload dX8_sits_28 0 rfl ?_
    refine h_iconst (v := (-1)) dX8_sits_30 rfl ?_
    refine h_icmp_eq (tgt := 51) dX8_sits_31 (by decide) (fun c16 => ?_) (fun c16 => ?_)
    · replace hf := hif_p c16 hf
      refine h_iconst (v := 0) dX8_sits_51 rfl ?_
      obtain rfl := Option.some.inj hf
      exact h_zret rfl (by decide) rfl rfl (Nat.le_refl _) (Nat.le_refl _) dX8_sits_52
    · replace hf := hif_n c16 hf
      refine h_aload_n dX8_sits_34 rfl 1 rfl ?_
      obtain ⟨t17, h18, hf⟩ := hbd_s hf
      refine h_getR h18 rfl (Nat.le_of_ble_eq_true rfl) rfl q_303 rfl dX8_sits_35 ?_
      obtain ⟨t19, h20, hf⟩ := hbd_s hf
      refine h_getRN (host := "DeafSpot") h20 rfl (Nat.le_of_ble_eq_true rfl) rfl (List.mem_of_getElem? (i := 52) rfl) rfl dX8_sits_38 ?_
      obtain ⟨t21, h22, hf⟩ := hbd_s hf
      refine h_getRN (host := "DeafSpot") h22 rfl (Nat.le_of_ble_eq_true rfl) rfl (List.mem_of_getElem? (i := 47) rfl) rfl dX8_sits_41 ?_
      refine h_iload dX8_sits_44 0 rfl ?_
      obtain ⟨t23, h24, hf⟩ := hbd_s hf
      refine h_iald h24 dX8_sits_46 ?_
      refine h_iconst (v := (-1)) dX8_sits_47 rfl ?_
      refine h_icmp_eq (tgt := 53) dX8_sits_48 (by decide) (fun c25 => ?_) (fun c25 => ?_)
      · replace hf := hif_p c25 hf
        refine h_aload_n dX8_sits_53 rfl 1 rfl ?_
        obtain ⟨t26, h27, hf⟩ := hbd_s hf
        refine h_getR h27 rfl (Nat.le_of_ble_eq_true rfl) rfl q_309 rfl dX8_sits_54 ?_
        obtain ⟨g37, hf⟩ := hck_s hf
        obtain ⟨S29, h28, hf⟩ := hbd_s hf
        refine h_Vv [] (rest := []) (m_X1_forget (d := 1) (cs := cs) (Nat.le_refl _) h28) v_X1_forget q_563 rfl (Nat.le_trans (by decide) hd) g37 rfl rfl (Nat.le_of_ble_eq_true rfl) dX8_sits_57 (Nat.le_refl _) (Nat.le_refl _) ?_
        refine h_aload_n dX8_sits_60 rfl 1 rfl ?_
        obtain ⟨t30, h31, hf⟩ := hbd_s hf
        refine h_getR h31 rfl (Nat.le_of_ble_eq_true rfl) rfl q_303 rfl dX8_sits_61 ?_
        obtain ⟨t32, h33, hf⟩ := hbd_s hf
        refine h_getRN (host := "DeafSpot") h33 rfl (Nat.le_of_ble_eq_true rfl) rfl (List.mem_of_getElem? (i := 52) rfl) rfl dX8_sits_64 ?_
        refine h_iload_n dX8_sits_67 rfl 2 rfl ?_
        refine h_iload dX8_sits_68 0 rfl ?_
        obtain ⟨g36, hf⟩ := hck_s hf
        obtain ⟨S35, h34, hf⟩ := hbd_s hf
        refine h_Vv [.int a1, .int t7] (rest := []) (m_X2_put (d := 3) (cs := cs) (Nat.le_refl _) h34) v_X2_put q_712 rfl (Nat.le_trans (by decide) hd) g36 rfl rfl (Nat.le_of_ble_eq_true rfl) dX8_sits_70 (Nat.le_refl _) (Nat.le_refl _) ?_
        refine h_iconst (v := 1) dX8_sits_73 rfl ?_
        obtain rfl := Option.some.inj hf
        exact h_zret rfl (by decide) rfl rfl (Nat.le_refl _) (Nat.le_refl _) dX8_sits_74
      · replace hf := hif_n c25 hf
        refine h_iconst (v := 0) dX8_sits_51 rfl ?_
        obtain rfl := Option.some.inj hf
        exact h_zret rfl (by decide) rfl rfl (Nat.le_refl _) (Nat.le_refl _) dX8_sits_52
abbrev x_X8_change (d : Nat) (S0 : hS) (args : List Value) (r : Int32 × hS) (cs : Nat → Nat) : hX := (((some .boolean), 4, d, 0, 0, false), (S0, args, some (.int r.1), r.2), cs)
theorem v_X8_change : hVW yX8_change cX8_change 4 (some .boolean) RX8 2 := ⟨q_720, q_721, q_1, q_722, by decide +kernel, by decide⟩
def f_X8_change (a0 : Nat) (a1 : Int32) (a2 : Int32) (S : hS) : Option (Int32 × hS) :=
  hbd (gR S a0 8 3) fun t1 =>
  hbd (gR S t1 0 1) fun t3 =>
  if a1 = a2 then
    (some (0, S))
  else
    (hck (S.K t3 = 3) <|
     hb2 (f_X2_here t3 a1 S) fun t8 S7 =>
     if t8 = 0 then
       (some (0, S7))
     else
       (hck (S7.K t3 = 3) <|
        hb2 (f_X2_here t3 a2 S7) fun t12 S11 =>
        if t12 = 0 then
          (some (0, S11))
        else
          (hbd (gR S11 a0 8 9) fun t14 =>
           hck (S11.K t14 = 2) <|
           hbd (f_X1_forget t14 S11) fun S17 =>
           hck (S17.K t3 = 3) <|
           hbd (f_X2_swap t3 a1 a2 S17) fun S19 =>
           some (1, S19))))
set_option maxRecDepth 100000 in
set_option maxHeartbeats 4000000 in
theorem m_X8_change {d : Nat} {cs : Nat → Nat} {a0 : Nat} {a1 : Int32} {a2 : Int32} {S : hS} {r : Int32 × hS} (hd : 5 ≤ d) (hf : f_X8_change a0 a1 a2 S = some r) : HM yX8_change cX8_change 4 (some .boolean) d 0 0 cs [.ref a0, .int a1, .int a2] S (some (.int r.1)) r.2 := by
  unfold f_X8_change at hf
  refine HM.ofHW false (by decide) (fun h => by cases h) (Nat.le_of_ble_eq_true rfl) ?_
  show HW cX8_change RX8 (x_X8_change d S [.ref a0, .int a1, .int a2] r cs) 0 0 S 0 [(0, .ref a0), (1, .int a1), (2, .int a2)] []
  refine h_aload_n dX8_change_0 rfl 0 rfl ?_
  obtain ⟨t1, h2, hf⟩ := hbd_s hf
  refine h_getR h2 rfl (Nat.le_of_ble_eq_true rfl) rfl q_303 rfl dX8_change_1 ?_
  obtain ⟨t3, h4, hf⟩ := hbd_s hf
  refine h_getRN (host := "DeafSpot") h4 rfl (Nat.le_of_ble_eq_true rfl) rfl (List.mem_of_getElem? (i := 52) rfl) rfl dX8_change_4 ?_
  refine h_astore_n (lv2 := [(3, .ref t3), (0, .ref a0), (1, .int a1), (2, .int a2)]) dX8_change_7 rfl (Nat.le_of_ble_eq_true rfl) rfl ?_
  refine h_iload_n dX8_change_8 rfl 2 rfl ?_
  refine h_iload_n dX8_change_9 rfl 3 rfl ?_
  refine h_icmp_eq (tgt := 29) dX8_change_10 (by decide) (fun c5 => ?_) (fun c5 => ?_)
  · replace hf := hif_p c5 hf
    refine h_iconst (v := 0) dX8_change_29 rfl ?_
    obtain rfl := Option.some.inj hf
    exact h_zret rfl (by decide) rfl rfl (Nat.le_refl _) (Nat.le_refl _) dX8_change_30
  · replace hf := hif_n c5 hf
    refine h_aload_n dX8_change_13 rfl 0 rfl ?_
    refine h_iload_n dX8_change_14 rfl 2 rfl ?_
    obtain ⟨g23, hf⟩ := hck_s hf
    obtain ⟨t8, S7, h6, hf⟩ := hb2_s hf
    refine h_Vi [.int a1] (rest := []) (m_X2_here (d := 1) (cs := cs) (Nat.le_refl _) h6) v_X2_here q_717 rfl (Nat.le_trans (by decide) hd) g23 rfl rfl (Nat.le_of_ble_eq_true rfl) dX8_change_15 (Nat.le_refl _) (Nat.le_refl _) ?_
    refine h_if_eq (tgt := 29) dX8_change_18 (by decide) (fun c9 => ?_) (fun c9 => ?_)
    · replace hf := hif_p c9 hf
      refine h_iconst (v := 0) dX8_change_29 rfl ?_
      obtain rfl := Option.some.inj hf
      exact h_zret rfl (by decide) rfl rfl (Nat.le_refl _) (Nat.le_refl _) dX8_change_30
    · replace hf := hif_n c9 hf
      refine h_aload_n dX8_change_21 rfl 0 rfl ?_
      refine h_iload_n dX8_change_22 rfl 3 rfl ?_
      obtain ⟨g22, hf⟩ := hck_s hf
      obtain ⟨t12, S11, h10, hf⟩ := hb2_s hf
      refine h_Vi [.int a2] (rest := []) (m_X2_here (d := 1) (cs := cs) (Nat.le_refl _) h10) v_X2_here q_717 rfl (Nat.le_trans (by decide) hd) g22 rfl rfl (Nat.le_of_ble_eq_true rfl) dX8_change_23 (Nat.le_refl _) (Nat.le_refl _) ?_
      refine h_if_ne (tgt := 31) dX8_change_26 (by decide) (fun c13 => ?_) (fun c13 => ?_)
      · replace hf := hif_n c13 hf
        refine h_aload_n dX8_change_31 rfl 1 rfl ?_
        obtain ⟨t14, h15, hf⟩ := hbd_s hf
        refine h_getR h15 rfl (Nat.le_of_ble_eq_true rfl) rfl q_309 rfl dX8_change_32 ?_
        obtain ⟨g21, hf⟩ := hck_s hf
        obtain ⟨S17, h16, hf⟩ := hbd_s hf
        refine h_Vv [] (rest := []) (m_X1_forget (d := 1) (cs := cs) (Nat.le_refl _) h16) v_X1_forget q_563 rfl (Nat.le_trans (by decide) hd) g21 rfl rfl (Nat.le_of_ble_eq_true rfl) dX8_change_35 (Nat.le_refl _) (Nat.le_refl _) ?_
        refine h_aload_n dX8_change_38 rfl 0 rfl ?_
        refine h_iload_n dX8_change_39 rfl 2 rfl ?_
        refine h_iload_n dX8_change_40 rfl 3 rfl ?_
        obtain ⟨g20, hf⟩ := hck_s hf
        obtain ⟨S19, h18, hf⟩ := hbd_s hf
        refine h_Vv [.int a1, .int a2] (rest := []) (m_X2_swap (d := 4) (cs := cs) (Nat.le_refl _) h18) v_X2_swap q_723 rfl (Nat.le_trans (by decide) hd) g20 rfl rfl (Nat.le_of_ble_eq_true rfl) dX8_change_41 (Nat.le_refl _) (Nat.le_refl _) ?_
        refine h_iconst (v := 1) dX8_change_44 rfl ?_
        obtain rfl := Option.some.inj hf
        exact h_zret rfl (by decide) rfl rfl (Nat.le_refl _) (Nat.le_refl _) dX8_change_45
      · replace hf := hif_p c13 hf
        refine h_iconst (v := 0) dX8_change_29 rfl ?_
        obtain rfl := Option.some.inj hf
        exact h_zret rfl (by decide) rfl rfl (Nat.le_refl _) (Nat.le_refl _) dX8_change_30
abbrev x_X9_feed (d : Nat) (S0 : hS) (args : List Value) (r : Int32 × hS) (cs : Nat → Nat) : hX := (((some .int), 6, d, 0, 0, false), (S0, args, some (.int r.1), r.2), cs)
theorem v_X9_feed : hVW yX9_feed cX9_feed 6 (some .int) RX9 5 := ⟨q_1152, q_1153, q_9, q_1154, by decide +kernel, by decide⟩
def f_X9_feed (a0 : Nat) (a1 : Int32) (a2 : Int32) (a3 : Int32) (a4 : Int32) (a5 : Int32) (S : hS) : Option (Int32 × hS) :=
  hbd (gI S a0 9 23) fun t1 =>
  if (t1 + 20) ≤ 400 then
    (hck (S.K a0 = 10) <|
     hbd (f_X9_put a0 a1 S) fun S5 =>
     hck (S5.K a0 = 10) <|
     hbd (f_X9_put a0 a2 S5) fun S7 =>
     hck (S7.K a0 = 10) <|
     hbd (f_X9_put a0 a3 S7) fun S9 =>
     hck (S9.K a0 = 10) <|
     hbd (f_X9_put a0 a4 S9) fun S11 =>
     hck (S11.K a0 = 10) <|
     hbd (f_X9_put a0 a5 S11) fun S13 =>
     hbd (gI S13 a0 9 23) fun t14 =>
     some (t14, S13))
  else
    (some ((-1), S))
set_option maxRecDepth 100000 in
set_option maxHeartbeats 4000000 in
theorem m_X9_feed {d : Nat} {cs : Nat → Nat} {a0 : Nat} {a1 : Int32} {a2 : Int32} {a3 : Int32} {a4 : Int32} {a5 : Int32} {S : hS} {r : Int32 × hS} (hd : 2 ≤ d) (hf : f_X9_feed a0 a1 a2 a3 a4 a5 S = some r) : HM yX9_feed cX9_feed 6 (some .int) d 0 0 cs [.ref a0, .int a1, .int a2, .int a3, .int a4, .int a5] S (some (.int r.1)) r.2 := by
  unfold f_X9_feed at hf
  refine HM.ofHW false (by decide) (fun h => by cases h) (Nat.le_of_ble_eq_true rfl) ?_
  show HW cX9_feed RX9 (x_X9_feed d S [.ref a0, .int a1, .int a2, .int a3, .int a4, .int a5] r cs) 0 0 S 0 [(0, .ref a0), (1, .int a1), (2, .int a2), (3, .int a3), (4, .int a4), (5, .int a5)] []
  refine h_aload_n dX9_feed_0 rfl 0 rfl ?_
  obtain ⟨t1, h2, hf⟩ := hbd_s hf
  refine h_getI h2 rfl (Nat.le_of_ble_eq_true rfl) rfl q_983 rfl dX9_feed_1 ?_
  refine h_bipush (v := 20) dX9_feed_4 rfl ?_
  refine h_iadd dX9_feed_6 ?_
  refine h_sipush (v := 400) dX9_feed_7 rfl ?_
  refine h_icmp_le (tgt := 15) dX9_feed_10 (by decide) (fun c3 => ?_) (fun c3 => ?_)
  · replace hf := hif_p c3 hf
    refine h_aload_n dX9_feed_15 rfl 0 rfl ?_
    refine h_iload_n dX9_feed_16 rfl 1 rfl ?_
    obtain ⟨g20, hf⟩ := hck_s hf
    obtain ⟨S5, h4, hf⟩ := hbd_s hf
    refine h_Vv [.int a1] (rest := []) (m_X9_put (d := 1) (cs := cs) (Nat.le_refl _) h4) v_X9_put q_1155 rfl (Nat.le_trans (by decide) hd) g20 rfl rfl (Nat.le_of_ble_eq_true rfl) dX9_feed_17 (Nat.le_refl _) (Nat.le_refl _) ?_
    refine h_aload_n dX9_feed_20 rfl 0 rfl ?_
    refine h_iload_n dX9_feed_21 rfl 2 rfl ?_
    obtain ⟨g19, hf⟩ := hck_s hf
    obtain ⟨S7, h6, hf⟩ := hbd_s hf
    refine h_Vv [.int a2] (rest := []) (m_X9_put (d := 1) (cs := cs) (Nat.le_refl _) h6) v_X9_put q_1155 rfl (Nat.le_trans (by decide) hd) g19 rfl rfl (Nat.le_of_ble_eq_true rfl) dX9_feed_22 (Nat.le_refl _) (Nat.le_refl _) ?_
    refine h_aload_n dX9_feed_25 rfl 0 rfl ?_
    refine h_iload_n dX9_feed_26 rfl 3 rfl ?_
    obtain ⟨g18, hf⟩ := hck_s hf
    obtain ⟨S9, h8, hf⟩ := hbd_s hf
    refine h_Vv [.int a3] (rest := []) (m_X9_put (d := 1) (cs := cs) (Nat.le_refl _) h8) v_X9_put q_1155 rfl (Nat.le_trans (by decide) hd) g18 rfl rfl (Nat.le_of_ble_eq_true rfl) dX9_feed_27 (Nat.le_refl _) (Nat.le_refl _) ?_
    refine h_aload_n dX9_feed_30 rfl 0 rfl ?_
    refine h_iload dX9_feed_31 4 rfl ?_
    obtain ⟨g17, hf⟩ := hck_s hf
    obtain ⟨S11, h10, hf⟩ := hbd_s hf
    refine h_Vv [.int a4] (rest := []) (m_X9_put (d := 1) (cs := cs) (Nat.le_refl _) h10) v_X9_put q_1155 rfl (Nat.le_trans (by decide) hd) g17 rfl rfl (Nat.le_of_ble_eq_true rfl) dX9_feed_33 (Nat.le_refl _) (Nat.le_refl _) ?_
    refine h_aload_n dX9_feed_36 rfl 0 rfl ?_
    refine h_iload dX9_feed_37 5 rfl ?_
    obtain ⟨g16, hf⟩ := hck_s hf
    obtain ⟨S13, h12, hf⟩ := hbd_s hf
    refine h_Vv [.int a5] (rest := []) (m_X9_put (d := 1) (cs := cs) (Nat.le_refl _) h12) v_X9_put q_1155 rfl (Nat.le_trans (by decide) hd) g16 rfl rfl (Nat.le_of_ble_eq_true rfl) dX9_feed_39 (Nat.le_refl _) (Nat.le_refl _) ?_
    refine h_aload_n dX9_feed_42 rfl 0 rfl ?_
    obtain ⟨t14, h15, hf⟩ := hbd_s hf
    refine h_getI h15 rfl (Nat.le_of_ble_eq_true rfl) rfl q_983 rfl dX9_feed_43 ?_
    obtain rfl := Option.some.inj hf
    exact h_iret rfl rfl rfl (Nat.le_refl _) (Nat.le_refl _) dX9_feed_46
  · replace hf := hif_n c3 hf
    refine h_iconst (v := (-1)) dX9_feed_13 rfl ?_
    obtain rfl := Option.some.inj hf
    exact h_iret rfl rfl rfl (Nat.le_refl _) (Nat.le_refl _) dX9_feed_14
abbrev x_X0_copy (d : Nat) (S0 : hS) (args : List Value) (r : hS) (cs : Nat → Nat) : hX := ((none, 2, d, 0, 0, false), (S0, args, none, r), cs)
theorem v_X0_copy : hVW yX0_copy cX0_copy 2 none RX0 1 := ⟨q_568, q_569, q_3, q_570, by decide +kernel, by decide⟩
def f_X0_copy (a0 : Nat) (a1 : Nat) (S : hS) : Option (hS) :=
  hbd (gR S a0 0 0) fun t1 =>
  hbd (gR S a1 0 0) fun t3 =>
  hck (S.K t1 = 7) <|
  hbd (f_X6_copy t1 t3 S) fun S6 =>
  hbd (gR S6 a1 0 11) fun t7 =>
  hbd (gR S6 a0 0 11) fun t9 =>
  hbd (cpA S6 t7 0 t9 0 120) fun S11 =>
  hbd (gI S11 a1 0 10) fun t13 =>
  hbd (sI S11 a0 0 10 t13) fun S15 =>
  hck (S15.K a0 = 1) <|
  hbd (f_X0_rewind a0 a1 S15) fun S18 =>
  some S18
set_option maxRecDepth 100000 in
set_option maxHeartbeats 4000000 in
theorem m_X0_copy {d : Nat} {cs : Nat → Nat} {a0 : Nat} {a1 : Nat} {S : hS} {r : hS} (hd : 3 ≤ d) (hf : f_X0_copy a0 a1 S = some r) : HM yX0_copy cX0_copy 2 none d 0 0 cs [.ref a0, .ref a1] S (none) r := by
  unfold f_X0_copy at hf
  refine HM.ofHW false (by decide) (fun h => by cases h) (Nat.le_of_ble_eq_true rfl) ?_
  show HW cX0_copy RX0 (x_X0_copy d S [.ref a0, .ref a1] r cs) 0 0 S 0 [(0, .ref a0), (1, .ref a1)] []
  refine h_aload_n dX0_copy_0 rfl 0 rfl ?_
  obtain ⟨t1, h2, hf⟩ := hbd_s hf
  refine h_getR h2 rfl (Nat.le_of_ble_eq_true rfl) rfl q_180 rfl dX0_copy_1 ?_
  refine h_aload_n dX0_copy_4 rfl 1 rfl ?_
  obtain ⟨t3, h4, hf⟩ := hbd_s hf
  refine h_getR h4 rfl (Nat.le_of_ble_eq_true rfl) rfl q_180 rfl dX0_copy_5 ?_
  obtain ⟨g20, hf⟩ := hck_s hf
  obtain ⟨S6, h5, hf⟩ := hbd_s hf
  refine h_Vv [.ref t3] (rest := []) (m_X6_copy (d := 1) (cs := cs) (Nat.le_refl _) h5) v_X6_copy q_571 rfl (Nat.le_trans (by decide) hd) g20 rfl rfl (Nat.le_of_ble_eq_true rfl) dX0_copy_8 (Nat.le_refl _) (Nat.le_refl _) ?_
  refine h_aload_n dX0_copy_11 rfl 1 rfl ?_
  obtain ⟨t7, h8, hf⟩ := hbd_s hf
  refine h_getR h8 rfl (Nat.le_of_ble_eq_true rfl) rfl q_204 rfl dX0_copy_12 ?_
  refine h_iconst (v := 0) dX0_copy_15 rfl ?_
  refine h_aload_n dX0_copy_16 rfl 0 rfl ?_
  obtain ⟨t9, h10, hf⟩ := hbd_s hf
  refine h_getR h10 rfl (Nat.le_of_ble_eq_true rfl) rfl q_204 rfl dX0_copy_17 ?_
  refine h_iconst (v := 0) dX0_copy_20 rfl ?_
  refine h_bipush (v := 120) dX0_copy_21 rfl ?_
  obtain ⟨S11, h12, hf⟩ := hbd_s hf
  refine h_acopy h12 q_578 (Nat.le_trans (by decide) hd) (Nat.le_of_ble_eq_true rfl) dX0_copy_23 ?_
  refine h_aload_n dX0_copy_26 rfl 0 rfl ?_
  refine h_aload_n dX0_copy_27 rfl 1 rfl ?_
  obtain ⟨t13, h14, hf⟩ := hbd_s hf
  refine h_getI h14 rfl (Nat.le_of_ble_eq_true rfl) rfl q_202 rfl dX0_copy_28 ?_
  obtain ⟨S15, h16, hf⟩ := hbd_s hf
  refine h_putI h16 rfl (Nat.le_of_ble_eq_true rfl) rfl q_202 rfl rfl (by decide +kernel) dX0_copy_31 ?_
  refine h_aload_n dX0_copy_34 rfl 0 rfl ?_
  refine h_aload_n dX0_copy_35 rfl 1 rfl ?_
  obtain ⟨g19, hf⟩ := hck_s hf
  obtain ⟨S18, h17, hf⟩ := hbd_s hf
  refine h_Vv [.ref a1] (rest := []) (m_X0_rewind (d := 2) (cs := cs) (Nat.le_refl _) h17) v_X0_rewind q_579 rfl (Nat.le_trans (by decide) hd) g19 rfl rfl (Nat.le_of_ble_eq_true rfl) dX0_copy_36 (Nat.le_refl _) (Nat.le_refl _) ?_
  obtain rfl := Option.some.inj hf
  exact h_vret rfl rfl rfl (Nat.le_refl _) (Nat.le_refl _) dX0_copy_39
