abbrev x_X5_readSum (d : Nat) (S0 : hS) (args : List Value) (r : hS) (cs : Nat → Nat) : hX := ((none, 4, d, 0, 0, false), (S0, args, none, r), cs)
theorem v_X5_readSum : hVW yX5_readSum cX5_readSum 4 none RX5 0 := ⟨q_604, q_s13, q_7, q_605, by decide +kernel, by decide⟩
def f_X5_readSum_L19 : Nat → Nat → Int32 → Int32 → hS → (Int32 → hS → Option (hS)) → (Int32 → hS → Option (hS)) → Option (hS)
  | 0, _, _, _, _, _, _ => none
  | n + 1, x0, x1, x2, S, k0, k1 =>
    if 400 ≤ x2 then
      (k0 x1 S)
    else
      (hbd (gR S x0 5 0) fun t2 =>
       hck (S.K t2 = 8) <|
       hb2 (f_X7_failed t2 S) fun t6 S5 =>
       if t6 = 0 then
         (hbd (gR S5 x0 5 0) fun t8 =>
          hck (S5.K t8 = 8) <|
          hb2 (f_X7_takesOneOf t8 3 S5) fun t12 S11 =>
          if t12 = (-1) then
            (k1 x1 S11)
          else
            (if t12 ≤ 1 then
               (hj (γ := hS → Option (hS)) (fun (S16 : hS) =>
                  hck (S16.K x0 = 6) <|
                  hbd (f_X5_readValue x0 S16) fun S18 =>
                  f_X5_readSum_L19 n x0 t12 (x2 + 1) S18 k0 k1
                  ) fun J15 =>
                if x1 = (-1) then
                  (J15 S11)
                else
                  (hck (S11.K x0 = 6) <|
                   hbd (f_X5_emit x0 ((-10) - x1) S11) fun S22 =>
                   J15 S22))
             else
               (hck (S11.K x0 = 6) <|
                hbd (f_X5_readValue x0 S11) fun S25 =>
                hck (S25.K x0 = 6) <|
                hbd (f_X5_emit x0 ((-10) - t12) S25) fun S27 =>
                f_X5_readSum_L19 n x0 x1 (x2 + 1) S27 k0 k1)))
       else
         (k0 x1 S5))
def f_X5_readSum (a0 : Nat) (S : hS) : Option (hS) :=
  hbd (gR S a0 5 0) fun t32 =>
  hck (S.K t32 = 8) <|
  hb2 (f_X7_failed t32 S) fun t36 S35 =>
  if t36 = 0 then
    (hck (S35.K a0 = 6) <|
     hbd (f_X5_readValue a0 S35) fun S39 =>
     hj (γ := Int32 → hS → Option (hS)) (fun (u41 : Int32) (S42 : hS) =>
       if u41 = (-1) then
         (some S42)
       else
         (hck (S42.K a0 = 6) <|
          hbd (f_X5_emit a0 ((-10) - u41) S42) fun S45 =>
          some S45)
       ) fun J40 =>
     f_X5_readSum_L19 hfuel a0 (-1) 0 S39
       (fun u47 S48 =>
         J40 u47 S48
       )
       (fun u49 S50 =>
         J40 u49 S50
       ))
  else
    (some S35)
set_option maxRecDepth 100000 in
set_option maxHeartbeats 4000000 in
theorem w_X5_readSum_L19 {d : Nat} {S0 : hS} {args : List Value} {cs : Nat → Nat} {r : hS} (hd : 8 ≤ d) : ∀ (n : Nat) (x0 : Nat) (x1 : Int32) (x2 : Int32) (S : hS) (k0 : (Int32 → hS → Option (hS))) (k1 : (Int32 → hS → Option (hS))) , f_X5_readSum_L19 n x0 x1 x2 S k0 k1 = some r → (∀ (y1 : Int32) (T : hS), k0 y1 T = some r → HW cX5_readSum RX5 (x_X5_readSum d S0 args r cs) 0 0 T 99 [(0, .ref x0), (1, .int y1)] []) → (∀ (y1 : Int32) (T : hS), k1 y1 T = some r → HW cX5_readSum RX5 (x_X5_readSum d S0 args r cs) 0 0 T 51 [(0, .ref x0), (1, .int y1)] []) → HW cX5_readSum RX5 (x_X5_readSum d S0 args r cs) 0 0 S 19 [(0, .ref x0), (1, .int x1), (2, .int x2)] [] := by
  intro n
  induction n with
  | zero =>
    intro x0 x1 x2 S k0 k1 hf
    cases hf
  | succ n ih =>
    intro x0 x1 x2 S k0 k1 hf hk0 hk1
    rw [f_X5_readSum_L19] at hf
    refine h_iload_n dX5_readSum_19 rfl 2 rfl ?_
    refine h_sipush (v := 400) dX5_readSum_20 rfl ?_
    refine h_icmp_ge (tgt := 99) dX5_readSum_23 (by decide) (fun c1 => ?_) (fun c1 => ?_)
    · replace hf := hif_p c1 hf
      refine h_sub (lv2 := [(0, .ref x0), (1, .int x1)]) [0, 1] rfl ?_
      exact hk0 x1 S hf
    · replace hf := hif_n c1 hf
      refine h_aload_n dX5_readSum_26 rfl 0 rfl ?_
      obtain ⟨t2, h3, hf⟩ := hbd_s hf
      refine h_getR h3 rfl (Nat.le_of_ble_eq_true rfl) rfl q_253 rfl dX5_readSum_27 ?_
      obtain ⟨g31, hf⟩ := hck_s hf
      obtain ⟨t6, S5, h4, hf⟩ := hb2_s hf
      refine h_Vi [] (rest := []) (m_X7_failed (d := 1) (cs := cs) (Nat.le_refl _) h4) v_X7_failed q_606 rfl (Nat.le_trans (by decide) hd) g31 rfl rfl (Nat.le_of_ble_eq_true rfl) dX5_readSum_30 (Nat.le_refl _) (Nat.le_refl _) ?_
      refine h_if_ne (tgt := 99) dX5_readSum_33 (by decide) (fun c7 => ?_) (fun c7 => ?_)
      · replace hf := hif_n c7 hf
        refine h_sub (lv2 := [(0, .ref x0), (1, .int x1)]) [0, 1] rfl ?_
        exact hk0 x1 S5 hf
      · replace hf := hif_p c7 hf
        refine h_aload_n dX5_readSum_36 rfl 0 rfl ?_
        obtain ⟨t8, h9, hf⟩ := hbd_s hf
        refine h_getR h9 rfl (Nat.le_of_ble_eq_true rfl) rfl q_253 rfl dX5_readSum_37 ?_
        refine h_ldcS dX5_readSum_40 (List.mem_of_getElem? (i := 3) rfl) ?_
        obtain ⟨g30, hf⟩ := hck_s hf
        obtain ⟨t12, S11, h10, hf⟩ := hb2_s hf
        refine h_Vi [.ref (cs 3)] (rest := []) (m_X7_takesOneOf (d := 5) (cs := cs) (Nat.le_refl _) h10) v_X7_takesOneOf q_624 rfl (Nat.le_trans (by decide) hd) g30 rfl rfl (Nat.le_of_ble_eq_true rfl) dX5_readSum_42 (Nat.le_refl _) (Nat.le_refl _) ?_
        refine h_istore_n (lv2 := [(3, .int t12), (0, .ref x0), (1, .int x1), (2, .int x2)]) dX5_readSum_45 rfl (Nat.le_of_ble_eq_true rfl) rfl ?_
        refine h_iload_n dX5_readSum_46 rfl 0 rfl ?_
        refine h_iconst (v := (-1)) dX5_readSum_47 rfl ?_
        refine h_icmp_ne (tgt := 54) dX5_readSum_48 (by decide) (fun c13 => ?_) (fun c13 => ?_)
        · replace hf := hif_n c13 hf
          refine h_iload_n dX5_readSum_54 rfl 0 rfl ?_
          refine h_iconst (v := 1) dX5_readSum_55 rfl ?_
          refine h_icmp_le (tgt := 74) dX5_readSum_56 (by decide) (fun c14 => ?_) (fun c14 => ?_)
          · replace hf := hif_p c14 hf
            refine h_iload_n dX5_readSum_74 rfl 2 rfl ?_
            refine h_iconst (v := (-1)) dX5_readSum_75 rfl ?_
            refine hj_s (fun J15 => ∀ (S16 : hS), J15 S16 = some r → HW cX5_readSum RX5 (x_X5_readSum d S0 args r cs) 0 0 S16 87 [(0, .ref x0), (2, .int x2), (3, .int t12)] []) hf ?_ ?_
            · intro S16 hf
              refine h_iload_n dX5_readSum_87 rfl 2 rfl ?_
              refine h_istore_n (lv2 := [(1, .int t12), (0, .ref x0), (2, .int x2), (3, .int t12)]) dX5_readSum_88 rfl (Nat.le_of_ble_eq_true rfl) rfl ?_
              refine h_aload_n dX5_readSum_89 rfl 1 rfl ?_
              obtain ⟨g19, hf⟩ := hck_s hf
              obtain ⟨S18, h17, hf⟩ := hbd_s hf
              refine h_Vv [] (rest := []) (m_X5_readValue (d := 7) (cs := cs) (Nat.le_refl _) h17) v_X5_readValue q_607 rfl (Nat.le_trans (by decide) hd) g19 rfl rfl (Nat.le_of_ble_eq_true rfl) dX5_readSum_90 (Nat.le_refl _) (Nat.le_refl _) ?_
              refine h_iinc (q := 2) (v := x2 + 1) (lv2 := [(2, .int (x2 + 1)), (1, .int t12), (0, .ref x0), (3, .int t12)]) dX5_readSum_93 rfl rfl (Nat.le_of_ble_eq_true rfl) rfl ?_
              refine h_goto (tgt := 19) dX5_readSum_96 (by decide) ?_
              refine h_sub (lv2 := [(0, .ref x0), (1, .int t12), (2, .int (x2 + 1))]) [2, 1, 0] rfl ?_
              exact ih x0 t12 (x2 + 1) S18 k0 k1  hf hk0 hk1
            · intro J15 hJ15 hf
              refine h_icmp_eq (tgt := 87) dX5_readSum_76 (by decide) (fun c20 => ?_) (fun c20 => ?_)
              · replace hf := hif_p c20 hf
                refine h_sub (lv2 := [(0, .ref x0), (2, .int x2), (3, .int t12)]) [1, 3, 0] rfl ?_
                exact hJ15 S11 hf
              · replace hf := hif_n c20 hf
                refine h_aload_n dX5_readSum_79 rfl 1 rfl ?_
                refine h_bipush (v := (-10)) dX5_readSum_80 rfl ?_
                refine h_iload_n dX5_readSum_82 rfl 2 rfl ?_
                refine h_isub dX5_readSum_83 ?_
                obtain ⟨g23, hf⟩ := hck_s hf
                obtain ⟨S22, h21, hf⟩ := hbd_s hf
                refine h_Vv [.int ((-10) - x1)] (rest := []) (m_X5_emit (d := 1) (cs := cs) (Nat.le_refl _) h21) v_X5_emit q_619 rfl (Nat.le_trans (by decide) hd) g23 rfl rfl (Nat.le_of_ble_eq_true rfl) dX5_readSum_84 (Nat.le_refl _) (Nat.le_refl _) ?_
                refine h_sub (lv2 := [(0, .ref x0), (2, .int x2), (3, .int t12)]) [1, 3, 0] rfl ?_
                exact hJ15 S22 hf
          · replace hf := hif_n c14 hf
            refine h_aload_n dX5_readSum_59 rfl 1 rfl ?_
            obtain ⟨g29, hf⟩ := hck_s hf
            obtain ⟨S25, h24, hf⟩ := hbd_s hf
            refine h_Vv [] (rest := []) (m_X5_readValue (d := 7) (cs := cs) (Nat.le_refl _) h24) v_X5_readValue q_607 rfl (Nat.le_trans (by decide) hd) g29 rfl rfl (Nat.le_of_ble_eq_true rfl) dX5_readSum_60 (Nat.le_refl _) (Nat.le_refl _) ?_
            refine h_aload_n dX5_readSum_63 rfl 1 rfl ?_
            refine h_bipush (v := (-10)) dX5_readSum_64 rfl ?_
            refine h_iload_n dX5_readSum_66 rfl 0 rfl ?_
            refine h_isub dX5_readSum_67 ?_
            obtain ⟨g28, hf⟩ := hck_s hf
            obtain ⟨S27, h26, hf⟩ := hbd_s hf
            refine h_Vv [.int ((-10) - t12)] (rest := []) (m_X5_emit (d := 1) (cs := cs) (Nat.le_refl _) h26) v_X5_emit q_619 rfl (Nat.le_trans (by decide) hd) g28 rfl rfl (Nat.le_of_ble_eq_true rfl) dX5_readSum_68 (Nat.le_refl _) (Nat.le_refl _) ?_
            refine h_goto (tgt := 93) dX5_readSum_71 (by decide) ?_
            refine h_iinc (q := 3) (v := x2 + 1) (lv2 := [(2, .int (x2 + 1)), (3, .int t12), (0, .ref x0), (1, .int x1)]) dX5_readSum_93 rfl rfl (Nat.le_of_ble_eq_true rfl) rfl ?_
            refine h_goto (tgt := 19) dX5_readSum_96 (by decide) ?_
            refine h_sub (lv2 := [(0, .ref x0), (1, .int x1), (2, .int (x2 + 1))]) [2, 3, 0] rfl ?_
            exact ih x0 x1 (x2 + 1) S27 k0 k1  hf hk0 hk1
        · replace hf := hif_p c13 hf
          refine h_sub (lv2 := [(0, .ref x0), (1, .int x1)]) [1, 2] rfl ?_
          exact hk1 x1 S11 hf
set_option maxRecDepth 100000 in
set_option maxHeartbeats 4000000 in
theorem m_X5_readSum {d : Nat} {cs : Nat → Nat} {a0 : Nat} {S : hS} {r : hS} (hd : 8 ≤ d) (hf : f_X5_readSum a0 S = some r) : HM yX5_readSum cX5_readSum 4 none d 0 0 cs [.ref a0] S (none) r := by
  unfold f_X5_readSum at hf
  refine HM.ofHW false (by decide) (fun h => by cases h) (Nat.le_of_ble_eq_true rfl) ?_
  show HW cX5_readSum RX5 (x_X5_readSum d S [.ref a0] r cs) 0 0 S 0 [(0, .ref a0)] []
  refine h_aload_n dX5_readSum_0 rfl 0 rfl ?_
  obtain ⟨t32, h33, hf⟩ := hbd_s hf
  refine h_getR h33 rfl (Nat.le_of_ble_eq_true rfl) rfl q_253 rfl dX5_readSum_1 ?_
  obtain ⟨g52, hf⟩ := hck_s hf
  obtain ⟨t36, S35, h34, hf⟩ := hb2_s hf
  refine h_Vi [] (rest := []) (m_X7_failed (d := 1) (cs := cs) (Nat.le_refl _) h34) v_X7_failed q_606 rfl (Nat.le_trans (by decide) hd) g52 rfl rfl (Nat.le_of_ble_eq_true rfl) dX5_readSum_4 (Nat.le_refl _) (Nat.le_refl _) ?_
  refine h_if_eq (tgt := 11) dX5_readSum_7 (by decide) (fun c37 => ?_) (fun c37 => ?_)
  · replace hf := hif_p c37 hf
    refine h_iconst (v := (-1)) dX5_readSum_11 rfl ?_
    refine h_istore_n (lv2 := [(1, .int (-1)), (0, .ref a0)]) dX5_readSum_12 rfl (Nat.le_of_ble_eq_true rfl) rfl ?_
    refine h_aload_n dX5_readSum_13 rfl 1 rfl ?_
    obtain ⟨g51, hf⟩ := hck_s hf
    obtain ⟨S39, h38, hf⟩ := hbd_s hf
    refine h_Vv [] (rest := []) (m_X5_readValue (d := 7) (cs := cs) (Nat.le_refl _) h38) v_X5_readValue q_607 rfl (Nat.le_trans (by decide) hd) g51 rfl rfl (Nat.le_of_ble_eq_true rfl) dX5_readSum_14 (Nat.le_refl _) (Nat.le_refl _) ?_
    refine h_iconst (v := 0) dX5_readSum_17 rfl ?_
    refine h_istore_n (lv2 := [(2, .int 0), (1, .int (-1)), (0, .ref a0)]) dX5_readSum_18 rfl (Nat.le_of_ble_eq_true rfl) rfl ?_
    refine hj_s (fun J40 => ∀ (u41 : Int32) (S42 : hS), J40 u41 S42 = some r → HW cX5_readSum RX5 (x_X5_readSum d S [.ref a0] r cs) 0 0 S42 99 [(0, .ref a0), (1, .int u41)] []) hf ?_ ?_
    · intro u41 S42 hf
      refine h_iload_n dX5_readSum_99 rfl 1 rfl ?_
      refine h_iconst (v := (-1)) dX5_readSum_100 rfl ?_
      refine h_icmp_eq (tgt := 112) dX5_readSum_101 (by decide) (fun c43 => ?_) (fun c43 => ?_)
      · replace hf := hif_p c43 hf
        obtain rfl := Option.some.inj hf
        exact h_vret rfl rfl rfl (Nat.le_refl _) (Nat.le_refl _) dX5_readSum_112
      · replace hf := hif_n c43 hf
        refine h_aload_n dX5_readSum_104 rfl 0 rfl ?_
        refine h_bipush (v := (-10)) dX5_readSum_105 rfl ?_
        refine h_iload_n dX5_readSum_107 rfl 1 rfl ?_
        refine h_isub dX5_readSum_108 ?_
        obtain ⟨g46, hf⟩ := hck_s hf
        obtain ⟨S45, h44, hf⟩ := hbd_s hf
        refine h_Vv [.int ((-10) - u41)] (rest := []) (m_X5_emit (d := 1) (cs := cs) (Nat.le_refl _) h44) v_X5_emit q_619 rfl (Nat.le_trans (by decide) hd) g46 rfl rfl (Nat.le_of_ble_eq_true rfl) dX5_readSum_109 (Nat.le_refl _) (Nat.le_refl _) ?_
        obtain rfl := Option.some.inj hf
        exact h_vret rfl rfl rfl (Nat.le_refl _) (Nat.le_refl _) dX5_readSum_112
    · intro J40 hJ40 hf
      refine h_sub (lv2 := [(0, .ref a0), (1, .int (-1)), (2, .int 0)]) [2, 1, 0] rfl ?_
      refine w_X5_readSum_L19 hd hfuel a0 (-1) 0 S39 _ _  hf ?_ ?_
      · intro u47 S48 hf
        exact hJ40 u47 S48 hf
      · intro u49 S50 hf
        refine h_goto (tgt := 99) dX5_readSum_51 (by decide) ?_
        exact hJ40 u49 S50 hf
  · replace hf := hif_n c37 hf
    obtain rfl := Option.some.inj hf
    exact h_vret rfl rfl rfl (Nat.le_refl _) (Nat.le_refl _) dX5_readSum_10
abbrev x_X0_minute (d : Nat) (S0 : hS) (args : List Value) (r : hS) (cs : Nat → Nat) : hX := ((none, 3, d, 0, 0, false), (S0, args, none, r), cs)
theorem v_X0_minute : hVW yX0_minute cX0_minute 3 none RX0 1 := ⟨q_744, q_745, q_3, q_746, by decide +kernel, by decide⟩
def f_X0_minute (a0 : Nat) (a1 : Nat) (S : hS) : Option (hS) :=
  hbd (gI S a0 0 4) fun t1 =>
  if t1 < 0 then
    (some S)
  else
    (hbd (gI S a0 0 4) fun t4 =>
     hbd (gR S a0 0 0) fun t6 =>
     hbd (gI S t6 6 2) fun t8 =>
     if t4 < t8 then
       (hck (S.K a0 = 1) <|
        hbd (f_X0_warmUp a0 S) fun S12 =>
        hck (S12.K a0 = 1) <|
        hbd (f_X0_blow a0 S12) fun S14 =>
        hck (S14.K a0 = 1) <|
        hbd (f_X0_melt a0 S14) fun S16 =>
        hck (S16.K a0 = 1) <|
        hbd (f_X0_spread a0 S16) fun S18 =>
        hck (S18.K a0 = 1) <|
        hbd (f_X0_wander a0 a1 S18) fun S20 =>
        hbd (gR S20 a0 0 11) fun t21 =>
        hbd (gI S20 a0 0 6) fun t23 =>
        hbd (gI S20 a0 0 4) fun t25 =>
        hbd (sA S20 t21 (t23 - t23 / 120 * 120) t25) fun S27 =>
        hbd (gI S27 a0 0 6) fun t29 =>
        hbd (sI S27 a0 0 6 (t29 + 1)) fun S31 =>
        hbd (gR S31 a0 0 1) fun t33 =>
        hbd (gR S31 t33 2 5) fun t35 =>
        hbd (gI S31 a0 0 4) fun t37 =>
        hbd (gA S31 t35 12 t37) fun t39 =>
        if t39 < 0 then
          (some S31)
        else
          (hbd (gR S31 a0 0 1) fun t42 =>
           hbd (gR S31 t42 2 4) fun t44 =>
           hbd (gA S31 t44 12 t39) fun t46 =>
           hbd (sA S31 t44 t39 (t46 + 1)) fun S48 =>
           some S48))
     else
       (some S))
set_option maxRecDepth 100000 in
set_option maxHeartbeats 4000000 in
theorem m_X0_minute {d : Nat} {cs : Nat → Nat} {a0 : Nat} {a1 : Nat} {S : hS} {r : hS} (hd : 5 ≤ d) (hf : f_X0_minute a0 a1 S = some r) : HM yX0_minute cX0_minute 3 none d 0 0 cs [.ref a0, .ref a1] S (none) r := by
  unfold f_X0_minute at hf
  refine HM.ofHW false (by decide) (fun h => by cases h) (Nat.le_of_ble_eq_true rfl) ?_
  show HW cX0_minute RX0 (x_X0_minute d S [.ref a0, .ref a1] r cs) 0 0 S 0 [(0, .ref a0), (1, .ref a1)] []
  refine h_aload_n dX0_minute_0 rfl 0 rfl ?_
  obtain ⟨t1, h2, hf⟩ := hbd_s hf
  refine h_getI h2 rfl (Nat.le_of_ble_eq_true rfl) rfl q_190 rfl dX0_minute_1 ?_
  refine h_if_lt (tgt := 21) dX0_minute_4 (by decide) (fun c3 => ?_) (fun c3 => ?_)
  · replace hf := hif_p c3 hf
    obtain rfl := Option.some.inj hf
    exact h_vret rfl rfl rfl (Nat.le_refl _) (Nat.le_refl _) dX0_minute_21
  · replace hf := hif_n c3 hf
    refine h_aload_n dX0_minute_7 rfl 0 rfl ?_
    obtain ⟨t4, h5, hf⟩ := hbd_s hf
    refine h_getI h5 rfl (Nat.le_of_ble_eq_true rfl) rfl q_190 rfl dX0_minute_8 ?_
    refine h_aload_n dX0_minute_11 rfl 0 rfl ?_
    obtain ⟨t6, h7, hf⟩ := hbd_s hf
    refine h_getR h7 rfl (Nat.le_of_ble_eq_true rfl) rfl q_180 rfl dX0_minute_12 ?_
    obtain ⟨t8, h9, hf⟩ := hbd_s hf
    refine h_getIN (host := "DeafSpot") h9 rfl (Nat.le_of_ble_eq_true rfl) rfl (List.mem_of_getElem? (i := 11) rfl) rfl dX0_minute_15 ?_
    refine h_icmp_lt (tgt := 22) dX0_minute_18 (by decide) (fun c10 => ?_) (fun c10 => ?_)
    · replace hf := hif_p c10 hf
      refine h_aload_n dX0_minute_22 rfl 0 rfl ?_
      obtain ⟨g54, hf⟩ := hck_s hf
      obtain ⟨S12, h11, hf⟩ := hbd_s hf
      refine h_Vv [] (rest := []) (m_X0_warmUp (d := 1) (cs := cs) (Nat.le_refl _) h11) v_X0_warmUp q_747 rfl (Nat.le_trans (by decide) hd) g54 rfl rfl (Nat.le_of_ble_eq_true rfl) dX0_minute_23 (Nat.le_refl _) (Nat.le_refl _) ?_
      refine h_aload_n dX0_minute_26 rfl 0 rfl ?_
      obtain ⟨g53, hf⟩ := hck_s hf
      obtain ⟨S14, h13, hf⟩ := hbd_s hf
      refine h_Vv [] (rest := []) (m_X0_blow (d := 1) (cs := cs) (Nat.le_refl _) h13) v_X0_blow q_751 rfl (Nat.le_trans (by decide) hd) g53 rfl rfl (Nat.le_of_ble_eq_true rfl) dX0_minute_27 (Nat.le_refl _) (Nat.le_refl _) ?_
      refine h_aload_n dX0_minute_30 rfl 0 rfl ?_
      obtain ⟨g52, hf⟩ := hck_s hf
      obtain ⟨S16, h15, hf⟩ := hbd_s hf
      refine h_Vv [] (rest := []) (m_X0_melt (d := 1) (cs := cs) (Nat.le_refl _) h15) v_X0_melt q_756 rfl (Nat.le_trans (by decide) hd) g52 rfl rfl (Nat.le_of_ble_eq_true rfl) dX0_minute_31 (Nat.le_refl _) (Nat.le_refl _) ?_
      refine h_aload_n dX0_minute_34 rfl 0 rfl ?_
      obtain ⟨g51, hf⟩ := hck_s hf
      obtain ⟨S18, h17, hf⟩ := hbd_s hf
      refine h_Vv [] (rest := []) (m_X0_spread (d := 1) (cs := cs) (Nat.le_refl _) h17) v_X0_spread q_760 rfl (Nat.le_trans (by decide) hd) g51 rfl rfl (Nat.le_of_ble_eq_true rfl) dX0_minute_35 (Nat.le_refl _) (Nat.le_refl _) ?_
      refine h_aload_n dX0_minute_38 rfl 0 rfl ?_
      refine h_aload_n dX0_minute_39 rfl 1 rfl ?_
      obtain ⟨g50, hf⟩ := hck_s hf
      obtain ⟨S20, h19, hf⟩ := hbd_s hf
      refine h_Vv [.ref a1] (rest := []) (m_X0_wander (d := 4) (cs := cs) (Nat.le_refl _) h19) v_X0_wander q_764 rfl (Nat.le_trans (by decide) hd) g50 rfl rfl (Nat.le_of_ble_eq_true rfl) dX0_minute_40 (Nat.le_refl _) (Nat.le_refl _) ?_
      refine h_aload_n dX0_minute_43 rfl 0 rfl ?_
      obtain ⟨t21, h22, hf⟩ := hbd_s hf
      refine h_getR h22 rfl (Nat.le_of_ble_eq_true rfl) rfl q_204 rfl dX0_minute_44 ?_
      refine h_aload_n dX0_minute_47 rfl 0 rfl ?_
      obtain ⟨t23, h24, hf⟩ := hbd_s hf
      refine h_getI h24 rfl (Nat.le_of_ble_eq_true rfl) rfl q_194 rfl dX0_minute_48 ?_
      refine h_bipush (v := 120) dX0_minute_51 rfl ?_
      refine h_irem dX0_minute_53 (by decide) ?_
      refine h_aload_n dX0_minute_54 rfl 0 rfl ?_
      obtain ⟨t25, h26, hf⟩ := hbd_s hf
      refine h_getI h26 rfl (Nat.le_of_ble_eq_true rfl) rfl q_190 rfl dX0_minute_55 ?_
      obtain ⟨S27, h28, hf⟩ := hbd_s hf
      refine h_iast h28 dX0_minute_58 ?_
      refine h_aload_n dX0_minute_59 rfl 0 rfl ?_
      refine h_dup dX0_minute_60 rfl ?_
      obtain ⟨t29, h30, hf⟩ := hbd_s hf
      refine h_getI h30 rfl (Nat.le_of_ble_eq_true rfl) rfl q_194 rfl dX0_minute_61 ?_
      refine h_iconst (v := 1) dX0_minute_64 rfl ?_
      refine h_iadd dX0_minute_65 ?_
      obtain ⟨S31, h32, hf⟩ := hbd_s hf
      refine h_putI h32 rfl (Nat.le_of_ble_eq_true rfl) rfl q_194 rfl rfl (by decide +kernel) dX0_minute_66 ?_
      refine h_aload_n dX0_minute_69 rfl 0 rfl ?_
      obtain ⟨t33, h34, hf⟩ := hbd_s hf
      refine h_getR h34 rfl (Nat.le_of_ble_eq_true rfl) rfl q_183 rfl dX0_minute_70 ?_
      obtain ⟨t35, h36, hf⟩ := hbd_s hf
      refine h_getRN (host := "DeafSpot") h36 rfl (Nat.le_of_ble_eq_true rfl) rfl (List.mem_of_getElem? (i := 48) rfl) rfl dX0_minute_73 ?_
      refine h_aload_n dX0_minute_76 rfl 0 rfl ?_
      obtain ⟨t37, h38, hf⟩ := hbd_s hf
      refine h_getI h38 rfl (Nat.le_of_ble_eq_true rfl) rfl q_190 rfl dX0_minute_77 ?_
      obtain ⟨t39, h40, hf⟩ := hbd_s hf
      refine h_iald h40 dX0_minute_80 ?_
      refine h_istore_n (lv2 := [(2, .int t39), (0, .ref a0), (1, .ref a1)]) dX0_minute_81 rfl (Nat.le_of_ble_eq_true rfl) rfl ?_
      refine h_iload_n dX0_minute_82 rfl 0 rfl ?_
      refine h_if_lt (tgt := 99) dX0_minute_83 (by decide) (fun c41 => ?_) (fun c41 => ?_)
      · replace hf := hif_p c41 hf
        obtain rfl := Option.some.inj hf
        exact h_vret rfl rfl rfl (Nat.le_refl _) (Nat.le_refl _) dX0_minute_99
      · replace hf := hif_n c41 hf
        refine h_aload_n dX0_minute_86 rfl 1 rfl ?_
        obtain ⟨t42, h43, hf⟩ := hbd_s hf
        refine h_getR h43 rfl (Nat.le_of_ble_eq_true rfl) rfl q_183 rfl dX0_minute_87 ?_
        obtain ⟨t44, h45, hf⟩ := hbd_s hf
        refine h_getRN (host := "DeafSpot") h45 rfl (Nat.le_of_ble_eq_true rfl) rfl (List.mem_of_getElem? (i := 44) rfl) rfl dX0_minute_90 ?_
        refine h_iload_n dX0_minute_93 rfl 0 rfl ?_
        refine h_dup2 dX0_minute_94 rfl rfl ?_
        obtain ⟨t46, h47, hf⟩ := hbd_s hf
        refine h_iald h47 dX0_minute_95 ?_
        refine h_iconst (v := 1) dX0_minute_96 rfl ?_
        refine h_iadd dX0_minute_97 ?_
        obtain ⟨S48, h49, hf⟩ := hbd_s hf
        refine h_iast h49 dX0_minute_98 ?_
        obtain rfl := Option.some.inj hf
        exact h_vret rfl rfl rfl (Nat.le_refl _) (Nat.le_refl _) dX0_minute_99
    · replace hf := hif_n c10 hf
      obtain rfl := Option.some.inj hf
      exact h_vret rfl rfl rfl (Nat.le_refl _) (Nat.le_refl _) dX0_minute_21
abbrev x_X3_readClause (d : Nat) (S0 : hS) (args : List Value) (r : hS) (cs : Nat → Nat) : hX := ((none, 3, d, 0, 0, false), (S0, args, none, r), cs)
theorem v_X3_readClause : hVW yX3_readClause cX3_readClause 3 none RX3 1 := ⟨q_384, q_s1, q_6, q_385, by decide +kernel, by decide⟩
def f_X3_readClause (a0 : Nat) (a1 : Int32) (S : hS) : Option (hS) :=
  hbd (gR S a0 3 0) fun t1 =>
  hck (S.K t1 = 8) <|
  hb2 (f_X7_wordOf t1 0 S) fun t5 S4 =>
  if t5 = (-1) then
    (hbd (gR S4 a0 3 0) fun t59 =>
     hbd (gR S4 a0 3 0) fun t61 =>
     hbd (gI S4 t61 7 2) fun t63 =>
     hck (S4.K t59 = 8) <|
     hbd (f_X7_fail t59 0 t63 S4) fun S66 =>
     some S66)
  else
    (hj (γ := hS → Option (hS)) (fun (S8 : hS) =>
       hbd (gR S8 a0 3 0) fun t9 =>
       hbd (gR S8 a0 3 0) fun t11 =>
       hbd (gI S8 t11 7 2) fun t13 =>
       hck (S8.K t9 = 8) <|
       hbd (f_X7_fail t9 4 t13 S8) fun S16 =>
       some S16
       ) fun J7 =>
     if 32 ≤ a1 then
       (J7 S4)
     else
       (hj (γ := Int32 → Option (hS)) (fun (v20 : Int32) =>
          hj (γ := Int32 → Option (hS)) (fun (v22 : Int32) =>
            if v20 = v22 then
              (hck (S4.K a0 = 4) <|
               hb2 (f_X3_isFull a0 t5 S4) fun t26 S25 =>
               if t26 = 0 then
                 (hbd (gR S25 a0 3 0) fun t28 =>
                  hck (S25.K t28 = 8) <|
                  hbd (f_X7_skipWord t28 S25) fun S31 =>
                  if t5 = 0 then
                    (hck (S31.K a0 = 4) <|
                     hbd (f_X3_readSize a0 S31) fun S34 =>
                     some S34)
                  else
                    (if t5 = 1 then
                       (hck (S31.K a0 = 4) <|
                        hbd (f_X3_readGuest a0 S31) fun S38 =>
                        some S38)
                     else
                       (if t5 = 2 then
                          (hck (S31.K a0 = 4) <|
                           hbd (f_X3_readFan a0 S31) fun S42 =>
                           some S42)
                        else
                          (if t5 = 3 then
                             (hck (S31.K a0 = 4) <|
                              hbd (f_X3_readSnow a0 S31) fun S46 =>
                              some S46)
                           else
                             (if t5 = 4 then
                                (hck (S31.K a0 = 4) <|
                                 hbd (f_X3_readSpot a0 S31) fun S50 =>
                                 some S50)
                              else
                                (hck (S31.K a0 = 4) <|
                                 hbd (f_X3_readHeat a0 S31) fun S53 =>
                                 some S53))))))
               else
                 (J7 S25))
            else
              (J7 S4)
            ) fun J21 =>
          if a1 = 0 then
            (J21 1)
          else
            (J21 0)
          ) fun J19 =>
        if t5 = 0 then
          (J19 1)
        else
          (J19 0)))
set_option maxRecDepth 100000 in
set_option maxHeartbeats 4000000 in
theorem m_X3_readClause {d : Nat} {cs : Nat → Nat} {a0 : Nat} {a1 : Int32} {S : hS} {r : hS} (hd : 7 ≤ d) (hf : f_X3_readClause a0 a1 S = some r) : HM yX3_readClause cX3_readClause 3 none d 0 0 cs [.ref a0, .int a1] S (none) r := by
  unfold f_X3_readClause at hf
  refine HM.ofHW false (by decide) (fun h => by cases h) (Nat.le_of_ble_eq_true rfl) ?_
  show HW cX3_readClause RX3 (x_X3_readClause d S [.ref a0, .int a1] r cs) 0 0 S 0 [(0, .ref a0), (1, .int a1)] []
  refine h_aload_n dX3_readClause_0 rfl 0 rfl ?_
  obtain ⟨t1, h2, hf⟩ := hbd_s hf
  refine h_getR h2 rfl (Nat.le_of_ble_eq_true rfl) rfl q_237 rfl dX3_readClause_1 ?_
  refine h_ldcS dX3_readClause_4 (List.mem_of_getElem? (i := 0) rfl) ?_
  obtain ⟨g68, hf⟩ := hck_s hf
  obtain ⟨t5, S4, h3, hf⟩ := hb2_s hf
  refine h_Vi [.ref (cs 0)] (rest := []) (m_X7_wordOf (d := 6) (cs := cs) (Nat.le_refl _) h3) v_X7_wordOf q_387 rfl (Nat.le_trans (by decide) hd) g68 rfl rfl (Nat.le_of_ble_eq_true rfl) dX3_readClause_6 (Nat.le_refl _) (Nat.le_refl _) ?_
  refine h_istore_n (lv2 := [(2, .int t5), (0, .ref a0), (1, .int a1)]) dX3_readClause_9 rfl (Nat.le_of_ble_eq_true rfl) rfl ?_
  refine h_iload_n dX3_readClause_10 rfl 0 rfl ?_
  refine h_iconst (v := (-1)) dX3_readClause_11 rfl ?_
  refine h_icmp_ne (tgt := 31) dX3_readClause_12 (by decide) (fun c6 => ?_) (fun c6 => ?_)
  · replace hf := hif_n c6 hf
    refine h_iload_n dX3_readClause_31 rfl 2 rfl ?_
    refine h_bipush (v := 32) dX3_readClause_32 rfl ?_
    refine hj_s (fun J7 => ∀ (S8 : hS), J7 S8 = some r → HW cX3_readClause RX3 (x_X3_readClause d S [.ref a0, .int a1] r cs) 0 0 S8 66 [(0, .ref a0)] []) hf ?_ ?_
    · intro S8 hf
      refine h_aload_n dX3_readClause_66 rfl 0 rfl ?_
      obtain ⟨t9, h10, hf⟩ := hbd_s hf
      refine h_getR h10 rfl (Nat.le_of_ble_eq_true rfl) rfl q_237 rfl dX3_readClause_67 ?_
      refine h_iconst (v := 4) dX3_readClause_70 rfl ?_
      refine h_aload_n dX3_readClause_71 rfl 0 rfl ?_
      obtain ⟨t11, h12, hf⟩ := hbd_s hf
      refine h_getR h12 rfl (Nat.le_of_ble_eq_true rfl) rfl q_237 rfl dX3_readClause_72 ?_
      obtain ⟨t13, h14, hf⟩ := hbd_s hf
      refine h_getIN (host := "DeafSpot") h14 rfl (Nat.le_of_ble_eq_true rfl) rfl (List.mem_of_getElem? (i := 2) rfl) rfl dX3_readClause_75 ?_
      obtain ⟨g17, hf⟩ := hck_s hf
      obtain ⟨S16, h15, hf⟩ := hbd_s hf
      refine h_Vv [.int 4, .int t13] (rest := []) (m_X7_fail (d := 1) (cs := cs) (Nat.le_refl _) h15) v_X7_fail q_451 rfl (Nat.le_trans (by decide) hd) g17 rfl rfl (Nat.le_of_ble_eq_true rfl) dX3_readClause_78 (Nat.le_refl _) (Nat.le_refl _) ?_
      obtain rfl := Option.some.inj hf
      exact h_vret rfl rfl rfl (Nat.le_refl _) (Nat.le_refl _) dX3_readClause_81
    · intro J7 hJ7 hf
      refine h_icmp_ge (tgt := 66) dX3_readClause_34 (by decide) (fun c18 => ?_) (fun c18 => ?_)
      · replace hf := hif_p c18 hf
        refine h_sub (lv2 := [(0, .ref a0)]) [1] rfl ?_
        exact hJ7 S4 hf
      · replace hf := hif_n c18 hf
        refine h_iload_n dX3_readClause_37 rfl 0 rfl ?_
        refine hj_s (fun J19 => ∀ (v20 : Int32), J19 v20 = some r → HW cX3_readClause RX3 (x_X3_readClause d S [.ref a0, .int a1] r cs) 0 0 S4 46 [(0, .ref a0), (1, .int a1), (2, .int t5)] [.int v20]) hf ?_ ?_
        · intro v20 hf
          refine h_iload_n dX3_readClause_46 rfl 1 rfl ?_
          refine hj_s (fun J21 => ∀ (v22 : Int32), J21 v22 = some r → HW cX3_readClause RX3 (x_X3_readClause d S [.ref a0, .int a1] r cs) 0 0 S4 55 [(0, .ref a0), (2, .int t5)] [.int v22, .int v20]) hf ?_ ?_
          · intro v22 hf
            refine h_icmp_ne (tgt := 66) dX3_readClause_55 (by decide) (fun c23 => ?_) (fun c23 => ?_)
            · replace hf := hif_n c23 hf
              refine h_sub (lv2 := [(0, .ref a0)]) [0] rfl ?_
              exact hJ7 S4 hf
            · replace hf := hif_p c23 hf
              refine h_aload_n dX3_readClause_58 rfl 0 rfl ?_
              refine h_iload_n dX3_readClause_59 rfl 1 rfl ?_
              obtain ⟨g56, hf⟩ := hck_s hf
              obtain ⟨t26, S25, h24, hf⟩ := hb2_s hf
              refine h_Vi [.int t5] (rest := []) (m_X3_isFull (d := 1) (cs := cs) (Nat.le_refl _) h24) v_X3_isFull q_455 rfl (Nat.le_trans (by decide) hd) g56 rfl rfl (Nat.le_of_ble_eq_true rfl) dX3_readClause_60 (Nat.le_refl _) (Nat.le_refl _) ?_
              refine h_if_eq (tgt := 82) dX3_readClause_63 (by decide) (fun c27 => ?_) (fun c27 => ?_)
              · replace hf := hif_p c27 hf
                refine h_aload_n dX3_readClause_82 rfl 0 rfl ?_
                obtain ⟨t28, h29, hf⟩ := hbd_s hf
                refine h_getR h29 rfl (Nat.le_of_ble_eq_true rfl) rfl q_237 rfl dX3_readClause_83 ?_
                obtain ⟨g55, hf⟩ := hck_s hf
                obtain ⟨S31, h30, hf⟩ := hbd_s hf
                refine h_Vv [] (rest := []) (m_X7_skipWord (d := 2) (cs := cs) (Nat.le_refl _) h30) v_X7_skipWord q_459 rfl (Nat.le_trans (by decide) hd) g55 rfl rfl (Nat.le_of_ble_eq_true rfl) dX3_readClause_86 (Nat.le_refl _) (Nat.le_refl _) ?_
                refine h_iload_n dX3_readClause_89 rfl 1 rfl ?_
                by_cases c32 : t5 = 0
                · replace hf := hif_p c32 hf
                  refine h_tabIn (tgt := 124) 0 (by rw [c32]; rfl) dX3_readClause_90 (by decide) (by decide) rfl (by decide) ?_
                  refine h_aload_n dX3_readClause_124 rfl 0 rfl ?_
                  obtain ⟨g35, hf⟩ := hck_s hf
                  obtain ⟨S34, h33, hf⟩ := hbd_s hf
                  refine h_Vv [] (rest := []) (m_X3_readSize (d := 4) (cs := cs) (Nat.le_refl _) h33) v_X3_readSize q_463 rfl (Nat.le_trans (by decide) hd) g35 rfl rfl (Nat.le_of_ble_eq_true rfl) dX3_readClause_125 (Nat.le_refl _) (Nat.le_refl _) ?_
                  refine h_goto (tgt := 163) dX3_readClause_128 (by decide) ?_
                  obtain rfl := Option.some.inj hf
                  exact h_vret rfl rfl rfl (Nat.le_refl _) (Nat.le_refl _) dX3_readClause_163
                · replace hf := hif_n c32 hf
                  by_cases c36 : t5 = 1
                  · replace hf := hif_p c36 hf
                    refine h_tabIn (tgt := 131) 1 (by rw [c36]; rfl) dX3_readClause_90 (by decide) (by decide) rfl (by decide) ?_
                    refine h_aload_n dX3_readClause_131 rfl 0 rfl ?_
                    obtain ⟨g39, hf⟩ := hck_s hf
                    obtain ⟨S38, h37, hf⟩ := hbd_s hf
                    refine h_Vv [] (rest := []) (m_X3_readGuest (d := 5) (cs := cs) (Nat.le_refl _) h37) v_X3_readGuest q_491 rfl (Nat.le_trans (by decide) hd) g39 rfl rfl (Nat.le_of_ble_eq_true rfl) dX3_readClause_132 (Nat.le_refl _) (Nat.le_refl _) ?_
                    refine h_goto (tgt := 163) dX3_readClause_135 (by decide) ?_
                    obtain rfl := Option.some.inj hf
                    exact h_vret rfl rfl rfl (Nat.le_refl _) (Nat.le_refl _) dX3_readClause_163
                  · replace hf := hif_n c36 hf
                    by_cases c40 : t5 = 2
                    · replace hf := hif_p c40 hf
                      refine h_tabIn (tgt := 138) 2 (by rw [c40]; rfl) dX3_readClause_90 (by decide) (by decide) rfl (by decide) ?_
                      refine h_aload_n dX3_readClause_138 rfl 0 rfl ?_
                      obtain ⟨g43, hf⟩ := hck_s hf
                      obtain ⟨S42, h41, hf⟩ := hbd_s hf
                      refine h_Vv [] (rest := []) (m_X3_readFan (d := 5) (cs := cs) (Nat.le_refl _) h41) v_X3_readFan q_521 rfl (Nat.le_trans (by decide) hd) g43 rfl rfl (Nat.le_of_ble_eq_true rfl) dX3_readClause_139 (Nat.le_refl _) (Nat.le_refl _) ?_
                      refine h_goto (tgt := 163) dX3_readClause_142 (by decide) ?_
                      obtain rfl := Option.some.inj hf
                      exact h_vret rfl rfl rfl (Nat.le_refl _) (Nat.le_refl _) dX3_readClause_163
                    · replace hf := hif_n c40 hf
                      by_cases c44 : t5 = 3
                      · replace hf := hif_p c44 hf
                        refine h_tabIn (tgt := 145) 3 (by rw [c44]; rfl) dX3_readClause_90 (by decide) (by decide) rfl (by decide) ?_
                        refine h_aload_n dX3_readClause_145 rfl 0 rfl ?_
                        obtain ⟨g47, hf⟩ := hck_s hf
                        obtain ⟨S46, h45, hf⟩ := hbd_s hf
                        refine h_Vv [] (rest := []) (m_X3_readSnow (d := 5) (cs := cs) (Nat.le_refl _) h45) v_X3_readSnow q_529 rfl (Nat.le_trans (by decide) hd) g47 rfl rfl (Nat.le_of_ble_eq_true rfl) dX3_readClause_146 (Nat.le_refl _) (Nat.le_refl _) ?_
                        refine h_goto (tgt := 163) dX3_readClause_149 (by decide) ?_
                        obtain rfl := Option.some.inj hf
                        exact h_vret rfl rfl rfl (Nat.le_refl _) (Nat.le_refl _) dX3_readClause_163
                      · replace hf := hif_n c44 hf
                        by_cases c48 : t5 = 4
                        · replace hf := hif_p c48 hf
                          refine h_tabIn (tgt := 152) 4 (by rw [c48]; rfl) dX3_readClause_90 (by decide) (by decide) rfl (by decide) ?_
                          refine h_aload_n dX3_readClause_152 rfl 0 rfl ?_
                          obtain ⟨g51, hf⟩ := hck_s hf
                          obtain ⟨S50, h49, hf⟩ := hbd_s hf
                          refine h_Vv [] (rest := []) (m_X3_readSpot (d := 5) (cs := cs) (Nat.le_refl _) h49) v_X3_readSpot q_537 rfl (Nat.le_trans (by decide) hd) g51 rfl rfl (Nat.le_of_ble_eq_true rfl) dX3_readClause_153 (Nat.le_refl _) (Nat.le_refl _) ?_
                          refine h_goto (tgt := 163) dX3_readClause_156 (by decide) ?_
                          obtain rfl := Option.some.inj hf
                          exact h_vret rfl rfl rfl (Nat.le_refl _) (Nat.le_refl _) dX3_readClause_163
                        · replace hf := hif_n c48 hf
                          refine h_tabOut (tgt := 159) dX3_readClause_90 (by have g0 := hne_t (a := 0) c32 rfl; have g1 := hne_t (a := 1) c36 rfl; have g2 := hne_t (a := 2) c40 rfl; have g3 := hne_t (a := 3) c44 rfl; have g4 := hne_t (a := 4) c48 rfl; omega) (by decide) ?_
                          refine h_aload_n dX3_readClause_159 rfl 0 rfl ?_
                          obtain ⟨g54, hf⟩ := hck_s hf
                          obtain ⟨S53, h52, hf⟩ := hbd_s hf
                          refine h_Vv [] (rest := []) (m_X3_readHeat (d := 5) (cs := cs) (Nat.le_refl _) h52) v_X3_readHeat q_541 rfl (Nat.le_trans (by decide) hd) g54 rfl rfl (Nat.le_of_ble_eq_true rfl) dX3_readClause_160 (Nat.le_refl _) (Nat.le_refl _) ?_
                          obtain rfl := Option.some.inj hf
                          exact h_vret rfl rfl rfl (Nat.le_refl _) (Nat.le_refl _) dX3_readClause_163
              · replace hf := hif_n c27 hf
                refine h_sub (lv2 := [(0, .ref a0)]) [0] rfl ?_
                exact hJ7 S25 hf
          · intro J21 hJ21 hf
            refine h_if_ne (tgt := 54) dX3_readClause_47 (by decide) (fun c57 => ?_) (fun c57 => ?_)
            · replace hf := hif_n c57 hf
              refine h_iconst (v := 0) dX3_readClause_54 rfl ?_
              refine h_sub (lv2 := [(0, .ref a0), (2, .int t5)]) [0, 2] rfl ?_
              exact hJ21 0 hf
            · replace hf := hif_p c57 hf
              refine h_iconst (v := 1) dX3_readClause_50 rfl ?_
              refine h_goto (tgt := 55) dX3_readClause_51 (by decide) ?_
              refine h_sub (lv2 := [(0, .ref a0), (2, .int t5)]) [0, 2] rfl ?_
              exact hJ21 1 hf
        · intro J19 hJ19 hf
          refine h_if_ne (tgt := 45) dX3_readClause_38 (by decide) (fun c58 => ?_) (fun c58 => ?_)
          · replace hf := hif_n c58 hf
            refine h_iconst (v := 0) dX3_readClause_45 rfl ?_
            refine h_sub (lv2 := [(0, .ref a0), (1, .int a1), (2, .int t5)]) [1, 2, 0] rfl ?_
            exact hJ19 0 hf
          · replace hf := hif_p c58 hf
            refine h_iconst (v := 1) dX3_readClause_41 rfl ?_
            refine h_goto (tgt := 46) dX3_readClause_42 (by decide) ?_
            refine h_sub (lv2 := [(0, .ref a0), (1, .int a1), (2, .int t5)]) [1, 2, 0] rfl ?_
            exact hJ19 1 hf
  · replace hf := hif_p c6 hf
    refine h_aload_n dX3_readClause_15 rfl 1 rfl ?_
    obtain ⟨t59, h60, hf⟩ := hbd_s hf
    refine h_getR h60 rfl (Nat.le_of_ble_eq_true rfl) rfl q_237 rfl dX3_readClause_16 ?_
    refine h_iconst (v := 0) dX3_readClause_19 rfl ?_
    refine h_aload_n dX3_readClause_20 rfl 1 rfl ?_
    obtain ⟨t61, h62, hf⟩ := hbd_s hf
    refine h_getR h62 rfl (Nat.le_of_ble_eq_true rfl) rfl q_237 rfl dX3_readClause_21 ?_
    obtain ⟨t63, h64, hf⟩ := hbd_s hf
    refine h_getIN (host := "DeafSpot") h64 rfl (Nat.le_of_ble_eq_true rfl) rfl (List.mem_of_getElem? (i := 2) rfl) rfl dX3_readClause_24 ?_
    obtain ⟨g67, hf⟩ := hck_s hf
    obtain ⟨S66, h65, hf⟩ := hbd_s hf
    refine h_Vv [.int 0, .int t63] (rest := []) (m_X7_fail (d := 1) (cs := cs) (Nat.le_refl _) h65) v_X7_fail q_451 rfl (Nat.le_trans (by decide) hd) g67 rfl rfl (Nat.le_of_ble_eq_true rfl) dX3_readClause_27 (Nat.le_refl _) (Nat.le_refl _) ?_
    obtain rfl := Option.some.inj hf
    exact h_vret rfl rfl rfl (Nat.le_refl _) (Nat.le_refl _) dX3_readClause_30
abbrev x_X8_spy (d : Nat) (S0 : hS) (args : List Value) (r : Int32 × hS) (cs : Nat → Nat) : hX := (((some .int), 10, d, 0, 0, false), (S0, args, some (.int r.1), r.2), cs)
theorem v_X8_spy : hVW yX8_spy cX8_spy 10 (some .int) RX8 5 := ⟨q_892, q_893, q_1, q_894, by decide +kernel, by decide⟩
def f_X8_spy_L96 : Nat → Nat → Int32 → Int32 → Nat → Int32 → hS → (hS → Option (Int32 × hS)) → (Int32 → hS → Option (Int32 × hS)) → Option (Int32 × hS)
  | 0, _, _, _, _, _, _, _, _ => none
  | n + 1, x0, x3, x4, x7, x9, S, k0, k1 =>
    hbd (gR S x0 8 3) fun t1 =>
    hbd (gR S t1 0 0) fun t3 =>
    hbd (gI S t3 6 2) fun t5 =>
    if t5 ≤ x9 then
      (k0 S)
    else
      (hbd (gR S x7 2 5) fun t8 =>
       hbd (gA S t8 12 x9) fun t10 =>
       if t10 = (-1) then
         (hck (S.K x0 = 9) <|
          hb2 (f_X8_isHeardAs x0 x9 x3 x4 S) fun t15 S14 =>
          if t15 = 0 then
            (f_X8_spy_L96 n x0 x3 x4 x7 (x9 + 1) S14 k0 k1)
          else
            (k1 x9 S14))
       else
         (f_X8_spy_L96 n x0 x3 x4 x7 (x9 + 1) S k0 k1))
def f_X8_spy_L78 : Nat → Nat → Int32 → Int32 → Int32 → Nat → Nat → Int32 → hS → (hS → Option (Int32 × hS)) → (Int32 → Int32 → hS → Option (Int32 × hS)) → Option (Int32 × hS)
  | 0, _, _, _, _, _, _, _, _, _, _ => none
  | n + 1, x0, x2, x3, x4, x6, x7, x8, S, k0, k1 =>
    if x2 < x8 then
      (k0 S)
    else
      (hbd (gR S x0 8 5) fun t2 =>
       hck (S.K t2 = 1) <|
       hbd (f_X0_minute t2 x6 S) fun S5 =>
       f_X8_spy_L96 hfuel x0 x3 x4 x7 0 S5
         (fun S6 =>
           f_X8_spy_L78 n x0 x2 x3 x4 x6 x7 (x8 + 1) S6 k0 k1
         )
         (fun u7 S8 =>
           k1 x8 u7 S8
         ))
def f_X8_spy (a0 : Nat) (a1 : Int32) (a2 : Int32) (a3 : Int32) (a4 : Int32) (a5 : Int32) (S : hS) : Option (Int32 × hS) :=
  hck (S.K a0 = 9) <|
  hb2 (f_X8_ruleFor a0 a1 a2 0 30 S) fun t12 S11 =>
  hbd (gR S11 a0 8 3) fun t13 =>
  hbd (gR S11 t13 0 1) fun t15 =>
  hnl t12 (
    some ((-1), S11)
    ) fun b17 =>
  hck (S11.K t15 = 3) <|
  hb2 (f_X2_isSet t15 a3 S11) fun t21 S20 =>
  if t21 = 0 then
    (some ((-1), S20))
  else
    (hck (S20.K t15 = 3) <|
     hb2 (f_X2_isSet t15 a4 S20) fun t25 S24 =>
     if t25 = 0 then
       (some ((-1), S24))
     else
       (if (a3 &&& a4) = 0 then
          (if a5 < 0 then
             (some ((-1), S24))
           else
             (if a5 ≤ 2 then
                (hbd (gR S24 a0 8 5) fun t30 =>
                 hbd (gR S24 a0 8 3) fun t32 =>
                 hck (S24.K t30 = 1) <|
                 hbd (f_X0_copy t30 t32 S24) fun S35 =>
                 f_X8_spy_L78 hfuel a0 a2 a3 a4 b17 t15 1 S35
                   (fun S36 =>
                     some ((-2), S36)
                   )
                   (fun u37 u38 S39 =>
                     if a5 = 0 then
                       (some (u37, S39))
                     else
                       (if a5 = 1 then
                          (hbd (gR S39 a0 8 3) fun t50 =>
                           hbd (gR S39 t50 0 0) fun t52 =>
                           hck (S39.K t52 = 7) <|
                           hb2 (f_X6_columnOf t52 u38 S39) fun t56 S55 =>
                           some (t56, S55))
                        else
                          (hbd (gR S39 a0 8 3) fun t42 =>
                           hbd (gR S39 t42 0 0) fun t44 =>
                           hck (S39.K t44 = 7) <|
                           hb2 (f_X6_rowOf t44 u38 S39) fun t48 S47 =>
                           some (t48, S47)))
                   ))
              else
                (some ((-1), S24))))
        else
          (some ((-1), S24))))
set_option maxRecDepth 100000 in
set_option maxHeartbeats 4000000 in
theorem w_X8_spy_L96 {d : Nat} {S0 : hS} {args : List Value} {cs : Nat → Nat} {r : Int32 × hS} (hd : 6 ≤ d) : ∀ (n : Nat) (x0 : Nat) (x3 : Int32) (x4 : Int32) (x7 : Nat) (x9 : Int32) (S : hS) (k0 : (hS → Option (Int32 × hS))) (k1 : (Int32 → hS → Option (Int32 × hS))) (z2 : Int32) (z5 : Int32) (z6 : Nat) (z8 : Int32), f_X8_spy_L96 n x0 x3 x4 x7 x9 S k0 k1 = some r → (∀ (T : hS), k0 T = some r → HW cX8_spy RX8 (x_X8_spy d S0 args r cs) 0 0 T 185 [(0, .ref x0), (2, .int z2), (3, .int x3), (4, .int x4), (5, .int z5), (6, .ref z6), (7, .ref x7), (8, .int z8)] []) → (∀ (y9 : Int32) (T : hS), k1 y9 T = some r → HW cX8_spy RX8 (x_X8_spy d S0 args r cs) 0 0 T 135 [(0, .ref x0), (5, .int z5), (8, .int z8), (9, .int y9)] []) → HW cX8_spy RX8 (x_X8_spy d S0 args r cs) 0 0 S 96 [(0, .ref x0), (2, .int z2), (3, .int x3), (4, .int x4), (5, .int z5), (6, .ref z6), (7, .ref x7), (8, .int z8), (9, .int x9)] [] := by
  intro n
  induction n with
  | zero =>
    intro x0 x3 x4 x7 x9 S k0 k1 z2 z5 z6 z8 hf
    cases hf
  | succ n ih =>
    intro x0 x3 x4 x7 x9 S k0 k1 z2 z5 z6 z8 hf hk0 hk1
    rw [f_X8_spy_L96] at hf
    refine h_iload dX8_spy_96 8 rfl ?_
    refine h_aload_n dX8_spy_98 rfl 0 rfl ?_
    obtain ⟨t1, h2, hf⟩ := hbd_s hf
    refine h_getR h2 rfl (Nat.le_of_ble_eq_true rfl) rfl q_303 rfl dX8_spy_99 ?_
    obtain ⟨t3, h4, hf⟩ := hbd_s hf
    refine h_getRN (host := "DeafSpot") h4 rfl (Nat.le_of_ble_eq_true rfl) rfl (List.mem_of_getElem? (i := 50) rfl) rfl dX8_spy_102 ?_
    obtain ⟨t5, h6, hf⟩ := hbd_s hf
    refine h_getIN (host := "DeafSpot") h6 rfl (Nat.le_of_ble_eq_true rfl) rfl (List.mem_of_getElem? (i := 12) rfl) rfl dX8_spy_105 ?_
    refine h_icmp_ge (tgt := 185) dX8_spy_108 (by decide) (fun c7 => ?_) (fun c7 => ?_)
    · replace hf := hif_p c7 hf
      refine h_sub (lv2 := [(0, .ref x0), (2, .int z2), (3, .int x3), (4, .int x4), (5, .int z5), (6, .ref z6), (7, .ref x7), (8, .int z8)]) [0, 1, 2, 3, 4, 5, 6, 7] rfl ?_
      exact hk0 S hf
    · replace hf := hif_n c7 hf
      refine h_aload dX8_spy_111 6 rfl ?_
      obtain ⟨t8, h9, hf⟩ := hbd_s hf
      refine h_getRN (host := "DeafSpot") h9 rfl (Nat.le_of_ble_eq_true rfl) rfl (List.mem_of_getElem? (i := 47) rfl) rfl dX8_spy_113 ?_
      refine h_iload dX8_spy_116 8 rfl ?_
      obtain ⟨t10, h11, hf⟩ := hbd_s hf
      refine h_iald h11 dX8_spy_118 ?_
      refine h_iconst (v := (-1)) dX8_spy_119 rfl ?_
      refine h_icmp_ne (tgt := 179) dX8_spy_120 (by decide) (fun c12 => ?_) (fun c12 => ?_)
      · replace hf := hif_n c12 hf
        refine h_iinc (q := 8) (v := x9 + 1) (lv2 := [(9, .int (x9 + 1)), (0, .ref x0), (2, .int z2), (3, .int x3), (4, .int x4), (5, .int z5), (6, .ref z6), (7, .ref x7), (8, .int z8)]) dX8_spy_179 rfl rfl (Nat.le_of_ble_eq_true rfl) rfl ?_
        refine h_goto (tgt := 96) dX8_spy_182 (by decide) ?_
        refine h_sub (lv2 := [(0, .ref x0), (2, .int z2), (3, .int x3), (4, .int x4), (5, .int z5), (6, .ref z6), (7, .ref x7), (8, .int z8), (9, .int (x9 + 1))]) [1, 2, 3, 4, 5, 6, 7, 8, 0] rfl ?_
        exact ih x0 x3 x4 x7 (x9 + 1) S k0 k1 z2 z5 z6 z8 hf hk0 hk1
      · replace hf := hif_p c12 hf
        refine h_aload_n dX8_spy_123 rfl 0 rfl ?_
        refine h_iload dX8_spy_124 8 rfl ?_
        refine h_iload_n dX8_spy_126 rfl 2 rfl ?_
        refine h_iload dX8_spy_127 3 rfl ?_
        obtain ⟨g17, hf⟩ := hck_s hf
        obtain ⟨t15, S14, h13, hf⟩ := hb2_s hf
        refine h_Vi [.int x9, .int x3, .int x4] (rest := []) (m_X8_isHeardAs (d := 3) (cs := cs) (Nat.le_refl _) h13) v_X8_isHeardAs q_900 rfl (Nat.le_trans (by decide) hd) g17 rfl rfl (Nat.le_of_ble_eq_true rfl) dX8_spy_129 (Nat.le_refl _) (Nat.le_refl _) ?_
        refine h_if_eq (tgt := 179) dX8_spy_132 (by decide) (fun c16 => ?_) (fun c16 => ?_)
        · replace hf := hif_p c16 hf
          refine h_iinc (q := 8) (v := x9 + 1) (lv2 := [(9, .int (x9 + 1)), (0, .ref x0), (2, .int z2), (3, .int x3), (4, .int x4), (5, .int z5), (6, .ref z6), (7, .ref x7), (8, .int z8)]) dX8_spy_179 rfl rfl (Nat.le_of_ble_eq_true rfl) rfl ?_
          refine h_goto (tgt := 96) dX8_spy_182 (by decide) ?_
          refine h_sub (lv2 := [(0, .ref x0), (2, .int z2), (3, .int x3), (4, .int x4), (5, .int z5), (6, .ref z6), (7, .ref x7), (8, .int z8), (9, .int (x9 + 1))]) [1, 2, 3, 4, 5, 6, 7, 8, 0] rfl ?_
          exact ih x0 x3 x4 x7 (x9 + 1) S14 k0 k1 z2 z5 z6 z8 hf hk0 hk1
        · replace hf := hif_n c16 hf
          refine h_sub (lv2 := [(0, .ref x0), (5, .int z5), (8, .int z8), (9, .int x9)]) [0, 4, 7, 8] rfl ?_
          exact hk1 x9 S14 hf
set_option maxRecDepth 100000 in
set_option maxHeartbeats 4000000 in
theorem w_X8_spy_L78 {d : Nat} {S0 : hS} {args : List Value} {cs : Nat → Nat} {r : Int32 × hS} (hd : 6 ≤ d) : ∀ (n : Nat) (x0 : Nat) (x2 : Int32) (x3 : Int32) (x4 : Int32) (x6 : Nat) (x7 : Nat) (x8 : Int32) (S : hS) (k0 : (hS → Option (Int32 × hS))) (k1 : (Int32 → Int32 → hS → Option (Int32 × hS))) (z5 : Int32), f_X8_spy_L78 n x0 x2 x3 x4 x6 x7 x8 S k0 k1 = some r → (∀ (T : hS), k0 T = some r → HW cX8_spy RX8 (x_X8_spy d S0 args r cs) 0 0 T 191 [] []) → (∀ (y8 : Int32) (y9 : Int32) (T : hS), k1 y8 y9 T = some r → HW cX8_spy RX8 (x_X8_spy d S0 args r cs) 0 0 T 135 [(0, .ref x0), (5, .int z5), (8, .int y8), (9, .int y9)] []) → HW cX8_spy RX8 (x_X8_spy d S0 args r cs) 0 0 S 78 [(0, .ref x0), (2, .int x2), (3, .int x3), (4, .int x4), (5, .int z5), (6, .ref x6), (7, .ref x7), (8, .int x8)] [] := by
  intro n
  induction n with
  | zero =>
    intro x0 x2 x3 x4 x6 x7 x8 S k0 k1 z5 hf
    cases hf
  | succ n ih =>
    intro x0 x2 x3 x4 x6 x7 x8 S k0 k1 z5 hf hk0 hk1
    rw [f_X8_spy_L78] at hf
    refine h_iload dX8_spy_78 7 rfl ?_
    refine h_iload_n dX8_spy_80 rfl 1 rfl ?_
    refine h_icmp_gt (tgt := 191) dX8_spy_81 (by decide) (fun c1 => ?_) (fun c1 => ?_)
    · replace hf := hif_p c1 hf
      refine h_sub (lv2 := []) [] rfl ?_
      exact hk0 S hf
    · replace hf := hif_n c1 hf
      refine h_aload_n dX8_spy_84 rfl 0 rfl ?_
      obtain ⟨t2, h3, hf⟩ := hbd_s hf
      refine h_getR h3 rfl (Nat.le_of_ble_eq_true rfl) rfl q_305 rfl dX8_spy_85 ?_
      refine h_aload dX8_spy_88 5 rfl ?_
      obtain ⟨g9, hf⟩ := hck_s hf
      obtain ⟨S5, h4, hf⟩ := hbd_s hf
      refine h_Vv [.ref x6] (rest := []) (m_X0_minute (d := 5) (cs := cs) (Nat.le_refl _) h4) v_X0_minute q_899 rfl (Nat.le_trans (by decide) hd) g9 rfl rfl (Nat.le_of_ble_eq_true rfl) dX8_spy_90 (Nat.le_refl _) (Nat.le_refl _) ?_
      refine h_iconst (v := 0) dX8_spy_93 rfl ?_
      refine h_istore (lv2 := [(9, .int 0), (0, .ref x0), (2, .int x2), (3, .int x3), (4, .int x4), (5, .int z5), (6, .ref x6), (7, .ref x7), (8, .int x8)]) dX8_spy_94 (Nat.le_of_ble_eq_true rfl) rfl ?_
      refine h_sub (lv2 := [(0, .ref x0), (2, .int x2), (3, .int x3), (4, .int x4), (5, .int z5), (6, .ref x6), (7, .ref x7), (8, .int x8), (9, .int 0)]) [1, 2, 3, 4, 5, 6, 7, 8, 0] rfl ?_
      refine w_X8_spy_L96 hd hfuel x0 x3 x4 x7 0 S5 _ _ x2 z5 x6 x8 hf ?_ ?_
      · intro S6 hf
        refine h_iinc (q := 7) (v := x8 + 1) (lv2 := [(8, .int (x8 + 1)), (0, .ref x0), (2, .int x2), (3, .int x3), (4, .int x4), (5, .int z5), (6, .ref x6), (7, .ref x7)]) dX8_spy_185 rfl rfl (Nat.le_of_ble_eq_true rfl) rfl ?_
        refine h_goto (tgt := 78) dX8_spy_188 (by decide) ?_
        refine h_sub (lv2 := [(0, .ref x0), (2, .int x2), (3, .int x3), (4, .int x4), (5, .int z5), (6, .ref x6), (7, .ref x7), (8, .int (x8 + 1))]) [1, 2, 3, 4, 5, 6, 7, 0] rfl ?_
        exact ih x0 x2 x3 x4 x6 x7 (x8 + 1) S6 k0 k1 z5 hf hk0 hk1
      · intro u7 S8 hf
        exact hk1 x8 u7 S8 hf
set_option maxRecDepth 100000 in
set_option maxHeartbeats 4000000 in
theorem m_X8_spy {d : Nat} {cs : Nat → Nat} {a0 : Nat} {a1 : Int32} {a2 : Int32} {a3 : Int32} {a4 : Int32} {a5 : Int32} {S : hS} {r : Int32 × hS} (hd : 6 ≤ d) (hf : f_X8_spy a0 a1 a2 a3 a4 a5 S = some r) : HM yX8_spy cX8_spy 10 (some .int) d 0 0 cs [.ref a0, .int a1, .int a2, .int a3, .int a4, .int a5] S (some (.int r.1)) r.2 := by
  unfold f_X8_spy at hf
  refine HM.ofHW false (by decide) (fun h => by cases h) (Nat.le_of_ble_eq_true rfl) ?_
  show HW cX8_spy RX8 (x_X8_spy d S [.ref a0, .int a1, .int a2, .int a3, .int a4, .int a5] r cs) 0 0 S 0 [(0, .ref a0), (1, .int a1), (2, .int a2), (3, .int a3), (4, .int a4), (5, .int a5)] []
  refine h_aload_n dX8_spy_0 rfl 0 rfl ?_
  refine h_iload_n dX8_spy_1 rfl 1 rfl ?_
  refine h_iload_n dX8_spy_2 rfl 2 rfl ?_
  refine h_iconst (v := 0) dX8_spy_3 rfl ?_
  refine h_bipush (v := 30) dX8_spy_4 rfl ?_
  obtain ⟨g61, hf⟩ := hck_s hf
  obtain ⟨t12, S11, h10, hf⟩ := hb2_s hf
  refine h_Vr [.int a1, .int a2, .int 0, .int 30] (rest := []) (m_X8_ruleFor (d := 1) (cs := cs) (Nat.le_refl _) h10) v_X8_ruleFor q_735 rfl (Nat.le_trans (by decide) hd) g61 rfl rfl (Nat.le_of_ble_eq_true rfl) dX8_spy_6 (Nat.le_refl _) (Nat.le_refl _) ?_
  refine h_astoreV (lv2 := [(6, va_rf t12), (0, .ref a0), (1, .int a1), (2, .int a2), (3, .int a3), (4, .int a4), (5, .int a5)]) dX8_spy_9 (Nat.le_of_ble_eq_true rfl) rfl ?_
  refine h_aload_n dX8_spy_11 rfl 1 rfl ?_
  obtain ⟨t13, h14, hf⟩ := hbd_s hf
  refine h_getR h14 rfl (Nat.le_of_ble_eq_true rfl) rfl q_303 rfl dX8_spy_12 ?_
  obtain ⟨t15, h16, hf⟩ := hbd_s hf
  refine h_getRN (host := "DeafSpot") h16 rfl (Nat.le_of_ble_eq_true rfl) rfl (List.mem_of_getElem? (i := 52) rfl) rfl dX8_spy_15 ?_
  refine h_astore (lv2 := [(7, .ref t15), (6, va_rf t12), (0, .ref a0), (1, .int a1), (2, .int a2), (3, .int a3), (4, .int a4), (5, .int a5)]) dX8_spy_18 (Nat.le_of_ble_eq_true rfl) (by cases t12 <;> rfl) ?_
  refine h_aloadV dX8_spy_20 1 rfl ?_
  refine h_ifnull (tgt := 62) dX8_spy_22 (by decide) (fun c18 => ?_) (fun b17 c18 => ?_)
  · subst c18
    replace hf := hnl_N hf
    refine h_iconst (v := (-1)) dX8_spy_62 rfl ?_
    obtain rfl := Option.some.inj hf
    exact h_iret rfl rfl rfl (Nat.le_refl _) (Nat.le_refl _) dX8_spy_63
  · subst c18
    replace hf := hnl_S hf
    show HW cX8_spy RX8 (x_X8_spy d S [.ref a0, .int a1, .int a2, .int a3, .int a4, .int a5] r cs) 0 0 S11 25 [(7, .ref t15), (6, .ref b17), (0, .ref a0), (1, .int a1), (2, .int a2), (3, .int a3), (4, .int a4), (5, .int a5)] []
    refine h_aload dX8_spy_25 0 rfl ?_
    refine h_iload_n dX8_spy_27 rfl 5 rfl ?_
    obtain ⟨g60, hf⟩ := hck_s hf
    obtain ⟨t21, S20, h19, hf⟩ := hb2_s hf
    refine h_Vi [.int a3] (rest := []) (m_X2_isSet (d := 1) (cs := cs) (Nat.le_refl _) h19) v_X2_isSet q_895 rfl (Nat.le_trans (by decide) hd) g60 rfl rfl (Nat.le_of_ble_eq_true rfl) dX8_spy_28 (Nat.le_refl _) (Nat.le_refl _) ?_
    refine h_if_eq (tgt := 62) dX8_spy_31 (by decide) (fun c22 => ?_) (fun c22 => ?_)
    · replace hf := hif_p c22 hf
      refine h_iconst (v := (-1)) dX8_spy_62 rfl ?_
      obtain rfl := Option.some.inj hf
      exact h_iret rfl rfl rfl (Nat.le_refl _) (Nat.le_refl _) dX8_spy_63
    · replace hf := hif_n c22 hf
      refine h_aload dX8_spy_34 0 rfl ?_
      refine h_iload dX8_spy_36 6 rfl ?_
      obtain ⟨g59, hf⟩ := hck_s hf
      obtain ⟨t25, S24, h23, hf⟩ := hb2_s hf
      refine h_Vi [.int a4] (rest := []) (m_X2_isSet (d := 1) (cs := cs) (Nat.le_refl _) h23) v_X2_isSet q_895 rfl (Nat.le_trans (by decide) hd) g59 rfl rfl (Nat.le_of_ble_eq_true rfl) dX8_spy_38 (Nat.le_refl _) (Nat.le_refl _) ?_
      refine h_if_eq (tgt := 62) dX8_spy_41 (by decide) (fun c26 => ?_) (fun c26 => ?_)
      · replace hf := hif_p c26 hf
        refine h_iconst (v := (-1)) dX8_spy_62 rfl ?_
        obtain rfl := Option.some.inj hf
        exact h_iret rfl rfl rfl (Nat.le_refl _) (Nat.le_refl _) dX8_spy_63
      · replace hf := hif_n c26 hf
        refine h_iload_n dX8_spy_44 rfl 5 rfl ?_
        refine h_iload dX8_spy_45 6 rfl ?_
        refine h_iand dX8_spy_47 ?_
        refine h_if_ne (tgt := 62) dX8_spy_48 (by decide) (fun c27 => ?_) (fun c27 => ?_)
        · replace hf := hif_n c27 hf
          refine h_iconst (v := (-1)) dX8_spy_62 rfl ?_
          obtain rfl := Option.some.inj hf
          exact h_iret rfl rfl rfl (Nat.le_refl _) (Nat.le_refl _) dX8_spy_63
        · replace hf := hif_p c27 hf
          refine h_iload dX8_spy_51 7 rfl ?_
          refine h_if_lt (tgt := 62) dX8_spy_53 (by decide) (fun c28 => ?_) (fun c28 => ?_)
          · replace hf := hif_p c28 hf
            refine h_iconst (v := (-1)) dX8_spy_62 rfl ?_
            obtain rfl := Option.some.inj hf
            exact h_iret rfl rfl rfl (Nat.le_refl _) (Nat.le_refl _) dX8_spy_63
          · replace hf := hif_n c28 hf
            refine h_iload dX8_spy_56 7 rfl ?_
            refine h_iconst (v := 2) dX8_spy_58 rfl ?_
            refine h_icmp_le (tgt := 64) dX8_spy_59 (by decide) (fun c29 => ?_) (fun c29 => ?_)
            · replace hf := hif_p c29 hf
              refine h_aload_n dX8_spy_64 rfl 2 rfl ?_
              obtain ⟨t30, h31, hf⟩ := hbd_s hf
              refine h_getR h31 rfl (Nat.le_of_ble_eq_true rfl) rfl q_305 rfl dX8_spy_65 ?_
              refine h_aload_n dX8_spy_68 rfl 2 rfl ?_
              obtain ⟨t32, h33, hf⟩ := hbd_s hf
              refine h_getR h33 rfl (Nat.le_of_ble_eq_true rfl) rfl q_303 rfl dX8_spy_69 ?_
              obtain ⟨g58, hf⟩ := hck_s hf
              obtain ⟨S35, h34, hf⟩ := hbd_s hf
              refine h_Vv [.ref t32] (rest := []) (m_X0_copy (d := 3) (cs := cs) (Nat.le_refl _) h34) v_X0_copy q_567 rfl (Nat.le_trans (by decide) hd) g58 rfl rfl (Nat.le_of_ble_eq_true rfl) dX8_spy_72 (Nat.le_refl _) (Nat.le_refl _) ?_
              refine h_iconst (v := 1) dX8_spy_75 rfl ?_
              refine h_istore (lv2 := [(8, .int 1), (7, .ref t15), (6, .ref b17), (0, .ref a0), (1, .int a1), (2, .int a2), (3, .int a3), (4, .int a4), (5, .int a5)]) dX8_spy_76 (Nat.le_of_ble_eq_true rfl) rfl ?_
              refine h_sub (lv2 := [(0, .ref a0), (2, .int a2), (3, .int a3), (4, .int a4), (5, .int a5), (6, .ref b17), (7, .ref t15), (8, .int 1)]) [3, 5, 6, 7, 8, 2, 1, 0] rfl ?_
              refine w_X8_spy_L78 hd hfuel a0 a2 a3 a4 b17 t15 1 S35 _ _ a5 hf ?_ ?_
              · intro S36 hf
                refine h_bipush (v := (-2)) dX8_spy_191 rfl ?_
                obtain rfl := Option.some.inj hf
                exact h_iret rfl rfl rfl (Nat.le_refl _) (Nat.le_refl _) dX8_spy_193
              · intro u37 u38 S39 hf
                refine h_iload dX8_spy_135 1 rfl ?_
                refine h_if_ne (tgt := 145) dX8_spy_137 (by decide) (fun c40 => ?_) (fun c40 => ?_)
                · replace hf := hif_n c40 hf
                  refine h_iload dX8_spy_145 1 rfl ?_
                  refine h_iconst (v := 1) dX8_spy_147 rfl ?_
                  refine h_icmp_ne (tgt := 166) dX8_spy_148 (by decide) (fun c41 => ?_) (fun c41 => ?_)
                  · replace hf := hif_n c41 hf
                    refine h_aload_n dX8_spy_166 rfl 0 rfl ?_
                    obtain ⟨t42, h43, hf⟩ := hbd_s hf
                    refine h_getR h43 rfl (Nat.le_of_ble_eq_true rfl) rfl q_303 rfl dX8_spy_167 ?_
                    obtain ⟨t44, h45, hf⟩ := hbd_s hf
                    refine h_getRN (host := "DeafSpot") h45 rfl (Nat.le_of_ble_eq_true rfl) rfl (List.mem_of_getElem? (i := 50) rfl) rfl dX8_spy_170 ?_
                    refine h_iload dX8_spy_173 3 rfl ?_
                    obtain ⟨g49, hf⟩ := hck_s hf
                    obtain ⟨t48, S47, h46, hf⟩ := hb2_s hf
                    refine h_Vi [.int u38] (rest := []) (m_X6_rowOf (d := 1) (cs := cs) (Nat.le_refl _) h46) v_X6_rowOf q_700 rfl (Nat.le_trans (by decide) hd) g49 rfl rfl (Nat.le_of_ble_eq_true rfl) dX8_spy_175 (Nat.le_refl _) (Nat.le_refl _) ?_
                    obtain rfl := Option.some.inj hf
                    exact h_iret rfl rfl rfl (Nat.le_refl _) (Nat.le_refl _) dX8_spy_178
                  · replace hf := hif_p c41 hf
                    refine h_aload_n dX8_spy_151 rfl 0 rfl ?_
                    obtain ⟨t50, h51, hf⟩ := hbd_s hf
                    refine h_getR h51 rfl (Nat.le_of_ble_eq_true rfl) rfl q_303 rfl dX8_spy_152 ?_
                    obtain ⟨t52, h53, hf⟩ := hbd_s hf
                    refine h_getRN (host := "DeafSpot") h53 rfl (Nat.le_of_ble_eq_true rfl) rfl (List.mem_of_getElem? (i := 50) rfl) rfl dX8_spy_155 ?_
                    refine h_iload dX8_spy_158 3 rfl ?_
                    obtain ⟨g57, hf⟩ := hck_s hf
                    obtain ⟨t56, S55, h54, hf⟩ := hb2_s hf
                    refine h_Vi [.int u38] (rest := []) (m_X6_columnOf (d := 1) (cs := cs) (Nat.le_refl _) h54) v_X6_columnOf q_696 rfl (Nat.le_trans (by decide) hd) g57 rfl rfl (Nat.le_of_ble_eq_true rfl) dX8_spy_160 (Nat.le_refl _) (Nat.le_refl _) ?_
                    refine h_goto (tgt := 178) dX8_spy_163 (by decide) ?_
                    obtain rfl := Option.some.inj hf
                    exact h_iret rfl rfl rfl (Nat.le_refl _) (Nat.le_refl _) dX8_spy_178
                · replace hf := hif_p c40 hf
                  refine h_iload dX8_spy_140 2 rfl ?_
                  refine h_goto (tgt := 178) dX8_spy_142 (by decide) ?_
                  obtain rfl := Option.some.inj hf
                  exact h_iret rfl rfl rfl (Nat.le_refl _) (Nat.le_refl _) dX8_spy_178
            · replace hf := hif_n c29 hf
              refine h_iconst (v := (-1)) dX8_spy_62 rfl ?_
              obtain rfl := Option.some.inj hf
              exact h_iret rfl rfl rfl (Nat.le_refl _) (Nat.le_refl _) dX8_spy_63
abbrev x_X0_pass (d : Nat) (S0 : hS) (args : List Value) (r : hS) (cs : Nat → Nat) : hX := ((none, 4, d, 0, 0, false), (S0, args, none, r), cs)
theorem v_X0_pass : hVW yX0_pass cX0_pass 4 none RX0 2 := ⟨q_740, q_741, q_3, q_742, by decide +kernel, by decide⟩
def f_X0_pass_L2 : Nat → Nat → Nat → Int32 → Int32 → hS → (hS → Option (hS)) → Option (hS)
  | 0, _, _, _, _, _, _ => none
  | n + 1, x0, x1, x2, x3, S, k0 =>
    if x2 ≤ x3 then
      (k0 S)
    else
      (hck (S.K x0 = 1) <|
       hbd (f_X0_minute x0 x1 S) fun S3 =>
       f_X0_pass_L2 n x0 x1 x2 (x3 + 1) S3 k0)
def f_X0_pass (a0 : Nat) (a1 : Nat) (a2 : Int32) (S : hS) : Option (hS) :=
  f_X0_pass_L2 hfuel a0 a1 a2 0 S
    (fun S5 =>
      some S5
    )
set_option maxRecDepth 100000 in
set_option maxHeartbeats 4000000 in
theorem w_X0_pass_L2 {d : Nat} {S0 : hS} {args : List Value} {cs : Nat → Nat} {r : hS} (hd : 6 ≤ d) : ∀ (n : Nat) (x0 : Nat) (x1 : Nat) (x2 : Int32) (x3 : Int32) (S : hS) (k0 : (hS → Option (hS))) , f_X0_pass_L2 n x0 x1 x2 x3 S k0 = some r → (∀ (T : hS), k0 T = some r → HW cX0_pass RX0 (x_X0_pass d S0 args r cs) 0 0 T 18 [] []) → HW cX0_pass RX0 (x_X0_pass d S0 args r cs) 0 0 S 2 [(0, .ref x0), (1, .ref x1), (2, .int x2), (3, .int x3)] [] := by
  intro n
  induction n with
  | zero =>
    intro x0 x1 x2 x3 S k0 hf
    cases hf
  | succ n ih =>
    intro x0 x1 x2 x3 S k0 hf hk0
    rw [f_X0_pass_L2] at hf
    refine h_iload_n dX0_pass_2 rfl 3 rfl ?_
    refine h_iload_n dX0_pass_3 rfl 2 rfl ?_
    refine h_icmp_ge (tgt := 18) dX0_pass_4 (by decide) (fun c1 => ?_) (fun c1 => ?_)
    · replace hf := hif_p c1 hf
      refine h_sub (lv2 := []) [] rfl ?_
      exact hk0 S hf
    · replace hf := hif_n c1 hf
      refine h_aload_n dX0_pass_7 rfl 0 rfl ?_
      refine h_aload_n dX0_pass_8 rfl 1 rfl ?_
      obtain ⟨g4, hf⟩ := hck_s hf
      obtain ⟨S3, h2, hf⟩ := hbd_s hf
      refine h_Vv [.ref x1] (rest := []) (m_X0_minute (d := 5) (cs := cs) (Nat.le_refl _) h2) v_X0_minute q_743 rfl (Nat.le_trans (by decide) hd) g4 rfl rfl (Nat.le_of_ble_eq_true rfl) dX0_pass_9 (Nat.le_refl _) (Nat.le_refl _) ?_
      refine h_iinc (q := 3) (v := x3 + 1) (lv2 := [(3, .int (x3 + 1)), (0, .ref x0), (1, .ref x1), (2, .int x2)]) dX0_pass_12 rfl rfl (Nat.le_of_ble_eq_true rfl) rfl ?_
      refine h_goto (tgt := 2) dX0_pass_15 (by decide) ?_
      refine h_sub (lv2 := [(0, .ref x0), (1, .ref x1), (2, .int x2), (3, .int (x3 + 1))]) [1, 2, 3, 0] rfl ?_
      exact ih x0 x1 x2 (x3 + 1) S3 k0  hf hk0
set_option maxRecDepth 100000 in
set_option maxHeartbeats 4000000 in
theorem m_X0_pass {d : Nat} {cs : Nat → Nat} {a0 : Nat} {a1 : Nat} {a2 : Int32} {S : hS} {r : hS} (hd : 6 ≤ d) (hf : f_X0_pass a0 a1 a2 S = some r) : HM yX0_pass cX0_pass 4 none d 0 0 cs [.ref a0, .ref a1, .int a2] S (none) r := by
  unfold f_X0_pass at hf
  refine HM.ofHW false (by decide) (fun h => by cases h) (Nat.le_of_ble_eq_true rfl) ?_
  show HW cX0_pass RX0 (x_X0_pass d S [.ref a0, .ref a1, .int a2] r cs) 0 0 S 0 [(0, .ref a0), (1, .ref a1), (2, .int a2)] []
  refine h_iconst (v := 0) dX0_pass_0 rfl ?_
  refine h_istore_n (lv2 := [(3, .int 0), (0, .ref a0), (1, .ref a1), (2, .int a2)]) dX0_pass_1 rfl (Nat.le_of_ble_eq_true rfl) rfl ?_
  refine h_sub (lv2 := [(0, .ref a0), (1, .ref a1), (2, .int a2), (3, .int 0)]) [1, 2, 3, 0] rfl ?_
  refine w_X0_pass_L2 hd hfuel a0 a1 a2 0 S _  hf ?_
  · intro S5 hf
    obtain rfl := Option.some.inj hf
    exact h_vret rfl rfl rfl (Nat.le_refl _) (Nat.le_refl _) dX0_pass_18
abbrev x_X0_endsOn (d : Nat) (S0 : hS) (args : List Value) (r : Int32 × hS) (cs : Nat → Nat) : hX := (((some .boolean), 5, d, 0, 0, false), (S0, args, some (.int r.1), r.2), cs)
theorem v_X0_endsOn : hVW yX0_endsOn cX0_endsOn 5 (some .boolean) RX0 3 := ⟨q_821, q_822, q_3, q_823, by decide +kernel, by decide⟩
def f_X0_endsOn_L3 : Nat → Nat → Nat → Int32 → Int32 → hS → (hS → Option (Int32 × hS)) → (hS → Option (Int32 × hS)) → Option (Int32 × hS)
  | 0, _, _, _, _, _, _, _ => none
  | n + 1, x0, x1, x3, x4, S, k0, k1 =>
    if x4 ≤ 0 then
      (k0 S)
    else
      (hbd (gR S x0 0 0) fun t2 =>
       hbd (gI S x0 0 4) fun t4 =>
       hck (S.K t2 = 7) <|
       hb2 (f_X6_steps t2 t4 x3 S) fun t8 S7 =>
       if t8 ≤ x4 then
         (hck (S7.K x0 = 1) <|
          hbd (f_X0_minute x0 x1 S7) fun S11 =>
          f_X0_endsOn_L3 n x0 x1 x3 (x4 + (-1)) S11 k0 k1)
       else
         (k1 S7))
def f_X0_endsOn (a0 : Nat) (a1 : Nat) (a2 : Int32) (a3 : Int32) (S : hS) : Option (Int32 × hS) :=
  f_X0_endsOn_L3 hfuel a0 a1 a3 a2 S
    (fun S14 =>
      hbd (gI S14 a0 0 4) fun t15 =>
      if t15 = a3 then
        (some (1, S14))
      else
        (some (0, S14))
    )
    (fun S18 =>
      some (0, S18)
    )
set_option maxRecDepth 100000 in
set_option maxHeartbeats 4000000 in
theorem w_X0_endsOn_L3 {d : Nat} {S0 : hS} {args : List Value} {cs : Nat → Nat} {r : Int32 × hS} (hd : 6 ≤ d) : ∀ (n : Nat) (x0 : Nat) (x1 : Nat) (x3 : Int32) (x4 : Int32) (S : hS) (k0 : (hS → Option (Int32 × hS))) (k1 : (hS → Option (Int32 × hS))) , f_X0_endsOn_L3 n x0 x1 x3 x4 S k0 k1 = some r → (∀ (T : hS), k0 T = some r → HW cX0_endsOn RX0 (x_X0_endsOn d S0 args r cs) 0 0 T 38 [(0, .ref x0), (3, .int x3)] []) → (∀ (T : hS), k1 T = some r → HW cX0_endsOn RX0 (x_X0_endsOn d S0 args r cs) 0 0 T 25 [] []) → HW cX0_endsOn RX0 (x_X0_endsOn d S0 args r cs) 0 0 S 3 [(0, .ref x0), (1, .ref x1), (3, .int x3), (4, .int x4)] [] := by
  intro n
  induction n with
  | zero =>
    intro x0 x1 x3 x4 S k0 k1 hf
    cases hf
  | succ n ih =>
    intro x0 x1 x3 x4 S k0 k1 hf hk0 hk1
    rw [f_X0_endsOn_L3] at hf
    refine h_iload dX0_endsOn_3 3 rfl ?_
    refine h_if_le (tgt := 38) dX0_endsOn_5 (by decide) (fun c1 => ?_) (fun c1 => ?_)
    · replace hf := hif_p c1 hf
      refine h_sub (lv2 := [(0, .ref x0), (3, .int x3)]) [0, 2] rfl ?_
      exact hk0 S hf
    · replace hf := hif_n c1 hf
      refine h_aload_n dX0_endsOn_8 rfl 0 rfl ?_
      obtain ⟨t2, h3, hf⟩ := hbd_s hf
      refine h_getR h3 rfl (Nat.le_of_ble_eq_true rfl) rfl q_180 rfl dX0_endsOn_9 ?_
      refine h_aload_n dX0_endsOn_12 rfl 0 rfl ?_
      obtain ⟨t4, h5, hf⟩ := hbd_s hf
      refine h_getI h5 rfl (Nat.le_of_ble_eq_true rfl) rfl q_190 rfl dX0_endsOn_13 ?_
      refine h_iload_n dX0_endsOn_16 rfl 2 rfl ?_
      obtain ⟨g13, hf⟩ := hck_s hf
      obtain ⟨t8, S7, h6, hf⟩ := hb2_s hf
      refine h_Vi [.int t4, .int x3] (rest := []) (m_X6_steps (d := 2) (cs := cs) (Nat.le_refl _) h6) v_X6_steps q_824 rfl (Nat.le_trans (by decide) hd) g13 rfl rfl (Nat.le_of_ble_eq_true rfl) dX0_endsOn_17 (Nat.le_refl _) (Nat.le_refl _) ?_
      refine h_iload dX0_endsOn_20 3 rfl ?_
      refine h_icmp_le (tgt := 27) dX0_endsOn_22 (by decide) (fun c9 => ?_) (fun c9 => ?_)
      · replace hf := hif_p c9 hf
        refine h_aload_n dX0_endsOn_27 rfl 0 rfl ?_
        refine h_aload_n dX0_endsOn_28 rfl 1 rfl ?_
        obtain ⟨g12, hf⟩ := hck_s hf
        obtain ⟨S11, h10, hf⟩ := hbd_s hf
        refine h_Vv [.ref x1] (rest := []) (m_X0_minute (d := 5) (cs := cs) (Nat.le_refl _) h10) v_X0_minute q_743 rfl (Nat.le_trans (by decide) hd) g12 rfl rfl (Nat.le_of_ble_eq_true rfl) dX0_endsOn_29 (Nat.le_refl _) (Nat.le_refl _) ?_
        refine h_iinc (q := 3) (v := x4 + (-1)) (lv2 := [(4, .int (x4 + (-1))), (0, .ref x0), (1, .ref x1), (3, .int x3)]) dX0_endsOn_32 rfl rfl (Nat.le_of_ble_eq_true rfl) rfl ?_
        refine h_goto (tgt := 3) dX0_endsOn_35 (by decide) ?_
        refine h_sub (lv2 := [(0, .ref x0), (1, .ref x1), (3, .int x3), (4, .int (x4 + (-1)))]) [1, 2, 3, 0] rfl ?_
        exact ih x0 x1 x3 (x4 + (-1)) S11 k0 k1  hf hk0 hk1
      · replace hf := hif_n c9 hf
        refine h_sub (lv2 := []) [] rfl ?_
        exact hk1 S7 hf
set_option maxRecDepth 100000 in
set_option maxHeartbeats 4000000 in
theorem m_X0_endsOn {d : Nat} {cs : Nat → Nat} {a0 : Nat} {a1 : Nat} {a2 : Int32} {a3 : Int32} {S : hS} {r : Int32 × hS} (hd : 6 ≤ d) (hf : f_X0_endsOn a0 a1 a2 a3 S = some r) : HM yX0_endsOn cX0_endsOn 5 (some .boolean) d 0 0 cs [.ref a0, .ref a1, .int a2, .int a3] S (some (.int r.1)) r.2 := by
  unfold f_X0_endsOn at hf
  refine HM.ofHW false (by decide) (fun h => by cases h) (Nat.le_of_ble_eq_true rfl) ?_
  show HW cX0_endsOn RX0 (x_X0_endsOn d S [.ref a0, .ref a1, .int a2, .int a3] r cs) 0 0 S 0 [(0, .ref a0), (1, .ref a1), (2, .int a2), (3, .int a3)] []
  refine h_iload_n dX0_endsOn_0 rfl 2 rfl ?_
  refine h_istore (lv2 := [(4, .int a2), (0, .ref a0), (1, .ref a1), (2, .int a2), (3, .int a3)]) dX0_endsOn_1 (Nat.le_of_ble_eq_true rfl) rfl ?_
  refine h_sub (lv2 := [(0, .ref a0), (1, .ref a1), (3, .int a3), (4, .int a2)]) [1, 2, 4, 0] rfl ?_
  refine w_X0_endsOn_L3 hd hfuel a0 a1 a3 a2 S _ _  hf ?_ ?_
  · intro S14 hf
    refine h_aload_n dX0_endsOn_38 rfl 0 rfl ?_
    obtain ⟨t15, h16, hf⟩ := hbd_s hf
    refine h_getI h16 rfl (Nat.le_of_ble_eq_true rfl) rfl q_190 rfl dX0_endsOn_39 ?_
    refine h_iload_n dX0_endsOn_42 rfl 1 rfl ?_
    refine h_icmp_ne (tgt := 50) dX0_endsOn_43 (by decide) (fun c17 => ?_) (fun c17 => ?_)
    · replace hf := hif_n c17 hf
      refine h_iconst (v := 0) dX0_endsOn_50 rfl ?_
      obtain rfl := Option.some.inj hf
      exact h_zret rfl (by decide) rfl rfl (Nat.le_refl _) (Nat.le_refl _) dX0_endsOn_51
    · replace hf := hif_p c17 hf
      refine h_iconst (v := 1) dX0_endsOn_46 rfl ?_
      refine h_goto (tgt := 51) dX0_endsOn_47 (by decide) ?_
      obtain rfl := Option.some.inj hf
      exact h_zret rfl (by decide) rfl rfl (Nat.le_refl _) (Nat.le_refl _) dX0_endsOn_51
  · intro S18 hf
    refine h_iconst (v := 0) dX0_endsOn_25 rfl ?_
    obtain rfl := Option.some.inj hf
    exact h_zret rfl (by decide) rfl rfl (Nat.le_refl _) (Nat.le_refl _) dX0_endsOn_26
abbrev x_X3_read (d : Nat) (S0 : hS) (args : List Value) (r : hS) (cs : Nat → Nat) : hX := ((none, 3, d, 0, 0, false), (S0, args, none, r), cs)
theorem v_X3_read : hVW yX3_read cX3_read 3 none RX3 0 := ⟨q_359, q_360, q_6, q_361, by decide +kernel, by decide⟩
def f_X3_read_L23 : Nat → Nat → Int32 → Int32 → hS → (hS → Option (hS)) → Option (hS)
  | 0, _, _, _, _, _ => none
  | n + 1, x0, x1, x2, S, k0 =>
    if x1 = 0 then
      (k0 S)
    else
      (if 32 < x2 then
         (k0 S)
       else
         (hck (S.K x0 = 4) <|
          hbd (f_X3_readClause x0 x2 S) fun S4 =>
          hbd (gR S4 x0 3 0) fun t5 =>
          hck (S4.K t5 = 8) <|
          hb2 (f_X7_goesOn t5 S4) fun t9 S8 =>
          f_X3_read_L23 n x0 t9 (x2 + 1) S8 k0))
def f_X3_read (a0 : Nat) (S : hS) : Option (hS) :=
  hbd (gR S a0 3 0) fun t12 =>
  hck (S.K t12 = 8) <|
  hbd (f_X7_start t12 S) fun S15 =>
  hbd (gR S15 a0 3 1) fun t16 =>
  hck (S15.K t16 = 1) <|
  hbd (f_X0_clear t16 S15) fun S19 =>
  hbd (sZ S19 a0 3 2 0) fun S20 =>
  f_X3_read_L23 hfuel a0 1 0 S20
    (fun S22 =>
      hbd (gR S22 a0 3 1) fun t23 =>
      hbd (gR S22 t23 0 0) fun t25 =>
      hbd (gR S22 a0 3 1) fun t27 =>
      hck (S22.K t27 = 1) <|
      hb2 (f_X0_allHeat t27 S22) fun t31 S30 =>
      hbd (sI S30 t25 6 3 t31) fun S32 =>
      some S32
    )
set_option maxRecDepth 100000 in
set_option maxHeartbeats 4000000 in
theorem w_X3_read_L23 {d : Nat} {S0 : hS} {args : List Value} {cs : Nat → Nat} {r : hS} (hd : 8 ≤ d) : ∀ (n : Nat) (x0 : Nat) (x1 : Int32) (x2 : Int32) (S : hS) (k0 : (hS → Option (hS))) , f_X3_read_L23 n x0 x1 x2 S k0 = some r → (∀ (T : hS), k0 T = some r → HW cX3_read RX3 (x_X3_read d S0 args r cs) 0 0 T 52 [(0, .ref x0)] []) → HW cX3_read RX3 (x_X3_read d S0 args r cs) 0 0 S 23 [(0, .ref x0), (1, .int x1), (2, .int x2)] [] := by
  intro n
  induction n with
  | zero =>
    intro x0 x1 x2 S k0 hf
    cases hf
  | succ n ih =>
    intro x0 x1 x2 S k0 hf hk0
    rw [f_X3_read_L23] at hf
    refine h_iload_n dX3_read_23 rfl 1 rfl ?_
    refine h_if_eq (tgt := 52) dX3_read_24 (by decide) (fun c1 => ?_) (fun c1 => ?_)
    · replace hf := hif_p c1 hf
      refine h_sub (lv2 := [(0, .ref x0)]) [0] rfl ?_
      exact hk0 S hf
    · replace hf := hif_n c1 hf
      refine h_iload_n dX3_read_27 rfl 2 rfl ?_
      refine h_bipush (v := 32) dX3_read_28 rfl ?_
      refine h_icmp_gt (tgt := 52) dX3_read_30 (by decide) (fun c2 => ?_) (fun c2 => ?_)
      · replace hf := hif_p c2 hf
        refine h_sub (lv2 := [(0, .ref x0)]) [0] rfl ?_
        exact hk0 S hf
      · replace hf := hif_n c2 hf
        refine h_aload_n dX3_read_33 rfl 0 rfl ?_
        refine h_iload_n dX3_read_34 rfl 2 rfl ?_
        obtain ⟨g11, hf⟩ := hck_s hf
        obtain ⟨S4, h3, hf⟩ := hbd_s hf
        refine h_Vv [.int x2] (rest := []) (m_X3_readClause (d := 7) (cs := cs) (Nat.le_refl _) h3) v_X3_readClause q_382 rfl (Nat.le_trans (by decide) hd) g11 rfl rfl (Nat.le_of_ble_eq_true rfl) dX3_read_35 (Nat.le_refl _) (Nat.le_refl _) ?_
        refine h_aload_n dX3_read_38 rfl 0 rfl ?_
        obtain ⟨t5, h6, hf⟩ := hbd_s hf
        refine h_getR h6 rfl (Nat.le_of_ble_eq_true rfl) rfl q_237 rfl dX3_read_39 ?_
        obtain ⟨g10, hf⟩ := hck_s hf
        obtain ⟨t9, S8, h7, hf⟩ := hb2_s hf
        refine h_Vi [] (rest := []) (m_X7_goesOn (d := 2) (cs := cs) (Nat.le_refl _) h7) v_X7_goesOn q_545 rfl (Nat.le_trans (by decide) hd) g10 rfl rfl (Nat.le_of_ble_eq_true rfl) dX3_read_42 (Nat.le_refl _) (Nat.le_refl _) ?_
        refine h_istore_n (lv2 := [(1, .int t9), (0, .ref x0), (2, .int x2)]) dX3_read_45 rfl (Nat.le_of_ble_eq_true rfl) rfl ?_
        refine h_iinc (q := 2) (v := x2 + 1) (lv2 := [(2, .int (x2 + 1)), (1, .int t9), (0, .ref x0)]) dX3_read_46 rfl rfl (Nat.le_of_ble_eq_true rfl) rfl ?_
        refine h_goto (tgt := 23) dX3_read_49 (by decide) ?_
        refine h_sub (lv2 := [(0, .ref x0), (1, .int t9), (2, .int (x2 + 1))]) [2, 1, 0] rfl ?_
        exact ih x0 t9 (x2 + 1) S8 k0  hf hk0
set_option maxRecDepth 100000 in
set_option maxHeartbeats 4000000 in
theorem m_X3_read {d : Nat} {cs : Nat → Nat} {a0 : Nat} {S : hS} {r : hS} (hd : 8 ≤ d) (hf : f_X3_read a0 S = some r) : HM yX3_read cX3_read 3 none d 0 0 cs [.ref a0] S (none) r := by
  unfold f_X3_read at hf
  refine HM.ofHW false (by decide) (fun h => by cases h) (Nat.le_of_ble_eq_true rfl) ?_
  show HW cX3_read RX3 (x_X3_read d S [.ref a0] r cs) 0 0 S 0 [(0, .ref a0)] []
  refine h_aload_n dX3_read_0 rfl 0 rfl ?_
  obtain ⟨t12, h13, hf⟩ := hbd_s hf
  refine h_getR h13 rfl (Nat.le_of_ble_eq_true rfl) rfl q_237 rfl dX3_read_1 ?_
  obtain ⟨g36, hf⟩ := hck_s hf
  obtain ⟨S15, h14, hf⟩ := hbd_s hf
  refine h_Vv [] (rest := []) (m_X7_start (d := 1) (cs := cs) (Nat.le_refl _) h14) v_X7_start q_362 rfl (Nat.le_trans (by decide) hd) g36 rfl rfl (Nat.le_of_ble_eq_true rfl) dX3_read_4 (Nat.le_refl _) (Nat.le_refl _) ?_
  refine h_aload_n dX3_read_7 rfl 0 rfl ?_
  obtain ⟨t16, h17, hf⟩ := hbd_s hf
  refine h_getR h17 rfl (Nat.le_of_ble_eq_true rfl) rfl q_238 rfl dX3_read_8 ?_
  obtain ⟨g35, hf⟩ := hck_s hf
  obtain ⟨S19, h18, hf⟩ := hbd_s hf
  refine h_Vv [] (rest := []) (m_X0_clear (d := 3) (cs := cs) (Nat.le_refl _) h18) v_X0_clear q_366 rfl (Nat.le_trans (by decide) hd) g35 rfl rfl (Nat.le_of_ble_eq_true rfl) dX3_read_11 (Nat.le_refl _) (Nat.le_refl _) ?_
  refine h_aload_n dX3_read_14 rfl 0 rfl ?_
  refine h_iconst (v := 0) dX3_read_15 rfl ?_
  obtain ⟨S20, h21, hf⟩ := hbd_s hf
  refine h_putZ h21 rfl (Nat.le_of_ble_eq_true rfl) rfl q_239 rfl rfl (by decide +kernel) dX3_read_16 ?_
  refine h_iconst (v := 1) dX3_read_19 rfl ?_
  refine h_istore_n (lv2 := [(1, .int 1), (0, .ref a0)]) dX3_read_20 rfl (Nat.le_of_ble_eq_true rfl) rfl ?_
  refine h_iconst (v := 0) dX3_read_21 rfl ?_
  refine h_istore_n (lv2 := [(2, .int 0), (1, .int 1), (0, .ref a0)]) dX3_read_22 rfl (Nat.le_of_ble_eq_true rfl) rfl ?_
  refine h_sub (lv2 := [(0, .ref a0), (1, .int 1), (2, .int 0)]) [2, 1, 0] rfl ?_
  refine w_X3_read_L23 hd hfuel a0 1 0 S20 _  hf ?_
  · intro S22 hf
    refine h_aload_n dX3_read_52 rfl 0 rfl ?_
    obtain ⟨t23, h24, hf⟩ := hbd_s hf
    refine h_getR h24 rfl (Nat.le_of_ble_eq_true rfl) rfl q_238 rfl dX3_read_53 ?_
    obtain ⟨t25, h26, hf⟩ := hbd_s hf
    refine h_getRN (host := "DeafSpot") h26 rfl (Nat.le_of_ble_eq_true rfl) rfl (List.mem_of_getElem? (i := 49) rfl) rfl dX3_read_56 ?_
    refine h_aload_n dX3_read_59 rfl 0 rfl ?_
    obtain ⟨t27, h28, hf⟩ := hbd_s hf
    refine h_getR h28 rfl (Nat.le_of_ble_eq_true rfl) rfl q_238 rfl dX3_read_60 ?_
    obtain ⟨g34, hf⟩ := hck_s hf
    obtain ⟨t31, S30, h29, hf⟩ := hb2_s hf
    refine h_Vi [] (rest := [.ref t25]) (m_X0_allHeat (d := 1) (cs := cs) (Nat.le_refl _) h29) v_X0_allHeat q_554 rfl (Nat.le_trans (by decide) hd) g34 rfl rfl (Nat.le_of_ble_eq_true rfl) dX3_read_63 (Nat.le_refl _) (Nat.le_refl _) ?_
    obtain ⟨S32, h33, hf⟩ := hbd_s hf
    refine h_putIN (host := "DeafSpot") h33 rfl (Nat.le_of_ble_eq_true rfl) rfl (List.mem_of_getElem? (i := 13) rfl) rfl rfl (by decide +kernel) dX3_read_66 ?_
    obtain rfl := Option.some.inj hf
    exact h_vret rfl rfl rfl (Nat.le_refl _) (Nat.le_refl _) dX3_read_69
abbrev x_X8_hall (d : Nat) (S0 : hS) (args : List Value) (r : Int32 × hS) (cs : Nat → Nat) : hX := (((some .int), 1, d, 0, 0, false), (S0, args, some (.int r.1), r.2), cs)
theorem v_X8_hall : hVW yX8_hall cX8_hall 1 (some .int) RX8 0 := ⟨q_355, q_356, q_1, q_357, by decide +kernel, by decide⟩
def f_X8_hall (a0 : Nat) (S : hS) : Option (Int32 × hS) :=
  hbd (gR S a0 8 7) fun t1 =>
  hck (S.K t1 = 4) <|
  hbd (f_X3_read t1 S) fun S4 =>
  hbd (gR S4 a0 8 0) fun t5 =>
  hck (S4.K t5 = 8) <|
  hbd (f_X7_empty t5 S4) fun S8 =>
  hbd (gR S8 a0 8 0) fun t9 =>
  hck (S8.K t9 = 8) <|
  hb2 (f_X7_failed t9 S8) fun t13 S12 =>
  if t13 = 0 then
    (hbd (gR S12 a0 8 9) fun t15 =>
     hck (S12.K t15 = 2) <|
     hbd (f_X1_forget t15 S12) fun S18 =>
     hbd (gR S18 a0 8 4) fun t19 =>
     hbd (gR S18 a0 8 3) fun t21 =>
     hbd (gI S18 t21 0 10) fun t23 =>
     hbd (sI S18 t19 0 10 t23) fun S25 =>
     hbd (gR S25 a0 8 3) fun t27 =>
     hbd (gR S25 a0 8 4) fun t29 =>
     hck (S25.K t27 = 1) <|
     hbd (f_X0_copy t27 t29 S25) fun S32 =>
     hbd (gR S32 a0 8 3) fun t33 =>
     hbd (gR S32 t33 0 1) fun t35 =>
     hbd (gI S32 t35 2 0) fun t37 =>
     some (t37, S32))
  else
    (hbd (gR S12 a0 8 0) fun t41 =>
     hbd (gI S12 t41 7 3) fun t43 =>
     some ((-2) - t43, S12))
set_option maxRecDepth 100000 in
set_option maxHeartbeats 4000000 in
theorem m_X8_hall {d : Nat} {cs : Nat → Nat} {a0 : Nat} {S : hS} {r : Int32 × hS} (hd : 9 ≤ d) (hf : f_X8_hall a0 S = some r) : HM yX8_hall cX8_hall 1 (some .int) d 0 0 cs [.ref a0] S (some (.int r.1)) r.2 := by
  unfold f_X8_hall at hf
  refine HM.ofHW false (by decide) (fun h => by cases h) (Nat.le_of_ble_eq_true rfl) ?_
  show HW cX8_hall RX8 (x_X8_hall d S [.ref a0] r cs) 0 0 S 0 [(0, .ref a0)] []
  refine h_aload_n dX8_hall_0 rfl 0 rfl ?_
  obtain ⟨t1, h2, hf⟩ := hbd_s hf
  refine h_getR h2 rfl (Nat.le_of_ble_eq_true rfl) rfl q_307 rfl dX8_hall_1 ?_
  obtain ⟨g47, hf⟩ := hck_s hf
  obtain ⟨S4, h3, hf⟩ := hbd_s hf
  refine h_Vv [] (rest := []) (m_X3_read (d := 8) (cs := cs) (Nat.le_refl _) h3) v_X3_read q_358 rfl (Nat.le_trans (by decide) hd) g47 rfl rfl (Nat.le_of_ble_eq_true rfl) dX8_hall_4 (Nat.le_refl _) (Nat.le_refl _) ?_
  refine h_aload_n dX8_hall_7 rfl 0 rfl ?_
  obtain ⟨t5, h6, hf⟩ := hbd_s hf
  refine h_getR h6 rfl (Nat.le_of_ble_eq_true rfl) rfl q_300 rfl dX8_hall_8 ?_
  obtain ⟨g46, hf⟩ := hck_s hf
  obtain ⟨S8, h7, hf⟩ := hbd_s hf
  refine h_Vv [] (rest := []) (m_X7_empty (d := 1) (cs := cs) (Nat.le_refl _) h7) v_X7_empty q_558 rfl (Nat.le_trans (by decide) hd) g46 rfl rfl (Nat.le_of_ble_eq_true rfl) dX8_hall_11 (Nat.le_refl _) (Nat.le_refl _) ?_
  refine h_aload_n dX8_hall_14 rfl 0 rfl ?_
  obtain ⟨t9, h10, hf⟩ := hbd_s hf
  refine h_getR h10 rfl (Nat.le_of_ble_eq_true rfl) rfl q_300 rfl dX8_hall_15 ?_
  obtain ⟨g45, hf⟩ := hck_s hf
  obtain ⟨t13, S12, h11, hf⟩ := hb2_s hf
  refine h_Vi [] (rest := []) (m_X7_failed (d := 1) (cs := cs) (Nat.le_refl _) h11) v_X7_failed q_562 rfl (Nat.le_trans (by decide) hd) g45 rfl rfl (Nat.le_of_ble_eq_true rfl) dX8_hall_18 (Nat.le_refl _) (Nat.le_refl _) ?_
  refine h_if_eq (tgt := 35) dX8_hall_21 (by decide) (fun c14 => ?_) (fun c14 => ?_)
  · replace hf := hif_p c14 hf
    refine h_aload_n dX8_hall_35 rfl 0 rfl ?_
    obtain ⟨t15, h16, hf⟩ := hbd_s hf
    refine h_getR h16 rfl (Nat.le_of_ble_eq_true rfl) rfl q_309 rfl dX8_hall_36 ?_
    obtain ⟨g40, hf⟩ := hck_s hf
    obtain ⟨S18, h17, hf⟩ := hbd_s hf
    refine h_Vv [] (rest := []) (m_X1_forget (d := 1) (cs := cs) (Nat.le_refl _) h17) v_X1_forget q_563 rfl (Nat.le_trans (by decide) hd) g40 rfl rfl (Nat.le_of_ble_eq_true rfl) dX8_hall_39 (Nat.le_refl _) (Nat.le_refl _) ?_
    refine h_aload_n dX8_hall_42 rfl 0 rfl ?_
    obtain ⟨t19, h20, hf⟩ := hbd_s hf
    refine h_getR h20 rfl (Nat.le_of_ble_eq_true rfl) rfl q_304 rfl dX8_hall_43 ?_
    refine h_aload_n dX8_hall_46 rfl 0 rfl ?_
    obtain ⟨t21, h22, hf⟩ := hbd_s hf
    refine h_getR h22 rfl (Nat.le_of_ble_eq_true rfl) rfl q_303 rfl dX8_hall_47 ?_
    obtain ⟨t23, h24, hf⟩ := hbd_s hf
    refine h_getIN (host := "DeafSpot") h24 rfl (Nat.le_of_ble_eq_true rfl) rfl (List.mem_of_getElem? (i := 61) rfl) rfl dX8_hall_50 ?_
    obtain ⟨S25, h26, hf⟩ := hbd_s hf
    refine h_putIN (host := "DeafSpot") h26 rfl (Nat.le_of_ble_eq_true rfl) rfl (List.mem_of_getElem? (i := 61) rfl) rfl rfl (by decide +kernel) dX8_hall_53 ?_
    refine h_aload_n dX8_hall_56 rfl 0 rfl ?_
    obtain ⟨t27, h28, hf⟩ := hbd_s hf
    refine h_getR h28 rfl (Nat.le_of_ble_eq_true rfl) rfl q_303 rfl dX8_hall_57 ?_
    refine h_aload_n dX8_hall_60 rfl 0 rfl ?_
    obtain ⟨t29, h30, hf⟩ := hbd_s hf
    refine h_getR h30 rfl (Nat.le_of_ble_eq_true rfl) rfl q_304 rfl dX8_hall_61 ?_
    obtain ⟨g39, hf⟩ := hck_s hf
    obtain ⟨S32, h31, hf⟩ := hbd_s hf
    refine h_Vv [.ref t29] (rest := []) (m_X0_copy (d := 3) (cs := cs) (Nat.le_refl _) h31) v_X0_copy q_567 rfl (Nat.le_trans (by decide) hd) g39 rfl rfl (Nat.le_of_ble_eq_true rfl) dX8_hall_64 (Nat.le_refl _) (Nat.le_refl _) ?_
    refine h_aload_n dX8_hall_67 rfl 0 rfl ?_
    obtain ⟨t33, h34, hf⟩ := hbd_s hf
    refine h_getR h34 rfl (Nat.le_of_ble_eq_true rfl) rfl q_303 rfl dX8_hall_68 ?_
    obtain ⟨t35, h36, hf⟩ := hbd_s hf
    refine h_getRN (host := "DeafSpot") h36 rfl (Nat.le_of_ble_eq_true rfl) rfl (List.mem_of_getElem? (i := 52) rfl) rfl dX8_hall_71 ?_
    obtain ⟨t37, h38, hf⟩ := hbd_s hf
    refine h_getIN (host := "DeafSpot") h38 rfl (Nat.le_of_ble_eq_true rfl) rfl (List.mem_of_getElem? (i := 37) rfl) rfl dX8_hall_74 ?_
    obtain rfl := Option.some.inj hf
    exact h_iret rfl rfl rfl (Nat.le_refl _) (Nat.le_refl _) dX8_hall_77
  · replace hf := hif_n c14 hf
    refine h_bipush (v := (-2)) dX8_hall_24 rfl ?_
    refine h_aload_n dX8_hall_26 rfl 0 rfl ?_
    obtain ⟨t41, h42, hf⟩ := hbd_s hf
    refine h_getR h42 rfl (Nat.le_of_ble_eq_true rfl) rfl q_300 rfl dX8_hall_27 ?_
    obtain ⟨t43, h44, hf⟩ := hbd_s hf
    refine h_getIN (host := "DeafSpot") h44 rfl (Nat.le_of_ble_eq_true rfl) rfl (List.mem_of_getElem? (i := 3) rfl) rfl dX8_hall_30 ?_
    refine h_isub dX8_hall_33 ?_
    obtain rfl := Option.some.inj hf
    exact h_iret rfl rfl rfl (Nat.le_refl _) (Nat.le_refl _) dX8_hall_34
abbrev x_X8_tick (d : Nat) (S0 : hS) (args : List Value) (r : Int32 × hS) (cs : Nat → Nat) : hX := (((some .int), 4, d, 0, 0, false), (S0, args, some (.int r.1), r.2), cs)
theorem v_X8_tick : hVW yX8_tick cX8_tick 4 (some .int) RX8 2 := ⟨q_732, q_733, q_1, q_734, by decide +kernel, by decide⟩
def f_X8_tick (a0 : Nat) (a1 : Int32) (a2 : Int32) (S : hS) : Option (Int32 × hS) :=
  hck (S.K a0 = 9) <|
  hb2 (f_X8_ruleFor a0 a1 a2 1 120 S) fun t3 S2 =>
  hnl t3 (
    some ((-1), S2)
    ) fun b4 =>
  hbd (gR S2 a0 8 3) fun t6 =>
  hbd (gI S2 t6 0 6) fun t8 =>
  if (t8 + a2) ≤ 9999 then
    (hbd (gR S2 a0 8 9) fun t11 =>
     hck (S2.K t11 = 2) <|
     hbd (f_X1_forget t11 S2) fun S14 =>
     hbd (gR S14 a0 8 3) fun t15 =>
     hck (S14.K t15 = 1) <|
     hbd (f_X0_pass t15 b4 a2 S14) fun S18 =>
     hbd (gR S18 a0 8 3) fun t19 =>
     hbd (gI S18 t19 0 6) fun t21 =>
     some (t21, S18))
  else
    (some ((-1), S2))
set_option maxRecDepth 100000 in
set_option maxHeartbeats 4000000 in
theorem m_X8_tick {d : Nat} {cs : Nat → Nat} {a0 : Nat} {a1 : Int32} {a2 : Int32} {S : hS} {r : Int32 × hS} (hd : 7 ≤ d) (hf : f_X8_tick a0 a1 a2 S = some r) : HM yX8_tick cX8_tick 4 (some .int) d 0 0 cs [.ref a0, .int a1, .int a2] S (some (.int r.1)) r.2 := by
  unfold f_X8_tick at hf
  refine HM.ofHW false (by decide) (fun h => by cases h) (Nat.le_of_ble_eq_true rfl) ?_
  show HW cX8_tick RX8 (x_X8_tick d S [.ref a0, .int a1, .int a2] r cs) 0 0 S 0 [(0, .ref a0), (1, .int a1), (2, .int a2)] []
  refine h_aload_n dX8_tick_0 rfl 0 rfl ?_
  refine h_iload_n dX8_tick_1 rfl 1 rfl ?_
  refine h_iload_n dX8_tick_2 rfl 2 rfl ?_
  refine h_iconst (v := 1) dX8_tick_3 rfl ?_
  refine h_bipush (v := 120) dX8_tick_4 rfl ?_
  obtain ⟨g25, hf⟩ := hck_s hf
  obtain ⟨t3, S2, h1, hf⟩ := hb2_s hf
  refine h_Vr [.int a1, .int a2, .int 1, .int 120] (rest := []) (m_X8_ruleFor (d := 1) (cs := cs) (Nat.le_refl _) h1) v_X8_ruleFor q_735 rfl (Nat.le_trans (by decide) hd) g25 rfl rfl (Nat.le_of_ble_eq_true rfl) dX8_tick_6 (Nat.le_refl _) (Nat.le_refl _) ?_
  refine h_astore_nV (lv2 := [(3, va_rf t3), (0, .ref a0), (1, .int a1), (2, .int a2)]) dX8_tick_9 rfl (Nat.le_of_ble_eq_true rfl) rfl ?_
  refine h_aload_nV dX8_tick_10 rfl 0 rfl ?_
  refine h_ifnull (tgt := 29) dX8_tick_11 (by decide) (fun c5 => ?_) (fun b4 c5 => ?_)
  · subst c5
    replace hf := hnl_N hf
    refine h_iconst (v := (-1)) dX8_tick_29 rfl ?_
    obtain rfl := Option.some.inj hf
    exact h_iret rfl rfl rfl (Nat.le_refl _) (Nat.le_refl _) dX8_tick_30
  · subst c5
    replace hf := hnl_S hf
    show HW cX8_tick RX8 (x_X8_tick d S [.ref a0, .int a1, .int a2] r cs) 0 0 S2 14 [(3, .ref b4), (0, .ref a0), (1, .int a1), (2, .int a2)] []
    refine h_aload_n dX8_tick_14 rfl 1 rfl ?_
    obtain ⟨t6, h7, hf⟩ := hbd_s hf
    refine h_getR h7 rfl (Nat.le_of_ble_eq_true rfl) rfl q_303 rfl dX8_tick_15 ?_
    obtain ⟨t8, h9, hf⟩ := hbd_s hf
    refine h_getIN (host := "DeafSpot") h9 rfl (Nat.le_of_ble_eq_true rfl) rfl (List.mem_of_getElem? (i := 57) rfl) rfl dX8_tick_18 ?_
    refine h_iload_n dX8_tick_21 rfl 3 rfl ?_
    refine h_iadd dX8_tick_22 ?_
    refine h_sipush (v := 9999) dX8_tick_23 rfl ?_
    refine h_icmp_le (tgt := 31) dX8_tick_26 (by decide) (fun c10 => ?_) (fun c10 => ?_)
    · replace hf := hif_p c10 hf
      refine h_aload_n dX8_tick_31 rfl 1 rfl ?_
      obtain ⟨t11, h12, hf⟩ := hbd_s hf
      refine h_getR h12 rfl (Nat.le_of_ble_eq_true rfl) rfl q_309 rfl dX8_tick_32 ?_
      obtain ⟨g24, hf⟩ := hck_s hf
      obtain ⟨S14, h13, hf⟩ := hbd_s hf
      refine h_Vv [] (rest := []) (m_X1_forget (d := 1) (cs := cs) (Nat.le_refl _) h13) v_X1_forget q_563 rfl (Nat.le_trans (by decide) hd) g24 rfl rfl (Nat.le_of_ble_eq_true rfl) dX8_tick_35 (Nat.le_refl _) (Nat.le_refl _) ?_
      refine h_aload_n dX8_tick_38 rfl 1 rfl ?_
      obtain ⟨t15, h16, hf⟩ := hbd_s hf
      refine h_getR h16 rfl (Nat.le_of_ble_eq_true rfl) rfl q_303 rfl dX8_tick_39 ?_
      refine h_aload_n dX8_tick_42 rfl 0 rfl ?_
      refine h_iload_n dX8_tick_43 rfl 3 rfl ?_
      obtain ⟨g23, hf⟩ := hck_s hf
      obtain ⟨S18, h17, hf⟩ := hbd_s hf
      refine h_Vv [.ref b4, .int a2] (rest := []) (m_X0_pass (d := 6) (cs := cs) (Nat.le_refl _) h17) v_X0_pass q_739 rfl (Nat.le_trans (by decide) hd) g23 rfl rfl (Nat.le_of_ble_eq_true rfl) dX8_tick_44 (Nat.le_refl _) (Nat.le_refl _) ?_
      refine h_aload_n dX8_tick_47 rfl 1 rfl ?_
      obtain ⟨t19, h20, hf⟩ := hbd_s hf
      refine h_getR h20 rfl (Nat.le_of_ble_eq_true rfl) rfl q_303 rfl dX8_tick_48 ?_
      obtain ⟨t21, h22, hf⟩ := hbd_s hf
      refine h_getIN (host := "DeafSpot") h22 rfl (Nat.le_of_ble_eq_true rfl) rfl (List.mem_of_getElem? (i := 57) rfl) rfl dX8_tick_51 ?_
      obtain rfl := Option.some.inj hf
      exact h_iret rfl rfl rfl (Nat.le_refl _) (Nat.le_refl _) dX8_tick_54
    · replace hf := hif_n c10 hf
      refine h_iconst (v := (-1)) dX8_tick_29 rfl ?_
      obtain rfl := Option.some.inj hf
      exact h_iret rfl rfl rfl (Nat.le_refl _) (Nat.le_refl _) dX8_tick_30
