abbrev x_X8_seat (d : Nat) (S0 : hS) (args : List Value) (r : Int32 × hS) (cs : Nat → Nat) : hX := (((some .int), 5, d, 0, 0, false), (S0, args, some (.int r.1), r.2), cs)
theorem v_X8_seat : hVW yX8_seat cX8_seat 5 (some .int) RX8 3 := ⟨q_687, q_688, q_1, q_689, by decide +kernel, by decide⟩
def f_X8_seat (a0 : Nat) (a1 : Int32) (a2 : Int32) (a3 : Int32) (S : hS) : Option (Int32 × hS) :=
  hbd (gR S a0 8 3) fun t1 =>
  hbd (gR S t1 0 0) fun t3 =>
  hck (S.K t3 = 7) <|
  hb2 (f_X6_seatAt t3 a1 a2 S) fun t7 S6 =>
  if t7 = (-1) then
    (some ((-1), S6))
  else
    (if a3 = 0 then
       (hbd (gR S6 a0 8 3) fun t10 =>
        hbd (gR S6 t10 0 2) fun t12 =>
        hbd (gA S6 t12 12 t7) fun t14 =>
        some (t14, S6))
     else
       (if a3 = 1 then
          (hbd (gR S6 a0 8 3) fun t17 =>
           hbd (gR S6 t17 0 1) fun t19 =>
           hbd (gR S6 t19 2 5) fun t21 =>
           hbd (gA S6 t21 12 t7) fun t23 =>
           some (t23, S6))
        else
          (if a3 = 2 then
             (hbd (gR S6 a0 8 3) fun t26 =>
              hbd (gI S6 t26 0 4) fun t28 =>
              if t28 = t7 then
                (some (1, S6))
              else
                (some (0, S6)))
           else
             (if a3 = 3 then
                (hbd (gR S6 a0 8 3) fun t32 =>
                 hbd (gR S6 t32 0 0) fun t34 =>
                 hbd (gR S6 t34 6 6) fun t36 =>
                 hbd (gA S6 t36 12 t7) fun t38 =>
                 some (t38, S6))
              else
                (some ((-1), S6))))))
set_option maxRecDepth 100000 in
set_option maxHeartbeats 4000000 in
theorem m_X8_seat {d : Nat} {cs : Nat → Nat} {a0 : Nat} {a1 : Int32} {a2 : Int32} {a3 : Int32} {S : hS} {r : Int32 × hS} (hd : 2 ≤ d) (hf : f_X8_seat a0 a1 a2 a3 S = some r) : HM yX8_seat cX8_seat 5 (some .int) d 0 0 cs [.ref a0, .int a1, .int a2, .int a3] S (some (.int r.1)) r.2 := by
  unfold f_X8_seat at hf
  refine HM.ofHW false (by decide) (fun h => by cases h) (Nat.le_of_ble_eq_true rfl) ?_
  show HW cX8_seat RX8 (x_X8_seat d S [.ref a0, .int a1, .int a2, .int a3] r cs) 0 0 S 0 [(0, .ref a0), (1, .int a1), (2, .int a2), (3, .int a3)] []
  refine h_aload_n dX8_seat_0 rfl 0 rfl ?_
  obtain ⟨t1, h2, hf⟩ := hbd_s hf
  refine h_getR h2 rfl (Nat.le_of_ble_eq_true rfl) rfl q_303 rfl dX8_seat_1 ?_
  obtain ⟨t3, h4, hf⟩ := hbd_s hf
  refine h_getRN (host := "DeafSpot") h4 rfl (Nat.le_of_ble_eq_true rfl) rfl (List.mem_of_getElem? (i := 50) rfl) rfl dX8_seat_4 ?_
  refine h_iload_n dX8_seat_7 rfl 1 rfl ?_
  refine h_iload_n dX8_seat_8 rfl 2 rfl ?_
  obtain ⟨g40, hf⟩ := hck_s hf
  obtain ⟨t7, S6, h5, hf⟩ := hb2_s hf
  refine h_Vi [.int a1, .int a2] (rest := []) (m_X6_seatAt (d := 1) (cs := cs) (Nat.le_refl _) h5) v_X6_seatAt q_690 rfl (Nat.le_trans (by decide) hd) g40 rfl rfl (Nat.le_of_ble_eq_true rfl) dX8_seat_9 (Nat.le_refl _) (Nat.le_refl _) ?_
  refine h_istore (lv2 := [(4, .int t7), (0, .ref a0), (1, .int a1), (2, .int a2), (3, .int a3)]) dX8_seat_12 (Nat.le_of_ble_eq_true rfl) rfl ?_
  refine h_iload dX8_seat_14 0 rfl ?_
  refine h_iconst (v := (-1)) dX8_seat_16 rfl ?_
  refine h_icmp_ne (tgt := 22) dX8_seat_17 (by decide) (fun c8 => ?_) (fun c8 => ?_)
  · replace hf := hif_n c8 hf
    refine h_iload_n dX8_seat_22 rfl 4 rfl ?_
    by_cases c9 : a3 = 0
    · replace hf := hif_p c9 hf
      refine h_tabIn (tgt := 52) 0 (by rw [c9]; rfl) dX8_seat_23 (by decide) (by decide) rfl (by decide) ?_
      refine h_aload_n dX8_seat_52 rfl 1 rfl ?_
      obtain ⟨t10, h11, hf⟩ := hbd_s hf
      refine h_getR h11 rfl (Nat.le_of_ble_eq_true rfl) rfl q_303 rfl dX8_seat_53 ?_
      obtain ⟨t12, h13, hf⟩ := hbd_s hf
      refine h_getRN (host := "DeafSpot") h13 rfl (Nat.le_of_ble_eq_true rfl) rfl (List.mem_of_getElem? (i := 53) rfl) rfl dX8_seat_56 ?_
      refine h_iload dX8_seat_59 0 rfl ?_
      obtain ⟨t14, h15, hf⟩ := hbd_s hf
      refine h_iald h15 dX8_seat_61 ?_
      obtain rfl := Option.some.inj hf
      exact h_iret rfl rfl rfl (Nat.le_refl _) (Nat.le_refl _) dX8_seat_62
    · replace hf := hif_n c9 hf
      by_cases c16 : a3 = 1
      · replace hf := hif_p c16 hf
        refine h_tabIn (tgt := 63) 1 (by rw [c16]; rfl) dX8_seat_23 (by decide) (by decide) rfl (by decide) ?_
        refine h_aload_n dX8_seat_63 rfl 1 rfl ?_
        obtain ⟨t17, h18, hf⟩ := hbd_s hf
        refine h_getR h18 rfl (Nat.le_of_ble_eq_true rfl) rfl q_303 rfl dX8_seat_64 ?_
        obtain ⟨t19, h20, hf⟩ := hbd_s hf
        refine h_getRN (host := "DeafSpot") h20 rfl (Nat.le_of_ble_eq_true rfl) rfl (List.mem_of_getElem? (i := 52) rfl) rfl dX8_seat_67 ?_
        obtain ⟨t21, h22, hf⟩ := hbd_s hf
        refine h_getRN (host := "DeafSpot") h22 rfl (Nat.le_of_ble_eq_true rfl) rfl (List.mem_of_getElem? (i := 47) rfl) rfl dX8_seat_70 ?_
        refine h_iload dX8_seat_73 0 rfl ?_
        obtain ⟨t23, h24, hf⟩ := hbd_s hf
        refine h_iald h24 dX8_seat_75 ?_
        obtain rfl := Option.some.inj hf
        exact h_iret rfl rfl rfl (Nat.le_refl _) (Nat.le_refl _) dX8_seat_76
      · replace hf := hif_n c16 hf
        by_cases c25 : a3 = 2
        · replace hf := hif_p c25 hf
          refine h_tabIn (tgt := 77) 2 (by rw [c25]; rfl) dX8_seat_23 (by decide) (by decide) rfl (by decide) ?_
          refine h_aload_n dX8_seat_77 rfl 1 rfl ?_
          obtain ⟨t26, h27, hf⟩ := hbd_s hf
          refine h_getR h27 rfl (Nat.le_of_ble_eq_true rfl) rfl q_303 rfl dX8_seat_78 ?_
          obtain ⟨t28, h29, hf⟩ := hbd_s hf
          refine h_getIN (host := "DeafSpot") h29 rfl (Nat.le_of_ble_eq_true rfl) rfl (List.mem_of_getElem? (i := 55) rfl) rfl dX8_seat_81 ?_
          refine h_iload dX8_seat_84 0 rfl ?_
          refine h_icmp_ne (tgt := 93) dX8_seat_86 (by decide) (fun c30 => ?_) (fun c30 => ?_)
          · replace hf := hif_n c30 hf
            refine h_iconst (v := 0) dX8_seat_93 rfl ?_
            obtain rfl := Option.some.inj hf
            exact h_iret rfl rfl rfl (Nat.le_refl _) (Nat.le_refl _) dX8_seat_94
          · replace hf := hif_p c30 hf
            refine h_iconst (v := 1) dX8_seat_89 rfl ?_
            refine h_goto (tgt := 94) dX8_seat_90 (by decide) ?_
            obtain rfl := Option.some.inj hf
            exact h_iret rfl rfl rfl (Nat.le_refl _) (Nat.le_refl _) dX8_seat_94
        · replace hf := hif_n c25 hf
          by_cases c31 : a3 = 3
          · replace hf := hif_p c31 hf
            refine h_tabIn (tgt := 95) 3 (by rw [c31]; rfl) dX8_seat_23 (by decide) (by decide) rfl (by decide) ?_
            refine h_aload_n dX8_seat_95 rfl 1 rfl ?_
            obtain ⟨t32, h33, hf⟩ := hbd_s hf
            refine h_getR h33 rfl (Nat.le_of_ble_eq_true rfl) rfl q_303 rfl dX8_seat_96 ?_
            obtain ⟨t34, h35, hf⟩ := hbd_s hf
            refine h_getRN (host := "DeafSpot") h35 rfl (Nat.le_of_ble_eq_true rfl) rfl (List.mem_of_getElem? (i := 50) rfl) rfl dX8_seat_99 ?_
            obtain ⟨t36, h37, hf⟩ := hbd_s hf
            refine h_getRN (host := "DeafSpot") h37 rfl (Nat.le_of_ble_eq_true rfl) rfl (List.mem_of_getElem? (i := 19) rfl) rfl dX8_seat_102 ?_
            refine h_iload dX8_seat_105 0 rfl ?_
            obtain ⟨t38, h39, hf⟩ := hbd_s hf
            refine h_iald h39 dX8_seat_107 ?_
            obtain rfl := Option.some.inj hf
            exact h_iret rfl rfl rfl (Nat.le_refl _) (Nat.le_refl _) dX8_seat_108
          · replace hf := hif_n c31 hf
            refine h_tabOut (tgt := 109) dX8_seat_23 (by have g0 := hne_t (a := 0) c9 rfl; have g1 := hne_t (a := 1) c16 rfl; have g2 := hne_t (a := 2) c25 rfl; have g3 := hne_t (a := 3) c31 rfl; omega) (by decide) ?_
            refine h_iconst (v := (-1)) dX8_seat_109 rfl ?_
            obtain rfl := Option.some.inj hf
            exact h_iret rfl rfl rfl (Nat.le_refl _) (Nat.le_refl _) dX8_seat_110
  · replace hf := hif_p c8 hf
    refine h_iconst (v := (-1)) dX8_seat_20 rfl ?_
    obtain rfl := Option.some.inj hf
    exact h_iret rfl rfl rfl (Nat.le_refl _) (Nat.le_refl _) dX8_seat_21
abbrev x_X8_guest (d : Nat) (S0 : hS) (args : List Value) (r : Int32 × hS) (cs : Nat → Nat) : hX := (((some .int), 4, d, 0, 0, false), (S0, args, some (.int r.1), r.2), cs)
theorem v_X8_guest : hVW yX8_guest cX8_guest 4 (some .int) RX8 2 := ⟨q_692, q_693, q_1, q_694, by decide +kernel, by decide⟩
def f_X8_guest (a0 : Nat) (a1 : Int32) (a2 : Int32) (S : hS) : Option (Int32 × hS) :=
  hbd (gR S a0 8 3) fun t1 =>
  hbd (gR S t1 0 1) fun t3 =>
  hck (S.K t3 = 3) <|
  hb2 (f_X2_known t3 a1 S) fun t7 S6 =>
  if t7 = 0 then
    (some ((-1), S6))
  else
    (if a2 = 0 then
       (hbd (gR S6 a0 8 3) fun t10 =>
        hbd (gR S6 t10 0 0) fun t12 =>
        hbd (gR S6 t3 2 1) fun t14 =>
        hbd (gA S6 t14 12 a1) fun t16 =>
        hck (S6.K t12 = 7) <|
        hb2 (f_X6_columnOf t12 t16 S6) fun t20 S19 =>
        some (t20, S19))
     else
       (if a2 = 1 then
          (hbd (gR S6 a0 8 3) fun t23 =>
           hbd (gR S6 t23 0 0) fun t25 =>
           hbd (gR S6 t3 2 1) fun t27 =>
           hbd (gA S6 t27 12 a1) fun t29 =>
           hck (S6.K t25 = 7) <|
           hb2 (f_X6_rowOf t25 t29 S6) fun t33 S32 =>
           some (t33, S32))
        else
          (if a2 = 2 then
             (hbd (gR S6 t3 2 2) fun t36 =>
              hbd (gA S6 t36 12 a1) fun t38 =>
              some (t38, S6))
           else
             (if a2 = 3 then
                (hbd (gR S6 t3 2 3) fun t41 =>
                 hbd (gA S6 t41 12 a1) fun t43 =>
                 some (t43, S6))
              else
                (if a2 = 4 then
                   (hbd (gR S6 t3 2 4) fun t46 =>
                    hbd (gA S6 t46 12 a1) fun t48 =>
                    some (t48, S6))
                 else
                   (some ((-1), S6)))))))
set_option maxRecDepth 100000 in
set_option maxHeartbeats 4000000 in
theorem m_X8_guest {d : Nat} {cs : Nat → Nat} {a0 : Nat} {a1 : Int32} {a2 : Int32} {S : hS} {r : Int32 × hS} (hd : 2 ≤ d) (hf : f_X8_guest a0 a1 a2 S = some r) : HM yX8_guest cX8_guest 4 (some .int) d 0 0 cs [.ref a0, .int a1, .int a2] S (some (.int r.1)) r.2 := by
  unfold f_X8_guest at hf
  refine HM.ofHW false (by decide) (fun h => by cases h) (Nat.le_of_ble_eq_true rfl) ?_
  show HW cX8_guest RX8 (x_X8_guest d S [.ref a0, .int a1, .int a2] r cs) 0 0 S 0 [(0, .ref a0), (1, .int a1), (2, .int a2)] []
  refine h_aload_n dX8_guest_0 rfl 0 rfl ?_
  obtain ⟨t1, h2, hf⟩ := hbd_s hf
  refine h_getR h2 rfl (Nat.le_of_ble_eq_true rfl) rfl q_303 rfl dX8_guest_1 ?_
  obtain ⟨t3, h4, hf⟩ := hbd_s hf
  refine h_getRN (host := "DeafSpot") h4 rfl (Nat.le_of_ble_eq_true rfl) rfl (List.mem_of_getElem? (i := 52) rfl) rfl dX8_guest_4 ?_
  refine h_astore_n (lv2 := [(3, .ref t3), (0, .ref a0), (1, .int a1), (2, .int a2)]) dX8_guest_7 rfl (Nat.le_of_ble_eq_true rfl) rfl ?_
  refine h_aload_n dX8_guest_8 rfl 0 rfl ?_
  refine h_iload_n dX8_guest_9 rfl 2 rfl ?_
  obtain ⟨g50, hf⟩ := hck_s hf
  obtain ⟨t7, S6, h5, hf⟩ := hb2_s hf
  refine h_Vi [.int a1] (rest := []) (m_X2_known (d := 1) (cs := cs) (Nat.le_refl _) h5) v_X2_known q_695 rfl (Nat.le_trans (by decide) hd) g50 rfl rfl (Nat.le_of_ble_eq_true rfl) dX8_guest_10 (Nat.le_refl _) (Nat.le_refl _) ?_
  refine h_if_ne (tgt := 18) dX8_guest_13 (by decide) (fun c8 => ?_) (fun c8 => ?_)
  · replace hf := hif_n c8 hf
    refine h_iload_n dX8_guest_18 rfl 3 rfl ?_
    by_cases c9 : a2 = 0
    · replace hf := hif_p c9 hf
      refine h_tabIn (tgt := 52) 0 (by rw [c9]; rfl) dX8_guest_19 (by decide) (by decide) rfl (by decide) ?_
      refine h_aload_n dX8_guest_52 rfl 1 rfl ?_
      obtain ⟨t10, h11, hf⟩ := hbd_s hf
      refine h_getR h11 rfl (Nat.le_of_ble_eq_true rfl) rfl q_303 rfl dX8_guest_53 ?_
      obtain ⟨t12, h13, hf⟩ := hbd_s hf
      refine h_getRN (host := "DeafSpot") h13 rfl (Nat.le_of_ble_eq_true rfl) rfl (List.mem_of_getElem? (i := 50) rfl) rfl dX8_guest_56 ?_
      refine h_aload_n dX8_guest_59 rfl 0 rfl ?_
      obtain ⟨t14, h15, hf⟩ := hbd_s hf
      refine h_getRN (host := "DeafSpot") h15 rfl (Nat.le_of_ble_eq_true rfl) rfl (List.mem_of_getElem? (i := 39) rfl) rfl dX8_guest_60 ?_
      refine h_iload_n dX8_guest_63 rfl 2 rfl ?_
      obtain ⟨t16, h17, hf⟩ := hbd_s hf
      refine h_iald h17 dX8_guest_64 ?_
      obtain ⟨g21, hf⟩ := hck_s hf
      obtain ⟨t20, S19, h18, hf⟩ := hb2_s hf
      refine h_Vi [.int t16] (rest := []) (m_X6_columnOf (d := 1) (cs := cs) (Nat.le_refl _) h18) v_X6_columnOf q_696 rfl (Nat.le_trans (by decide) hd) g21 rfl rfl (Nat.le_of_ble_eq_true rfl) dX8_guest_65 (Nat.le_refl _) (Nat.le_refl _) ?_
      obtain rfl := Option.some.inj hf
      exact h_iret rfl rfl rfl (Nat.le_refl _) (Nat.le_refl _) dX8_guest_68
    · replace hf := hif_n c9 hf
      by_cases c22 : a2 = 1
      · replace hf := hif_p c22 hf
        refine h_tabIn (tgt := 69) 1 (by rw [c22]; rfl) dX8_guest_19 (by decide) (by decide) rfl (by decide) ?_
        refine h_aload_n dX8_guest_69 rfl 1 rfl ?_
        obtain ⟨t23, h24, hf⟩ := hbd_s hf
        refine h_getR h24 rfl (Nat.le_of_ble_eq_true rfl) rfl q_303 rfl dX8_guest_70 ?_
        obtain ⟨t25, h26, hf⟩ := hbd_s hf
        refine h_getRN (host := "DeafSpot") h26 rfl (Nat.le_of_ble_eq_true rfl) rfl (List.mem_of_getElem? (i := 50) rfl) rfl dX8_guest_73 ?_
        refine h_aload_n dX8_guest_76 rfl 0 rfl ?_
        obtain ⟨t27, h28, hf⟩ := hbd_s hf
        refine h_getRN (host := "DeafSpot") h28 rfl (Nat.le_of_ble_eq_true rfl) rfl (List.mem_of_getElem? (i := 39) rfl) rfl dX8_guest_77 ?_
        refine h_iload_n dX8_guest_80 rfl 2 rfl ?_
        obtain ⟨t29, h30, hf⟩ := hbd_s hf
        refine h_iald h30 dX8_guest_81 ?_
        obtain ⟨g34, hf⟩ := hck_s hf
        obtain ⟨t33, S32, h31, hf⟩ := hb2_s hf
        refine h_Vi [.int t29] (rest := []) (m_X6_rowOf (d := 1) (cs := cs) (Nat.le_refl _) h31) v_X6_rowOf q_700 rfl (Nat.le_trans (by decide) hd) g34 rfl rfl (Nat.le_of_ble_eq_true rfl) dX8_guest_82 (Nat.le_refl _) (Nat.le_refl _) ?_
        obtain rfl := Option.some.inj hf
        exact h_iret rfl rfl rfl (Nat.le_refl _) (Nat.le_refl _) dX8_guest_85
      · replace hf := hif_n c22 hf
        by_cases c35 : a2 = 2
        · replace hf := hif_p c35 hf
          refine h_tabIn (tgt := 86) 2 (by rw [c35]; rfl) dX8_guest_19 (by decide) (by decide) rfl (by decide) ?_
          refine h_aload_n dX8_guest_86 rfl 0 rfl ?_
          obtain ⟨t36, h37, hf⟩ := hbd_s hf
          refine h_getRN (host := "DeafSpot") h37 rfl (Nat.le_of_ble_eq_true rfl) rfl (List.mem_of_getElem? (i := 41) rfl) rfl dX8_guest_87 ?_
          refine h_iload_n dX8_guest_90 rfl 2 rfl ?_
          obtain ⟨t38, h39, hf⟩ := hbd_s hf
          refine h_iald h39 dX8_guest_91 ?_
          obtain rfl := Option.some.inj hf
          exact h_iret rfl rfl rfl (Nat.le_refl _) (Nat.le_refl _) dX8_guest_92
        · replace hf := hif_n c35 hf
          by_cases c40 : a2 = 3
          · replace hf := hif_p c40 hf
            refine h_tabIn (tgt := 93) 3 (by rw [c40]; rfl) dX8_guest_19 (by decide) (by decide) rfl (by decide) ?_
            refine h_aload_n dX8_guest_93 rfl 0 rfl ?_
            obtain ⟨t41, h42, hf⟩ := hbd_s hf
            refine h_getRN (host := "DeafSpot") h42 rfl (Nat.le_of_ble_eq_true rfl) rfl (List.mem_of_getElem? (i := 43) rfl) rfl dX8_guest_94 ?_
            refine h_iload_n dX8_guest_97 rfl 2 rfl ?_
            obtain ⟨t43, h44, hf⟩ := hbd_s hf
            refine h_iald h44 dX8_guest_98 ?_
            obtain rfl := Option.some.inj hf
            exact h_iret rfl rfl rfl (Nat.le_refl _) (Nat.le_refl _) dX8_guest_99
          · replace hf := hif_n c40 hf
            by_cases c45 : a2 = 4
            · replace hf := hif_p c45 hf
              refine h_tabIn (tgt := 100) 4 (by rw [c45]; rfl) dX8_guest_19 (by decide) (by decide) rfl (by decide) ?_
              refine h_aload_n dX8_guest_100 rfl 0 rfl ?_
              obtain ⟨t46, h47, hf⟩ := hbd_s hf
              refine h_getRN (host := "DeafSpot") h47 rfl (Nat.le_of_ble_eq_true rfl) rfl (List.mem_of_getElem? (i := 45) rfl) rfl dX8_guest_101 ?_
              refine h_iload_n dX8_guest_104 rfl 2 rfl ?_
              obtain ⟨t48, h49, hf⟩ := hbd_s hf
              refine h_iald h49 dX8_guest_105 ?_
              obtain rfl := Option.some.inj hf
              exact h_iret rfl rfl rfl (Nat.le_refl _) (Nat.le_refl _) dX8_guest_106
            · replace hf := hif_n c45 hf
              refine h_tabOut (tgt := 107) dX8_guest_19 (by have g0 := hne_t (a := 0) c9 rfl; have g1 := hne_t (a := 1) c22 rfl; have g2 := hne_t (a := 2) c35 rfl; have g3 := hne_t (a := 3) c40 rfl; have g4 := hne_t (a := 4) c45 rfl; omega) (by decide) ?_
              refine h_iconst (v := (-1)) dX8_guest_107 rfl ?_
              obtain rfl := Option.some.inj hf
              exact h_iret rfl rfl rfl (Nat.le_refl _) (Nat.le_refl _) dX8_guest_108
  · replace hf := hif_p c8 hf
    refine h_iconst (v := (-1)) dX8_guest_16 rfl ?_
    obtain rfl := Option.some.inj hf
    exact h_iret rfl rfl rfl (Nat.le_refl _) (Nat.le_refl _) dX8_guest_17
abbrev x_X8_fan (d : Nat) (S0 : hS) (args : List Value) (r : Int32 × hS) (cs : Nat → Nat) : hX := (((some .int), 4, d, 0, 0, false), (S0, args, some (.int r.1), r.2), cs)
theorem v_X8_fan : hVW yX8_fan cX8_fan 4 (some .int) RX8 2 := ⟨q_705, q_706, q_1, q_707, by decide +kernel, by decide⟩
def f_X8_fan (a0 : Nat) (a1 : Int32) (a2 : Int32) (S : hS) : Option (Int32 × hS) :=
  hbd (gR S a0 8 3) fun t1 =>
  hbd (gR S t1 0 0) fun t3 =>
  if a1 < 0 then
    (some ((-1), S))
  else
    (hbd (gI S t3 6 8) fun t6 =>
     if a1 < t6 then
       (if a2 = 0 then
          (hbd (gR S t3 6 9) fun t10 =>
           hbd (gA S t10 12 a1) fun t12 =>
           hck (S.K t3 = 7) <|
           hb2 (f_X6_columnOf t3 t12 S) fun t16 S15 =>
           some (t16, S15))
        else
          (if a2 = 1 then
             (hbd (gR S t3 6 9) fun t19 =>
              hbd (gA S t19 12 a1) fun t21 =>
              hck (S.K t3 = 7) <|
              hb2 (f_X6_rowOf t3 t21 S) fun t25 S24 =>
              some (t25, S24))
           else
             (if a2 = 2 then
                (hbd (gR S t3 6 10) fun t28 =>
                 hbd (gA S t28 12 a1) fun t30 =>
                 some (t30, S))
              else
                (if a2 = 3 then
                   (hbd (gR S t3 6 11) fun t33 =>
                    hbd (gA S t33 12 a1) fun t35 =>
                    some (t35, S))
                 else
                   (some ((-1), S))))))
     else
       (some ((-1), S)))
set_option maxRecDepth 100000 in
set_option maxHeartbeats 4000000 in
theorem m_X8_fan {d : Nat} {cs : Nat → Nat} {a0 : Nat} {a1 : Int32} {a2 : Int32} {S : hS} {r : Int32 × hS} (hd : 2 ≤ d) (hf : f_X8_fan a0 a1 a2 S = some r) : HM yX8_fan cX8_fan 4 (some .int) d 0 0 cs [.ref a0, .int a1, .int a2] S (some (.int r.1)) r.2 := by
  unfold f_X8_fan at hf
  refine HM.ofHW false (by decide) (fun h => by cases h) (Nat.le_of_ble_eq_true rfl) ?_
  show HW cX8_fan RX8 (x_X8_fan d S [.ref a0, .int a1, .int a2] r cs) 0 0 S 0 [(0, .ref a0), (1, .int a1), (2, .int a2)] []
  refine h_aload_n dX8_fan_0 rfl 0 rfl ?_
  obtain ⟨t1, h2, hf⟩ := hbd_s hf
  refine h_getR h2 rfl (Nat.le_of_ble_eq_true rfl) rfl q_303 rfl dX8_fan_1 ?_
  obtain ⟨t3, h4, hf⟩ := hbd_s hf
  refine h_getRN (host := "DeafSpot") h4 rfl (Nat.le_of_ble_eq_true rfl) rfl (List.mem_of_getElem? (i := 50) rfl) rfl dX8_fan_4 ?_
  refine h_astore_n (lv2 := [(3, .ref t3), (0, .ref a0), (1, .int a1), (2, .int a2)]) dX8_fan_7 rfl (Nat.le_of_ble_eq_true rfl) rfl ?_
  refine h_iload_n dX8_fan_8 rfl 2 rfl ?_
  refine h_if_lt (tgt := 20) dX8_fan_9 (by decide) (fun c5 => ?_) (fun c5 => ?_)
  · replace hf := hif_p c5 hf
    refine h_iconst (v := (-1)) dX8_fan_20 rfl ?_
    obtain rfl := Option.some.inj hf
    exact h_iret rfl rfl rfl (Nat.le_refl _) (Nat.le_refl _) dX8_fan_21
  · replace hf := hif_n c5 hf
    refine h_iload_n dX8_fan_12 rfl 2 rfl ?_
    refine h_aload_n dX8_fan_13 rfl 0 rfl ?_
    obtain ⟨t6, h7, hf⟩ := hbd_s hf
    refine h_getIN (host := "DeafSpot") h7 rfl (Nat.le_of_ble_eq_true rfl) rfl (List.mem_of_getElem? (i := 23) rfl) rfl dX8_fan_14 ?_
    refine h_icmp_lt (tgt := 22) dX8_fan_17 (by decide) (fun c8 => ?_) (fun c8 => ?_)
    · replace hf := hif_p c8 hf
      refine h_iload_n dX8_fan_22 rfl 3 rfl ?_
      by_cases c9 : a2 = 0
      · replace hf := hif_p c9 hf
        refine h_tabIn (tgt := 52) 0 (by rw [c9]; rfl) dX8_fan_23 (by decide) (by decide) rfl (by decide) ?_
        refine h_aload_n dX8_fan_52 rfl 0 rfl ?_
        refine h_aload_n dX8_fan_53 rfl 0 rfl ?_
        obtain ⟨t10, h11, hf⟩ := hbd_s hf
        refine h_getRN (host := "DeafSpot") h11 rfl (Nat.le_of_ble_eq_true rfl) rfl (List.mem_of_getElem? (i := 25) rfl) rfl dX8_fan_54 ?_
        refine h_iload_n dX8_fan_57 rfl 2 rfl ?_
        obtain ⟨t12, h13, hf⟩ := hbd_s hf
        refine h_iald h13 dX8_fan_58 ?_
        obtain ⟨g17, hf⟩ := hck_s hf
        obtain ⟨t16, S15, h14, hf⟩ := hb2_s hf
        refine h_Vi [.int t12] (rest := []) (m_X6_columnOf (d := 1) (cs := cs) (Nat.le_refl _) h14) v_X6_columnOf q_696 rfl (Nat.le_trans (by decide) hd) g17 rfl rfl (Nat.le_of_ble_eq_true rfl) dX8_fan_59 (Nat.le_refl _) (Nat.le_refl _) ?_
        obtain rfl := Option.some.inj hf
        exact h_iret rfl rfl rfl (Nat.le_refl _) (Nat.le_refl _) dX8_fan_62
      · replace hf := hif_n c9 hf
        by_cases c18 : a2 = 1
        · replace hf := hif_p c18 hf
          refine h_tabIn (tgt := 63) 1 (by rw [c18]; rfl) dX8_fan_23 (by decide) (by decide) rfl (by decide) ?_
          refine h_aload_n dX8_fan_63 rfl 0 rfl ?_
          refine h_aload_n dX8_fan_64 rfl 0 rfl ?_
          obtain ⟨t19, h20, hf⟩ := hbd_s hf
          refine h_getRN (host := "DeafSpot") h20 rfl (Nat.le_of_ble_eq_true rfl) rfl (List.mem_of_getElem? (i := 25) rfl) rfl dX8_fan_65 ?_
          refine h_iload_n dX8_fan_68 rfl 2 rfl ?_
          obtain ⟨t21, h22, hf⟩ := hbd_s hf
          refine h_iald h22 dX8_fan_69 ?_
          obtain ⟨g26, hf⟩ := hck_s hf
          obtain ⟨t25, S24, h23, hf⟩ := hb2_s hf
          refine h_Vi [.int t21] (rest := []) (m_X6_rowOf (d := 1) (cs := cs) (Nat.le_refl _) h23) v_X6_rowOf q_700 rfl (Nat.le_trans (by decide) hd) g26 rfl rfl (Nat.le_of_ble_eq_true rfl) dX8_fan_70 (Nat.le_refl _) (Nat.le_refl _) ?_
          obtain rfl := Option.some.inj hf
          exact h_iret rfl rfl rfl (Nat.le_refl _) (Nat.le_refl _) dX8_fan_73
        · replace hf := hif_n c18 hf
          by_cases c27 : a2 = 2
          · replace hf := hif_p c27 hf
            refine h_tabIn (tgt := 74) 2 (by rw [c27]; rfl) dX8_fan_23 (by decide) (by decide) rfl (by decide) ?_
            refine h_aload_n dX8_fan_74 rfl 0 rfl ?_
            obtain ⟨t28, h29, hf⟩ := hbd_s hf
            refine h_getRN (host := "DeafSpot") h29 rfl (Nat.le_of_ble_eq_true rfl) rfl (List.mem_of_getElem? (i := 27) rfl) rfl dX8_fan_75 ?_
            refine h_iload_n dX8_fan_78 rfl 2 rfl ?_
            obtain ⟨t30, h31, hf⟩ := hbd_s hf
            refine h_iald h31 dX8_fan_79 ?_
            obtain rfl := Option.some.inj hf
            exact h_iret rfl rfl rfl (Nat.le_refl _) (Nat.le_refl _) dX8_fan_80
          · replace hf := hif_n c27 hf
            by_cases c32 : a2 = 3
            · replace hf := hif_p c32 hf
              refine h_tabIn (tgt := 81) 3 (by rw [c32]; rfl) dX8_fan_23 (by decide) (by decide) rfl (by decide) ?_
              refine h_aload_n dX8_fan_81 rfl 0 rfl ?_
              obtain ⟨t33, h34, hf⟩ := hbd_s hf
              refine h_getRN (host := "DeafSpot") h34 rfl (Nat.le_of_ble_eq_true rfl) rfl (List.mem_of_getElem? (i := 29) rfl) rfl dX8_fan_82 ?_
              refine h_iload_n dX8_fan_85 rfl 2 rfl ?_
              obtain ⟨t35, h36, hf⟩ := hbd_s hf
              refine h_iald h36 dX8_fan_86 ?_
              obtain rfl := Option.some.inj hf
              exact h_iret rfl rfl rfl (Nat.le_refl _) (Nat.le_refl _) dX8_fan_87
            · replace hf := hif_n c32 hf
              refine h_tabOut (tgt := 88) dX8_fan_23 (by have g0 := hne_t (a := 0) c9 rfl; have g1 := hne_t (a := 1) c18 rfl; have g2 := hne_t (a := 2) c27 rfl; have g3 := hne_t (a := 3) c32 rfl; omega) (by decide) ?_
              refine h_iconst (v := (-1)) dX8_fan_88 rfl ?_
              obtain rfl := Option.some.inj hf
              exact h_iret rfl rfl rfl (Nat.le_refl _) (Nat.le_refl _) dX8_fan_89
    · replace hf := hif_n c8 hf
      refine h_iconst (v := (-1)) dX8_fan_20 rfl ?_
      obtain rfl := Option.some.inj hf
      exact h_iret rfl rfl rfl (Nat.le_refl _) (Nat.le_refl _) dX8_fan_21
abbrev x_X8_goes (d : Nat) (S0 : hS) (args : List Value) (r : Int32 × hS) (cs : Nat → Nat) : hX := (((some .boolean), 2, d, 0, 0, false), (S0, args, some (.int r.1), r.2), cs)
theorem v_X8_goes : hVW yX8_goes cX8_goes 2 (some .boolean) RX8 1 := ⟨q_714, q_715, q_1, q_716, by decide +kernel, by decide⟩
def f_X8_goes (a0 : Nat) (a1 : Int32) (S : hS) : Option (Int32 × hS) :=
  hbd (gR S a0 8 3) fun t1 =>
  hbd (gR S t1 0 1) fun t3 =>
  hck (S.K t3 = 3) <|
  hb2 (f_X2_here t3 a1 S) fun t7 S6 =>
  if t7 = 0 then
    (some (0, S6))
  else
    (hbd (gR S6 a0 8 9) fun t9 =>
     hck (S6.K t9 = 2) <|
     hbd (f_X1_forget t9 S6) fun S12 =>
     hbd (gR S12 a0 8 3) fun t13 =>
     hbd (gR S12 t13 0 1) fun t15 =>
     hck (S12.K t15 = 3) <|
     hbd (f_X2_leave t15 a1 S12) fun S18 =>
     some (1, S18))
set_option maxRecDepth 100000 in
set_option maxHeartbeats 4000000 in
theorem m_X8_goes {d : Nat} {cs : Nat → Nat} {a0 : Nat} {a1 : Int32} {S : hS} {r : Int32 × hS} (hd : 3 ≤ d) (hf : f_X8_goes a0 a1 S = some r) : HM yX8_goes cX8_goes 2 (some .boolean) d 0 0 cs [.ref a0, .int a1] S (some (.int r.1)) r.2 := by
  unfold f_X8_goes at hf
  refine HM.ofHW false (by decide) (fun h => by cases h) (Nat.le_of_ble_eq_true rfl) ?_
  show HW cX8_goes RX8 (x_X8_goes d S [.ref a0, .int a1] r cs) 0 0 S 0 [(0, .ref a0), (1, .int a1)] []
  refine h_aload_n dX8_goes_0 rfl 0 rfl ?_
  obtain ⟨t1, h2, hf⟩ := hbd_s hf
  refine h_getR h2 rfl (Nat.le_of_ble_eq_true rfl) rfl q_303 rfl dX8_goes_1 ?_
  obtain ⟨t3, h4, hf⟩ := hbd_s hf
  refine h_getRN (host := "DeafSpot") h4 rfl (Nat.le_of_ble_eq_true rfl) rfl (List.mem_of_getElem? (i := 52) rfl) rfl dX8_goes_4 ?_
  refine h_iload_n dX8_goes_7 rfl 1 rfl ?_
  obtain ⟨g21, hf⟩ := hck_s hf
  obtain ⟨t7, S6, h5, hf⟩ := hb2_s hf
  refine h_Vi [.int a1] (rest := []) (m_X2_here (d := 1) (cs := cs) (Nat.le_refl _) h5) v_X2_here q_717 rfl (Nat.le_trans (by decide) hd) g21 rfl rfl (Nat.le_of_ble_eq_true rfl) dX8_goes_8 (Nat.le_refl _) (Nat.le_refl _) ?_
  refine h_if_ne (tgt := 16) dX8_goes_11 (by decide) (fun c8 => ?_) (fun c8 => ?_)
  · replace hf := hif_n c8 hf
    refine h_aload_n dX8_goes_16 rfl 0 rfl ?_
    obtain ⟨t9, h10, hf⟩ := hbd_s hf
    refine h_getR h10 rfl (Nat.le_of_ble_eq_true rfl) rfl q_309 rfl dX8_goes_17 ?_
    obtain ⟨g20, hf⟩ := hck_s hf
    obtain ⟨S12, h11, hf⟩ := hbd_s hf
    refine h_Vv [] (rest := []) (m_X1_forget (d := 1) (cs := cs) (Nat.le_refl _) h11) v_X1_forget q_563 rfl (Nat.le_trans (by decide) hd) g20 rfl rfl (Nat.le_of_ble_eq_true rfl) dX8_goes_20 (Nat.le_refl _) (Nat.le_refl _) ?_
    refine h_aload_n dX8_goes_23 rfl 0 rfl ?_
    obtain ⟨t13, h14, hf⟩ := hbd_s hf
    refine h_getR h14 rfl (Nat.le_of_ble_eq_true rfl) rfl q_303 rfl dX8_goes_24 ?_
    obtain ⟨t15, h16, hf⟩ := hbd_s hf
    refine h_getRN (host := "DeafSpot") h16 rfl (Nat.le_of_ble_eq_true rfl) rfl (List.mem_of_getElem? (i := 52) rfl) rfl dX8_goes_27 ?_
    refine h_iload_n dX8_goes_30 rfl 1 rfl ?_
    obtain ⟨g19, hf⟩ := hck_s hf
    obtain ⟨S18, h17, hf⟩ := hbd_s hf
    refine h_Vv [.int a1] (rest := []) (m_X2_leave (d := 2) (cs := cs) (Nat.le_refl _) h17) v_X2_leave q_718 rfl (Nat.le_trans (by decide) hd) g19 rfl rfl (Nat.le_of_ble_eq_true rfl) dX8_goes_31 (Nat.le_refl _) (Nat.le_refl _) ?_
    refine h_iconst (v := 1) dX8_goes_34 rfl ?_
    obtain rfl := Option.some.inj hf
    exact h_zret rfl (by decide) rfl rfl (Nat.le_refl _) (Nat.le_refl _) dX8_goes_35
  · replace hf := hif_p c8 hf
    refine h_iconst (v := 0) dX8_goes_14 rfl ?_
    obtain rfl := Option.some.inj hf
    exact h_zret rfl (by decide) rfl rfl (Nat.le_refl _) (Nat.le_refl _) dX8_goes_15
abbrev x_X8_warms (d : Nat) (S0 : hS) (args : List Value) (r : Int32 × hS) (cs : Nat → Nat) : hX := (((some .int), 4, d, 0, 0, false), (S0, args, some (.int r.1), r.2), cs)
theorem v_X8_warms : hVW yX8_warms cX8_warms 4 (some .int) RX8 2 := ⟨q_728, q_729, q_1, q_730, by decide +kernel, by decide⟩
def f_X8_warms (a0 : Nat) (a1 : Int32) (a2 : Int32) (S : hS) : Option (Int32 × hS) :=
  hbd (gR S a0 8 3) fun t1 =>
  hbd (gR S t1 0 1) fun t3 =>
  hck (S.K t3 = 3) <|
  hb2 (f_X2_known t3 a1 S) fun t7 S6 =>
  if t7 = 0 then
    (some ((-1), S6))
  else
    (if a2 < 0 then
       (some ((-1), S6))
     else
       (if a2 ≤ 99 then
          (hbd (gR S6 a0 8 9) fun t11 =>
           hck (S6.K t11 = 2) <|
           hbd (f_X1_forget t11 S6) fun S14 =>
           hbd (gR S14 a0 8 3) fun t15 =>
           hbd (gR S14 t15 0 1) fun t17 =>
           hbd (gR S14 t17 2 2) fun t19 =>
           hbd (gA S14 t19 12 a1) fun t21 =>
           hbd (gR S14 a0 8 3) fun t23 =>
           hbd (gR S14 t23 0 1) fun t25 =>
           hbd (gR S14 t25 2 2) fun t27 =>
           hbd (sA S14 t27 a1 a2) fun S29 =>
           some (t21, S29))
        else
          (some ((-1), S6))))
set_option maxRecDepth 100000 in
set_option maxHeartbeats 4000000 in
theorem m_X8_warms {d : Nat} {cs : Nat → Nat} {a0 : Nat} {a1 : Int32} {a2 : Int32} {S : hS} {r : Int32 × hS} (hd : 2 ≤ d) (hf : f_X8_warms a0 a1 a2 S = some r) : HM yX8_warms cX8_warms 4 (some .int) d 0 0 cs [.ref a0, .int a1, .int a2] S (some (.int r.1)) r.2 := by
  unfold f_X8_warms at hf
  refine HM.ofHW false (by decide) (fun h => by cases h) (Nat.le_of_ble_eq_true rfl) ?_
  show HW cX8_warms RX8 (x_X8_warms d S [.ref a0, .int a1, .int a2] r cs) 0 0 S 0 [(0, .ref a0), (1, .int a1), (2, .int a2)] []
  refine h_aload_n dX8_warms_0 rfl 0 rfl ?_
  obtain ⟨t1, h2, hf⟩ := hbd_s hf
  refine h_getR h2 rfl (Nat.le_of_ble_eq_true rfl) rfl q_303 rfl dX8_warms_1 ?_
  obtain ⟨t3, h4, hf⟩ := hbd_s hf
  refine h_getRN (host := "DeafSpot") h4 rfl (Nat.le_of_ble_eq_true rfl) rfl (List.mem_of_getElem? (i := 52) rfl) rfl dX8_warms_4 ?_
  refine h_iload_n dX8_warms_7 rfl 1 rfl ?_
  obtain ⟨g32, hf⟩ := hck_s hf
  obtain ⟨t7, S6, h5, hf⟩ := hb2_s hf
  refine h_Vi [.int a1] (rest := []) (m_X2_known (d := 1) (cs := cs) (Nat.le_refl _) h5) v_X2_known q_695 rfl (Nat.le_trans (by decide) hd) g32 rfl rfl (Nat.le_of_ble_eq_true rfl) dX8_warms_8 (Nat.le_refl _) (Nat.le_refl _) ?_
  refine h_if_eq (tgt := 24) dX8_warms_11 (by decide) (fun c8 => ?_) (fun c8 => ?_)
  · replace hf := hif_p c8 hf
    refine h_iconst (v := (-1)) dX8_warms_24 rfl ?_
    obtain rfl := Option.some.inj hf
    exact h_iret rfl rfl rfl (Nat.le_refl _) (Nat.le_refl _) dX8_warms_25
  · replace hf := hif_n c8 hf
    refine h_iload_n dX8_warms_14 rfl 2 rfl ?_
    refine h_if_lt (tgt := 24) dX8_warms_15 (by decide) (fun c9 => ?_) (fun c9 => ?_)
    · replace hf := hif_p c9 hf
      refine h_iconst (v := (-1)) dX8_warms_24 rfl ?_
      obtain rfl := Option.some.inj hf
      exact h_iret rfl rfl rfl (Nat.le_refl _) (Nat.le_refl _) dX8_warms_25
    · replace hf := hif_n c9 hf
      refine h_iload_n dX8_warms_18 rfl 2 rfl ?_
      refine h_bipush (v := 99) dX8_warms_19 rfl ?_
      refine h_icmp_le (tgt := 26) dX8_warms_21 (by decide) (fun c10 => ?_) (fun c10 => ?_)
      · replace hf := hif_p c10 hf
        refine h_aload_n dX8_warms_26 rfl 0 rfl ?_
        obtain ⟨t11, h12, hf⟩ := hbd_s hf
        refine h_getR h12 rfl (Nat.le_of_ble_eq_true rfl) rfl q_309 rfl dX8_warms_27 ?_
        obtain ⟨g31, hf⟩ := hck_s hf
        obtain ⟨S14, h13, hf⟩ := hbd_s hf
        refine h_Vv [] (rest := []) (m_X1_forget (d := 1) (cs := cs) (Nat.le_refl _) h13) v_X1_forget q_563 rfl (Nat.le_trans (by decide) hd) g31 rfl rfl (Nat.le_of_ble_eq_true rfl) dX8_warms_30 (Nat.le_refl _) (Nat.le_refl _) ?_
        refine h_aload_n dX8_warms_33 rfl 0 rfl ?_
        obtain ⟨t15, h16, hf⟩ := hbd_s hf
        refine h_getR h16 rfl (Nat.le_of_ble_eq_true rfl) rfl q_303 rfl dX8_warms_34 ?_
        obtain ⟨t17, h18, hf⟩ := hbd_s hf
        refine h_getRN (host := "DeafSpot") h18 rfl (Nat.le_of_ble_eq_true rfl) rfl (List.mem_of_getElem? (i := 52) rfl) rfl dX8_warms_37 ?_
        obtain ⟨t19, h20, hf⟩ := hbd_s hf
        refine h_getRN (host := "DeafSpot") h20 rfl (Nat.le_of_ble_eq_true rfl) rfl (List.mem_of_getElem? (i := 41) rfl) rfl dX8_warms_40 ?_
        refine h_iload_n dX8_warms_43 rfl 1 rfl ?_
        obtain ⟨t21, h22, hf⟩ := hbd_s hf
        refine h_iald h22 dX8_warms_44 ?_
        refine h_istore_n (lv2 := [(3, .int t21), (0, .ref a0), (1, .int a1), (2, .int a2)]) dX8_warms_45 rfl (Nat.le_of_ble_eq_true rfl) rfl ?_
        refine h_aload_n dX8_warms_46 rfl 1 rfl ?_
        obtain ⟨t23, h24, hf⟩ := hbd_s hf
        refine h_getR h24 rfl (Nat.le_of_ble_eq_true rfl) rfl q_303 rfl dX8_warms_47 ?_
        obtain ⟨t25, h26, hf⟩ := hbd_s hf
        refine h_getRN (host := "DeafSpot") h26 rfl (Nat.le_of_ble_eq_true rfl) rfl (List.mem_of_getElem? (i := 52) rfl) rfl dX8_warms_50 ?_
        obtain ⟨t27, h28, hf⟩ := hbd_s hf
        refine h_getRN (host := "DeafSpot") h28 rfl (Nat.le_of_ble_eq_true rfl) rfl (List.mem_of_getElem? (i := 41) rfl) rfl dX8_warms_53 ?_
        refine h_iload_n dX8_warms_56 rfl 2 rfl ?_
        refine h_iload_n dX8_warms_57 rfl 3 rfl ?_
        obtain ⟨S29, h30, hf⟩ := hbd_s hf
        refine h_iast h30 dX8_warms_58 ?_
        refine h_iload_n dX8_warms_59 rfl 0 rfl ?_
        obtain rfl := Option.some.inj hf
        exact h_iret rfl rfl rfl (Nat.le_refl _) (Nat.le_refl _) dX8_warms_60
      · replace hf := hif_n c10 hf
        refine h_iconst (v := (-1)) dX8_warms_24 rfl ?_
        obtain rfl := Option.some.inj hf
        exact h_iret rfl rfl rfl (Nat.le_refl _) (Nat.le_refl _) dX8_warms_25
abbrev x_X8_seed (d : Nat) (S0 : hS) (args : List Value) (r : Int32 × hS) (cs : Nat → Nat) : hX := (((some .int), 3, d, 0, 0, false), (S0, args, some (.int r.1), r.2), cs)
theorem v_X8_seed : hVW yX8_seed cX8_seed 3 (some .int) RX8 1 := ⟨q_909, q_910, q_1, q_911, by decide +kernel, by decide⟩
def f_X8_seed (a0 : Nat) (a1 : Int32) (S : hS) : Option (Int32 × hS) :=
  if 0 ≤ a1 then
    (hbd (gR S a0 8 3) fun t2 =>
     hbd (gI S t2 0 10) fun t4 =>
     hbd (gR S a0 8 3) fun t6 =>
     hbd (sI S t6 0 10 a1) fun S8 =>
     some (t4, S8))
  else
    (some ((-1), S))
set_option maxRecDepth 100000 in
set_option maxHeartbeats 4000000 in
theorem m_X8_seed {d : Nat} {cs : Nat → Nat} {a0 : Nat} {a1 : Int32} {S : hS} {r : Int32 × hS} (hd : 1 ≤ d) (hf : f_X8_seed a0 a1 S = some r) : HM yX8_seed cX8_seed 3 (some .int) d 0 0 cs [.ref a0, .int a1] S (some (.int r.1)) r.2 := by
  unfold f_X8_seed at hf
  refine HM.ofHW false (by decide) (fun h => by cases h) (Nat.le_of_ble_eq_true rfl) ?_
  show HW cX8_seed RX8 (x_X8_seed d S [.ref a0, .int a1] r cs) 0 0 S 0 [(0, .ref a0), (1, .int a1)] []
  refine h_iload_n dX8_seed_0 rfl 1 rfl ?_
  refine h_if_ge (tgt := 6) dX8_seed_1 (by decide) (fun c1 => ?_) (fun c1 => ?_)
  · replace hf := hif_p c1 hf
    refine h_aload_n dX8_seed_6 rfl 0 rfl ?_
    obtain ⟨t2, h3, hf⟩ := hbd_s hf
    refine h_getR h3 rfl (Nat.le_of_ble_eq_true rfl) rfl q_303 rfl dX8_seed_7 ?_
    obtain ⟨t4, h5, hf⟩ := hbd_s hf
    refine h_getIN (host := "DeafSpot") h5 rfl (Nat.le_of_ble_eq_true rfl) rfl (List.mem_of_getElem? (i := 61) rfl) rfl dX8_seed_10 ?_
    refine h_istore_n (lv2 := [(2, .int t4), (0, .ref a0), (1, .int a1)]) dX8_seed_13 rfl (Nat.le_of_ble_eq_true rfl) rfl ?_
    refine h_aload_n dX8_seed_14 rfl 1 rfl ?_
    obtain ⟨t6, h7, hf⟩ := hbd_s hf
    refine h_getR h7 rfl (Nat.le_of_ble_eq_true rfl) rfl q_303 rfl dX8_seed_15 ?_
    refine h_iload_n dX8_seed_18 rfl 2 rfl ?_
    obtain ⟨S8, h9, hf⟩ := hbd_s hf
    refine h_putIN (host := "DeafSpot") h9 rfl (Nat.le_of_ble_eq_true rfl) rfl (List.mem_of_getElem? (i := 61) rfl) rfl rfl (by decide +kernel) dX8_seed_19 ?_
    refine h_iload_n dX8_seed_22 rfl 0 rfl ?_
    obtain rfl := Option.some.inj hf
    exact h_iret rfl rfl rfl (Nat.le_refl _) (Nat.le_refl _) dX8_seed_23
  · replace hf := hif_n c1 hf
    refine h_iconst (v := (-1)) dX8_seed_4 rfl ?_
    obtain rfl := Option.some.inj hf
    exact h_iret rfl rfl rfl (Nat.le_refl _) (Nat.le_refl _) dX8_seed_5
abbrev x_X8_log (d : Nat) (S0 : hS) (args : List Value) (r : Int32 × hS) (cs : Nat → Nat) : hX := (((some .int), 4, d, 0, 0, false), (S0, args, some (.int r.1), r.2), cs)
theorem v_X8_log : hVW yX8_log cX8_log 4 (some .int) RX8 2 := ⟨q_926, q_927, q_1, q_928, by decide +kernel, by decide⟩
def f_X8_log (a0 : Nat) (a1 : Int32) (a2 : Int32) (S : hS) : Option (Int32 × hS) :=
  if a1 < 1 then
    (some ((-1), S))
  else
    (hbd (gR S a0 8 3) fun t2 =>
     hck (S.K t2 = 1) <|
     hb2 (f_X0_logged t2 S) fun t6 S5 =>
     if t6 < a1 then
       (some ((-1), S5))
     else
       (if a2 < 0 then
          (some ((-1), S5))
        else
          (if a2 ≤ 1 then
             (hbd (gR S5 a0 8 3) fun t10 =>
              hck (S5.K t10 = 1) <|
              hb2 (f_X0_spotAgo t10 a1 S5) fun t14 S13 =>
              if a2 = 0 then
                (hbd (gR S13 a0 8 3) fun t24 =>
                 hbd (gR S13 t24 0 0) fun t26 =>
                 hck (S13.K t26 = 7) <|
                 hb2 (f_X6_columnOf t26 t14 S13) fun t30 S29 =>
                 some (t30, S29))
              else
                (hbd (gR S13 a0 8 3) fun t16 =>
                 hbd (gR S13 t16 0 0) fun t18 =>
                 hck (S13.K t18 = 7) <|
                 hb2 (f_X6_rowOf t18 t14 S13) fun t22 S21 =>
                 some (t22, S21)))
           else
             (some ((-1), S5)))))
set_option maxRecDepth 100000 in
set_option maxHeartbeats 4000000 in
theorem m_X8_log {d : Nat} {cs : Nat → Nat} {a0 : Nat} {a1 : Int32} {a2 : Int32} {S : hS} {r : Int32 × hS} (hd : 3 ≤ d) (hf : f_X8_log a0 a1 a2 S = some r) : HM yX8_log cX8_log 4 (some .int) d 0 0 cs [.ref a0, .int a1, .int a2] S (some (.int r.1)) r.2 := by
  unfold f_X8_log at hf
  refine HM.ofHW false (by decide) (fun h => by cases h) (Nat.le_of_ble_eq_true rfl) ?_
  show HW cX8_log RX8 (x_X8_log d S [.ref a0, .int a1, .int a2] r cs) 0 0 S 0 [(0, .ref a0), (1, .int a1), (2, .int a2)] []
  refine h_iload_n dX8_log_0 rfl 1 rfl ?_
  refine h_iconst (v := 1) dX8_log_1 rfl ?_
  refine h_icmp_lt (tgt := 25) dX8_log_2 (by decide) (fun c1 => ?_) (fun c1 => ?_)
  · replace hf := hif_p c1 hf
    refine h_iconst (v := (-1)) dX8_log_25 rfl ?_
    obtain rfl := Option.some.inj hf
    exact h_iret rfl rfl rfl (Nat.le_refl _) (Nat.le_refl _) dX8_log_26
  · replace hf := hif_n c1 hf
    refine h_iload_n dX8_log_5 rfl 1 rfl ?_
    refine h_aload_n dX8_log_6 rfl 0 rfl ?_
    obtain ⟨t2, h3, hf⟩ := hbd_s hf
    refine h_getR h3 rfl (Nat.le_of_ble_eq_true rfl) rfl q_303 rfl dX8_log_7 ?_
    obtain ⟨g33, hf⟩ := hck_s hf
    obtain ⟨t6, S5, h4, hf⟩ := hb2_s hf
    refine h_Vi [] (rest := [.int a1]) (m_X0_logged (d := 1) (cs := cs) (Nat.le_refl _) h4) v_X0_logged q_929 rfl (Nat.le_trans (by decide) hd) g33 rfl rfl (Nat.le_of_ble_eq_true rfl) dX8_log_10 (Nat.le_refl _) (Nat.le_refl _) ?_
    refine h_icmp_gt (tgt := 25) dX8_log_13 (by decide) (fun c7 => ?_) (fun c7 => ?_)
    · replace hf := hif_p c7 hf
      refine h_iconst (v := (-1)) dX8_log_25 rfl ?_
      obtain rfl := Option.some.inj hf
      exact h_iret rfl rfl rfl (Nat.le_refl _) (Nat.le_refl _) dX8_log_26
    · replace hf := hif_n c7 hf
      refine h_iload_n dX8_log_16 rfl 2 rfl ?_
      refine h_if_lt (tgt := 25) dX8_log_17 (by decide) (fun c8 => ?_) (fun c8 => ?_)
      · replace hf := hif_p c8 hf
        refine h_iconst (v := (-1)) dX8_log_25 rfl ?_
        obtain rfl := Option.some.inj hf
        exact h_iret rfl rfl rfl (Nat.le_refl _) (Nat.le_refl _) dX8_log_26
      · replace hf := hif_n c8 hf
        refine h_iload_n dX8_log_20 rfl 2 rfl ?_
        refine h_iconst (v := 1) dX8_log_21 rfl ?_
        refine h_icmp_le (tgt := 27) dX8_log_22 (by decide) (fun c9 => ?_) (fun c9 => ?_)
        · replace hf := hif_p c9 hf
          refine h_aload_n dX8_log_27 rfl 0 rfl ?_
          obtain ⟨t10, h11, hf⟩ := hbd_s hf
          refine h_getR h11 rfl (Nat.le_of_ble_eq_true rfl) rfl q_303 rfl dX8_log_28 ?_
          refine h_iload_n dX8_log_31 rfl 1 rfl ?_
          obtain ⟨g32, hf⟩ := hck_s hf
          obtain ⟨t14, S13, h12, hf⟩ := hb2_s hf
          refine h_Vi [.int a1] (rest := []) (m_X0_spotAgo (d := 2) (cs := cs) (Nat.le_refl _) h12) v_X0_spotAgo q_933 rfl (Nat.le_trans (by decide) hd) g32 rfl rfl (Nat.le_of_ble_eq_true rfl) dX8_log_32 (Nat.le_refl _) (Nat.le_refl _) ?_
          refine h_istore_n (lv2 := [(3, .int t14), (0, .ref a0), (1, .int a1), (2, .int a2)]) dX8_log_35 rfl (Nat.le_of_ble_eq_true rfl) rfl ?_
          refine h_iload_n dX8_log_36 rfl 3 rfl ?_
          refine h_if_ne (tgt := 54) dX8_log_37 (by decide) (fun c15 => ?_) (fun c15 => ?_)
          · replace hf := hif_n c15 hf
            refine h_aload_n dX8_log_54 rfl 1 rfl ?_
            obtain ⟨t16, h17, hf⟩ := hbd_s hf
            refine h_getR h17 rfl (Nat.le_of_ble_eq_true rfl) rfl q_303 rfl dX8_log_55 ?_
            obtain ⟨t18, h19, hf⟩ := hbd_s hf
            refine h_getRN (host := "DeafSpot") h19 rfl (Nat.le_of_ble_eq_true rfl) rfl (List.mem_of_getElem? (i := 50) rfl) rfl dX8_log_58 ?_
            refine h_iload_n dX8_log_61 rfl 0 rfl ?_
            obtain ⟨g23, hf⟩ := hck_s hf
            obtain ⟨t22, S21, h20, hf⟩ := hb2_s hf
            refine h_Vi [.int t14] (rest := []) (m_X6_rowOf (d := 1) (cs := cs) (Nat.le_refl _) h20) v_X6_rowOf q_700 rfl (Nat.le_trans (by decide) hd) g23 rfl rfl (Nat.le_of_ble_eq_true rfl) dX8_log_62 (Nat.le_refl _) (Nat.le_refl _) ?_
            obtain rfl := Option.some.inj hf
            exact h_iret rfl rfl rfl (Nat.le_refl _) (Nat.le_refl _) dX8_log_65
          · replace hf := hif_p c15 hf
            refine h_aload_n dX8_log_40 rfl 1 rfl ?_
            obtain ⟨t24, h25, hf⟩ := hbd_s hf
            refine h_getR h25 rfl (Nat.le_of_ble_eq_true rfl) rfl q_303 rfl dX8_log_41 ?_
            obtain ⟨t26, h27, hf⟩ := hbd_s hf
            refine h_getRN (host := "DeafSpot") h27 rfl (Nat.le_of_ble_eq_true rfl) rfl (List.mem_of_getElem? (i := 50) rfl) rfl dX8_log_44 ?_
            refine h_iload_n dX8_log_47 rfl 0 rfl ?_
            obtain ⟨g31, hf⟩ := hck_s hf
            obtain ⟨t30, S29, h28, hf⟩ := hb2_s hf
            refine h_Vi [.int t14] (rest := []) (m_X6_columnOf (d := 1) (cs := cs) (Nat.le_refl _) h28) v_X6_columnOf q_696 rfl (Nat.le_trans (by decide) hd) g31 rfl rfl (Nat.le_of_ble_eq_true rfl) dX8_log_48 (Nat.le_refl _) (Nat.le_refl _) ?_
            refine h_goto (tgt := 65) dX8_log_51 (by decide) ?_
            obtain rfl := Option.some.inj hf
            exact h_iret rfl rfl rfl (Nat.le_refl _) (Nat.le_refl _) dX8_log_65
        · replace hf := hif_n c9 hf
          refine h_iconst (v := (-1)) dX8_log_25 rfl ?_
          obtain rfl := Option.some.inj hf
          exact h_iret rfl rfl rfl (Nat.le_refl _) (Nat.le_refl _) dX8_log_26
abbrev x_X8_hushed (d : Nat) (S0 : hS) (args : List Value) (r : Int32 × hS) (cs : Nat → Nat) : hX := (((some .int), 6, d, 0, 0, false), (S0, args, some (.int r.1), r.2), cs)
theorem v_X8_hushed : hVW yX8_hushed cX8_hushed 6 (some .int) RX8 2 := ⟨q_939, q_940, q_1, q_941, by decide +kernel, by decide⟩
def f_X8_hushed_L26 : Nat → Nat → Int32 → Int32 → Int32 → hS → (Int32 → hS → Option (Int32 × hS)) → Option (Int32 × hS)
  | 0, _, _, _, _, _, _ => none
  | n + 1, x0, x3, x4, x5, S, k0 =>
    hbd (gR S x0 8 3) fun t1 =>
    hck (S.K t1 = 1) <|
    hb2 (f_X0_logged t1 S) fun t5 S4 =>
    if t5 < x5 then
      (k0 x4 S4)
    else
      (hbd (gR S4 x0 8 3) fun t7 =>
       hck (S4.K t7 = 1) <|
       hb2 (f_X0_spotAgo t7 x5 S4) fun t11 S10 =>
       if t11 = x3 then
         (f_X8_hushed_L26 n x0 x3 (x4 + 1) (x5 + 1) S10 k0)
       else
         (f_X8_hushed_L26 n x0 x3 x4 (x5 + 1) S10 k0))
def f_X8_hushed (a0 : Nat) (a1 : Int32) (a2 : Int32) (S : hS) : Option (Int32 × hS) :=
  hbd (gR S a0 8 3) fun t15 =>
  hbd (gR S t15 0 0) fun t17 =>
  hck (S.K t17 = 7) <|
  hb2 (f_X6_seatAt t17 a1 a2 S) fun t21 S20 =>
  if t21 = (-1) then
    (some ((-1), S20))
  else
    (f_X8_hushed_L26 hfuel a0 t21 0 1 S20
       (fun u23 S24 =>
         some (u23, S24)
       ))
set_option maxRecDepth 100000 in
set_option maxHeartbeats 4000000 in
theorem w_X8_hushed_L26 {d : Nat} {S0 : hS} {args : List Value} {cs : Nat → Nat} {r : Int32 × hS} (hd : 3 ≤ d) : ∀ (n : Nat) (x0 : Nat) (x3 : Int32) (x4 : Int32) (x5 : Int32) (S : hS) (k0 : (Int32 → hS → Option (Int32 × hS))) , f_X8_hushed_L26 n x0 x3 x4 x5 S k0 = some r → (∀ (y4 : Int32) (T : hS), k0 y4 T = some r → HW cX8_hushed RX8 (x_X8_hushed d S0 args r cs) 0 0 T 60 [(4, .int y4)] []) → HW cX8_hushed RX8 (x_X8_hushed d S0 args r cs) 0 0 S 26 [(0, .ref x0), (3, .int x3), (4, .int x4), (5, .int x5)] [] := by
  intro n
  induction n with
  | zero =>
    intro x0 x3 x4 x5 S k0 hf
    cases hf
  | succ n ih =>
    intro x0 x3 x4 x5 S k0 hf hk0
    rw [f_X8_hushed_L26] at hf
    refine h_iload dX8_hushed_26 3 rfl ?_
    refine h_aload_n dX8_hushed_28 rfl 0 rfl ?_
    obtain ⟨t1, h2, hf⟩ := hbd_s hf
    refine h_getR h2 rfl (Nat.le_of_ble_eq_true rfl) rfl q_303 rfl dX8_hushed_29 ?_
    obtain ⟨g14, hf⟩ := hck_s hf
    obtain ⟨t5, S4, h3, hf⟩ := hb2_s hf
    refine h_Vi [] (rest := [.int x5]) (m_X0_logged (d := 1) (cs := cs) (Nat.le_refl _) h3) v_X0_logged q_929 rfl (Nat.le_trans (by decide) hd) g14 rfl rfl (Nat.le_of_ble_eq_true rfl) dX8_hushed_32 (Nat.le_refl _) (Nat.le_refl _) ?_
    refine h_icmp_gt (tgt := 60) dX8_hushed_35 (by decide) (fun c6 => ?_) (fun c6 => ?_)
    · replace hf := hif_p c6 hf
      refine h_sub (lv2 := [(4, .int x4)]) [2] rfl ?_
      exact hk0 x4 S4 hf
    · replace hf := hif_n c6 hf
      refine h_aload_n dX8_hushed_38 rfl 0 rfl ?_
      obtain ⟨t7, h8, hf⟩ := hbd_s hf
      refine h_getR h8 rfl (Nat.le_of_ble_eq_true rfl) rfl q_303 rfl dX8_hushed_39 ?_
      refine h_iload dX8_hushed_42 3 rfl ?_
      obtain ⟨g13, hf⟩ := hck_s hf
      obtain ⟨t11, S10, h9, hf⟩ := hb2_s hf
      refine h_Vi [.int x5] (rest := []) (m_X0_spotAgo (d := 2) (cs := cs) (Nat.le_refl _) h9) v_X0_spotAgo q_933 rfl (Nat.le_trans (by decide) hd) g13 rfl rfl (Nat.le_of_ble_eq_true rfl) dX8_hushed_44 (Nat.le_refl _) (Nat.le_refl _) ?_
      refine h_iload_n dX8_hushed_47 rfl 1 rfl ?_
      refine h_icmp_ne (tgt := 54) dX8_hushed_48 (by decide) (fun c12 => ?_) (fun c12 => ?_)
      · replace hf := hif_n c12 hf
        refine h_iinc (q := 3) (v := x5 + 1) (lv2 := [(5, .int (x5 + 1)), (0, .ref x0), (3, .int x3), (4, .int x4)]) dX8_hushed_54 rfl rfl (Nat.le_of_ble_eq_true rfl) rfl ?_
        refine h_goto (tgt := 26) dX8_hushed_57 (by decide) ?_
        refine h_sub (lv2 := [(0, .ref x0), (3, .int x3), (4, .int x4), (5, .int (x5 + 1))]) [1, 2, 3, 0] rfl ?_
        exact ih x0 x3 x4 (x5 + 1) S10 k0  hf hk0
      · replace hf := hif_p c12 hf
        refine h_iinc (q := 2) (v := x4 + 1) (lv2 := [(4, .int (x4 + 1)), (0, .ref x0), (3, .int x3), (5, .int x5)]) dX8_hushed_51 rfl rfl (Nat.le_of_ble_eq_true rfl) rfl ?_
        refine h_iinc (q := 3) (v := x5 + 1) (lv2 := [(5, .int (x5 + 1)), (4, .int (x4 + 1)), (0, .ref x0), (3, .int x3)]) dX8_hushed_54 rfl rfl (Nat.le_of_ble_eq_true rfl) rfl ?_
        refine h_goto (tgt := 26) dX8_hushed_57 (by decide) ?_
        refine h_sub (lv2 := [(0, .ref x0), (3, .int x3), (4, .int (x4 + 1)), (5, .int (x5 + 1))]) [2, 3, 1, 0] rfl ?_
        exact ih x0 x3 (x4 + 1) (x5 + 1) S10 k0  hf hk0
set_option maxRecDepth 100000 in
set_option maxHeartbeats 4000000 in
theorem m_X8_hushed {d : Nat} {cs : Nat → Nat} {a0 : Nat} {a1 : Int32} {a2 : Int32} {S : hS} {r : Int32 × hS} (hd : 3 ≤ d) (hf : f_X8_hushed a0 a1 a2 S = some r) : HM yX8_hushed cX8_hushed 6 (some .int) d 0 0 cs [.ref a0, .int a1, .int a2] S (some (.int r.1)) r.2 := by
  unfold f_X8_hushed at hf
  refine HM.ofHW false (by decide) (fun h => by cases h) (Nat.le_of_ble_eq_true rfl) ?_
  show HW cX8_hushed RX8 (x_X8_hushed d S [.ref a0, .int a1, .int a2] r cs) 0 0 S 0 [(0, .ref a0), (1, .int a1), (2, .int a2)] []
  refine h_aload_n dX8_hushed_0 rfl 0 rfl ?_
  obtain ⟨t15, h16, hf⟩ := hbd_s hf
  refine h_getR h16 rfl (Nat.le_of_ble_eq_true rfl) rfl q_303 rfl dX8_hushed_1 ?_
  obtain ⟨t17, h18, hf⟩ := hbd_s hf
  refine h_getRN (host := "DeafSpot") h18 rfl (Nat.le_of_ble_eq_true rfl) rfl (List.mem_of_getElem? (i := 50) rfl) rfl dX8_hushed_4 ?_
  refine h_iload_n dX8_hushed_7 rfl 1 rfl ?_
  refine h_iload_n dX8_hushed_8 rfl 2 rfl ?_
  obtain ⟨g25, hf⟩ := hck_s hf
  obtain ⟨t21, S20, h19, hf⟩ := hb2_s hf
  refine h_Vi [.int a1, .int a2] (rest := []) (m_X6_seatAt (d := 1) (cs := cs) (Nat.le_refl _) h19) v_X6_seatAt q_690 rfl (Nat.le_trans (by decide) hd) g25 rfl rfl (Nat.le_of_ble_eq_true rfl) dX8_hushed_9 (Nat.le_refl _) (Nat.le_refl _) ?_
  refine h_istore_n (lv2 := [(3, .int t21), (0, .ref a0), (1, .int a1), (2, .int a2)]) dX8_hushed_12 rfl (Nat.le_of_ble_eq_true rfl) rfl ?_
  refine h_iload_n dX8_hushed_13 rfl 0 rfl ?_
  refine h_iconst (v := (-1)) dX8_hushed_14 rfl ?_
  refine h_icmp_ne (tgt := 20) dX8_hushed_15 (by decide) (fun c22 => ?_) (fun c22 => ?_)
  · replace hf := hif_n c22 hf
    refine h_iconst (v := 0) dX8_hushed_20 rfl ?_
    refine h_istore (lv2 := [(4, .int 0), (3, .int t21), (0, .ref a0), (1, .int a1), (2, .int a2)]) dX8_hushed_21 (Nat.le_of_ble_eq_true rfl) rfl ?_
    refine h_iconst (v := 1) dX8_hushed_23 rfl ?_
    refine h_istore (lv2 := [(5, .int 1), (4, .int 0), (3, .int t21), (0, .ref a0), (1, .int a1), (2, .int a2)]) dX8_hushed_24 (Nat.le_of_ble_eq_true rfl) rfl ?_
    refine h_sub (lv2 := [(0, .ref a0), (3, .int t21), (4, .int 0), (5, .int 1)]) [3, 2, 1, 0] rfl ?_
    refine w_X8_hushed_L26 hd hfuel a0 t21 0 1 S20 _  hf ?_
    · intro u23 S24 hf
      refine h_iload dX8_hushed_60 0 rfl ?_
      obtain rfl := Option.some.inj hf
      exact h_iret rfl rfl rfl (Nat.le_refl _) (Nat.le_refl _) dX8_hushed_62
  · replace hf := hif_p c22 hf
    refine h_iconst (v := (-1)) dX8_hushed_18 rfl ?_
    obtain rfl := Option.some.inj hf
    exact h_iret rfl rfl rfl (Nat.le_refl _) (Nat.le_refl _) dX8_hushed_19
abbrev x_X8_count (d : Nat) (S0 : hS) (args : List Value) (r : Int32 × hS) (cs : Nat → Nat) : hX := (((some .int), 2, d, 0, 0, false), (S0, args, some (.int r.1), r.2), cs)
theorem v_X8_count : hVW yX8_count cX8_count 2 (some .int) RX8 1 := ⟨q_943, q_944, q_1, q_945, by decide +kernel, by decide⟩
def f_X8_count (a0 : Nat) (a1 : Int32) (S : hS) : Option (Int32 × hS) :=
  if a1 = 0 then
    (hbd (gR S a0 8 3) fun t2 =>
     hbd (gR S t2 0 0) fun t4 =>
     hbd (gI S t4 6 0) fun t6 =>
     some (t6, S))
  else
    (if a1 = 1 then
       (hbd (gR S a0 8 3) fun t9 =>
        hbd (gR S t9 0 0) fun t11 =>
        hbd (gI S t11 6 1) fun t13 =>
        some (t13, S))
     else
       (if a1 = 2 then
          (hbd (gR S a0 8 3) fun t16 =>
           hbd (gR S t16 0 1) fun t18 =>
           hbd (gI S t18 2 0) fun t20 =>
           some (t20, S))
        else
          (if a1 = 3 then
             (hbd (gR S a0 8 3) fun t23 =>
              hbd (gR S t23 0 0) fun t25 =>
              hbd (gI S t25 6 8) fun t27 =>
              some (t27, S))
           else
             (if a1 = 4 then
                (hbd (gR S a0 8 3) fun t30 =>
                 hbd (gR S t30 0 0) fun t32 =>
                 hbd (gI S t32 6 12) fun t34 =>
                 some (t34, S))
              else
                (if a1 = 5 then
                   (hbd (gI S a0 8 2) fun t37 =>
                    some (t37, S))
                 else
                   (if a1 = 6 then
                      (hbd (gR S a0 8 3) fun t40 =>
                       hbd (gI S t40 0 6) fun t42 =>
                       some (t42, S))
                    else
                      (if a1 = 7 then
                         (hbd (gR S a0 8 3) fun t45 =>
                          hbd (gR S t45 0 0) fun t47 =>
                          hbd (gR S a0 8 3) fun t49 =>
                          hbd (gI S t49 0 4) fun t51 =>
                          hck (S.K t47 = 7) <|
                          hb2 (f_X6_columnOf t47 t51 S) fun t55 S54 =>
                          some (t55, S54))
                       else
                         (if a1 = 8 then
                            (hbd (gR S a0 8 3) fun t58 =>
                             hbd (gR S t58 0 0) fun t60 =>
                             hbd (gR S a0 8 3) fun t62 =>
                             hbd (gI S t62 0 4) fun t64 =>
                             hck (S.K t60 = 7) <|
                             hb2 (f_X6_rowOf t60 t64 S) fun t68 S67 =>
                             some (t68, S67))
                          else
                            (if a1 = 9 then
                               (hbd (gR S a0 8 3) fun t71 =>
                                hck (S.K t71 = 1) <|
                                hb2 (f_X0_allHeat t71 S) fun t75 S74 =>
                                some (t75, S74))
                             else
                               (if a1 = 10 then
                                  (hbd (gR S a0 8 3) fun t78 =>
                                   hbd (gI S t78 0 7) fun t80 =>
                                   some (t80, S))
                                else
                                  (if a1 = 11 then
                                     (hbd (gR S a0 8 3) fun t83 =>
                                      hbd (gI S t83 0 8) fun t85 =>
                                      some (t85, S))
                                   else
                                     (if a1 = 12 then
                                        (hbd (gR S a0 8 3) fun t88 =>
                                         hbd (gI S t88 0 9) fun t90 =>
                                         some (t90, S))
                                      else
                                        (if a1 = 13 then
                                           (hbd (gR S a0 8 3) fun t93 =>
                                            hbd (gI S t93 0 10) fun t95 =>
                                            some (t95, S))
                                         else
                                           (if a1 = 14 then
                                              (hbd (gR S a0 8 0) fun t98 =>
                                               hbd (gI S t98 7 1) fun t100 =>
                                               some (t100, S))
                                            else
                                              (if a1 = 15 then
                                                 (hbd (gR S a0 8 3) fun t103 =>
                                                  hck (S.K t103 = 1) <|
                                                  hb2 (f_X0_logged t103 S) fun t107 S106 =>
                                                  some (t107, S106))
                                               else
                                                 (if a1 = 16 then
                                                    (hbd (gR S a0 8 3) fun t110 =>
                                                     hbd (gR S t110 0 0) fun t112 =>
                                                     hbd (gI S t112 6 3) fun t114 =>
                                                     some (t114, S))
                                                  else
                                                    (some ((-1), S))))))))))))))))))
set_option maxRecDepth 100000 in
set_option maxHeartbeats 4000000 in
theorem m_X8_count {d : Nat} {cs : Nat → Nat} {a0 : Nat} {a1 : Int32} {S : hS} {r : Int32 × hS} (hd : 2 ≤ d) (hf : f_X8_count a0 a1 S = some r) : HM yX8_count cX8_count 2 (some .int) d 0 0 cs [.ref a0, .int a1] S (some (.int r.1)) r.2 := by
  unfold f_X8_count at hf
  refine HM.ofHW false (by decide) (fun h => by cases h) (Nat.le_of_ble_eq_true rfl) ?_
  show HW cX8_count RX8 (x_X8_count d S [.ref a0, .int a1] r cs) 0 0 S 0 [(0, .ref a0), (1, .int a1)] []
  refine h_iload_n dX8_count_0 rfl 1 rfl ?_
  by_cases c1 : a1 = 0
  · replace hf := hif_p c1 hf
    refine h_tabIn (tgt := 84) 0 (by rw [c1]; rfl) dX8_count_1 (by decide) (by decide) rfl (by decide) ?_
    refine h_aload_n dX8_count_84 rfl 0 rfl ?_
    obtain ⟨t2, h3, hf⟩ := hbd_s hf
    refine h_getR h3 rfl (Nat.le_of_ble_eq_true rfl) rfl q_303 rfl dX8_count_85 ?_
    obtain ⟨t4, h5, hf⟩ := hbd_s hf
    refine h_getRN (host := "DeafSpot") h5 rfl (Nat.le_of_ble_eq_true rfl) rfl (List.mem_of_getElem? (i := 50) rfl) rfl dX8_count_88 ?_
    obtain ⟨t6, h7, hf⟩ := hbd_s hf
    refine h_getIN (host := "DeafSpot") h7 rfl (Nat.le_of_ble_eq_true rfl) rfl (List.mem_of_getElem? (i := 6) rfl) rfl dX8_count_91 ?_
    obtain rfl := Option.some.inj hf
    exact h_iret rfl rfl rfl (Nat.le_refl _) (Nat.le_refl _) dX8_count_94
  · replace hf := hif_n c1 hf
    by_cases c8 : a1 = 1
    · replace hf := hif_p c8 hf
      refine h_tabIn (tgt := 95) 1 (by rw [c8]; rfl) dX8_count_1 (by decide) (by decide) rfl (by decide) ?_
      refine h_aload_n dX8_count_95 rfl 0 rfl ?_
      obtain ⟨t9, h10, hf⟩ := hbd_s hf
      refine h_getR h10 rfl (Nat.le_of_ble_eq_true rfl) rfl q_303 rfl dX8_count_96 ?_
      obtain ⟨t11, h12, hf⟩ := hbd_s hf
      refine h_getRN (host := "DeafSpot") h12 rfl (Nat.le_of_ble_eq_true rfl) rfl (List.mem_of_getElem? (i := 50) rfl) rfl dX8_count_99 ?_
      obtain ⟨t13, h14, hf⟩ := hbd_s hf
      refine h_getIN (host := "DeafSpot") h14 rfl (Nat.le_of_ble_eq_true rfl) rfl (List.mem_of_getElem? (i := 9) rfl) rfl dX8_count_102 ?_
      obtain rfl := Option.some.inj hf
      exact h_iret rfl rfl rfl (Nat.le_refl _) (Nat.le_refl _) dX8_count_105
    · replace hf := hif_n c8 hf
      by_cases c15 : a1 = 2
      · replace hf := hif_p c15 hf
        refine h_tabIn (tgt := 106) 2 (by rw [c15]; rfl) dX8_count_1 (by decide) (by decide) rfl (by decide) ?_
        refine h_aload_n dX8_count_106 rfl 0 rfl ?_
        obtain ⟨t16, h17, hf⟩ := hbd_s hf
        refine h_getR h17 rfl (Nat.le_of_ble_eq_true rfl) rfl q_303 rfl dX8_count_107 ?_
        obtain ⟨t18, h19, hf⟩ := hbd_s hf
        refine h_getRN (host := "DeafSpot") h19 rfl (Nat.le_of_ble_eq_true rfl) rfl (List.mem_of_getElem? (i := 52) rfl) rfl dX8_count_110 ?_
        obtain ⟨t20, h21, hf⟩ := hbd_s hf
        refine h_getIN (host := "DeafSpot") h21 rfl (Nat.le_of_ble_eq_true rfl) rfl (List.mem_of_getElem? (i := 37) rfl) rfl dX8_count_113 ?_
        obtain rfl := Option.some.inj hf
        exact h_iret rfl rfl rfl (Nat.le_refl _) (Nat.le_refl _) dX8_count_116
      · replace hf := hif_n c15 hf
        by_cases c22 : a1 = 3
        · replace hf := hif_p c22 hf
          refine h_tabIn (tgt := 117) 3 (by rw [c22]; rfl) dX8_count_1 (by decide) (by decide) rfl (by decide) ?_
          refine h_aload_n dX8_count_117 rfl 0 rfl ?_
          obtain ⟨t23, h24, hf⟩ := hbd_s hf
          refine h_getR h24 rfl (Nat.le_of_ble_eq_true rfl) rfl q_303 rfl dX8_count_118 ?_
          obtain ⟨t25, h26, hf⟩ := hbd_s hf
          refine h_getRN (host := "DeafSpot") h26 rfl (Nat.le_of_ble_eq_true rfl) rfl (List.mem_of_getElem? (i := 50) rfl) rfl dX8_count_121 ?_
          obtain ⟨t27, h28, hf⟩ := hbd_s hf
          refine h_getIN (host := "DeafSpot") h28 rfl (Nat.le_of_ble_eq_true rfl) rfl (List.mem_of_getElem? (i := 23) rfl) rfl dX8_count_124 ?_
          obtain rfl := Option.some.inj hf
          exact h_iret rfl rfl rfl (Nat.le_refl _) (Nat.le_refl _) dX8_count_127
        · replace hf := hif_n c22 hf
          by_cases c29 : a1 = 4
          · replace hf := hif_p c29 hf
            refine h_tabIn (tgt := 128) 4 (by rw [c29]; rfl) dX8_count_1 (by decide) (by decide) rfl (by decide) ?_
            refine h_aload_n dX8_count_128 rfl 0 rfl ?_
            obtain ⟨t30, h31, hf⟩ := hbd_s hf
            refine h_getR h31 rfl (Nat.le_of_ble_eq_true rfl) rfl q_303 rfl dX8_count_129 ?_
            obtain ⟨t32, h33, hf⟩ := hbd_s hf
            refine h_getRN (host := "DeafSpot") h33 rfl (Nat.le_of_ble_eq_true rfl) rfl (List.mem_of_getElem? (i := 50) rfl) rfl dX8_count_132 ?_
            obtain ⟨t34, h35, hf⟩ := hbd_s hf
            refine h_getIN (host := "DeafSpot") h35 rfl (Nat.le_of_ble_eq_true rfl) rfl (List.mem_of_getElem? (i := 33) rfl) rfl dX8_count_135 ?_
            obtain rfl := Option.some.inj hf
            exact h_iret rfl rfl rfl (Nat.le_refl _) (Nat.le_refl _) dX8_count_138
          · replace hf := hif_n c29 hf
            by_cases c36 : a1 = 5
            · replace hf := hif_p c36 hf
              refine h_tabIn (tgt := 139) 5 (by rw [c36]; rfl) dX8_count_1 (by decide) (by decide) rfl (by decide) ?_
              refine h_aload_n dX8_count_139 rfl 0 rfl ?_
              obtain ⟨t37, h38, hf⟩ := hbd_s hf
              refine h_getI h38 rfl (Nat.le_of_ble_eq_true rfl) rfl q_302 rfl dX8_count_140 ?_
              obtain rfl := Option.some.inj hf
              exact h_iret rfl rfl rfl (Nat.le_refl _) (Nat.le_refl _) dX8_count_143
            · replace hf := hif_n c36 hf
              by_cases c39 : a1 = 6
              · replace hf := hif_p c39 hf
                refine h_tabIn (tgt := 144) 6 (by rw [c39]; rfl) dX8_count_1 (by decide) (by decide) rfl (by decide) ?_
                refine h_aload_n dX8_count_144 rfl 0 rfl ?_
                obtain ⟨t40, h41, hf⟩ := hbd_s hf
                refine h_getR h41 rfl (Nat.le_of_ble_eq_true rfl) rfl q_303 rfl dX8_count_145 ?_
                obtain ⟨t42, h43, hf⟩ := hbd_s hf
                refine h_getIN (host := "DeafSpot") h43 rfl (Nat.le_of_ble_eq_true rfl) rfl (List.mem_of_getElem? (i := 57) rfl) rfl dX8_count_148 ?_
                obtain rfl := Option.some.inj hf
                exact h_iret rfl rfl rfl (Nat.le_refl _) (Nat.le_refl _) dX8_count_151
              · replace hf := hif_n c39 hf
                by_cases c44 : a1 = 7
                · replace hf := hif_p c44 hf
                  refine h_tabIn (tgt := 152) 7 (by rw [c44]; rfl) dX8_count_1 (by decide) (by decide) rfl (by decide) ?_
                  refine h_aload_n dX8_count_152 rfl 0 rfl ?_
                  obtain ⟨t45, h46, hf⟩ := hbd_s hf
                  refine h_getR h46 rfl (Nat.le_of_ble_eq_true rfl) rfl q_303 rfl dX8_count_153 ?_
                  obtain ⟨t47, h48, hf⟩ := hbd_s hf
                  refine h_getRN (host := "DeafSpot") h48 rfl (Nat.le_of_ble_eq_true rfl) rfl (List.mem_of_getElem? (i := 50) rfl) rfl dX8_count_156 ?_
                  refine h_aload_n dX8_count_159 rfl 0 rfl ?_
                  obtain ⟨t49, h50, hf⟩ := hbd_s hf
                  refine h_getR h50 rfl (Nat.le_of_ble_eq_true rfl) rfl q_303 rfl dX8_count_160 ?_
                  obtain ⟨t51, h52, hf⟩ := hbd_s hf
                  refine h_getIN (host := "DeafSpot") h52 rfl (Nat.le_of_ble_eq_true rfl) rfl (List.mem_of_getElem? (i := 55) rfl) rfl dX8_count_163 ?_
                  obtain ⟨g56, hf⟩ := hck_s hf
                  obtain ⟨t55, S54, h53, hf⟩ := hb2_s hf
                  refine h_Vi [.int t51] (rest := []) (m_X6_columnOf (d := 1) (cs := cs) (Nat.le_refl _) h53) v_X6_columnOf q_696 rfl (Nat.le_trans (by decide) hd) g56 rfl rfl (Nat.le_of_ble_eq_true rfl) dX8_count_166 (Nat.le_refl _) (Nat.le_refl _) ?_
                  obtain rfl := Option.some.inj hf
                  exact h_iret rfl rfl rfl (Nat.le_refl _) (Nat.le_refl _) dX8_count_169
                · replace hf := hif_n c44 hf
                  by_cases c57 : a1 = 8
                  · replace hf := hif_p c57 hf
                    refine h_tabIn (tgt := 170) 8 (by rw [c57]; rfl) dX8_count_1 (by decide) (by decide) rfl (by decide) ?_
                    refine h_aload_n dX8_count_170 rfl 0 rfl ?_
                    obtain ⟨t58, h59, hf⟩ := hbd_s hf
                    refine h_getR h59 rfl (Nat.le_of_ble_eq_true rfl) rfl q_303 rfl dX8_count_171 ?_
                    obtain ⟨t60, h61, hf⟩ := hbd_s hf
                    refine h_getRN (host := "DeafSpot") h61 rfl (Nat.le_of_ble_eq_true rfl) rfl (List.mem_of_getElem? (i := 50) rfl) rfl dX8_count_174 ?_
                    refine h_aload_n dX8_count_177 rfl 0 rfl ?_
                    obtain ⟨t62, h63, hf⟩ := hbd_s hf
                    refine h_getR h63 rfl (Nat.le_of_ble_eq_true rfl) rfl q_303 rfl dX8_count_178 ?_
                    obtain ⟨t64, h65, hf⟩ := hbd_s hf
                    refine h_getIN (host := "DeafSpot") h65 rfl (Nat.le_of_ble_eq_true rfl) rfl (List.mem_of_getElem? (i := 55) rfl) rfl dX8_count_181 ?_
                    obtain ⟨g69, hf⟩ := hck_s hf
                    obtain ⟨t68, S67, h66, hf⟩ := hb2_s hf
                    refine h_Vi [.int t64] (rest := []) (m_X6_rowOf (d := 1) (cs := cs) (Nat.le_refl _) h66) v_X6_rowOf q_700 rfl (Nat.le_trans (by decide) hd) g69 rfl rfl (Nat.le_of_ble_eq_true rfl) dX8_count_184 (Nat.le_refl _) (Nat.le_refl _) ?_
                    obtain rfl := Option.some.inj hf
                    exact h_iret rfl rfl rfl (Nat.le_refl _) (Nat.le_refl _) dX8_count_187
                  · replace hf := hif_n c57 hf
                    by_cases c70 : a1 = 9
                    · replace hf := hif_p c70 hf
                      refine h_tabIn (tgt := 188) 9 (by rw [c70]; rfl) dX8_count_1 (by decide) (by decide) rfl (by decide) ?_
                      refine h_aload_n dX8_count_188 rfl 0 rfl ?_
                      obtain ⟨t71, h72, hf⟩ := hbd_s hf
                      refine h_getR h72 rfl (Nat.le_of_ble_eq_true rfl) rfl q_303 rfl dX8_count_189 ?_
                      obtain ⟨g76, hf⟩ := hck_s hf
                      obtain ⟨t75, S74, h73, hf⟩ := hb2_s hf
                      refine h_Vi [] (rest := []) (m_X0_allHeat (d := 1) (cs := cs) (Nat.le_refl _) h73) v_X0_allHeat q_946 rfl (Nat.le_trans (by decide) hd) g76 rfl rfl (Nat.le_of_ble_eq_true rfl) dX8_count_192 (Nat.le_refl _) (Nat.le_refl _) ?_
                      obtain rfl := Option.some.inj hf
                      exact h_iret rfl rfl rfl (Nat.le_refl _) (Nat.le_refl _) dX8_count_195
                    · replace hf := hif_n c70 hf
                      by_cases c77 : a1 = 10
                      · replace hf := hif_p c77 hf
                        refine h_tabIn (tgt := 196) 10 (by rw [c77]; rfl) dX8_count_1 (by decide) (by decide) rfl (by decide) ?_
                        refine h_aload_n dX8_count_196 rfl 0 rfl ?_
                        obtain ⟨t78, h79, hf⟩ := hbd_s hf
                        refine h_getR h79 rfl (Nat.le_of_ble_eq_true rfl) rfl q_303 rfl dX8_count_197 ?_
                        obtain ⟨t80, h81, hf⟩ := hbd_s hf
                        refine h_getIN (host := "DeafSpot") h81 rfl (Nat.le_of_ble_eq_true rfl) rfl (List.mem_of_getElem? (i := 58) rfl) rfl dX8_count_200 ?_
                        obtain rfl := Option.some.inj hf
                        exact h_iret rfl rfl rfl (Nat.le_refl _) (Nat.le_refl _) dX8_count_203
                      · replace hf := hif_n c77 hf
                        by_cases c82 : a1 = 11
                        · replace hf := hif_p c82 hf
                          refine h_tabIn (tgt := 204) 11 (by rw [c82]; rfl) dX8_count_1 (by decide) (by decide) rfl (by decide) ?_
                          refine h_aload_n dX8_count_204 rfl 0 rfl ?_
                          obtain ⟨t83, h84, hf⟩ := hbd_s hf
                          refine h_getR h84 rfl (Nat.le_of_ble_eq_true rfl) rfl q_303 rfl dX8_count_205 ?_
                          obtain ⟨t85, h86, hf⟩ := hbd_s hf
                          refine h_getIN (host := "DeafSpot") h86 rfl (Nat.le_of_ble_eq_true rfl) rfl (List.mem_of_getElem? (i := 59) rfl) rfl dX8_count_208 ?_
                          obtain rfl := Option.some.inj hf
                          exact h_iret rfl rfl rfl (Nat.le_refl _) (Nat.le_refl _) dX8_count_211
                        · replace hf := hif_n c82 hf
                          by_cases c87 : a1 = 12
                          · replace hf := hif_p c87 hf
                            refine h_tabIn (tgt := 212) 12 (by rw [c87]; rfl) dX8_count_1 (by decide) (by decide) rfl (by decide) ?_
                            refine h_aload_n dX8_count_212 rfl 0 rfl ?_
                            obtain ⟨t88, h89, hf⟩ := hbd_s hf
                            refine h_getR h89 rfl (Nat.le_of_ble_eq_true rfl) rfl q_303 rfl dX8_count_213 ?_
                            obtain ⟨t90, h91, hf⟩ := hbd_s hf
                            refine h_getIN (host := "DeafSpot") h91 rfl (Nat.le_of_ble_eq_true rfl) rfl (List.mem_of_getElem? (i := 60) rfl) rfl dX8_count_216 ?_
                            obtain rfl := Option.some.inj hf
                            exact h_iret rfl rfl rfl (Nat.le_refl _) (Nat.le_refl _) dX8_count_219
                          · replace hf := hif_n c87 hf
                            by_cases c92 : a1 = 13
                            · replace hf := hif_p c92 hf
                              refine h_tabIn (tgt := 220) 13 (by rw [c92]; rfl) dX8_count_1 (by decide) (by decide) rfl (by decide) ?_
                              refine h_aload_n dX8_count_220 rfl 0 rfl ?_
                              obtain ⟨t93, h94, hf⟩ := hbd_s hf
                              refine h_getR h94 rfl (Nat.le_of_ble_eq_true rfl) rfl q_303 rfl dX8_count_221 ?_
                              obtain ⟨t95, h96, hf⟩ := hbd_s hf
                              refine h_getIN (host := "DeafSpot") h96 rfl (Nat.le_of_ble_eq_true rfl) rfl (List.mem_of_getElem? (i := 61) rfl) rfl dX8_count_224 ?_
                              obtain rfl := Option.some.inj hf
                              exact h_iret rfl rfl rfl (Nat.le_refl _) (Nat.le_refl _) dX8_count_227
                            · replace hf := hif_n c92 hf
                              by_cases c97 : a1 = 14
                              · replace hf := hif_p c97 hf
                                refine h_tabIn (tgt := 228) 14 (by rw [c97]; rfl) dX8_count_1 (by decide) (by decide) rfl (by decide) ?_
                                refine h_aload_n dX8_count_228 rfl 0 rfl ?_
                                obtain ⟨t98, h99, hf⟩ := hbd_s hf
                                refine h_getR h99 rfl (Nat.le_of_ble_eq_true rfl) rfl q_300 rfl dX8_count_229 ?_
                                obtain ⟨t100, h101, hf⟩ := hbd_s hf
                                refine h_getIN (host := "DeafSpot") h101 rfl (Nat.le_of_ble_eq_true rfl) rfl (List.mem_of_getElem? (i := 0) rfl) rfl dX8_count_232 ?_
                                obtain rfl := Option.some.inj hf
                                exact h_iret rfl rfl rfl (Nat.le_refl _) (Nat.le_refl _) dX8_count_235
                              · replace hf := hif_n c97 hf
                                by_cases c102 : a1 = 15
                                · replace hf := hif_p c102 hf
                                  refine h_tabIn (tgt := 236) 15 (by rw [c102]; rfl) dX8_count_1 (by decide) (by decide) rfl (by decide) ?_
                                  refine h_aload_n dX8_count_236 rfl 0 rfl ?_
                                  obtain ⟨t103, h104, hf⟩ := hbd_s hf
                                  refine h_getR h104 rfl (Nat.le_of_ble_eq_true rfl) rfl q_303 rfl dX8_count_237 ?_
                                  obtain ⟨g108, hf⟩ := hck_s hf
                                  obtain ⟨t107, S106, h105, hf⟩ := hb2_s hf
                                  refine h_Vi [] (rest := []) (m_X0_logged (d := 1) (cs := cs) (Nat.le_refl _) h105) v_X0_logged q_929 rfl (Nat.le_trans (by decide) hd) g108 rfl rfl (Nat.le_of_ble_eq_true rfl) dX8_count_240 (Nat.le_refl _) (Nat.le_refl _) ?_
                                  obtain rfl := Option.some.inj hf
                                  exact h_iret rfl rfl rfl (Nat.le_refl _) (Nat.le_refl _) dX8_count_243
                                · replace hf := hif_n c102 hf
                                  by_cases c109 : a1 = 16
                                  · replace hf := hif_p c109 hf
                                    refine h_tabIn (tgt := 244) 16 (by rw [c109]; rfl) dX8_count_1 (by decide) (by decide) rfl (by decide) ?_
                                    refine h_aload_n dX8_count_244 rfl 0 rfl ?_
                                    obtain ⟨t110, h111, hf⟩ := hbd_s hf
                                    refine h_getR h111 rfl (Nat.le_of_ble_eq_true rfl) rfl q_303 rfl dX8_count_245 ?_
                                    obtain ⟨t112, h113, hf⟩ := hbd_s hf
                                    refine h_getRN (host := "DeafSpot") h113 rfl (Nat.le_of_ble_eq_true rfl) rfl (List.mem_of_getElem? (i := 50) rfl) rfl dX8_count_248 ?_
                                    obtain ⟨t114, h115, hf⟩ := hbd_s hf
                                    refine h_getIN (host := "DeafSpot") h115 rfl (Nat.le_of_ble_eq_true rfl) rfl (List.mem_of_getElem? (i := 14) rfl) rfl dX8_count_251 ?_
                                    obtain rfl := Option.some.inj hf
                                    exact h_iret rfl rfl rfl (Nat.le_refl _) (Nat.le_refl _) dX8_count_254
                                  · replace hf := hif_n c109 hf
                                    refine h_tabOut (tgt := 255) dX8_count_1 (by have g0 := hne_t (a := 0) c1 rfl; have g1 := hne_t (a := 1) c8 rfl; have g2 := hne_t (a := 2) c15 rfl; have g3 := hne_t (a := 3) c22 rfl; have g4 := hne_t (a := 4) c29 rfl; have g5 := hne_t (a := 5) c36 rfl; have g6 := hne_t (a := 6) c39 rfl; have g7 := hne_t (a := 7) c44 rfl; have g8 := hne_t (a := 8) c57 rfl; have g9 := hne_t (a := 9) c70 rfl; have g10 := hne_t (a := 10) c77 rfl; have g11 := hne_t (a := 11) c82 rfl; have g12 := hne_t (a := 12) c87 rfl; have g13 := hne_t (a := 13) c92 rfl; have g14 := hne_t (a := 14) c97 rfl; have g15 := hne_t (a := 15) c102 rfl; have g16 := hne_t (a := 16) c109 rfl; omega) (by decide) ?_
                                    refine h_iconst (v := (-1)) dX8_count_255 rfl ?_
                                    obtain rfl := Option.some.inj hf
                                    exact h_iret rfl rfl rfl (Nat.le_refl _) (Nat.le_refl _) dX8_count_256
abbrev x_X8_ruleFor (d : Nat) (S0 : hS) (args : List Value) (r : Option Nat × hS) (cs : Nat → Nat) : hX := (((Option.some (.object "DeafSpot$Law")), 5, d, 0, 0, false), (S0, args, some (va_rf r.1), r.2), cs)
theorem v_X8_ruleFor : hVW yX8_ruleFor cX8_ruleFor 5 (Option.some (.object "DeafSpot$Law")) RX8 4 := ⟨q_737, q_s20, q_1, q_738, by decide +kernel, by decide⟩
def f_X8_ruleFor (a0 : Nat) (a1 : Int32) (a2 : Int32) (a3 : Int32) (a4 : Int32) (S : hS) : Option (Option Nat × hS) :=
  hbd (gR S a0 8 3) fun t1 =>
  hbd (gR S t1 0 0) fun t3 =>
  hbd (gI S t3 6 2) fun t5 =>
  if t5 = 0 then
    (some (none, S))
  else
    (if a1 < 0 then
       (some (none, S))
     else
       (hbd (gI S a0 8 2) fun t9 =>
        if t9 ≤ a1 then
          (some (none, S))
        else
          (if a2 < a3 then
             (some (none, S))
           else
             (if a2 ≤ a4 then
                (hbd (gR S a0 8 1) fun t14 =>
                 hbd (gAR S t14 16 a1) fun t16 =>
                 some (t16, S))
              else
                (some (none, S))))))
set_option maxRecDepth 100000 in
set_option maxHeartbeats 4000000 in
theorem m_X8_ruleFor {d : Nat} {cs : Nat → Nat} {a0 : Nat} {a1 : Int32} {a2 : Int32} {a3 : Int32} {a4 : Int32} {S : hS} {r : Option Nat × hS} (hd : 1 ≤ d) (hf : f_X8_ruleFor a0 a1 a2 a3 a4 S = some r) : HM yX8_ruleFor cX8_ruleFor 5 (Option.some (.object "DeafSpot$Law")) d 0 0 cs [.ref a0, .int a1, .int a2, .int a3, .int a4] S (some (va_rf r.1)) r.2 := by
  unfold f_X8_ruleFor at hf
  refine HM.ofHW false (by decide) (fun h => by cases h) (Nat.le_of_ble_eq_true rfl) ?_
  show HW cX8_ruleFor RX8 (x_X8_ruleFor d S [.ref a0, .int a1, .int a2, .int a3, .int a4] r cs) 0 0 S 0 [(0, .ref a0), (1, .int a1), (2, .int a2), (3, .int a3), (4, .int a4)] []
  refine h_aload_n dX8_ruleFor_0 rfl 0 rfl ?_
  obtain ⟨t1, h2, hf⟩ := hbd_s hf
  refine h_getR h2 rfl (Nat.le_of_ble_eq_true rfl) rfl q_303 rfl dX8_ruleFor_1 ?_
  obtain ⟨t3, h4, hf⟩ := hbd_s hf
  refine h_getRN (host := "DeafSpot") h4 rfl (Nat.le_of_ble_eq_true rfl) rfl (List.mem_of_getElem? (i := 50) rfl) rfl dX8_ruleFor_4 ?_
  obtain ⟨t5, h6, hf⟩ := hbd_s hf
  refine h_getIN (host := "DeafSpot") h6 rfl (Nat.le_of_ble_eq_true rfl) rfl (List.mem_of_getElem? (i := 12) rfl) rfl dX8_ruleFor_7 ?_
  refine h_if_eq (tgt := 36) dX8_ruleFor_10 (by decide) (fun c7 => ?_) (fun c7 => ?_)
  · replace hf := hif_p c7 hf
    refine h_null dX8_ruleFor_36 ?_
    obtain rfl := Option.some.inj hf
    exact h_aret (v := none) rfl (Or.inl ⟨_, rfl⟩) rfl rfl (Nat.le_refl _) (Nat.le_refl _) dX8_ruleFor_37
  · replace hf := hif_n c7 hf
    refine h_iload_n dX8_ruleFor_13 rfl 1 rfl ?_
    refine h_if_lt (tgt := 36) dX8_ruleFor_14 (by decide) (fun c8 => ?_) (fun c8 => ?_)
    · replace hf := hif_p c8 hf
      refine h_null dX8_ruleFor_36 ?_
      obtain rfl := Option.some.inj hf
      exact h_aret (v := none) rfl (Or.inl ⟨_, rfl⟩) rfl rfl (Nat.le_refl _) (Nat.le_refl _) dX8_ruleFor_37
    · replace hf := hif_n c8 hf
      refine h_iload_n dX8_ruleFor_17 rfl 1 rfl ?_
      refine h_aload_n dX8_ruleFor_18 rfl 0 rfl ?_
      obtain ⟨t9, h10, hf⟩ := hbd_s hf
      refine h_getI h10 rfl (Nat.le_of_ble_eq_true rfl) rfl q_302 rfl dX8_ruleFor_19 ?_
      refine h_icmp_ge (tgt := 36) dX8_ruleFor_22 (by decide) (fun c11 => ?_) (fun c11 => ?_)
      · replace hf := hif_p c11 hf
        refine h_null dX8_ruleFor_36 ?_
        obtain rfl := Option.some.inj hf
        exact h_aret (v := none) rfl (Or.inl ⟨_, rfl⟩) rfl rfl (Nat.le_refl _) (Nat.le_refl _) dX8_ruleFor_37
      · replace hf := hif_n c11 hf
        refine h_iload_n dX8_ruleFor_25 rfl 2 rfl ?_
        refine h_iload_n dX8_ruleFor_26 rfl 3 rfl ?_
        refine h_icmp_lt (tgt := 36) dX8_ruleFor_27 (by decide) (fun c12 => ?_) (fun c12 => ?_)
        · replace hf := hif_p c12 hf
          refine h_null dX8_ruleFor_36 ?_
          obtain rfl := Option.some.inj hf
          exact h_aret (v := none) rfl (Or.inl ⟨_, rfl⟩) rfl rfl (Nat.le_refl _) (Nat.le_refl _) dX8_ruleFor_37
        · replace hf := hif_n c12 hf
          refine h_iload_n dX8_ruleFor_30 rfl 2 rfl ?_
          refine h_iload dX8_ruleFor_31 4 rfl ?_
          refine h_icmp_le (tgt := 38) dX8_ruleFor_33 (by decide) (fun c13 => ?_) (fun c13 => ?_)
          · replace hf := hif_p c13 hf
            refine h_aload_n dX8_ruleFor_38 rfl 0 rfl ?_
            obtain ⟨t14, h15, hf⟩ := hbd_s hf
            refine h_getR h15 rfl (Nat.le_of_ble_eq_true rfl) rfl q_301 rfl dX8_ruleFor_39 ?_
            refine h_iload_n dX8_ruleFor_42 rfl 1 rfl ?_
            obtain ⟨t16, h17, hf⟩ := hbd_s hf
            refine h_aald16 h17 dX8_ruleFor_43 ?_
            obtain rfl := Option.some.inj hf
            exact h_aret (v := t16) rfl (Or.inl ⟨_, rfl⟩) rfl rfl (Nat.le_refl _) (Nat.le_refl _) dX8_ruleFor_44
          · replace hf := hif_n c13 hf
            refine h_null dX8_ruleFor_36 ?_
            obtain rfl := Option.some.inj hf
            exact h_aret (v := none) rfl (Or.inl ⟨_, rfl⟩) rfl rfl (Nat.le_refl _) (Nat.le_refl _) dX8_ruleFor_37
abbrev x_X8_deafMinutes (d : Nat) (S0 : hS) (args : List Value) (r : Int32 × hS) (cs : Nat → Nat) : hX := (((some .int), 2, d, 0, 0, false), (S0, args, some (.int r.1), r.2), cs)
theorem v_X8_deafMinutes : hVW yX8_deafMinutes cX8_deafMinutes 2 (some .int) RX8 1 := ⟨q_797, q_s28, q_1, q_798, by decide +kernel, by decide⟩
def f_X8_deafMinutes (a0 : Nat) (a1 : Int32) (S : hS) : Option (Int32 × hS) :=
  hbd (gR S a0 8 5) fun t1 =>
  hbd (gR S t1 0 1) fun t3 =>
  hbd (gR S t3 2 4) fun t5 =>
  hbd (gA S t5 12 a1) fun t7 =>
  hbd (gR S a0 8 3) fun t9 =>
  hbd (gR S t9 0 1) fun t11 =>
  hbd (gR S t11 2 4) fun t13 =>
  hbd (gA S t13 12 a1) fun t15 =>
  some (t7 - t15, S)
set_option maxRecDepth 100000 in
set_option maxHeartbeats 4000000 in
theorem m_X8_deafMinutes {d : Nat} {cs : Nat → Nat} {a0 : Nat} {a1 : Int32} {S : hS} {r : Int32 × hS} (hd : 1 ≤ d) (hf : f_X8_deafMinutes a0 a1 S = some r) : HM yX8_deafMinutes cX8_deafMinutes 2 (some .int) d 0 0 cs [.ref a0, .int a1] S (some (.int r.1)) r.2 := by
  unfold f_X8_deafMinutes at hf
  refine HM.ofHW false (by decide) (fun h => by cases h) (Nat.le_of_ble_eq_true rfl) ?_
  show HW cX8_deafMinutes RX8 (x_X8_deafMinutes d S [.ref a0, .int a1] r cs) 0 0 S 0 [(0, .ref a0), (1, .int a1)] []
  refine h_aload_n dX8_deafMinutes_0 rfl 0 rfl ?_
  obtain ⟨t1, h2, hf⟩ := hbd_s hf
  refine h_getR h2 rfl (Nat.le_of_ble_eq_true rfl) rfl q_305 rfl dX8_deafMinutes_1 ?_
  obtain ⟨t3, h4, hf⟩ := hbd_s hf
  refine h_getRN (host := "DeafSpot") h4 rfl (Nat.le_of_ble_eq_true rfl) rfl (List.mem_of_getElem? (i := 52) rfl) rfl dX8_deafMinutes_4 ?_
  obtain ⟨t5, h6, hf⟩ := hbd_s hf
  refine h_getRN (host := "DeafSpot") h6 rfl (Nat.le_of_ble_eq_true rfl) rfl (List.mem_of_getElem? (i := 45) rfl) rfl dX8_deafMinutes_7 ?_
  refine h_iload_n dX8_deafMinutes_10 rfl 1 rfl ?_
  obtain ⟨t7, h8, hf⟩ := hbd_s hf
  refine h_iald h8 dX8_deafMinutes_11 ?_
  refine h_aload_n dX8_deafMinutes_12 rfl 0 rfl ?_
  obtain ⟨t9, h10, hf⟩ := hbd_s hf
  refine h_getR h10 rfl (Nat.le_of_ble_eq_true rfl) rfl q_303 rfl dX8_deafMinutes_13 ?_
  obtain ⟨t11, h12, hf⟩ := hbd_s hf
  refine h_getRN (host := "DeafSpot") h12 rfl (Nat.le_of_ble_eq_true rfl) rfl (List.mem_of_getElem? (i := 52) rfl) rfl dX8_deafMinutes_16 ?_
  obtain ⟨t13, h14, hf⟩ := hbd_s hf
  refine h_getRN (host := "DeafSpot") h14 rfl (Nat.le_of_ble_eq_true rfl) rfl (List.mem_of_getElem? (i := 45) rfl) rfl dX8_deafMinutes_19 ?_
  refine h_iload_n dX8_deafMinutes_22 rfl 1 rfl ?_
  obtain ⟨t15, h16, hf⟩ := hbd_s hf
  refine h_iald h16 dX8_deafMinutes_23 ?_
  refine h_isub dX8_deafMinutes_24 ?_
  obtain rfl := Option.some.inj hf
  exact h_iret rfl rfl rfl (Nat.le_refl _) (Nat.le_refl _) dX8_deafMinutes_25
