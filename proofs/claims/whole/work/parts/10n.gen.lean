abbrev x_X9_count (d : Nat) (S0 : hS) (args : List Value) (r : Int32 × hS) (cs : Nat → Nat) : hX := (((some .int), 2, d, 0, 0, false), (S0, args, some (.int r.1), r.2), cs)
theorem v_X9_count : hVW yX9_count cX9_count 2 (some .int) RX9 1 := ⟨q_1560, q_1561, q_9, q_1562, by decide +kernel, by decide⟩
def f_X9_count (a0 : Nat) (a1 : Int32) (S : hS) : Option (Int32 × hS) :=
  hj (γ := Unit → Option (Int32 × hS)) (fun (_ : Unit) =>
    hck (S.K a0 = 10) <|
    hb2 (f_X9_isHall a0 S) fun t4 S3 =>
    if t4 = 0 then
      (some ((-1), S3))
    else
      (hbd (gR S3 a0 9 1) fun t6 =>
       hbd (gA S3 t6 12 5) fun t8 =>
       hb2 (f_X9_part t8 (a1 - 7) S3) fun t12 S11 =>
       some (t12, S11))
    ) fun J1 =>
  if a1 = 0 then
    (hbd (gR S a0 9 1) fun t15 =>
     hbd (gA S t15 12 0) fun t17 =>
     some (t17, S))
  else
    (if a1 = 1 then
       (hbd (gR S a0 9 1) fun t20 =>
        hbd (gA S t20 12 1) fun t22 =>
        some (t22, S))
     else
       (if a1 = 2 then
          (hbd (gR S a0 9 1) fun t25 =>
           hbd (gA S t25 12 2) fun t27 =>
           some (t27, S))
        else
          (if a1 = 3 then
             (hbd (gR S a0 9 1) fun t30 =>
              hbd (gA S t30 12 3) fun t32 =>
              some (t32, S))
           else
             (if a1 = 4 then
                (hbd (gR S a0 9 1) fun t35 =>
                 hbd (gA S t35 12 4) fun t37 =>
                 some (t37, S))
              else
                (if a1 = 5 then
                   (hbd (gI S a0 9 27) fun t40 =>
                    some (t40, S))
                 else
                   (if a1 = 6 then
                      (hbd (gR S a0 9 1) fun t43 =>
                       hbd (gA S t43 12 7) fun t45 =>
                       some (t45, S))
                    else
                      (if a1 = 7 then
                         (J1 ())
                       else
                         (if a1 = 8 then
                            (J1 ())
                          else
                            (if a1 = 9 then
                               (hck (S.K a0 = 10) <|
                                hb2 (f_X9_allHeat a0 S) fun t52 S51 =>
                                some (t52, S51))
                             else
                               (if a1 = 10 then
                                  (hbd (gR S a0 9 1) fun t55 =>
                                   hbd (gA S t55 12 8) fun t57 =>
                                   some (t57, S))
                                else
                                  (if a1 = 11 then
                                     (hbd (gR S a0 9 1) fun t60 =>
                                      hbd (gA S t60 12 9) fun t62 =>
                                      some (t62, S))
                                   else
                                     (if a1 = 12 then
                                        (hbd (gR S a0 9 1) fun t65 =>
                                         hbd (gA S t65 12 10) fun t67 =>
                                         some (t67, S))
                                      else
                                        (if a1 = 13 then
                                           (hbd (gR S a0 9 1) fun t70 =>
                                            hbd (gA S t70 12 13) fun t72 =>
                                            some (t72, S))
                                         else
                                           (if a1 = 14 then
                                              (hbd (gI S a0 9 23) fun t75 =>
                                               some (t75, S))
                                            else
                                              (if a1 = 15 then
                                                 (hbd (gR S a0 9 1) fun t78 =>
                                                  hbd (gA S t78 12 12) fun t80 =>
                                                  some (t80, S))
                                               else
                                                 (if a1 = 16 then
                                                    (hbd (gR S a0 9 1) fun t83 =>
                                                     hbd (gA S t83 12 11) fun t85 =>
                                                     some (t85, S))
                                                  else
                                                    (some ((-1), S))))))))))))))))))
set_option maxRecDepth 100000 in
set_option maxHeartbeats 4000000 in
theorem m_X9_count {d : Nat} {cs : Nat → Nat} {a0 : Nat} {a1 : Int32} {S : hS} {r : Int32 × hS} (hd : 2 ≤ d) (hf : f_X9_count a0 a1 S = some r) : HM yX9_count cX9_count 2 (some .int) d 0 0 cs [.ref a0, .int a1] S (some (.int r.1)) r.2 := by
  unfold f_X9_count at hf
  refine HM.ofHW false (by decide) (fun h => by cases h) (Nat.le_of_ble_eq_true rfl) ?_
  show HW cX9_count RX9 (x_X9_count d S [.ref a0, .int a1] r cs) 0 0 S 0 [(0, .ref a0), (1, .int a1)] []
  refine h_iload_n dX9_count_0 rfl 1 rfl ?_
  refine hj_s (fun J1 => ∀ (w : Unit), J1 w = some r → HW cX9_count RX9 (x_X9_count d S [.ref a0, .int a1] r cs) 0 0 S 132 [(0, .ref a0), (1, .int a1)] []) hf ?_ ?_
  · intro w hf
    refine h_aload_n dX9_count_132 rfl 0 rfl ?_
    obtain ⟨g13, hf⟩ := hck_s hf
    obtain ⟨t4, S3, h2, hf⟩ := hb2_s hf
    refine h_Vi [] (rest := []) (m_X9_isHall (d := 1) (cs := cs) (Nat.le_refl _) h2) v_X9_isHall q_1377 rfl (Nat.le_trans (by decide) hd) g13 rfl rfl (Nat.le_of_ble_eq_true rfl) dX9_count_133 (Nat.le_refl _) (Nat.le_refl _) ?_
    refine h_if_eq (tgt := 155) dX9_count_136 (by decide) (fun c5 => ?_) (fun c5 => ?_)
    · replace hf := hif_p c5 hf
      refine h_iconst (v := (-1)) dX9_count_155 rfl ?_
      obtain rfl := Option.some.inj hf
      exact h_iret rfl rfl rfl (Nat.le_refl _) (Nat.le_refl _) dX9_count_156
    · replace hf := hif_n c5 hf
      refine h_aload_n dX9_count_139 rfl 0 rfl ?_
      obtain ⟨t6, h7, hf⟩ := hbd_s hf
      refine h_getR h7 rfl (Nat.le_of_ble_eq_true rfl) rfl q_961 rfl dX9_count_140 ?_
      refine h_iconst (v := 5) dX9_count_143 rfl ?_
      obtain ⟨t8, h9, hf⟩ := hbd_s hf
      refine h_iald h9 dX9_count_144 ?_
      refine h_iload_n dX9_count_145 rfl 1 rfl ?_
      refine h_bipush (v := 7) dX9_count_146 rfl ?_
      refine h_isub dX9_count_148 ?_
      obtain ⟨t12, S11, h10, hf⟩ := hb2_s hf
      refine h_Si [.int t8, .int (a1 - 7)] (rest := []) (m_X9_part (d := 1) (cs := cs) (Nat.le_refl _) h10) v_X9_part q_1456 rfl (Nat.le_trans (by decide) hd) rfl (Nat.le_of_ble_eq_true rfl) dX9_count_149 (Nat.le_refl _) (Nat.le_refl _) ?_
      refine h_goto (tgt := 156) dX9_count_152 (by decide) ?_
      obtain rfl := Option.some.inj hf
      exact h_iret rfl rfl rfl (Nat.le_refl _) (Nat.le_refl _) dX9_count_156
  · intro J1 hJ1 hf
    by_cases c14 : a1 = 0
    · replace hf := hif_p c14 hf
      refine h_tabIn (tgt := 84) 0 (by rw [c14]; rfl) dX9_count_1 (by decide) (by decide) rfl (by decide) ?_
      refine h_aload_n dX9_count_84 rfl 0 rfl ?_
      obtain ⟨t15, h16, hf⟩ := hbd_s hf
      refine h_getR h16 rfl (Nat.le_of_ble_eq_true rfl) rfl q_961 rfl dX9_count_85 ?_
      refine h_iconst (v := 0) dX9_count_88 rfl ?_
      obtain ⟨t17, h18, hf⟩ := hbd_s hf
      refine h_iald h18 dX9_count_89 ?_
      obtain rfl := Option.some.inj hf
      exact h_iret rfl rfl rfl (Nat.le_refl _) (Nat.le_refl _) dX9_count_90
    · replace hf := hif_n c14 hf
      by_cases c19 : a1 = 1
      · replace hf := hif_p c19 hf
        refine h_tabIn (tgt := 91) 1 (by rw [c19]; rfl) dX9_count_1 (by decide) (by decide) rfl (by decide) ?_
        refine h_aload_n dX9_count_91 rfl 0 rfl ?_
        obtain ⟨t20, h21, hf⟩ := hbd_s hf
        refine h_getR h21 rfl (Nat.le_of_ble_eq_true rfl) rfl q_961 rfl dX9_count_92 ?_
        refine h_iconst (v := 1) dX9_count_95 rfl ?_
        obtain ⟨t22, h23, hf⟩ := hbd_s hf
        refine h_iald h23 dX9_count_96 ?_
        obtain rfl := Option.some.inj hf
        exact h_iret rfl rfl rfl (Nat.le_refl _) (Nat.le_refl _) dX9_count_97
      · replace hf := hif_n c19 hf
        by_cases c24 : a1 = 2
        · replace hf := hif_p c24 hf
          refine h_tabIn (tgt := 98) 2 (by rw [c24]; rfl) dX9_count_1 (by decide) (by decide) rfl (by decide) ?_
          refine h_aload_n dX9_count_98 rfl 0 rfl ?_
          obtain ⟨t25, h26, hf⟩ := hbd_s hf
          refine h_getR h26 rfl (Nat.le_of_ble_eq_true rfl) rfl q_961 rfl dX9_count_99 ?_
          refine h_iconst (v := 2) dX9_count_102 rfl ?_
          obtain ⟨t27, h28, hf⟩ := hbd_s hf
          refine h_iald h28 dX9_count_103 ?_
          obtain rfl := Option.some.inj hf
          exact h_iret rfl rfl rfl (Nat.le_refl _) (Nat.le_refl _) dX9_count_104
        · replace hf := hif_n c24 hf
          by_cases c29 : a1 = 3
          · replace hf := hif_p c29 hf
            refine h_tabIn (tgt := 105) 3 (by rw [c29]; rfl) dX9_count_1 (by decide) (by decide) rfl (by decide) ?_
            refine h_aload_n dX9_count_105 rfl 0 rfl ?_
            obtain ⟨t30, h31, hf⟩ := hbd_s hf
            refine h_getR h31 rfl (Nat.le_of_ble_eq_true rfl) rfl q_961 rfl dX9_count_106 ?_
            refine h_iconst (v := 3) dX9_count_109 rfl ?_
            obtain ⟨t32, h33, hf⟩ := hbd_s hf
            refine h_iald h33 dX9_count_110 ?_
            obtain rfl := Option.some.inj hf
            exact h_iret rfl rfl rfl (Nat.le_refl _) (Nat.le_refl _) dX9_count_111
          · replace hf := hif_n c29 hf
            by_cases c34 : a1 = 4
            · replace hf := hif_p c34 hf
              refine h_tabIn (tgt := 112) 4 (by rw [c34]; rfl) dX9_count_1 (by decide) (by decide) rfl (by decide) ?_
              refine h_aload_n dX9_count_112 rfl 0 rfl ?_
              obtain ⟨t35, h36, hf⟩ := hbd_s hf
              refine h_getR h36 rfl (Nat.le_of_ble_eq_true rfl) rfl q_961 rfl dX9_count_113 ?_
              refine h_iconst (v := 4) dX9_count_116 rfl ?_
              obtain ⟨t37, h38, hf⟩ := hbd_s hf
              refine h_iald h38 dX9_count_117 ?_
              obtain rfl := Option.some.inj hf
              exact h_iret rfl rfl rfl (Nat.le_refl _) (Nat.le_refl _) dX9_count_118
            · replace hf := hif_n c34 hf
              by_cases c39 : a1 = 5
              · replace hf := hif_p c39 hf
                refine h_tabIn (tgt := 119) 5 (by rw [c39]; rfl) dX9_count_1 (by decide) (by decide) rfl (by decide) ?_
                refine h_aload_n dX9_count_119 rfl 0 rfl ?_
                obtain ⟨t40, h41, hf⟩ := hbd_s hf
                refine h_getI h41 rfl (Nat.le_of_ble_eq_true rfl) rfl q_987 rfl dX9_count_120 ?_
                obtain rfl := Option.some.inj hf
                exact h_iret rfl rfl rfl (Nat.le_refl _) (Nat.le_refl _) dX9_count_123
              · replace hf := hif_n c39 hf
                by_cases c42 : a1 = 6
                · replace hf := hif_p c42 hf
                  refine h_tabIn (tgt := 124) 6 (by rw [c42]; rfl) dX9_count_1 (by decide) (by decide) rfl (by decide) ?_
                  refine h_aload_n dX9_count_124 rfl 0 rfl ?_
                  obtain ⟨t43, h44, hf⟩ := hbd_s hf
                  refine h_getR h44 rfl (Nat.le_of_ble_eq_true rfl) rfl q_961 rfl dX9_count_125 ?_
                  refine h_bipush (v := 7) dX9_count_128 rfl ?_
                  obtain ⟨t45, h46, hf⟩ := hbd_s hf
                  refine h_iald h46 dX9_count_130 ?_
                  obtain rfl := Option.some.inj hf
                  exact h_iret rfl rfl rfl (Nat.le_refl _) (Nat.le_refl _) dX9_count_131
                · replace hf := hif_n c42 hf
                  by_cases c47 : a1 = 7
                  · replace hf := hif_p c47 hf
                    refine h_tabIn (tgt := 132) 7 (by rw [c47]; rfl) dX9_count_1 (by decide) (by decide) rfl (by decide) ?_
                    exact hJ1 () hf
                  · replace hf := hif_n c47 hf
                    by_cases c48 : a1 = 8
                    · replace hf := hif_p c48 hf
                      refine h_tabIn (tgt := 132) 8 (by rw [c48]; rfl) dX9_count_1 (by decide) (by decide) rfl (by decide) ?_
                      exact hJ1 () hf
                    · replace hf := hif_n c48 hf
                      by_cases c49 : a1 = 9
                      · replace hf := hif_p c49 hf
                        refine h_tabIn (tgt := 157) 9 (by rw [c49]; rfl) dX9_count_1 (by decide) (by decide) rfl (by decide) ?_
                        refine h_aload_n dX9_count_157 rfl 0 rfl ?_
                        obtain ⟨g53, hf⟩ := hck_s hf
                        obtain ⟨t52, S51, h50, hf⟩ := hb2_s hf
                        refine h_Vi [] (rest := []) (m_X9_allHeat (d := 1) (cs := cs) (Nat.le_refl _) h50) v_X9_allHeat q_1243 rfl (Nat.le_trans (by decide) hd) g53 rfl rfl (Nat.le_of_ble_eq_true rfl) dX9_count_158 (Nat.le_refl _) (Nat.le_refl _) ?_
                        obtain rfl := Option.some.inj hf
                        exact h_iret rfl rfl rfl (Nat.le_refl _) (Nat.le_refl _) dX9_count_161
                      · replace hf := hif_n c49 hf
                        by_cases c54 : a1 = 10
                        · replace hf := hif_p c54 hf
                          refine h_tabIn (tgt := 162) 10 (by rw [c54]; rfl) dX9_count_1 (by decide) (by decide) rfl (by decide) ?_
                          refine h_aload_n dX9_count_162 rfl 0 rfl ?_
                          obtain ⟨t55, h56, hf⟩ := hbd_s hf
                          refine h_getR h56 rfl (Nat.le_of_ble_eq_true rfl) rfl q_961 rfl dX9_count_163 ?_
                          refine h_bipush (v := 8) dX9_count_166 rfl ?_
                          obtain ⟨t57, h58, hf⟩ := hbd_s hf
                          refine h_iald h58 dX9_count_168 ?_
                          obtain rfl := Option.some.inj hf
                          exact h_iret rfl rfl rfl (Nat.le_refl _) (Nat.le_refl _) dX9_count_169
                        · replace hf := hif_n c54 hf
                          by_cases c59 : a1 = 11
                          · replace hf := hif_p c59 hf
                            refine h_tabIn (tgt := 170) 11 (by rw [c59]; rfl) dX9_count_1 (by decide) (by decide) rfl (by decide) ?_
                            refine h_aload_n dX9_count_170 rfl 0 rfl ?_
                            obtain ⟨t60, h61, hf⟩ := hbd_s hf
                            refine h_getR h61 rfl (Nat.le_of_ble_eq_true rfl) rfl q_961 rfl dX9_count_171 ?_
                            refine h_bipush (v := 9) dX9_count_174 rfl ?_
                            obtain ⟨t62, h63, hf⟩ := hbd_s hf
                            refine h_iald h63 dX9_count_176 ?_
                            obtain rfl := Option.some.inj hf
                            exact h_iret rfl rfl rfl (Nat.le_refl _) (Nat.le_refl _) dX9_count_177
                          · replace hf := hif_n c59 hf
                            by_cases c64 : a1 = 12
                            · replace hf := hif_p c64 hf
                              refine h_tabIn (tgt := 178) 12 (by rw [c64]; rfl) dX9_count_1 (by decide) (by decide) rfl (by decide) ?_
                              refine h_aload_n dX9_count_178 rfl 0 rfl ?_
                              obtain ⟨t65, h66, hf⟩ := hbd_s hf
                              refine h_getR h66 rfl (Nat.le_of_ble_eq_true rfl) rfl q_961 rfl dX9_count_179 ?_
                              refine h_bipush (v := 10) dX9_count_182 rfl ?_
                              obtain ⟨t67, h68, hf⟩ := hbd_s hf
                              refine h_iald h68 dX9_count_184 ?_
                              obtain rfl := Option.some.inj hf
                              exact h_iret rfl rfl rfl (Nat.le_refl _) (Nat.le_refl _) dX9_count_185
                            · replace hf := hif_n c64 hf
                              by_cases c69 : a1 = 13
                              · replace hf := hif_p c69 hf
                                refine h_tabIn (tgt := 186) 13 (by rw [c69]; rfl) dX9_count_1 (by decide) (by decide) rfl (by decide) ?_
                                refine h_aload_n dX9_count_186 rfl 0 rfl ?_
                                obtain ⟨t70, h71, hf⟩ := hbd_s hf
                                refine h_getR h71 rfl (Nat.le_of_ble_eq_true rfl) rfl q_961 rfl dX9_count_187 ?_
                                refine h_bipush (v := 13) dX9_count_190 rfl ?_
                                obtain ⟨t72, h73, hf⟩ := hbd_s hf
                                refine h_iald h73 dX9_count_192 ?_
                                obtain rfl := Option.some.inj hf
                                exact h_iret rfl rfl rfl (Nat.le_refl _) (Nat.le_refl _) dX9_count_193
                              · replace hf := hif_n c69 hf
                                by_cases c74 : a1 = 14
                                · replace hf := hif_p c74 hf
                                  refine h_tabIn (tgt := 194) 14 (by rw [c74]; rfl) dX9_count_1 (by decide) (by decide) rfl (by decide) ?_
                                  refine h_aload_n dX9_count_194 rfl 0 rfl ?_
                                  obtain ⟨t75, h76, hf⟩ := hbd_s hf
                                  refine h_getI h76 rfl (Nat.le_of_ble_eq_true rfl) rfl q_983 rfl dX9_count_195 ?_
                                  obtain rfl := Option.some.inj hf
                                  exact h_iret rfl rfl rfl (Nat.le_refl _) (Nat.le_refl _) dX9_count_198
                                · replace hf := hif_n c74 hf
                                  by_cases c77 : a1 = 15
                                  · replace hf := hif_p c77 hf
                                    refine h_tabIn (tgt := 199) 15 (by rw [c77]; rfl) dX9_count_1 (by decide) (by decide) rfl (by decide) ?_
                                    refine h_aload_n dX9_count_199 rfl 0 rfl ?_
                                    obtain ⟨t78, h79, hf⟩ := hbd_s hf
                                    refine h_getR h79 rfl (Nat.le_of_ble_eq_true rfl) rfl q_961 rfl dX9_count_200 ?_
                                    refine h_bipush (v := 12) dX9_count_203 rfl ?_
                                    obtain ⟨t80, h81, hf⟩ := hbd_s hf
                                    refine h_iald h81 dX9_count_205 ?_
                                    obtain rfl := Option.some.inj hf
                                    exact h_iret rfl rfl rfl (Nat.le_refl _) (Nat.le_refl _) dX9_count_206
                                  · replace hf := hif_n c77 hf
                                    by_cases c82 : a1 = 16
                                    · replace hf := hif_p c82 hf
                                      refine h_tabIn (tgt := 207) 16 (by rw [c82]; rfl) dX9_count_1 (by decide) (by decide) rfl (by decide) ?_
                                      refine h_aload_n dX9_count_207 rfl 0 rfl ?_
                                      obtain ⟨t83, h84, hf⟩ := hbd_s hf
                                      refine h_getR h84 rfl (Nat.le_of_ble_eq_true rfl) rfl q_961 rfl dX9_count_208 ?_
                                      refine h_bipush (v := 11) dX9_count_211 rfl ?_
                                      obtain ⟨t85, h86, hf⟩ := hbd_s hf
                                      refine h_iald h86 dX9_count_213 ?_
                                      obtain rfl := Option.some.inj hf
                                      exact h_iret rfl rfl rfl (Nat.le_refl _) (Nat.le_refl _) dX9_count_214
                                    · replace hf := hif_n c82 hf
                                      refine h_tabOut (tgt := 215) dX9_count_1 (by have g0 := hne_t (a := 0) c14 rfl; have g1 := hne_t (a := 1) c19 rfl; have g2 := hne_t (a := 2) c24 rfl; have g3 := hne_t (a := 3) c29 rfl; have g4 := hne_t (a := 4) c34 rfl; have g5 := hne_t (a := 5) c39 rfl; have g6 := hne_t (a := 6) c42 rfl; have g7 := hne_t (a := 7) c47 rfl; have g8 := hne_t (a := 8) c48 rfl; have g9 := hne_t (a := 9) c49 rfl; have g10 := hne_t (a := 10) c54 rfl; have g11 := hne_t (a := 11) c59 rfl; have g12 := hne_t (a := 12) c64 rfl; have g13 := hne_t (a := 13) c69 rfl; have g14 := hne_t (a := 14) c74 rfl; have g15 := hne_t (a := 15) c77 rfl; have g16 := hne_t (a := 16) c82 rfl; omega) (by decide) ?_
                                      refine h_iconst (v := (-1)) dX9_count_215 rfl ?_
                                      obtain rfl := Option.some.inj hf
                                      exact h_iret rfl rfl rfl (Nat.le_refl _) (Nat.le_refl _) dX9_count_216
abbrev x_X9_carry (d : Nat) (S0 : hS) (args : List Value) (r : hS) (cs : Nat → Nat) : hX := ((none, 3, d, 0, 0, false), (S0, args, none, r), cs)
theorem v_X9_carry : hVW yX9_carry cX9_carry 3 none RX9 1 := ⟨q_1573, q_s95, q_9, q_1574, by decide +kernel, by decide⟩
def f_X9_carry_L2 : Nat → Nat → Nat → Int32 → hS → (hS → Option (hS)) → Option (hS)
  | 0, _, _, _, _, _ => none
  | n + 1, x0, x1, x2, S, k0 =>
    hbd (gN S x1) fun t1 =>
    if t1 ≤ x2 then
      (k0 S)
    else
      (hbd (gI S x0 9 62) fun t4 =>
       hj (γ := hS → Option (hS)) (fun (S7 : hS) =>
         hbd (gI S7 x0 9 61) fun t8 =>
         hbd (sI S7 x0 9 61 (t8 + 1)) fun S10 =>
         f_X9_carry_L2 n x0 x1 (x2 + 1) S10 k0
         ) fun J6 =>
       if t4 = 0 then
         (hbd (gR S x0 9 59) fun t13 =>
          hbd (gI S x0 9 61) fun t15 =>
          hbd (gA S x1 12 x2) fun t17 =>
          hbd (sA S t13 t15 t17) fun S19 =>
          J6 S19)
       else
         (hbd (gR S x0 9 59) fun t21 =>
          hbd (gI S x0 9 61) fun t23 =>
          hbd (gA S t21 12 t23) fun t25 =>
          hbd (sA S x1 x2 t25) fun S27 =>
          J6 S27))
def f_X9_carry (a0 : Nat) (a1 : Nat) (S : hS) : Option (hS) :=
  f_X9_carry_L2 hfuel a0 a1 0 S
    (fun S29 =>
      some S29
    )
set_option maxRecDepth 100000 in
set_option maxHeartbeats 4000000 in
theorem w_X9_carry_L2 {d : Nat} {S0 : hS} {args : List Value} {cs : Nat → Nat} {r : hS} (hd : 1 ≤ d) : ∀ (n : Nat) (x0 : Nat) (x1 : Nat) (x2 : Int32) (S : hS) (k0 : (hS → Option (hS))) , f_X9_carry_L2 n x0 x1 x2 S k0 = some r → (∀ (T : hS), k0 T = some r → HW cX9_carry RX9 (x_X9_carry d S0 args r cs) 0 0 T 58 [] []) → HW cX9_carry RX9 (x_X9_carry d S0 args r cs) 0 0 S 2 [(0, .ref x0), (1, .ref x1), (2, .int x2)] [] := by
  intro n
  induction n with
  | zero =>
    intro x0 x1 x2 S k0 hf
    cases hf
  | succ n ih =>
    intro x0 x1 x2 S k0 hf hk0
    rw [f_X9_carry_L2] at hf
    refine h_iload_n dX9_carry_2 rfl 2 rfl ?_
    refine h_aload_n dX9_carry_3 rfl 1 rfl ?_
    obtain ⟨t1, h2, hf⟩ := hbd_s hf
    refine h_alen h2 dX9_carry_4 ?_
    refine h_icmp_ge (tgt := 58) dX9_carry_5 (by decide) (fun c3 => ?_) (fun c3 => ?_)
    · replace hf := hif_p c3 hf
      refine h_sub (lv2 := []) [] rfl ?_
      exact hk0 S hf
    · replace hf := hif_n c3 hf
      refine h_aload_n dX9_carry_8 rfl 0 rfl ?_
      obtain ⟨t4, h5, hf⟩ := hbd_s hf
      refine h_getI h5 rfl (Nat.le_of_ble_eq_true rfl) rfl q_1022 rfl dX9_carry_9 ?_
      refine hj_s (fun J6 => ∀ (S7 : hS), J6 S7 = some r → HW cX9_carry RX9 (x_X9_carry d S0 args r cs) 0 0 S7 42 [(0, .ref x0), (1, .ref x1), (2, .int x2)] []) hf ?_ ?_
      · intro S7 hf
        refine h_aload_n dX9_carry_42 rfl 0 rfl ?_
        refine h_dup dX9_carry_43 rfl ?_
        obtain ⟨t8, h9, hf⟩ := hbd_s hf
        refine h_getI h9 rfl (Nat.le_of_ble_eq_true rfl) rfl q_1021 rfl dX9_carry_44 ?_
        refine h_iconst (v := 1) dX9_carry_47 rfl ?_
        refine h_iadd dX9_carry_48 ?_
        obtain ⟨S10, h11, hf⟩ := hbd_s hf
        refine h_putI h11 rfl (Nat.le_of_ble_eq_true rfl) rfl q_1021 rfl rfl (by decide +kernel) dX9_carry_49 ?_
        refine h_iinc (q := 2) (v := x2 + 1) (lv2 := [(2, .int (x2 + 1)), (0, .ref x0), (1, .ref x1)]) dX9_carry_52 rfl rfl (Nat.le_of_ble_eq_true rfl) rfl ?_
        refine h_goto (tgt := 2) dX9_carry_55 (by decide) ?_
        refine h_sub (lv2 := [(0, .ref x0), (1, .ref x1), (2, .int (x2 + 1))]) [1, 2, 0] rfl ?_
        exact ih x0 x1 (x2 + 1) S10 k0  hf hk0
      · intro J6 hJ6 hf
        refine h_if_eq (tgt := 30) dX9_carry_12 (by decide) (fun c12 => ?_) (fun c12 => ?_)
        · replace hf := hif_p c12 hf
          refine h_aload_n dX9_carry_30 rfl 0 rfl ?_
          obtain ⟨t13, h14, hf⟩ := hbd_s hf
          refine h_getR h14 rfl (Nat.le_of_ble_eq_true rfl) rfl q_1019 rfl dX9_carry_31 ?_
          refine h_aload_n dX9_carry_34 rfl 0 rfl ?_
          obtain ⟨t15, h16, hf⟩ := hbd_s hf
          refine h_getI h16 rfl (Nat.le_of_ble_eq_true rfl) rfl q_1021 rfl dX9_carry_35 ?_
          refine h_aload_n dX9_carry_38 rfl 1 rfl ?_
          refine h_iload_n dX9_carry_39 rfl 2 rfl ?_
          obtain ⟨t17, h18, hf⟩ := hbd_s hf
          refine h_iald h18 dX9_carry_40 ?_
          obtain ⟨S19, h20, hf⟩ := hbd_s hf
          refine h_iast h20 dX9_carry_41 ?_
          exact hJ6 S19 hf
        · replace hf := hif_n c12 hf
          refine h_aload_n dX9_carry_15 rfl 1 rfl ?_
          refine h_iload_n dX9_carry_16 rfl 2 rfl ?_
          refine h_aload_n dX9_carry_17 rfl 0 rfl ?_
          obtain ⟨t21, h22, hf⟩ := hbd_s hf
          refine h_getR h22 rfl (Nat.le_of_ble_eq_true rfl) rfl q_1019 rfl dX9_carry_18 ?_
          refine h_aload_n dX9_carry_21 rfl 0 rfl ?_
          obtain ⟨t23, h24, hf⟩ := hbd_s hf
          refine h_getI h24 rfl (Nat.le_of_ble_eq_true rfl) rfl q_1021 rfl dX9_carry_22 ?_
          obtain ⟨t25, h26, hf⟩ := hbd_s hf
          refine h_iald h26 dX9_carry_25 ?_
          obtain ⟨S27, h28, hf⟩ := hbd_s hf
          refine h_iast h28 dX9_carry_26 ?_
          refine h_goto (tgt := 42) dX9_carry_27 (by decide) ?_
          exact hJ6 S27 hf
set_option maxRecDepth 100000 in
set_option maxHeartbeats 4000000 in
theorem m_X9_carry {d : Nat} {cs : Nat → Nat} {a0 : Nat} {a1 : Nat} {S : hS} {r : hS} (hd : 1 ≤ d) (hf : f_X9_carry a0 a1 S = some r) : HM yX9_carry cX9_carry 3 none d 0 0 cs [.ref a0, .ref a1] S (none) r := by
  unfold f_X9_carry at hf
  refine HM.ofHW false (by decide) (fun h => by cases h) (Nat.le_of_ble_eq_true rfl) ?_
  show HW cX9_carry RX9 (x_X9_carry d S [.ref a0, .ref a1] r cs) 0 0 S 0 [(0, .ref a0), (1, .ref a1)] []
  refine h_iconst (v := 0) dX9_carry_0 rfl ?_
  refine h_istore_n (lv2 := [(2, .int 0), (0, .ref a0), (1, .ref a1)]) dX9_carry_1 rfl (Nat.le_of_ble_eq_true rfl) rfl ?_
  refine h_sub (lv2 := [(0, .ref a0), (1, .ref a1), (2, .int 0)]) [1, 2, 0] rfl ?_
  refine w_X9_carry_L2 hd hfuel a0 a1 0 S _  hf ?_
  · intro S29 hf
    obtain rfl := Option.some.inj hf
    exact h_vret rfl rfl rfl (Nat.le_refl _) (Nat.le_refl _) dX9_carry_58
abbrev x_X9_carriesAll (d : Nat) (S0 : hS) (args : List Value) (r : hS) (cs : Nat → Nat) : hX := ((none, 3, d, 0, 0, false), (S0, args, none, r), cs)
theorem v_X9_carriesAll : hVW yX9_carriesAll cX9_carriesAll 3 none RX9 2 := ⟨q_1569, q_s94, q_9, q_1570, by decide +kernel, by decide⟩
def f_X9_carriesAll (a0 : Nat) (a1 : Int32) (a2 : Int32) (S : hS) : Option (hS) :=
  hbd (sI S a0 9 61 (310 * a1)) fun S1 =>
  hbd (sZ S1 a0 9 62 a2) fun S3 =>
  hbd (gR S3 a0 9 1) fun t5 =>
  hck (S3.K a0 = 10) <|
  hbd (f_X9_carry a0 t5 S3) fun S8 =>
  hbd (gR S8 a0 9 2) fun t9 =>
  hck (S8.K a0 = 10) <|
  hbd (f_X9_carry a0 t9 S8) fun S12 =>
  hbd (gR S12 a0 9 3) fun t13 =>
  hck (S12.K a0 = 10) <|
  hbd (f_X9_carry a0 t13 S12) fun S16 =>
  hbd (gR S16 a0 9 4) fun t17 =>
  hck (S16.K a0 = 10) <|
  hbd (f_X9_carry a0 t17 S16) fun S20 =>
  hbd (gR S20 a0 9 5) fun t21 =>
  hck (S20.K a0 = 10) <|
  hbd (f_X9_carry a0 t21 S20) fun S24 =>
  hbd (gR S24 a0 9 6) fun t25 =>
  hck (S24.K a0 = 10) <|
  hbd (f_X9_carry a0 t25 S24) fun S28 =>
  hbd (gR S28 a0 9 7) fun t29 =>
  hck (S28.K a0 = 10) <|
  hbd (f_X9_carry a0 t29 S28) fun S32 =>
  hbd (gR S32 a0 9 8) fun t33 =>
  hck (S32.K a0 = 10) <|
  hbd (f_X9_carry a0 t33 S32) fun S36 =>
  hbd (gR S36 a0 9 9) fun t37 =>
  hck (S36.K a0 = 10) <|
  hbd (f_X9_carry a0 t37 S36) fun S40 =>
  hbd (gR S40 a0 9 10) fun t41 =>
  hck (S40.K a0 = 10) <|
  hbd (f_X9_carry a0 t41 S40) fun S44 =>
  hbd (gR S44 a0 9 11) fun t45 =>
  hck (S44.K a0 = 10) <|
  hbd (f_X9_carry a0 t45 S44) fun S48 =>
  hbd (gR S48 a0 9 12) fun t49 =>
  hck (S48.K a0 = 10) <|
  hbd (f_X9_carry a0 t49 S48) fun S52 =>
  some S52
set_option maxRecDepth 100000 in
set_option maxHeartbeats 4000000 in
theorem m_X9_carriesAll {d : Nat} {cs : Nat → Nat} {a0 : Nat} {a1 : Int32} {a2 : Int32} {S : hS} {r : hS} (hd : 2 ≤ d) (hf : f_X9_carriesAll a0 a1 a2 S = some r) : HM yX9_carriesAll cX9_carriesAll 3 none d 0 0 cs [.ref a0, .int a1, .int a2] S (none) r := by
  unfold f_X9_carriesAll at hf
  refine HM.ofHW false (by decide) (fun h => by cases h) (Nat.le_of_ble_eq_true rfl) ?_
  show HW cX9_carriesAll RX9 (x_X9_carriesAll d S [.ref a0, .int a1, .int a2] r cs) 0 0 S 0 [(0, .ref a0), (1, .int a1), (2, .int a2)] []
  refine h_aload_n dX9_carriesAll_0 rfl 0 rfl ?_
  refine h_sipush (v := 310) dX9_carriesAll_1 rfl ?_
  refine h_iload_n dX9_carriesAll_4 rfl 1 rfl ?_
  refine h_imul dX9_carriesAll_5 ?_
  obtain ⟨S1, h2, hf⟩ := hbd_s hf
  refine h_putI h2 rfl (Nat.le_of_ble_eq_true rfl) rfl q_1021 rfl rfl (by decide +kernel) dX9_carriesAll_6 ?_
  refine h_aload_n dX9_carriesAll_9 rfl 0 rfl ?_
  refine h_iload_n dX9_carriesAll_10 rfl 2 rfl ?_
  obtain ⟨S3, h4, hf⟩ := hbd_s hf
  refine h_putZ h4 rfl (Nat.le_of_ble_eq_true rfl) rfl q_1022 rfl rfl (by decide +kernel) dX9_carriesAll_11 ?_
  refine h_aload_n dX9_carriesAll_14 rfl 0 rfl ?_
  refine h_aload_n dX9_carriesAll_15 rfl 0 rfl ?_
  obtain ⟨t5, h6, hf⟩ := hbd_s hf
  refine h_getR h6 rfl (Nat.le_of_ble_eq_true rfl) rfl q_961 rfl dX9_carriesAll_16 ?_
  obtain ⟨g64, hf⟩ := hck_s hf
  obtain ⟨S8, h7, hf⟩ := hbd_s hf
  refine h_Vv [.ref t5] (rest := []) (m_X9_carry (d := 1) (cs := cs) (Nat.le_refl _) h7) v_X9_carry q_1571 rfl (Nat.le_trans (by decide) hd) g64 rfl rfl (Nat.le_of_ble_eq_true rfl) dX9_carriesAll_19 (Nat.le_refl _) (Nat.le_refl _) ?_
  refine h_aload_n dX9_carriesAll_22 rfl 0 rfl ?_
  refine h_aload_n dX9_carriesAll_23 rfl 0 rfl ?_
  obtain ⟨t9, h10, hf⟩ := hbd_s hf
  refine h_getR h10 rfl (Nat.le_of_ble_eq_true rfl) rfl q_962 rfl dX9_carriesAll_24 ?_
  obtain ⟨g63, hf⟩ := hck_s hf
  obtain ⟨S12, h11, hf⟩ := hbd_s hf
  refine h_Vv [.ref t9] (rest := []) (m_X9_carry (d := 1) (cs := cs) (Nat.le_refl _) h11) v_X9_carry q_1571 rfl (Nat.le_trans (by decide) hd) g63 rfl rfl (Nat.le_of_ble_eq_true rfl) dX9_carriesAll_27 (Nat.le_refl _) (Nat.le_refl _) ?_
  refine h_aload_n dX9_carriesAll_30 rfl 0 rfl ?_
  refine h_aload_n dX9_carriesAll_31 rfl 0 rfl ?_
  obtain ⟨t13, h14, hf⟩ := hbd_s hf
  refine h_getR h14 rfl (Nat.le_of_ble_eq_true rfl) rfl q_963 rfl dX9_carriesAll_32 ?_
  obtain ⟨g62, hf⟩ := hck_s hf
  obtain ⟨S16, h15, hf⟩ := hbd_s hf
  refine h_Vv [.ref t13] (rest := []) (m_X9_carry (d := 1) (cs := cs) (Nat.le_refl _) h15) v_X9_carry q_1571 rfl (Nat.le_trans (by decide) hd) g62 rfl rfl (Nat.le_of_ble_eq_true rfl) dX9_carriesAll_35 (Nat.le_refl _) (Nat.le_refl _) ?_
  refine h_aload_n dX9_carriesAll_38 rfl 0 rfl ?_
  refine h_aload_n dX9_carriesAll_39 rfl 0 rfl ?_
  obtain ⟨t17, h18, hf⟩ := hbd_s hf
  refine h_getR h18 rfl (Nat.le_of_ble_eq_true rfl) rfl q_964 rfl dX9_carriesAll_40 ?_
  obtain ⟨g61, hf⟩ := hck_s hf
  obtain ⟨S20, h19, hf⟩ := hbd_s hf
  refine h_Vv [.ref t17] (rest := []) (m_X9_carry (d := 1) (cs := cs) (Nat.le_refl _) h19) v_X9_carry q_1571 rfl (Nat.le_trans (by decide) hd) g61 rfl rfl (Nat.le_of_ble_eq_true rfl) dX9_carriesAll_43 (Nat.le_refl _) (Nat.le_refl _) ?_
  refine h_aload_n dX9_carriesAll_46 rfl 0 rfl ?_
  refine h_aload_n dX9_carriesAll_47 rfl 0 rfl ?_
  obtain ⟨t21, h22, hf⟩ := hbd_s hf
  refine h_getR h22 rfl (Nat.le_of_ble_eq_true rfl) rfl q_965 rfl dX9_carriesAll_48 ?_
  obtain ⟨g60, hf⟩ := hck_s hf
  obtain ⟨S24, h23, hf⟩ := hbd_s hf
  refine h_Vv [.ref t21] (rest := []) (m_X9_carry (d := 1) (cs := cs) (Nat.le_refl _) h23) v_X9_carry q_1571 rfl (Nat.le_trans (by decide) hd) g60 rfl rfl (Nat.le_of_ble_eq_true rfl) dX9_carriesAll_51 (Nat.le_refl _) (Nat.le_refl _) ?_
  refine h_aload_n dX9_carriesAll_54 rfl 0 rfl ?_
  refine h_aload_n dX9_carriesAll_55 rfl 0 rfl ?_
  obtain ⟨t25, h26, hf⟩ := hbd_s hf
  refine h_getR h26 rfl (Nat.le_of_ble_eq_true rfl) rfl q_966 rfl dX9_carriesAll_56 ?_
  obtain ⟨g59, hf⟩ := hck_s hf
  obtain ⟨S28, h27, hf⟩ := hbd_s hf
  refine h_Vv [.ref t25] (rest := []) (m_X9_carry (d := 1) (cs := cs) (Nat.le_refl _) h27) v_X9_carry q_1571 rfl (Nat.le_trans (by decide) hd) g59 rfl rfl (Nat.le_of_ble_eq_true rfl) dX9_carriesAll_59 (Nat.le_refl _) (Nat.le_refl _) ?_
  refine h_aload_n dX9_carriesAll_62 rfl 0 rfl ?_
  refine h_aload_n dX9_carriesAll_63 rfl 0 rfl ?_
  obtain ⟨t29, h30, hf⟩ := hbd_s hf
  refine h_getR h30 rfl (Nat.le_of_ble_eq_true rfl) rfl q_967 rfl dX9_carriesAll_64 ?_
  obtain ⟨g58, hf⟩ := hck_s hf
  obtain ⟨S32, h31, hf⟩ := hbd_s hf
  refine h_Vv [.ref t29] (rest := []) (m_X9_carry (d := 1) (cs := cs) (Nat.le_refl _) h31) v_X9_carry q_1571 rfl (Nat.le_trans (by decide) hd) g58 rfl rfl (Nat.le_of_ble_eq_true rfl) dX9_carriesAll_67 (Nat.le_refl _) (Nat.le_refl _) ?_
  refine h_aload_n dX9_carriesAll_70 rfl 0 rfl ?_
  refine h_aload_n dX9_carriesAll_71 rfl 0 rfl ?_
  obtain ⟨t33, h34, hf⟩ := hbd_s hf
  refine h_getR h34 rfl (Nat.le_of_ble_eq_true rfl) rfl q_968 rfl dX9_carriesAll_72 ?_
  obtain ⟨g57, hf⟩ := hck_s hf
  obtain ⟨S36, h35, hf⟩ := hbd_s hf
  refine h_Vv [.ref t33] (rest := []) (m_X9_carry (d := 1) (cs := cs) (Nat.le_refl _) h35) v_X9_carry q_1571 rfl (Nat.le_trans (by decide) hd) g57 rfl rfl (Nat.le_of_ble_eq_true rfl) dX9_carriesAll_75 (Nat.le_refl _) (Nat.le_refl _) ?_
  refine h_aload_n dX9_carriesAll_78 rfl 0 rfl ?_
  refine h_aload_n dX9_carriesAll_79 rfl 0 rfl ?_
  obtain ⟨t37, h38, hf⟩ := hbd_s hf
  refine h_getR h38 rfl (Nat.le_of_ble_eq_true rfl) rfl q_969 rfl dX9_carriesAll_80 ?_
  obtain ⟨g56, hf⟩ := hck_s hf
  obtain ⟨S40, h39, hf⟩ := hbd_s hf
  refine h_Vv [.ref t37] (rest := []) (m_X9_carry (d := 1) (cs := cs) (Nat.le_refl _) h39) v_X9_carry q_1571 rfl (Nat.le_trans (by decide) hd) g56 rfl rfl (Nat.le_of_ble_eq_true rfl) dX9_carriesAll_83 (Nat.le_refl _) (Nat.le_refl _) ?_
  refine h_aload_n dX9_carriesAll_86 rfl 0 rfl ?_
  refine h_aload_n dX9_carriesAll_87 rfl 0 rfl ?_
  obtain ⟨t41, h42, hf⟩ := hbd_s hf
  refine h_getR h42 rfl (Nat.le_of_ble_eq_true rfl) rfl q_970 rfl dX9_carriesAll_88 ?_
  obtain ⟨g55, hf⟩ := hck_s hf
  obtain ⟨S44, h43, hf⟩ := hbd_s hf
  refine h_Vv [.ref t41] (rest := []) (m_X9_carry (d := 1) (cs := cs) (Nat.le_refl _) h43) v_X9_carry q_1571 rfl (Nat.le_trans (by decide) hd) g55 rfl rfl (Nat.le_of_ble_eq_true rfl) dX9_carriesAll_91 (Nat.le_refl _) (Nat.le_refl _) ?_
  refine h_aload_n dX9_carriesAll_94 rfl 0 rfl ?_
  refine h_aload_n dX9_carriesAll_95 rfl 0 rfl ?_
  obtain ⟨t45, h46, hf⟩ := hbd_s hf
  refine h_getR h46 rfl (Nat.le_of_ble_eq_true rfl) rfl q_971 rfl dX9_carriesAll_96 ?_
  obtain ⟨g54, hf⟩ := hck_s hf
  obtain ⟨S48, h47, hf⟩ := hbd_s hf
  refine h_Vv [.ref t45] (rest := []) (m_X9_carry (d := 1) (cs := cs) (Nat.le_refl _) h47) v_X9_carry q_1571 rfl (Nat.le_trans (by decide) hd) g54 rfl rfl (Nat.le_of_ble_eq_true rfl) dX9_carriesAll_99 (Nat.le_refl _) (Nat.le_refl _) ?_
  refine h_aload_n dX9_carriesAll_102 rfl 0 rfl ?_
  refine h_aload_n dX9_carriesAll_103 rfl 0 rfl ?_
  obtain ⟨t49, h50, hf⟩ := hbd_s hf
  refine h_getR h50 rfl (Nat.le_of_ble_eq_true rfl) rfl q_972 rfl dX9_carriesAll_104 ?_
  obtain ⟨g53, hf⟩ := hck_s hf
  obtain ⟨S52, h51, hf⟩ := hbd_s hf
  refine h_Vv [.ref t49] (rest := []) (m_X9_carry (d := 1) (cs := cs) (Nat.le_refl _) h51) v_X9_carry q_1571 rfl (Nat.le_trans (by decide) hd) g53 rfl rfl (Nat.le_of_ble_eq_true rfl) dX9_carriesAll_107 (Nat.le_refl _) (Nat.le_refl _) ?_
  obtain rfl := Option.some.inj hf
  exact h_vret rfl rfl rfl (Nat.le_refl _) (Nat.le_refl _) dX9_carriesAll_110
abbrev x_X9_image (d : Nat) (S0 : hS) (args : List Value) (r : Int32 × hS) (cs : Nat → Nat) : hX := (((some .int), 2, d, 0, 0, false), (S0, args, some (.int r.1), r.2), cs)
theorem v_X9_image : hVW yX9_image cX9_image 2 (some .int) RX9 1 := ⟨q_1564, q_1565, q_9, q_1566, by decide +kernel, by decide⟩
def f_X9_image (a0 : Nat) (a1 : Int32) (S : hS) : Option (Int32 × hS) :=
  hb2 (f_X9_in (Int32.toInt64 a1) 0 3 S) fun t3 S2 =>
  if t3 = 0 then
    (some ((-1), S2))
  else
    (hbd (gR S2 a0 9 60) fun t5 =>
     hbd (sAZ S2 t5 a1 1) fun S7 =>
     hck (S7.K a0 = 10) <|
     hbd (f_X9_carriesAll a0 a1 0 S7) fun S10 =>
     hbd (gR S10 a0 9 1) fun t11 =>
     hbd (gA S10 t11 12 7) fun t13 =>
     some (t13, S10))
set_option maxRecDepth 100000 in
set_option maxHeartbeats 4000000 in
theorem m_X9_image {d : Nat} {cs : Nat → Nat} {a0 : Nat} {a1 : Int32} {S : hS} {r : Int32 × hS} (hd : 3 ≤ d) (hf : f_X9_image a0 a1 S = some r) : HM yX9_image cX9_image 2 (some .int) d 0 0 cs [.ref a0, .int a1] S (some (.int r.1)) r.2 := by
  unfold f_X9_image at hf
  refine HM.ofHW false (by decide) (fun h => by cases h) (Nat.le_of_ble_eq_true rfl) ?_
  show HW cX9_image RX9 (x_X9_image d S [.ref a0, .int a1] r cs) 0 0 S 0 [(0, .ref a0), (1, .int a1)] []
  refine h_iload_n dX9_image_0 rfl 1 rfl ?_
  refine h_i2l dX9_image_1 ?_
  refine h_lconst (v := 0) dX9_image_2 rfl ?_
  refine h_ldc2 (v := 3) dX9_image_3 q_1507 ?_
  obtain ⟨t3, S2, h1, hf⟩ := hb2_s hf
  refine h_Si [.long (Int32.toInt64 a1), .long 0, .long 3] (rest := []) (m_X9_in (d := 1) (cs := cs) (Nat.le_refl _) h1) v_X9_in q_1225 rfl (Nat.le_trans (by decide) hd) rfl (Nat.le_of_ble_eq_true rfl) dX9_image_6 (Nat.le_refl _) (Nat.le_refl _) ?_
  refine h_if_ne (tgt := 14) dX9_image_9 (by decide) (fun c4 => ?_) (fun c4 => ?_)
  · replace hf := hif_n c4 hf
    refine h_aload_n dX9_image_14 rfl 0 rfl ?_
    obtain ⟨t5, h6, hf⟩ := hbd_s hf
    refine h_getR h6 rfl (Nat.le_of_ble_eq_true rfl) rfl q_1020 rfl dX9_image_15 ?_
    refine h_iload_n dX9_image_18 rfl 1 rfl ?_
    refine h_iconst (v := 1) dX9_image_19 rfl ?_
    obtain ⟨S7, h8, hf⟩ := hbd_s hf
    refine h_zast h8 dX9_image_20 ?_
    refine h_aload_n dX9_image_21 rfl 0 rfl ?_
    refine h_iload_n dX9_image_22 rfl 1 rfl ?_
    refine h_iconst (v := 0) dX9_image_23 rfl ?_
    obtain ⟨g15, hf⟩ := hck_s hf
    obtain ⟨S10, h9, hf⟩ := hbd_s hf
    refine h_Vv [.int a1, .int 0] (rest := []) (m_X9_carriesAll (d := 2) (cs := cs) (Nat.le_refl _) h9) v_X9_carriesAll q_1567 rfl (Nat.le_trans (by decide) hd) g15 rfl rfl (Nat.le_of_ble_eq_true rfl) dX9_image_24 (Nat.le_refl _) (Nat.le_refl _) ?_
    refine h_aload_n dX9_image_27 rfl 0 rfl ?_
    obtain ⟨t11, h12, hf⟩ := hbd_s hf
    refine h_getR h12 rfl (Nat.le_of_ble_eq_true rfl) rfl q_961 rfl dX9_image_28 ?_
    refine h_bipush (v := 7) dX9_image_31 rfl ?_
    obtain ⟨t13, h14, hf⟩ := hbd_s hf
    refine h_iald h14 dX9_image_33 ?_
    obtain rfl := Option.some.inj hf
    exact h_iret rfl rfl rfl (Nat.le_refl _) (Nat.le_refl _) dX9_image_34
  · replace hf := hif_p c4 hf
    refine h_iconst (v := (-1)) dX9_image_12 rfl ?_
    obtain rfl := Option.some.inj hf
    exact h_iret rfl rfl rfl (Nat.le_refl _) (Nat.le_refl _) dX9_image_13
abbrev x_X9_back (d : Nat) (S0 : hS) (args : List Value) (r : Int32 × hS) (cs : Nat → Nat) : hX := (((some .int), 2, d, 0, 0, false), (S0, args, some (.int r.1), r.2), cs)
theorem v_X9_back : hVW yX9_back cX9_back 2 (some .int) RX9 1 := ⟨q_1576, q_1577, q_9, q_1578, by decide +kernel, by decide⟩
def f_X9_back (a0 : Nat) (a1 : Int32) (S : hS) : Option (Int32 × hS) :=
  hb2 (f_X9_in (Int32.toInt64 a1) 0 3 S) fun t3 S2 =>
  if t3 = 0 then
    (some ((-1), S2))
  else
    (hbd (gR S2 a0 9 60) fun t5 =>
     hbd (gA S2 t5 14 a1) fun t7 =>
     if t7 = 0 then
       (some ((-1), S2))
     else
       (hck (S2.K a0 = 10) <|
        hbd (f_X9_carriesAll a0 a1 1 S2) fun S11 =>
        hbd (gR S11 a0 9 1) fun t12 =>
        hbd (gA S11 t12 12 7) fun t14 =>
        some (t14, S11)))
set_option maxRecDepth 100000 in
set_option maxHeartbeats 4000000 in
theorem m_X9_back {d : Nat} {cs : Nat → Nat} {a0 : Nat} {a1 : Int32} {S : hS} {r : Int32 × hS} (hd : 3 ≤ d) (hf : f_X9_back a0 a1 S = some r) : HM yX9_back cX9_back 2 (some .int) d 0 0 cs [.ref a0, .int a1] S (some (.int r.1)) r.2 := by
  unfold f_X9_back at hf
  refine HM.ofHW false (by decide) (fun h => by cases h) (Nat.le_of_ble_eq_true rfl) ?_
  show HW cX9_back RX9 (x_X9_back d S [.ref a0, .int a1] r cs) 0 0 S 0 [(0, .ref a0), (1, .int a1)] []
  refine h_iload_n dX9_back_0 rfl 1 rfl ?_
  refine h_i2l dX9_back_1 ?_
  refine h_lconst (v := 0) dX9_back_2 rfl ?_
  refine h_ldc2 (v := 3) dX9_back_3 q_1507 ?_
  obtain ⟨t3, S2, h1, hf⟩ := hb2_s hf
  refine h_Si [.long (Int32.toInt64 a1), .long 0, .long 3] (rest := []) (m_X9_in (d := 1) (cs := cs) (Nat.le_refl _) h1) v_X9_in q_1225 rfl (Nat.le_trans (by decide) hd) rfl (Nat.le_of_ble_eq_true rfl) dX9_back_6 (Nat.le_refl _) (Nat.le_refl _) ?_
  refine h_if_eq (tgt := 21) dX9_back_9 (by decide) (fun c4 => ?_) (fun c4 => ?_)
  · replace hf := hif_p c4 hf
    refine h_iconst (v := (-1)) dX9_back_21 rfl ?_
    obtain rfl := Option.some.inj hf
    exact h_iret rfl rfl rfl (Nat.le_refl _) (Nat.le_refl _) dX9_back_22
  · replace hf := hif_n c4 hf
    refine h_aload_n dX9_back_12 rfl 0 rfl ?_
    obtain ⟨t5, h6, hf⟩ := hbd_s hf
    refine h_getR h6 rfl (Nat.le_of_ble_eq_true rfl) rfl q_1020 rfl dX9_back_13 ?_
    refine h_iload_n dX9_back_16 rfl 1 rfl ?_
    obtain ⟨t7, h8, hf⟩ := hbd_s hf
    refine h_zald h8 dX9_back_17 ?_
    refine h_if_ne (tgt := 23) dX9_back_18 (by decide) (fun c9 => ?_) (fun c9 => ?_)
    · replace hf := hif_n c9 hf
      refine h_aload_n dX9_back_23 rfl 0 rfl ?_
      refine h_iload_n dX9_back_24 rfl 1 rfl ?_
      refine h_iconst (v := 1) dX9_back_25 rfl ?_
      obtain ⟨g16, hf⟩ := hck_s hf
      obtain ⟨S11, h10, hf⟩ := hbd_s hf
      refine h_Vv [.int a1, .int 1] (rest := []) (m_X9_carriesAll (d := 2) (cs := cs) (Nat.le_refl _) h10) v_X9_carriesAll q_1567 rfl (Nat.le_trans (by decide) hd) g16 rfl rfl (Nat.le_of_ble_eq_true rfl) dX9_back_26 (Nat.le_refl _) (Nat.le_refl _) ?_
      refine h_aload_n dX9_back_29 rfl 0 rfl ?_
      obtain ⟨t12, h13, hf⟩ := hbd_s hf
      refine h_getR h13 rfl (Nat.le_of_ble_eq_true rfl) rfl q_961 rfl dX9_back_30 ?_
      refine h_bipush (v := 7) dX9_back_33 rfl ?_
      obtain ⟨t14, h15, hf⟩ := hbd_s hf
      refine h_iald h15 dX9_back_35 ?_
      obtain rfl := Option.some.inj hf
      exact h_iret rfl rfl rfl (Nat.le_refl _) (Nat.le_refl _) dX9_back_36
    · replace hf := hif_p c9 hf
      refine h_iconst (v := (-1)) dX9_back_21 rfl ?_
      obtain rfl := Option.some.inj hf
      exact h_iret rfl rfl rfl (Nat.le_refl _) (Nat.le_refl _) dX9_back_22
abbrev x_X0_init (d : Nat) (S0 : hS) (args : List Value) (r : hS) (cs : Nat → Nat) : hX := ((none, 1, d, 19, 1106, true), (S0, args, none, r), cs)
theorem v_X0_init : hIW yX0_init cX0_init 1 0 := ⟨q_55, q_3, q_56, rfl, by decide +kernel, by decide⟩
def f_X0_init (a0 : Nat) (S : hS) : Option (hS) :=
  hnw S 7 0 fun q1 S2 =>
  hbd (f_X6_init q1 S2) fun S5 =>
  hbd (sR S5 a0 0 0 q1) fun S7 =>
  hnw S7 3 0 fun q9 S10 =>
  hbd (f_X2_init q9 S10) fun S13 =>
  hbd (sR S13 a0 0 1 q9) fun S15 =>
  hnw S15 12 80 fun q17 S18 =>
  hbd (sR S18 a0 0 2 q17) fun S21 =>
  hnw S21 12 80 fun q23 S24 =>
  hbd (sR S24 a0 0 3 q23) fun S27 =>
  hbd (sI S27 a0 0 4 (-1)) fun S29 =>
  hbd (sI S29 a0 0 5 (-1)) fun S31 =>
  hbd (sI S31 a0 0 6 0) fun S33 =>
  hbd (sI S33 a0 0 7 0) fun S35 =>
  hbd (sI S35 a0 0 8 0) fun S37 =>
  hbd (sI S37 a0 0 9 0) fun S39 =>
  hbd (sI S39 a0 0 10 0) fun S41 =>
  hnw S41 12 120 fun q43 S44 =>
  hbd (sR S44 a0 0 11 q43) fun S47 =>
  some S47
set_option maxRecDepth 100000 in
set_option maxHeartbeats 4000000 in
theorem m_X0_init {d : Nat} {cs : Nat → Nat} {a0 : Nat} {S : hS} {r : hS} (hd : 2 ≤ d) (hf : f_X0_init a0 S = some r) : HM yX0_init cX0_init 1 none d 19 1106 cs [.ref a0] S (none) r := by
  unfold f_X0_init at hf
  refine HM.ofHW true (by decide) (fun h => by rfl) (Nat.le_of_ble_eq_true rfl) ?_
  show HW cX0_init RX0 (x_X0_init d S [.ref a0] r cs) 0 0 S 0 [(0, .ref a0)] []
  refine h_aload_n dX0_init_0 rfl 0 rfl ?_
  refine h_obj q_57 (Nat.le_trans (by decide) hd) (Nat.le_of_ble_eq_true rfl) dX0_init_1 ?_
  refine h_aload_n dX0_init_4 rfl 0 rfl ?_
  obtain ⟨q1, S2, h3, h4, hf⟩ := hnw_s hf
  refine h_new h3 h4 rfl q_58 q_59 q_4 dX0_init_5 (Nat.le_of_ble_eq_true rfl) (Nat.le_of_ble_eq_true rfl) ?_
  refine h_dup dX0_init_8 rfl ?_
  obtain ⟨S5, h6, hf⟩ := hbd_s hf
  refine h_callIN (host := "DeafSpot") [] (rest := [.ref q1, .ref a0]) (m_X6_init (d := 1) (cs := cs) (Nat.le_refl _) h6) (List.mem_of_getElem? (i := 2) rfl) v_X6_init.1 v_X6_init.2.1 v_X6_init.2.2.1 v_X6_init.2.2.2.1 v_X6_init.2.2.2.2.1 rfl (Nat.le_trans (by decide) hd) v_X6_init.2.2.2.2.2 rfl (Nat.le_of_ble_eq_true rfl) dX0_init_9 (Nat.le_of_ble_eq_true rfl) (Nat.le_of_ble_eq_true rfl) ?_
  obtain ⟨S7, h8, hf⟩ := hbd_s hf
  refine h_putF rfl h8 rfl (Nat.le_of_ble_eq_true rfl) rfl q_180 rfl rfl rfl (tyX0_ok 0 (by decide)) rfl rfl dX0_init_12 ?_
  refine h_aload_n dX0_init_15 rfl 0 rfl ?_
  obtain ⟨q9, S10, h11, h12, hf⟩ := hnw_s hf
  refine h_new h11 h12 rfl q_142 q_143 q_5 dX0_init_16 (Nat.le_of_ble_eq_true rfl) (Nat.le_of_ble_eq_true rfl) ?_
  refine h_dup dX0_init_19 rfl ?_
  obtain ⟨S13, h14, hf⟩ := hbd_s hf
  refine h_callIN (host := "DeafSpot") [] (rest := [.ref q9, .ref a0]) (m_X2_init (d := 1) (cs := cs) (Nat.le_refl _) h14) (List.mem_of_getElem? (i := 3) rfl) v_X2_init.1 v_X2_init.2.1 v_X2_init.2.2.1 v_X2_init.2.2.2.1 v_X2_init.2.2.2.2.1 rfl (Nat.le_trans (by decide) hd) v_X2_init.2.2.2.2.2 rfl (Nat.le_of_ble_eq_true rfl) dX0_init_20 (Nat.le_of_ble_eq_true rfl) (Nat.le_of_ble_eq_true rfl) ?_
  obtain ⟨S15, h16, hf⟩ := hbd_s hf
  refine h_putF rfl h16 rfl (Nat.le_of_ble_eq_true rfl) rfl q_183 rfl rfl rfl (tyX0_ok 1 (by decide)) rfl rfl dX0_init_23 ?_
  refine h_aload_n dX0_init_26 rfl 0 rfl ?_
  refine h_bipush (v := 80) dX0_init_27 rfl ?_
  obtain ⟨q17, S18, h19, h20, hf⟩ := hnw_s hf
  refine h_newI (N := 80) h19 h20 (by decide) rfl (by decide) dX0_init_29 (Nat.le_of_ble_eq_true rfl) (Nat.le_of_ble_eq_true rfl) ?_
  obtain ⟨S21, h22, hf⟩ := hbd_s hf
  refine h_putF rfl h22 rfl (Nat.le_of_ble_eq_true rfl) rfl q_186 rfl rfl rfl (tyX0_ok 2 (by decide)) rfl rfl dX0_init_31 ?_
  refine h_aload_n dX0_init_34 rfl 0 rfl ?_
  refine h_bipush (v := 80) dX0_init_35 rfl ?_
  obtain ⟨q23, S24, h25, h26, hf⟩ := hnw_s hf
  refine h_newI (N := 80) h25 h26 (by decide) rfl (by decide) dX0_init_37 (Nat.le_of_ble_eq_true rfl) (Nat.le_of_ble_eq_true rfl) ?_
  obtain ⟨S27, h28, hf⟩ := hbd_s hf
  refine h_putF rfl h28 rfl (Nat.le_of_ble_eq_true rfl) rfl q_189 rfl rfl rfl (tyX0_ok 3 (by decide)) rfl rfl dX0_init_39 ?_
  refine h_aload_n dX0_init_42 rfl 0 rfl ?_
  refine h_iconst (v := (-1)) dX0_init_43 rfl ?_
  obtain ⟨S29, h30, hf⟩ := hbd_s hf
  refine h_putI h30 rfl (Nat.le_of_ble_eq_true rfl) rfl q_190 rfl rfl (by decide +kernel) dX0_init_44 ?_
  refine h_aload_n dX0_init_47 rfl 0 rfl ?_
  refine h_iconst (v := (-1)) dX0_init_48 rfl ?_
  obtain ⟨S31, h32, hf⟩ := hbd_s hf
  refine h_putI h32 rfl (Nat.le_of_ble_eq_true rfl) rfl q_193 rfl rfl (by decide +kernel) dX0_init_49 ?_
  refine h_aload_n dX0_init_52 rfl 0 rfl ?_
  refine h_iconst (v := 0) dX0_init_53 rfl ?_
  obtain ⟨S33, h34, hf⟩ := hbd_s hf
  refine h_putI h34 rfl (Nat.le_of_ble_eq_true rfl) rfl q_194 rfl rfl (by decide +kernel) dX0_init_54 ?_
  refine h_aload_n dX0_init_57 rfl 0 rfl ?_
  refine h_iconst (v := 0) dX0_init_58 rfl ?_
  obtain ⟨S35, h36, hf⟩ := hbd_s hf
  refine h_putI h36 rfl (Nat.le_of_ble_eq_true rfl) rfl q_196 rfl rfl (by decide +kernel) dX0_init_59 ?_
  refine h_aload_n dX0_init_62 rfl 0 rfl ?_
  refine h_iconst (v := 0) dX0_init_63 rfl ?_
  obtain ⟨S37, h38, hf⟩ := hbd_s hf
  refine h_putI h38 rfl (Nat.le_of_ble_eq_true rfl) rfl q_198 rfl rfl (by decide +kernel) dX0_init_64 ?_
  refine h_aload_n dX0_init_67 rfl 0 rfl ?_
  refine h_iconst (v := 0) dX0_init_68 rfl ?_
  obtain ⟨S39, h40, hf⟩ := hbd_s hf
  refine h_putI h40 rfl (Nat.le_of_ble_eq_true rfl) rfl q_200 rfl rfl (by decide +kernel) dX0_init_69 ?_
  refine h_aload_n dX0_init_72 rfl 0 rfl ?_
  refine h_iconst (v := 0) dX0_init_73 rfl ?_
  obtain ⟨S41, h42, hf⟩ := hbd_s hf
  refine h_putI h42 rfl (Nat.le_of_ble_eq_true rfl) rfl q_202 rfl rfl (by decide +kernel) dX0_init_74 ?_
  refine h_aload_n dX0_init_77 rfl 0 rfl ?_
  refine h_bipush (v := 120) dX0_init_78 rfl ?_
  obtain ⟨q43, S44, h45, h46, hf⟩ := hnw_s hf
  refine h_newI (N := 120) h45 h46 (by decide) rfl (by decide) dX0_init_80 (Nat.le_of_ble_eq_true rfl) (Nat.le_of_ble_eq_true rfl) ?_
  obtain ⟨S47, h48, hf⟩ := hbd_s hf
  refine h_putF rfl h48 rfl (Nat.le_of_ble_eq_true rfl) rfl q_204 rfl rfl rfl (tyX0_ok 11 (by decide)) rfl rfl dX0_init_82 ?_
  obtain rfl := Option.some.inj hf
  exact h_vret rfl rfl rfl (Nat.le_of_ble_eq_true rfl) (Nat.le_of_ble_eq_true rfl) dX0_init_85
abbrev x_X0_clear (d : Nat) (S0 : hS) (args : List Value) (r : hS) (cs : Nat → Nat) : hX := ((none, 1, d, 0, 0, false), (S0, args, none, r), cs)
theorem v_X0_clear : hVW yX0_clear cX0_clear 1 none RX0 0 := ⟨q_367, q_368, q_3, q_369, by decide +kernel, by decide⟩
def f_X0_clear (a0 : Nat) (S : hS) : Option (hS) :=
  hbd (gR S a0 0 0) fun t1 =>
  hck (S.K t1 = 7) <|
  hbd (f_X6_clear t1 S) fun S4 =>
  hbd (gR S4 a0 0 1) fun t5 =>
  hck (S4.K t5 = 3) <|
  hbd (f_X2_clear t5 S4) fun S8 =>
  hbd (gR S8 a0 0 2) fun t9 =>
  hbd (f_J7_fill_53178 t9 0 S8) fun S12 =>
  hbd (sI S12 a0 0 4 0) fun S13 =>
  hbd (sI S13 a0 0 5 (-1)) fun S15 =>
  hbd (sI S15 a0 0 6 0) fun S17 =>
  hbd (sI S17 a0 0 7 0) fun S19 =>
  hbd (sI S19 a0 0 8 0) fun S21 =>
  hbd (sI S21 a0 0 9 0) fun S23 =>
  some S23
set_option maxRecDepth 100000 in
set_option maxHeartbeats 4000000 in
theorem m_X0_clear {d : Nat} {cs : Nat → Nat} {a0 : Nat} {S : hS} {r : hS} (hd : 3 ≤ d) (hf : f_X0_clear a0 S = some r) : HM yX0_clear cX0_clear 1 none d 0 0 cs [.ref a0] S (none) r := by
  unfold f_X0_clear at hf
  refine HM.ofHW false (by decide) (fun h => by cases h) (Nat.le_of_ble_eq_true rfl) ?_
  show HW cX0_clear RX0 (x_X0_clear d S [.ref a0] r cs) 0 0 S 0 [(0, .ref a0)] []
  refine h_aload_n dX0_clear_0 rfl 0 rfl ?_
  obtain ⟨t1, h2, hf⟩ := hbd_s hf
  refine h_getR h2 rfl (Nat.le_of_ble_eq_true rfl) rfl q_180 rfl dX0_clear_1 ?_
  obtain ⟨g26, hf⟩ := hck_s hf
  obtain ⟨S4, h3, hf⟩ := hbd_s hf
  refine h_Vv [] (rest := []) (m_X6_clear (d := 1) (cs := cs) (Nat.le_refl _) h3) v_X6_clear q_370 rfl (Nat.le_trans (by decide) hd) g26 rfl rfl (Nat.le_of_ble_eq_true rfl) dX0_clear_4 (Nat.le_refl _) (Nat.le_refl _) ?_
  refine h_aload_n dX0_clear_7 rfl 0 rfl ?_
  obtain ⟨t5, h6, hf⟩ := hbd_s hf
  refine h_getR h6 rfl (Nat.le_of_ble_eq_true rfl) rfl q_183 rfl dX0_clear_8 ?_
  obtain ⟨g25, hf⟩ := hck_s hf
  obtain ⟨S8, h7, hf⟩ := hbd_s hf
  refine h_Vv [] (rest := []) (m_X2_clear (d := 2) (cs := cs) (Nat.le_refl _) h7) v_X2_clear q_374 rfl (Nat.le_trans (by decide) hd) g25 rfl rfl (Nat.le_of_ble_eq_true rfl) dX0_clear_11 (Nat.le_refl _) (Nat.le_refl _) ?_
  refine h_aload_n dX0_clear_14 rfl 0 rfl ?_
  obtain ⟨t9, h10, hf⟩ := hbd_s hf
  refine h_getR h10 rfl (Nat.le_of_ble_eq_true rfl) rfl q_186 rfl dX0_clear_15 ?_
  refine h_iconst (v := 0) dX0_clear_18 rfl ?_
  obtain ⟨S12, h11, hf⟩ := hbd_s hf
  refine h_Sv [.ref t9, .int 0] (rest := []) (m_J7_fill_53178 (d := 1) (cs := cs) (Nat.le_refl _) h11) v_J7_fill_53178 q_381 rfl (Nat.le_trans (by decide) hd) rfl (Nat.le_of_ble_eq_true rfl) dX0_clear_19 (Nat.le_refl _) (Nat.le_refl _) ?_
  refine h_aload_n dX0_clear_22 rfl 0 rfl ?_
  refine h_iconst (v := 0) dX0_clear_23 rfl ?_
  obtain ⟨S13, h14, hf⟩ := hbd_s hf
  refine h_putI h14 rfl (Nat.le_of_ble_eq_true rfl) rfl q_190 rfl rfl (by decide +kernel) dX0_clear_24 ?_
  refine h_aload_n dX0_clear_27 rfl 0 rfl ?_
  refine h_iconst (v := (-1)) dX0_clear_28 rfl ?_
  obtain ⟨S15, h16, hf⟩ := hbd_s hf
  refine h_putI h16 rfl (Nat.le_of_ble_eq_true rfl) rfl q_193 rfl rfl (by decide +kernel) dX0_clear_29 ?_
  refine h_aload_n dX0_clear_32 rfl 0 rfl ?_
  refine h_iconst (v := 0) dX0_clear_33 rfl ?_
  obtain ⟨S17, h18, hf⟩ := hbd_s hf
  refine h_putI h18 rfl (Nat.le_of_ble_eq_true rfl) rfl q_194 rfl rfl (by decide +kernel) dX0_clear_34 ?_
  refine h_aload_n dX0_clear_37 rfl 0 rfl ?_
  refine h_iconst (v := 0) dX0_clear_38 rfl ?_
  obtain ⟨S19, h20, hf⟩ := hbd_s hf
  refine h_putI h20 rfl (Nat.le_of_ble_eq_true rfl) rfl q_196 rfl rfl (by decide +kernel) dX0_clear_39 ?_
  refine h_aload_n dX0_clear_42 rfl 0 rfl ?_
  refine h_iconst (v := 0) dX0_clear_43 rfl ?_
  obtain ⟨S21, h22, hf⟩ := hbd_s hf
  refine h_putI h22 rfl (Nat.le_of_ble_eq_true rfl) rfl q_198 rfl rfl (by decide +kernel) dX0_clear_44 ?_
  refine h_aload_n dX0_clear_47 rfl 0 rfl ?_
  refine h_iconst (v := 0) dX0_clear_48 rfl ?_
  obtain ⟨S23, h24, hf⟩ := hbd_s hf
  refine h_putI h24 rfl (Nat.le_of_ble_eq_true rfl) rfl q_200 rfl rfl (by decide +kernel) dX0_clear_49 ?_
  obtain rfl := Option.some.inj hf
  exact h_vret rfl rfl rfl (Nat.le_refl _) (Nat.le_refl _) dX0_clear_52
abbrev x_X0_rewind (d : Nat) (S0 : hS) (args : List Value) (r : hS) (cs : Nat → Nat) : hX := ((none, 2, d, 0, 0, false), (S0, args, none, r), cs)
theorem v_X0_rewind : hVW yX0_rewind cX0_rewind 2 none RX0 1 := ⟨q_580, q_581, q_3, q_582, by decide +kernel, by decide⟩
def f_X0_rewind (a0 : Nat) (a1 : Nat) (S : hS) : Option (hS) :=
  hbd (gR S a0 0 1) fun t1 =>
  hbd (gR S a1 0 1) fun t3 =>
  hck (S.K t1 = 3) <|
  hbd (f_X2_copy t1 t3 S) fun S6 =>
  hbd (gR S6 a1 0 2) fun t7 =>
  hbd (gR S6 a0 0 2) fun t9 =>
  hbd (cpA S6 t7 0 t9 0 80) fun S11 =>
  hbd (gI S11 a1 0 4) fun t13 =>
  hbd (sI S11 a0 0 4 t13) fun S15 =>
  hbd (gI S15 a1 0 5) fun t17 =>
  hbd (sI S15 a0 0 5 t17) fun S19 =>
  hbd (gI S19 a1 0 6) fun t21 =>
  hbd (sI S19 a0 0 6 t21) fun S23 =>
  hbd (gI S23 a1 0 7) fun t25 =>
  hbd (sI S23 a0 0 7 t25) fun S27 =>
  hbd (gI S27 a1 0 8) fun t29 =>
  hbd (sI S27 a0 0 8 t29) fun S31 =>
  hbd (gI S31 a1 0 9) fun t33 =>
  hbd (sI S31 a0 0 9 t33) fun S35 =>
  some S35
set_option maxRecDepth 100000 in
set_option maxHeartbeats 4000000 in
theorem m_X0_rewind {d : Nat} {cs : Nat → Nat} {a0 : Nat} {a1 : Nat} {S : hS} {r : hS} (hd : 2 ≤ d) (hf : f_X0_rewind a0 a1 S = some r) : HM yX0_rewind cX0_rewind 2 none d 0 0 cs [.ref a0, .ref a1] S (none) r := by
  unfold f_X0_rewind at hf
  refine HM.ofHW false (by decide) (fun h => by cases h) (Nat.le_of_ble_eq_true rfl) ?_
  show HW cX0_rewind RX0 (x_X0_rewind d S [.ref a0, .ref a1] r cs) 0 0 S 0 [(0, .ref a0), (1, .ref a1)] []
  refine h_aload_n dX0_rewind_0 rfl 0 rfl ?_
  obtain ⟨t1, h2, hf⟩ := hbd_s hf
  refine h_getR h2 rfl (Nat.le_of_ble_eq_true rfl) rfl q_183 rfl dX0_rewind_1 ?_
  refine h_aload_n dX0_rewind_4 rfl 1 rfl ?_
  obtain ⟨t3, h4, hf⟩ := hbd_s hf
  refine h_getR h4 rfl (Nat.le_of_ble_eq_true rfl) rfl q_183 rfl dX0_rewind_5 ?_
  obtain ⟨g37, hf⟩ := hck_s hf
  obtain ⟨S6, h5, hf⟩ := hbd_s hf
  refine h_Vv [.ref t3] (rest := []) (m_X2_copy (d := 1) (cs := cs) (Nat.le_refl _) h5) v_X2_copy q_583 rfl (Nat.le_trans (by decide) hd) g37 rfl rfl (Nat.le_of_ble_eq_true rfl) dX0_rewind_8 (Nat.le_refl _) (Nat.le_refl _) ?_
  refine h_aload_n dX0_rewind_11 rfl 1 rfl ?_
  obtain ⟨t7, h8, hf⟩ := hbd_s hf
  refine h_getR h8 rfl (Nat.le_of_ble_eq_true rfl) rfl q_186 rfl dX0_rewind_12 ?_
  refine h_iconst (v := 0) dX0_rewind_15 rfl ?_
  refine h_aload_n dX0_rewind_16 rfl 0 rfl ?_
  obtain ⟨t9, h10, hf⟩ := hbd_s hf
  refine h_getR h10 rfl (Nat.le_of_ble_eq_true rfl) rfl q_186 rfl dX0_rewind_17 ?_
  refine h_iconst (v := 0) dX0_rewind_20 rfl ?_
  refine h_bipush (v := 80) dX0_rewind_21 rfl ?_
  obtain ⟨S11, h12, hf⟩ := hbd_s hf
  refine h_acopy h12 q_578 (Nat.le_trans (by decide) hd) (Nat.le_of_ble_eq_true rfl) dX0_rewind_23 ?_
  refine h_aload_n dX0_rewind_26 rfl 0 rfl ?_
  refine h_aload_n dX0_rewind_27 rfl 1 rfl ?_
  obtain ⟨t13, h14, hf⟩ := hbd_s hf
  refine h_getI h14 rfl (Nat.le_of_ble_eq_true rfl) rfl q_190 rfl dX0_rewind_28 ?_
  obtain ⟨S15, h16, hf⟩ := hbd_s hf
  refine h_putI h16 rfl (Nat.le_of_ble_eq_true rfl) rfl q_190 rfl rfl (by decide +kernel) dX0_rewind_31 ?_
  refine h_aload_n dX0_rewind_34 rfl 0 rfl ?_
  refine h_aload_n dX0_rewind_35 rfl 1 rfl ?_
  obtain ⟨t17, h18, hf⟩ := hbd_s hf
  refine h_getI h18 rfl (Nat.le_of_ble_eq_true rfl) rfl q_193 rfl dX0_rewind_36 ?_
  obtain ⟨S19, h20, hf⟩ := hbd_s hf
  refine h_putI h20 rfl (Nat.le_of_ble_eq_true rfl) rfl q_193 rfl rfl (by decide +kernel) dX0_rewind_39 ?_
  refine h_aload_n dX0_rewind_42 rfl 0 rfl ?_
  refine h_aload_n dX0_rewind_43 rfl 1 rfl ?_
  obtain ⟨t21, h22, hf⟩ := hbd_s hf
  refine h_getI h22 rfl (Nat.le_of_ble_eq_true rfl) rfl q_194 rfl dX0_rewind_44 ?_
  obtain ⟨S23, h24, hf⟩ := hbd_s hf
  refine h_putI h24 rfl (Nat.le_of_ble_eq_true rfl) rfl q_194 rfl rfl (by decide +kernel) dX0_rewind_47 ?_
  refine h_aload_n dX0_rewind_50 rfl 0 rfl ?_
  refine h_aload_n dX0_rewind_51 rfl 1 rfl ?_
  obtain ⟨t25, h26, hf⟩ := hbd_s hf
  refine h_getI h26 rfl (Nat.le_of_ble_eq_true rfl) rfl q_196 rfl dX0_rewind_52 ?_
  obtain ⟨S27, h28, hf⟩ := hbd_s hf
  refine h_putI h28 rfl (Nat.le_of_ble_eq_true rfl) rfl q_196 rfl rfl (by decide +kernel) dX0_rewind_55 ?_
  refine h_aload_n dX0_rewind_58 rfl 0 rfl ?_
  refine h_aload_n dX0_rewind_59 rfl 1 rfl ?_
  obtain ⟨t29, h30, hf⟩ := hbd_s hf
  refine h_getI h30 rfl (Nat.le_of_ble_eq_true rfl) rfl q_198 rfl dX0_rewind_60 ?_
  obtain ⟨S31, h32, hf⟩ := hbd_s hf
  refine h_putI h32 rfl (Nat.le_of_ble_eq_true rfl) rfl q_198 rfl rfl (by decide +kernel) dX0_rewind_63 ?_
  refine h_aload_n dX0_rewind_66 rfl 0 rfl ?_
  refine h_aload_n dX0_rewind_67 rfl 1 rfl ?_
  obtain ⟨t33, h34, hf⟩ := hbd_s hf
  refine h_getI h34 rfl (Nat.le_of_ble_eq_true rfl) rfl q_200 rfl dX0_rewind_68 ?_
  obtain ⟨S35, h36, hf⟩ := hbd_s hf
  refine h_putI h36 rfl (Nat.le_of_ble_eq_true rfl) rfl q_200 rfl rfl (by decide +kernel) dX0_rewind_71 ?_
  obtain rfl := Option.some.inj hf
  exact h_vret rfl rfl rfl (Nat.le_refl _) (Nat.le_refl _) dX0_rewind_74
abbrev x_X0_drawWarmth (d : Nat) (S0 : hS) (args : List Value) (r : hS) (cs : Nat → Nat) : hX := ((none, 2, d, 0, 0, false), (S0, args, none, r), cs)
theorem v_X0_drawWarmth : hVW yX0_drawWarmth cX0_drawWarmth 2 none RX0 0 := ⟨q_917, q_918, q_3, q_919, by decide +kernel, by decide⟩
def f_X0_drawWarmth_L2 : Nat → Nat → Int32 → hS → (hS → Option (hS)) → Option (hS)
  | 0, _, _, _, _ => none
  | n + 1, x0, x1, S, k0 =>
    hbd (gR S x0 0 1) fun t1 =>
    hbd (gI S t1 2 0) fun t3 =>
    if t3 ≤ x1 then
      (k0 S)
    else
      (hbd (gR S x0 0 1) fun t6 =>
       hck (S.K t6 = 3) <|
       hb2 (f_X2_here t6 x1 S) fun t10 S9 =>
       if t10 = 0 then
         (f_X0_drawWarmth_L2 n x0 (x1 + 1) S9 k0)
       else
         (hbd (gI S9 x0 0 10) fun t12 =>
          hbd (sI S9 x0 0 10 (Int64.toInt32 ((((Int32.toInt64 t12) * 1103515245) + 12345) &&& 2147483647))) fun S14 =>
          hbd (gR S14 x0 0 1) fun t16 =>
          hbd (gR S14 t16 2 2) fun t18 =>
          hbd (gI S14 x0 0 10) fun t20 =>
          hbd (sA S14 t18 x1 ((t20 / 65536) - (t20 / 65536) / 100 * 100)) fun S22 =>
          f_X0_drawWarmth_L2 n x0 (x1 + 1) S22 k0))
def f_X0_drawWarmth (a0 : Nat) (S : hS) : Option (hS) :=
  f_X0_drawWarmth_L2 hfuel a0 0 S
    (fun S25 =>
      some S25
    )
set_option maxRecDepth 100000 in
set_option maxHeartbeats 4000000 in
theorem w_X0_drawWarmth_L2 {d : Nat} {S0 : hS} {args : List Value} {cs : Nat → Nat} {r : hS} (hd : 2 ≤ d) : ∀ (n : Nat) (x0 : Nat) (x1 : Int32) (S : hS) (k0 : (hS → Option (hS))) , f_X0_drawWarmth_L2 n x0 x1 S k0 = some r → (∀ (T : hS), k0 T = some r → HW cX0_drawWarmth RX0 (x_X0_drawWarmth d S0 args r cs) 0 0 T 71 [] []) → HW cX0_drawWarmth RX0 (x_X0_drawWarmth d S0 args r cs) 0 0 S 2 [(0, .ref x0), (1, .int x1)] [] := by
  intro n
  induction n with
  | zero =>
    intro x0 x1 S k0 hf
    cases hf
  | succ n ih =>
    intro x0 x1 S k0 hf hk0
    rw [f_X0_drawWarmth_L2] at hf
    refine h_iload_n dX0_drawWarmth_2 rfl 1 rfl ?_
    refine h_aload_n dX0_drawWarmth_3 rfl 0 rfl ?_
    obtain ⟨t1, h2, hf⟩ := hbd_s hf
    refine h_getR h2 rfl (Nat.le_of_ble_eq_true rfl) rfl q_183 rfl dX0_drawWarmth_4 ?_
    obtain ⟨t3, h4, hf⟩ := hbd_s hf
    refine h_getIN (host := "DeafSpot") h4 rfl (Nat.le_of_ble_eq_true rfl) rfl (List.mem_of_getElem? (i := 38) rfl) rfl dX0_drawWarmth_7 ?_
    refine h_icmp_ge (tgt := 71) dX0_drawWarmth_10 (by decide) (fun c5 => ?_) (fun c5 => ?_)
    · replace hf := hif_p c5 hf
      refine h_sub (lv2 := []) [] rfl ?_
      exact hk0 S hf
    · replace hf := hif_n c5 hf
      refine h_aload_n dX0_drawWarmth_13 rfl 0 rfl ?_
      obtain ⟨t6, h7, hf⟩ := hbd_s hf
      refine h_getR h7 rfl (Nat.le_of_ble_eq_true rfl) rfl q_183 rfl dX0_drawWarmth_14 ?_
      refine h_iload_n dX0_drawWarmth_17 rfl 1 rfl ?_
      obtain ⟨g24, hf⟩ := hck_s hf
      obtain ⟨t10, S9, h8, hf⟩ := hb2_s hf
      refine h_Vi [.int x1] (rest := []) (m_X2_here (d := 1) (cs := cs) (Nat.le_refl _) h8) v_X2_here q_920 rfl (Nat.le_trans (by decide) hd) g24 rfl rfl (Nat.le_of_ble_eq_true rfl) dX0_drawWarmth_18 (Nat.le_refl _) (Nat.le_refl _) ?_
      refine h_if_eq (tgt := 65) dX0_drawWarmth_21 (by decide) (fun c11 => ?_) (fun c11 => ?_)
      · replace hf := hif_p c11 hf
        refine h_iinc (q := 1) (v := x1 + 1) (lv2 := [(1, .int (x1 + 1)), (0, .ref x0)]) dX0_drawWarmth_65 rfl rfl (Nat.le_of_ble_eq_true rfl) rfl ?_
        refine h_goto (tgt := 2) dX0_drawWarmth_68 (by decide) ?_
        refine h_sub (lv2 := [(0, .ref x0), (1, .int (x1 + 1))]) [1, 0] rfl ?_
        exact ih x0 (x1 + 1) S9 k0  hf hk0
      · replace hf := hif_n c11 hf
        refine h_aload_n dX0_drawWarmth_24 rfl 0 rfl ?_
        refine h_aload_n dX0_drawWarmth_25 rfl 0 rfl ?_
        obtain ⟨t12, h13, hf⟩ := hbd_s hf
        refine h_getI h13 rfl (Nat.le_of_ble_eq_true rfl) rfl q_202 rfl dX0_drawWarmth_26 ?_
        refine h_i2l dX0_drawWarmth_29 ?_
        refine h_ldc2 (v := 1103515245) dX0_drawWarmth_30 q_921 ?_
        refine h_lmul dX0_drawWarmth_33 ?_
        refine h_ldc2 (v := 12345) dX0_drawWarmth_34 q_922 ?_
        refine h_ladd dX0_drawWarmth_37 ?_
        refine h_ldc2 (v := 2147483647) dX0_drawWarmth_38 q_923 ?_
        refine h_land dX0_drawWarmth_41 ?_
        refine h_l2i dX0_drawWarmth_42 ?_
        obtain ⟨S14, h15, hf⟩ := hbd_s hf
        refine h_putI h15 rfl (Nat.le_of_ble_eq_true rfl) rfl q_202 rfl rfl (by decide +kernel) dX0_drawWarmth_43 ?_
        refine h_aload_n dX0_drawWarmth_46 rfl 0 rfl ?_
        obtain ⟨t16, h17, hf⟩ := hbd_s hf
        refine h_getR h17 rfl (Nat.le_of_ble_eq_true rfl) rfl q_183 rfl dX0_drawWarmth_47 ?_
        obtain ⟨t18, h19, hf⟩ := hbd_s hf
        refine h_getRN (host := "DeafSpot") h19 rfl (Nat.le_of_ble_eq_true rfl) rfl (List.mem_of_getElem? (i := 42) rfl) rfl dX0_drawWarmth_50 ?_
        refine h_iload_n dX0_drawWarmth_53 rfl 1 rfl ?_
        refine h_aload_n dX0_drawWarmth_54 rfl 0 rfl ?_
        obtain ⟨t20, h21, hf⟩ := hbd_s hf
        refine h_getI h21 rfl (Nat.le_of_ble_eq_true rfl) rfl q_202 rfl dX0_drawWarmth_55 ?_
        refine h_ldc (v := 65536) dX0_drawWarmth_58 q_924 ?_
        refine h_idiv dX0_drawWarmth_60 (by decide) ?_
        refine h_bipush (v := 100) dX0_drawWarmth_61 rfl ?_
        refine h_irem dX0_drawWarmth_63 (by decide) ?_
        obtain ⟨S22, h23, hf⟩ := hbd_s hf
        refine h_iast h23 dX0_drawWarmth_64 ?_
        refine h_iinc (q := 1) (v := x1 + 1) (lv2 := [(1, .int (x1 + 1)), (0, .ref x0)]) dX0_drawWarmth_65 rfl rfl (Nat.le_of_ble_eq_true rfl) rfl ?_
        refine h_goto (tgt := 2) dX0_drawWarmth_68 (by decide) ?_
        refine h_sub (lv2 := [(0, .ref x0), (1, .int (x1 + 1))]) [1, 0] rfl ?_
        exact ih x0 (x1 + 1) S22 k0  hf hk0
set_option maxRecDepth 100000 in
set_option maxHeartbeats 4000000 in
theorem m_X0_drawWarmth {d : Nat} {cs : Nat → Nat} {a0 : Nat} {S : hS} {r : hS} (hd : 2 ≤ d) (hf : f_X0_drawWarmth a0 S = some r) : HM yX0_drawWarmth cX0_drawWarmth 2 none d 0 0 cs [.ref a0] S (none) r := by
  unfold f_X0_drawWarmth at hf
  refine HM.ofHW false (by decide) (fun h => by cases h) (Nat.le_of_ble_eq_true rfl) ?_
  show HW cX0_drawWarmth RX0 (x_X0_drawWarmth d S [.ref a0] r cs) 0 0 S 0 [(0, .ref a0)] []
  refine h_iconst (v := 0) dX0_drawWarmth_0 rfl ?_
  refine h_istore_n (lv2 := [(1, .int 0), (0, .ref a0)]) dX0_drawWarmth_1 rfl (Nat.le_of_ble_eq_true rfl) rfl ?_
  refine h_sub (lv2 := [(0, .ref a0), (1, .int 0)]) [1, 0] rfl ?_
  refine w_X0_drawWarmth_L2 hd hfuel a0 0 S _  hf ?_
  · intro S25 hf
    obtain rfl := Option.some.inj hf
    exact h_vret rfl rfl rfl (Nat.le_refl _) (Nat.le_refl _) dX0_drawWarmth_71
abbrev x_X2_put (d : Nat) (S0 : hS) (args : List Value) (r : hS) (cs : Nat → Nat) : hX := ((none, 3, d, 0, 0, false), (S0, args, none, r), cs)
theorem v_X2_put : hVW yX2_put cX2_put 3 none RX2 2 := ⟨q_506, q_507, q_5, q_508, by decide +kernel, by decide⟩
def f_X2_put (a0 : Nat) (a1 : Int32) (a2 : Int32) (S : hS) : Option (hS) :=
  hck (S.K a0 = 3) <|
  hb2 (f_X2_known a0 a1 S) fun t3 S2 =>
  if t3 = 0 then
    (some S2)
  else
    (if a2 < 0 then
       (some S2)
     else
       (if 80 ≤ a2 then
          (some S2)
        else
          (hck (S2.K a0 = 3) <|
           hbd (f_X2_leave a0 a1 S2) fun S8 =>
           hbd (gR S8 a0 2 1) fun t9 =>
           hbd (sA S8 t9 a1 a2) fun S11 =>
           hbd (gR S11 a0 2 5) fun t13 =>
           hbd (sA S11 t13 a2 a1) fun S15 =>
           some S15)))
set_option maxRecDepth 100000 in
set_option maxHeartbeats 4000000 in
theorem m_X2_put {d : Nat} {cs : Nat → Nat} {a0 : Nat} {a1 : Int32} {a2 : Int32} {S : hS} {r : hS} (hd : 3 ≤ d) (hf : f_X2_put a0 a1 a2 S = some r) : HM yX2_put cX2_put 3 none d 0 0 cs [.ref a0, .int a1, .int a2] S (none) r := by
  unfold f_X2_put at hf
  refine HM.ofHW false (by decide) (fun h => by cases h) (Nat.le_of_ble_eq_true rfl) ?_
  show HW cX2_put RX2 (x_X2_put d S [.ref a0, .int a1, .int a2] r cs) 0 0 S 0 [(0, .ref a0), (1, .int a1), (2, .int a2)] []
  refine h_aload_n dX2_put_0 rfl 0 rfl ?_
  refine h_iload_n dX2_put_1 rfl 1 rfl ?_
  obtain ⟨g18, hf⟩ := hck_s hf
  obtain ⟨t3, S2, h1, hf⟩ := hb2_s hf
  refine h_Vi [.int a1] (rest := []) (m_X2_known (d := 1) (cs := cs) (Nat.le_refl _) h1) v_X2_known q_509 rfl (Nat.le_trans (by decide) hd) g18 rfl rfl (Nat.le_of_ble_eq_true rfl) dX2_put_2 (Nat.le_refl _) (Nat.le_refl _) ?_
  refine h_if_eq (tgt := 37) dX2_put_5 (by decide) (fun c4 => ?_) (fun c4 => ?_)
  · replace hf := hif_p c4 hf
    obtain rfl := Option.some.inj hf
    exact h_vret rfl rfl rfl (Nat.le_refl _) (Nat.le_refl _) dX2_put_37
  · replace hf := hif_n c4 hf
    refine h_iload_n dX2_put_8 rfl 2 rfl ?_
    refine h_if_lt (tgt := 37) dX2_put_9 (by decide) (fun c5 => ?_) (fun c5 => ?_)
    · replace hf := hif_p c5 hf
      obtain rfl := Option.some.inj hf
      exact h_vret rfl rfl rfl (Nat.le_refl _) (Nat.le_refl _) dX2_put_37
    · replace hf := hif_n c5 hf
      refine h_iload_n dX2_put_12 rfl 2 rfl ?_
      refine h_bipush (v := 80) dX2_put_13 rfl ?_
      refine h_icmp_ge (tgt := 37) dX2_put_15 (by decide) (fun c6 => ?_) (fun c6 => ?_)
      · replace hf := hif_p c6 hf
        obtain rfl := Option.some.inj hf
        exact h_vret rfl rfl rfl (Nat.le_refl _) (Nat.le_refl _) dX2_put_37
      · replace hf := hif_n c6 hf
        refine h_aload_n dX2_put_18 rfl 0 rfl ?_
        refine h_iload_n dX2_put_19 rfl 1 rfl ?_
        obtain ⟨g17, hf⟩ := hck_s hf
        obtain ⟨S8, h7, hf⟩ := hbd_s hf
        refine h_Vv [.int a1] (rest := []) (m_X2_leave (d := 2) (cs := cs) (Nat.le_refl _) h7) v_X2_leave q_513 rfl (Nat.le_trans (by decide) hd) g17 rfl rfl (Nat.le_of_ble_eq_true rfl) dX2_put_20 (Nat.le_refl _) (Nat.le_refl _) ?_
        refine h_aload_n dX2_put_23 rfl 0 rfl ?_
        obtain ⟨t9, h10, hf⟩ := hbd_s hf
        refine h_getR h10 rfl (Nat.le_of_ble_eq_true rfl) rfl q_152 rfl dX2_put_24 ?_
        refine h_iload_n dX2_put_27 rfl 1 rfl ?_
        refine h_iload_n dX2_put_28 rfl 2 rfl ?_
        obtain ⟨S11, h12, hf⟩ := hbd_s hf
        refine h_iast h12 dX2_put_29 ?_
        refine h_aload_n dX2_put_30 rfl 0 rfl ?_
        obtain ⟨t13, h14, hf⟩ := hbd_s hf
        refine h_getR h14 rfl (Nat.le_of_ble_eq_true rfl) rfl q_163 rfl dX2_put_31 ?_
        refine h_iload_n dX2_put_34 rfl 2 rfl ?_
        refine h_iload_n dX2_put_35 rfl 1 rfl ?_
        obtain ⟨S15, h16, hf⟩ := hbd_s hf
        refine h_iast h16 dX2_put_36 ?_
        obtain rfl := Option.some.inj hf
        exact h_vret rfl rfl rfl (Nat.le_refl _) (Nat.le_refl _) dX2_put_37
abbrev x_X2_swap (d : Nat) (S0 : hS) (args : List Value) (r : hS) (cs : Nat → Nat) : hX := ((none, 5, d, 0, 0, false), (S0, args, none, r), cs)
theorem v_X2_swap : hVW yX2_swap cX2_swap 5 none RX2 2 := ⟨q_724, q_725, q_5, q_726, by decide +kernel, by decide⟩
def f_X2_swap (a0 : Nat) (a1 : Int32) (a2 : Int32) (S : hS) : Option (hS) :=
  hck (S.K a0 = 3) <|
  hb2 (f_X2_here a0 a1 S) fun t3 S2 =>
  if t3 = 0 then
    (some S2)
  else
    (hck (S2.K a0 = 3) <|
     hb2 (f_X2_here a0 a2 S2) fun t7 S6 =>
     if t7 = 0 then
       (some S6)
     else
       (hbd (gR S6 a0 2 1) fun t9 =>
        hbd (gA S6 t9 12 a1) fun t11 =>
        hbd (gR S6 a0 2 1) fun t13 =>
        hbd (gA S6 t13 12 a2) fun t15 =>
        hck (S6.K a0 = 3) <|
        hbd (f_X2_leave a0 a2 S6) fun S18 =>
        hck (S18.K a0 = 3) <|
        hbd (f_X2_put a0 a1 t15 S18) fun S20 =>
        hck (S20.K a0 = 3) <|
        hbd (f_X2_put a0 a2 t11 S20) fun S22 =>
        some S22))
set_option maxRecDepth 100000 in
set_option maxHeartbeats 4000000 in
theorem m_X2_swap {d : Nat} {cs : Nat → Nat} {a0 : Nat} {a1 : Int32} {a2 : Int32} {S : hS} {r : hS} (hd : 4 ≤ d) (hf : f_X2_swap a0 a1 a2 S = some r) : HM yX2_swap cX2_swap 5 none d 0 0 cs [.ref a0, .int a1, .int a2] S (none) r := by
  unfold f_X2_swap at hf
  refine HM.ofHW false (by decide) (fun h => by cases h) (Nat.le_of_ble_eq_true rfl) ?_
  show HW cX2_swap RX2 (x_X2_swap d S [.ref a0, .int a1, .int a2] r cs) 0 0 S 0 [(0, .ref a0), (1, .int a1), (2, .int a2)] []
  refine h_aload_n dX2_swap_0 rfl 0 rfl ?_
  refine h_iload_n dX2_swap_1 rfl 1 rfl ?_
  obtain ⟨g27, hf⟩ := hck_s hf
  obtain ⟨t3, S2, h1, hf⟩ := hb2_s hf
  refine h_Vi [.int a1] (rest := []) (m_X2_here (d := 1) (cs := cs) (Nat.le_refl _) h1) v_X2_here q_517 rfl (Nat.le_trans (by decide) hd) g27 rfl rfl (Nat.le_of_ble_eq_true rfl) dX2_swap_2 (Nat.le_refl _) (Nat.le_refl _) ?_
  refine h_if_eq (tgt := 49) dX2_swap_5 (by decide) (fun c4 => ?_) (fun c4 => ?_)
  · replace hf := hif_p c4 hf
    obtain rfl := Option.some.inj hf
    exact h_vret rfl rfl rfl (Nat.le_refl _) (Nat.le_refl _) dX2_swap_49
  · replace hf := hif_n c4 hf
    refine h_aload_n dX2_swap_8 rfl 0 rfl ?_
    refine h_iload_n dX2_swap_9 rfl 2 rfl ?_
    obtain ⟨g26, hf⟩ := hck_s hf
    obtain ⟨t7, S6, h5, hf⟩ := hb2_s hf
    refine h_Vi [.int a2] (rest := []) (m_X2_here (d := 1) (cs := cs) (Nat.le_refl _) h5) v_X2_here q_517 rfl (Nat.le_trans (by decide) hd) g26 rfl rfl (Nat.le_of_ble_eq_true rfl) dX2_swap_10 (Nat.le_refl _) (Nat.le_refl _) ?_
    refine h_if_eq (tgt := 49) dX2_swap_13 (by decide) (fun c8 => ?_) (fun c8 => ?_)
    · replace hf := hif_p c8 hf
      obtain rfl := Option.some.inj hf
      exact h_vret rfl rfl rfl (Nat.le_refl _) (Nat.le_refl _) dX2_swap_49
    · replace hf := hif_n c8 hf
      refine h_aload_n dX2_swap_16 rfl 0 rfl ?_
      obtain ⟨t9, h10, hf⟩ := hbd_s hf
      refine h_getR h10 rfl (Nat.le_of_ble_eq_true rfl) rfl q_152 rfl dX2_swap_17 ?_
      refine h_iload_n dX2_swap_20 rfl 1 rfl ?_
      obtain ⟨t11, h12, hf⟩ := hbd_s hf
      refine h_iald h12 dX2_swap_21 ?_
      refine h_istore_n (lv2 := [(3, .int t11), (0, .ref a0), (1, .int a1), (2, .int a2)]) dX2_swap_22 rfl (Nat.le_of_ble_eq_true rfl) rfl ?_
      refine h_aload_n dX2_swap_23 rfl 1 rfl ?_
      obtain ⟨t13, h14, hf⟩ := hbd_s hf
      refine h_getR h14 rfl (Nat.le_of_ble_eq_true rfl) rfl q_152 rfl dX2_swap_24 ?_
      refine h_iload_n dX2_swap_27 rfl 3 rfl ?_
      obtain ⟨t15, h16, hf⟩ := hbd_s hf
      refine h_iald h16 dX2_swap_28 ?_
      refine h_istore (lv2 := [(4, .int t15), (3, .int t11), (0, .ref a0), (1, .int a1), (2, .int a2)]) dX2_swap_29 (Nat.le_of_ble_eq_true rfl) rfl ?_
      refine h_aload_n dX2_swap_31 rfl 2 rfl ?_
      refine h_iload_n dX2_swap_32 rfl 4 rfl ?_
      obtain ⟨g25, hf⟩ := hck_s hf
      obtain ⟨S18, h17, hf⟩ := hbd_s hf
      refine h_Vv [.int a2] (rest := []) (m_X2_leave (d := 2) (cs := cs) (Nat.le_refl _) h17) v_X2_leave q_513 rfl (Nat.le_trans (by decide) hd) g25 rfl rfl (Nat.le_of_ble_eq_true rfl) dX2_swap_33 (Nat.le_refl _) (Nat.le_refl _) ?_
      refine h_aload_n dX2_swap_36 rfl 2 rfl ?_
      refine h_iload_n dX2_swap_37 rfl 3 rfl ?_
      refine h_iload dX2_swap_38 0 rfl ?_
      obtain ⟨g24, hf⟩ := hck_s hf
      obtain ⟨S20, h19, hf⟩ := hbd_s hf
      refine h_Vv [.int a1, .int t15] (rest := []) (m_X2_put (d := 3) (cs := cs) (Nat.le_refl _) h19) v_X2_put q_505 rfl (Nat.le_trans (by decide) hd) g24 rfl rfl (Nat.le_of_ble_eq_true rfl) dX2_swap_40 (Nat.le_refl _) (Nat.le_refl _) ?_
      refine h_aload_n dX2_swap_43 rfl 2 rfl ?_
      refine h_iload_n dX2_swap_44 rfl 4 rfl ?_
      refine h_iload_n dX2_swap_45 rfl 1 rfl ?_
      obtain ⟨g23, hf⟩ := hck_s hf
      obtain ⟨S22, h21, hf⟩ := hbd_s hf
      refine h_Vv [.int a2, .int t11] (rest := []) (m_X2_put (d := 3) (cs := cs) (Nat.le_refl _) h21) v_X2_put q_505 rfl (Nat.le_trans (by decide) hd) g23 rfl rfl (Nat.le_of_ble_eq_true rfl) dX2_swap_46 (Nat.le_refl _) (Nat.le_refl _) ?_
      obtain rfl := Option.some.inj hf
      exact h_vret rfl rfl rfl (Nat.le_refl _) (Nat.le_refl _) dX2_swap_49
abbrev x_X3_readNumber (d : Nat) (S0 : hS) (args : List Value) (r : Int32 × hS) (cs : Nat → Nat) : hX := (((some .int), 3, d, 0, 0, false), (S0, args, some (.int r.1), r.2), cs)
theorem v_X3_readNumber : hVW yX3_readNumber cX3_readNumber 3 (some .int) RX3 2 := ⟨q_474, q_s6, q_6, q_475, by decide +kernel, by decide⟩
def f_X3_readNumber (a0 : Nat) (a1 : Int32) (a2 : Int32) (S : hS) : Option (Int32 × hS) :=
  hbd (gR S a0 3 0) fun t1 =>
  hck (S.K t1 = 8) <|
  hb2 (f_X7_failed t1 S) fun t5 S4 =>
  if t5 = 0 then
    (hbd (gR S4 a0 3 0) fun t7 =>
     hck (S4.K t7 = 8) <|
     hb2 (f_X7_number t7 a1 a2 S4) fun t11 S10 =>
     some (t11, S10))
  else
    (some ((-1), S4))
set_option maxRecDepth 100000 in
set_option maxHeartbeats 4000000 in
theorem m_X3_readNumber {d : Nat} {cs : Nat → Nat} {a0 : Nat} {a1 : Int32} {a2 : Int32} {S : hS} {r : Int32 × hS} (hd : 3 ≤ d) (hf : f_X3_readNumber a0 a1 a2 S = some r) : HM yX3_readNumber cX3_readNumber 3 (some .int) d 0 0 cs [.ref a0, .int a1, .int a2] S (some (.int r.1)) r.2 := by
  unfold f_X3_readNumber at hf
  refine HM.ofHW false (by decide) (fun h => by cases h) (Nat.le_of_ble_eq_true rfl) ?_
  show HW cX3_readNumber RX3 (x_X3_readNumber d S [.ref a0, .int a1, .int a2] r cs) 0 0 S 0 [(0, .ref a0), (1, .int a1), (2, .int a2)] []
  refine h_aload_n dX3_readNumber_0 rfl 0 rfl ?_
  obtain ⟨t1, h2, hf⟩ := hbd_s hf
  refine h_getR h2 rfl (Nat.le_of_ble_eq_true rfl) rfl q_237 rfl dX3_readNumber_1 ?_
  obtain ⟨g13, hf⟩ := hck_s hf
  obtain ⟨t5, S4, h3, hf⟩ := hb2_s hf
  refine h_Vi [] (rest := []) (m_X7_failed (d := 1) (cs := cs) (Nat.le_refl _) h3) v_X7_failed q_476 rfl (Nat.le_trans (by decide) hd) g13 rfl rfl (Nat.le_of_ble_eq_true rfl) dX3_readNumber_4 (Nat.le_refl _) (Nat.le_refl _) ?_
  refine h_if_eq (tgt := 14) dX3_readNumber_7 (by decide) (fun c6 => ?_) (fun c6 => ?_)
  · replace hf := hif_p c6 hf
    refine h_aload_n dX3_readNumber_14 rfl 0 rfl ?_
    obtain ⟨t7, h8, hf⟩ := hbd_s hf
    refine h_getR h8 rfl (Nat.le_of_ble_eq_true rfl) rfl q_237 rfl dX3_readNumber_15 ?_
    refine h_iload_n dX3_readNumber_18 rfl 1 rfl ?_
    refine h_iload_n dX3_readNumber_19 rfl 2 rfl ?_
    obtain ⟨g12, hf⟩ := hck_s hf
    obtain ⟨t11, S10, h9, hf⟩ := hb2_s hf
    refine h_Vi [.int a1, .int a2] (rest := []) (m_X7_number (d := 2) (cs := cs) (Nat.le_refl _) h9) v_X7_number q_467 rfl (Nat.le_trans (by decide) hd) g12 rfl rfl (Nat.le_of_ble_eq_true rfl) dX3_readNumber_20 (Nat.le_refl _) (Nat.le_refl _) ?_
    obtain rfl := Option.some.inj hf
    exact h_iret rfl rfl rfl (Nat.le_refl _) (Nat.le_refl _) dX3_readNumber_23
  · replace hf := hif_n c6 hf
    refine h_iconst (v := (-1)) dX3_readNumber_10 rfl ?_
    refine h_goto (tgt := 23) dX3_readNumber_11 (by decide) ?_
    obtain rfl := Option.some.inj hf
    exact h_iret rfl rfl rfl (Nat.le_refl _) (Nat.le_refl _) dX3_readNumber_23
