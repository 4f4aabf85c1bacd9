abbrev x_X9_both (d : Nat) (S0 : hS) (args : List Value) (r : Int64 × hS) (cs : Nat → Nat) : hX := (((some .long), 5, d, 0, 0, false), (S0, args, some (.long r.1), r.2), cs)
theorem v_X9_both : hSW yX9_both cX9_both 5 (some .long) 3 := ⟨q_1431, q_9, q_1432, by decide +kernel, by decide⟩
def f_X9_both (a0 : Int32) (a1 : Int64) (a3 : Int64) (S : hS) : Option (Int64 × hS) :=
  hj (γ := Unit → Option (Int64 × hS)) (fun (_ : Unit) =>
    some (a1 ||| a3, S)
    ) fun J1 =>
  if a0 = 2 then
    (some (a1 + a3, S))
  else
    (if a0 = 3 then
       (some (a1 - a3, S))
     else
       (if a0 = 4 then
          (hj (γ := Int32 → Option (Int64 × hS)) (fun (v6 : Int32) =>
             hb2 (f_X9_truth v6 S) fun t9 S8 =>
             some (t9, S8)
             ) fun J5 =>
           if 0 ≤ (lg_cmp a1 a3) then
             (J5 0)
           else
             (J5 1))
        else
          (if a0 = 5 then
             (hj (γ := Int32 → Option (Int64 × hS)) (fun (v13 : Int32) =>
                hb2 (f_X9_truth v13 S) fun t16 S15 =>
                some (t16, S15)
                ) fun J12 =>
              if 0 < (lg_cmp a1 a3) then
                (J12 0)
              else
                (J12 1))
           else
             (if a0 = 6 then
                (hj (γ := Int32 → Option (Int64 × hS)) (fun (v20 : Int32) =>
                   hb2 (f_X9_truth v20 S) fun t23 S22 =>
                   some (t23, S22)
                   ) fun J19 =>
                 if (lg_cmp a1 a3) = 0 then
                   (J19 1)
                 else
                   (J19 0))
              else
                (if a0 = 7 then
                   (hj (γ := Int32 → Option (Int64 × hS)) (fun (v27 : Int32) =>
                      hb2 (f_X9_truth v27 S) fun t30 S29 =>
                      some (t30, S29)
                      ) fun J26 =>
                    if (lg_cmp a1 a3) < 0 then
                      (J26 0)
                    else
                      (J26 1))
                 else
                   (if a0 = 8 then
                      (hj (γ := Int32 → Option (Int64 × hS)) (fun (v34 : Int32) =>
                         hb2 (f_X9_truth v34 S) fun t37 S36 =>
                         some (t37, S36)
                         ) fun J33 =>
                       if (lg_cmp a1 a3) ≤ 0 then
                         (J33 0)
                       else
                         (J33 1))
                    else
                      (if a0 = 9 then
                         (J1 ())
                       else
                         (if a0 = 10 then
                            (some (a1 &&& a3, S))
                          else
                            (if a0 = 11 then
                               (J1 ())
                             else
                               (if a0 = 12 then
                                  (J1 ())
                                else
                                  (if a0 = 13 then
                                     (some (a1 * a3, S))
                                   else
                                     (if a0 = 14 then
                                        (if (lg_cmp a3 0) = 0 then
                                           (some (0, S))
                                         else
                                           (hck (¬ a3 = 0) <|
                                            some (a1 / a3, S)))
                                      else
                                        (if a0 = 15 then
                                           (if (lg_cmp a3 0) = 0 then
                                              (some (0, S))
                                            else
                                              (hck (¬ a3 = 0) <|
                                               some (a1 - a1 / a3 * a3, S)))
                                         else
                                           (J1 ()))))))))))))))
set_option maxRecDepth 100000 in
set_option maxHeartbeats 4000000 in
theorem m_X9_both {d : Nat} {cs : Nat → Nat} {a0 : Int32} {a1 : Int64} {a3 : Int64} {S : hS} {r : Int64 × hS} (hd : 2 ≤ d) (hf : f_X9_both a0 a1 a3 S = some r) : HM yX9_both cX9_both 5 (some .long) d 0 0 cs [.int a0, .long a1, .long a3] S (some (.long r.1)) r.2 := by
  unfold f_X9_both at hf
  refine HM.ofHW false (by decide) (fun h => by cases h) (Nat.le_of_ble_eq_true rfl) ?_
  show HW cX9_both RX9 (x_X9_both d S [.int a0, .long a1, .long a3] r cs) 0 0 S 0 [(0, .int a0), (1, .long a1), (3, .long a3)] []
  refine h_iload_n dX9_both_0 rfl 0 rfl ?_
  refine hj_s (fun J1 => ∀ (w : Unit), J1 w = some r → HW cX9_both RX9 (x_X9_both d S [.int a0, .long a1, .long a3] r cs) 0 0 S 191 [(1, .long a1), (3, .long a3)] []) hf ?_ ?_
  · intro w hf
    refine h_lload_n dX9_both_191 rfl 0 rfl ?_
    refine h_lload_n dX9_both_192 rfl 1 rfl ?_
    refine h_lor dX9_both_193 ?_
    obtain rfl := Option.some.inj hf
    exact h_lret rfl rfl rfl (Nat.le_refl _) (Nat.le_refl _) dX9_both_194
  · intro J1 hJ1 hf
    by_cases c2 : a0 = 2
    · replace hf := hif_p c2 hf
      refine h_tabIn (tgt := 72) 2 (by rw [c2]; rfl) dX9_both_1 (by decide) (by decide) rfl (by decide) ?_
      refine h_lload_n dX9_both_72 rfl 1 rfl ?_
      refine h_lload_n dX9_both_73 rfl 2 rfl ?_
      refine h_ladd dX9_both_74 ?_
      obtain rfl := Option.some.inj hf
      exact h_lret rfl rfl rfl (Nat.le_refl _) (Nat.le_refl _) dX9_both_75
    · replace hf := hif_n c2 hf
      by_cases c3 : a0 = 3
      · replace hf := hif_p c3 hf
        refine h_tabIn (tgt := 76) 3 (by rw [c3]; rfl) dX9_both_1 (by decide) (by decide) rfl (by decide) ?_
        refine h_lload_n dX9_both_76 rfl 1 rfl ?_
        refine h_lload_n dX9_both_77 rfl 2 rfl ?_
        refine h_lsub dX9_both_78 ?_
        obtain rfl := Option.some.inj hf
        exact h_lret rfl rfl rfl (Nat.le_refl _) (Nat.le_refl _) dX9_both_79
      · replace hf := hif_n c3 hf
        by_cases c4 : a0 = 4
        · replace hf := hif_p c4 hf
          refine h_tabIn (tgt := 112) 4 (by rw [c4]; rfl) dX9_both_1 (by decide) (by decide) rfl (by decide) ?_
          refine h_lload_n dX9_both_112 rfl 1 rfl ?_
          refine h_lload_n dX9_both_113 rfl 2 rfl ?_
          refine h_lcmp dX9_both_114 ?_
          refine hj_s (fun J5 => ∀ (v6 : Int32), J5 v6 = some r → HW cX9_both RX9 (x_X9_both d S [.int a0, .long a1, .long a3] r cs) 0 0 S 123 [] [.int v6]) hf ?_ ?_
          · intro v6 hf
            obtain ⟨t9, S8, h7, hf⟩ := hb2_s hf
            refine h_Sl [.int v6] (rest := []) (m_X9_truth (d := 1) (cs := cs) (Nat.le_refl _) h7) v_X9_truth q_1433 rfl (Nat.le_trans (by decide) hd) rfl (Nat.le_of_ble_eq_true rfl) dX9_both_123 (Nat.le_refl _) (Nat.le_refl _) ?_
            obtain rfl := Option.some.inj hf
            exact h_lret rfl rfl rfl (Nat.le_refl _) (Nat.le_refl _) dX9_both_126
          · intro J5 hJ5 hf
            refine h_if_ge (tgt := 122) dX9_both_115 (by decide) (fun c10 => ?_) (fun c10 => ?_)
            · replace hf := hif_p c10 hf
              refine h_iconst (v := 0) dX9_both_122 rfl ?_
              refine h_sub (lv2 := []) [] rfl ?_
              exact hJ5 0 hf
            · replace hf := hif_n c10 hf
              refine h_iconst (v := 1) dX9_both_118 rfl ?_
              refine h_goto (tgt := 123) dX9_both_119 (by decide) ?_
              refine h_sub (lv2 := []) [] rfl ?_
              exact hJ5 1 hf
        · replace hf := hif_n c4 hf
          by_cases c11 : a0 = 5
          · replace hf := hif_p c11 hf
            refine h_tabIn (tgt := 127) 5 (by rw [c11]; rfl) dX9_both_1 (by decide) (by decide) rfl (by decide) ?_
            refine h_lload_n dX9_both_127 rfl 1 rfl ?_
            refine h_lload_n dX9_both_128 rfl 2 rfl ?_
            refine h_lcmp dX9_both_129 ?_
            refine hj_s (fun J12 => ∀ (v13 : Int32), J12 v13 = some r → HW cX9_both RX9 (x_X9_both d S [.int a0, .long a1, .long a3] r cs) 0 0 S 138 [] [.int v13]) hf ?_ ?_
            · intro v13 hf
              obtain ⟨t16, S15, h14, hf⟩ := hb2_s hf
              refine h_Sl [.int v13] (rest := []) (m_X9_truth (d := 1) (cs := cs) (Nat.le_refl _) h14) v_X9_truth q_1433 rfl (Nat.le_trans (by decide) hd) rfl (Nat.le_of_ble_eq_true rfl) dX9_both_138 (Nat.le_refl _) (Nat.le_refl _) ?_
              obtain rfl := Option.some.inj hf
              exact h_lret rfl rfl rfl (Nat.le_refl _) (Nat.le_refl _) dX9_both_141
            · intro J12 hJ12 hf
              refine h_if_gt (tgt := 137) dX9_both_130 (by decide) (fun c17 => ?_) (fun c17 => ?_)
              · replace hf := hif_p c17 hf
                refine h_iconst (v := 0) dX9_both_137 rfl ?_
                refine h_sub (lv2 := []) [] rfl ?_
                exact hJ12 0 hf
              · replace hf := hif_n c17 hf
                refine h_iconst (v := 1) dX9_both_133 rfl ?_
                refine h_goto (tgt := 138) dX9_both_134 (by decide) ?_
                refine h_sub (lv2 := []) [] rfl ?_
                exact hJ12 1 hf
          · replace hf := hif_n c11 hf
            by_cases c18 : a0 = 6
            · replace hf := hif_p c18 hf
              refine h_tabIn (tgt := 142) 6 (by rw [c18]; rfl) dX9_both_1 (by decide) (by decide) rfl (by decide) ?_
              refine h_lload_n dX9_both_142 rfl 1 rfl ?_
              refine h_lload_n dX9_both_143 rfl 2 rfl ?_
              refine h_lcmp dX9_both_144 ?_
              refine hj_s (fun J19 => ∀ (v20 : Int32), J19 v20 = some r → HW cX9_both RX9 (x_X9_both d S [.int a0, .long a1, .long a3] r cs) 0 0 S 153 [] [.int v20]) hf ?_ ?_
              · intro v20 hf
                obtain ⟨t23, S22, h21, hf⟩ := hb2_s hf
                refine h_Sl [.int v20] (rest := []) (m_X9_truth (d := 1) (cs := cs) (Nat.le_refl _) h21) v_X9_truth q_1433 rfl (Nat.le_trans (by decide) hd) rfl (Nat.le_of_ble_eq_true rfl) dX9_both_153 (Nat.le_refl _) (Nat.le_refl _) ?_
                obtain rfl := Option.some.inj hf
                exact h_lret rfl rfl rfl (Nat.le_refl _) (Nat.le_refl _) dX9_both_156
              · intro J19 hJ19 hf
                refine h_if_ne (tgt := 152) dX9_both_145 (by decide) (fun c24 => ?_) (fun c24 => ?_)
                · replace hf := hif_n c24 hf
                  refine h_iconst (v := 0) dX9_both_152 rfl ?_
                  refine h_sub (lv2 := []) [] rfl ?_
                  exact hJ19 0 hf
                · replace hf := hif_p c24 hf
                  refine h_iconst (v := 1) dX9_both_148 rfl ?_
                  refine h_goto (tgt := 153) dX9_both_149 (by decide) ?_
                  refine h_sub (lv2 := []) [] rfl ?_
                  exact hJ19 1 hf
            · replace hf := hif_n c18 hf
              by_cases c25 : a0 = 7
              · replace hf := hif_p c25 hf
                refine h_tabIn (tgt := 157) 7 (by rw [c25]; rfl) dX9_both_1 (by decide) (by decide) rfl (by decide) ?_
                refine h_lload_n dX9_both_157 rfl 1 rfl ?_
                refine h_lload_n dX9_both_158 rfl 2 rfl ?_
                refine h_lcmp dX9_both_159 ?_
                refine hj_s (fun J26 => ∀ (v27 : Int32), J26 v27 = some r → HW cX9_both RX9 (x_X9_both d S [.int a0, .long a1, .long a3] r cs) 0 0 S 168 [] [.int v27]) hf ?_ ?_
                · intro v27 hf
                  obtain ⟨t30, S29, h28, hf⟩ := hb2_s hf
                  refine h_Sl [.int v27] (rest := []) (m_X9_truth (d := 1) (cs := cs) (Nat.le_refl _) h28) v_X9_truth q_1433 rfl (Nat.le_trans (by decide) hd) rfl (Nat.le_of_ble_eq_true rfl) dX9_both_168 (Nat.le_refl _) (Nat.le_refl _) ?_
                  obtain rfl := Option.some.inj hf
                  exact h_lret rfl rfl rfl (Nat.le_refl _) (Nat.le_refl _) dX9_both_171
                · intro J26 hJ26 hf
                  refine h_if_lt (tgt := 167) dX9_both_160 (by decide) (fun c31 => ?_) (fun c31 => ?_)
                  · replace hf := hif_p c31 hf
                    refine h_iconst (v := 0) dX9_both_167 rfl ?_
                    refine h_sub (lv2 := []) [] rfl ?_
                    exact hJ26 0 hf
                  · replace hf := hif_n c31 hf
                    refine h_iconst (v := 1) dX9_both_163 rfl ?_
                    refine h_goto (tgt := 168) dX9_both_164 (by decide) ?_
                    refine h_sub (lv2 := []) [] rfl ?_
                    exact hJ26 1 hf
              · replace hf := hif_n c25 hf
                by_cases c32 : a0 = 8
                · replace hf := hif_p c32 hf
                  refine h_tabIn (tgt := 172) 8 (by rw [c32]; rfl) dX9_both_1 (by decide) (by decide) rfl (by decide) ?_
                  refine h_lload_n dX9_both_172 rfl 1 rfl ?_
                  refine h_lload_n dX9_both_173 rfl 2 rfl ?_
                  refine h_lcmp dX9_both_174 ?_
                  refine hj_s (fun J33 => ∀ (v34 : Int32), J33 v34 = some r → HW cX9_both RX9 (x_X9_both d S [.int a0, .long a1, .long a3] r cs) 0 0 S 183 [] [.int v34]) hf ?_ ?_
                  · intro v34 hf
                    obtain ⟨t37, S36, h35, hf⟩ := hb2_s hf
                    refine h_Sl [.int v34] (rest := []) (m_X9_truth (d := 1) (cs := cs) (Nat.le_refl _) h35) v_X9_truth q_1433 rfl (Nat.le_trans (by decide) hd) rfl (Nat.le_of_ble_eq_true rfl) dX9_both_183 (Nat.le_refl _) (Nat.le_refl _) ?_
                    obtain rfl := Option.some.inj hf
                    exact h_lret rfl rfl rfl (Nat.le_refl _) (Nat.le_refl _) dX9_both_186
                  · intro J33 hJ33 hf
                    refine h_if_le (tgt := 182) dX9_both_175 (by decide) (fun c38 => ?_) (fun c38 => ?_)
                    · replace hf := hif_p c38 hf
                      refine h_iconst (v := 0) dX9_both_182 rfl ?_
                      refine h_sub (lv2 := []) [] rfl ?_
                      exact hJ33 0 hf
                    · replace hf := hif_n c38 hf
                      refine h_iconst (v := 1) dX9_both_178 rfl ?_
                      refine h_goto (tgt := 183) dX9_both_179 (by decide) ?_
                      refine h_sub (lv2 := []) [] rfl ?_
                      exact hJ33 1 hf
                · replace hf := hif_n c32 hf
                  by_cases c39 : a0 = 9
                  · replace hf := hif_p c39 hf
                    refine h_tabIn (tgt := 191) 9 (by rw [c39]; rfl) dX9_both_1 (by decide) (by decide) rfl (by decide) ?_
                    refine h_sub (lv2 := [(1, .long a1), (3, .long a3)]) [1, 2] rfl ?_
                    exact hJ1 () hf
                  · replace hf := hif_n c39 hf
                    by_cases c40 : a0 = 10
                    · replace hf := hif_p c40 hf
                      refine h_tabIn (tgt := 187) 10 (by rw [c40]; rfl) dX9_both_1 (by decide) (by decide) rfl (by decide) ?_
                      refine h_lload_n dX9_both_187 rfl 1 rfl ?_
                      refine h_lload_n dX9_both_188 rfl 2 rfl ?_
                      refine h_land dX9_both_189 ?_
                      obtain rfl := Option.some.inj hf
                      exact h_lret rfl rfl rfl (Nat.le_refl _) (Nat.le_refl _) dX9_both_190
                    · replace hf := hif_n c40 hf
                      by_cases c41 : a0 = 11
                      · replace hf := hif_p c41 hf
                        refine h_tabIn (tgt := 191) 11 (by rw [c41]; rfl) dX9_both_1 (by decide) (by decide) rfl (by decide) ?_
                        refine h_sub (lv2 := [(1, .long a1), (3, .long a3)]) [1, 2] rfl ?_
                        exact hJ1 () hf
                      · replace hf := hif_n c41 hf
                        by_cases c42 : a0 = 12
                        · replace hf := hif_p c42 hf
                          refine h_tabIn (tgt := 191) 12 (by rw [c42]; rfl) dX9_both_1 (by decide) (by decide) rfl (by decide) ?_
                          refine h_sub (lv2 := [(1, .long a1), (3, .long a3)]) [1, 2] rfl ?_
                          exact hJ1 () hf
                        · replace hf := hif_n c42 hf
                          by_cases c43 : a0 = 13
                          · replace hf := hif_p c43 hf
                            refine h_tabIn (tgt := 80) 13 (by rw [c43]; rfl) dX9_both_1 (by decide) (by decide) rfl (by decide) ?_
                            refine h_lload_n dX9_both_80 rfl 1 rfl ?_
                            refine h_lload_n dX9_both_81 rfl 2 rfl ?_
                            refine h_lmul dX9_both_82 ?_
                            obtain rfl := Option.some.inj hf
                            exact h_lret rfl rfl rfl (Nat.le_refl _) (Nat.le_refl _) dX9_both_83
                          · replace hf := hif_n c43 hf
                            by_cases c44 : a0 = 14
                            · replace hf := hif_p c44 hf
                              refine h_tabIn (tgt := 84) 14 (by rw [c44]; rfl) dX9_both_1 (by decide) (by decide) rfl (by decide) ?_
                              refine h_lload_n dX9_both_84 rfl 2 rfl ?_
                              refine h_lconst (v := 0) dX9_both_85 rfl ?_
                              refine h_lcmp dX9_both_86 ?_
                              refine h_if_ne (tgt := 94) dX9_both_87 (by decide) (fun c45 => ?_) (fun c45 => ?_)
                              · replace hf := hif_n c45 hf
                                refine h_lload_n dX9_both_94 rfl 1 rfl ?_
                                refine h_lload_n dX9_both_95 rfl 2 rfl ?_
                                obtain ⟨h46, hf⟩ := hck_s hf
                                refine h_ldiv dX9_both_96 h46 ?_
                                obtain rfl := Option.some.inj hf
                                exact h_lret rfl rfl rfl (Nat.le_refl _) (Nat.le_refl _) dX9_both_97
                              · replace hf := hif_p c45 hf
                                refine h_lconst (v := 0) dX9_both_90 rfl ?_
                                refine h_goto (tgt := 97) dX9_both_91 (by decide) ?_
                                obtain rfl := Option.some.inj hf
                                exact h_lret rfl rfl rfl (Nat.le_refl _) (Nat.le_refl _) dX9_both_97
                            · replace hf := hif_n c44 hf
                              by_cases c47 : a0 = 15
                              · replace hf := hif_p c47 hf
                                refine h_tabIn (tgt := 98) 15 (by rw [c47]; rfl) dX9_both_1 (by decide) (by decide) rfl (by decide) ?_
                                refine h_lload_n dX9_both_98 rfl 2 rfl ?_
                                refine h_lconst (v := 0) dX9_both_99 rfl ?_
                                refine h_lcmp dX9_both_100 ?_
                                refine h_if_ne (tgt := 108) dX9_both_101 (by decide) (fun c48 => ?_) (fun c48 => ?_)
                                · replace hf := hif_n c48 hf
                                  refine h_lload_n dX9_both_108 rfl 1 rfl ?_
                                  refine h_lload_n dX9_both_109 rfl 2 rfl ?_
                                  obtain ⟨h49, hf⟩ := hck_s hf
                                  refine h_lrem dX9_both_110 h49 ?_
                                  obtain rfl := Option.some.inj hf
                                  exact h_lret rfl rfl rfl (Nat.le_refl _) (Nat.le_refl _) dX9_both_111
                                · replace hf := hif_p c48 hf
                                  refine h_lconst (v := 0) dX9_both_104 rfl ?_
                                  refine h_goto (tgt := 111) dX9_both_105 (by decide) ?_
                                  obtain rfl := Option.some.inj hf
                                  exact h_lret rfl rfl rfl (Nat.le_refl _) (Nat.le_refl _) dX9_both_111
                              · replace hf := hif_n c47 hf
                                refine h_tabOut (tgt := 191) dX9_both_1 (by have g0 := hne_t (a := 2) c2 rfl; have g1 := hne_t (a := 3) c3 rfl; have g2 := hne_t (a := 4) c4 rfl; have g3 := hne_t (a := 5) c11 rfl; have g4 := hne_t (a := 6) c18 rfl; have g5 := hne_t (a := 7) c25 rfl; have g6 := hne_t (a := 8) c32 rfl; have g7 := hne_t (a := 9) c39 rfl; have g8 := hne_t (a := 10) c40 rfl; have g9 := hne_t (a := 11) c41 rfl; have g10 := hne_t (a := 12) c42 rfl; have g11 := hne_t (a := 13) c43 rfl; have g12 := hne_t (a := 14) c44 rfl; have g13 := hne_t (a := 15) c47 rfl; omega) (by decide) ?_
                                refine h_sub (lv2 := [(1, .long a1), (3, .long a3)]) [1, 2] rfl ?_
                                exact hJ1 () hf
abbrev x_X9_answer (d : Nat) (S0 : hS) (args : List Value) (r : Int64 × hS) (cs : Nat → Nat) : hX := (((some .long), 8, d, 0, 0, false), (S0, args, some (.long r.1), r.2), cs)
theorem v_X9_answer : hVW yX9_answer cX9_answer 8 (some .long) RX9 3 := ⟨q_1428, q_s81, q_9, q_1429, by decide +kernel, by decide⟩
def f_X9_answer_L6 : Nat → Nat → Int32 → Int32 → Int32 → Int32 → hS → (hS → Option (Int64 × hS)) → Option (Int64 × hS)
  | 0, _, _, _, _, _, _, _ => none
  | n + 1, x0, x1, x3, x4, x5, S, k0 =>
    if x3 ≤ x5 then
      (k0 S)
    else
      (hbd (gR S x0 9 35) fun t2 =>
       hbd (gA S t2 12 ((300 * x1) + x5)) fun t4 =>
       hbd (gR S x0 9 36) fun t6 =>
       hbd (gA S t6 12 ((300 * x1) + x5)) fun t8 =>
       hj (γ := Unit → Option (Int64 × hS)) (fun (_ : Unit) =>
         hbd (gR S x0 9 43) fun t11 =>
         hj (γ := Int64 → Option (Int64 × hS)) (fun (v14 : Int64) =>
           hbd (sAJ S t11 x4 v14) fun S15 =>
           f_X9_answer_L6 n x0 x1 x3 (x4 + 1) (x5 + 1) S15 k0
           ) fun J13 =>
         if t4 = 0 then
           (J13 (Int32.toInt64 t8))
         else
           (hbd (gR S x0 9 42) fun t18 =>
            hbd (gAJ S t18 t8) fun t20 =>
            J13 t20)
         ) fun J10 =>
       if t4 = 0 then
         (J10 ())
       else
         (if t4 = 1 then
            (J10 ())
          else
            (if t4 = 9 then
               (hbd (gR S x0 9 43) fun t40 =>
                hbd (gR S x0 9 43) fun t42 =>
                hbd (gAJ S t42 (x4 - 1)) fun t44 =>
                hbd (sAJ S t40 (x4 - 1) (1 - t44)) fun S46 =>
                f_X9_answer_L6 n x0 x1 x3 x4 (x5 + 1) S46 k0)
             else
               (hbd (gR S x0 9 43) fun t25 =>
                hbd (gR S x0 9 43) fun t27 =>
                hbd (gAJ S t27 ((x4 + (-1)) - 1)) fun t29 =>
                hbd (gR S x0 9 43) fun t31 =>
                hbd (gAJ S t31 (x4 + (-1))) fun t33 =>
                hb2 (f_X9_both t4 t29 t33 S) fun t37 S36 =>
                hbd (sAJ S36 t25 ((x4 + (-1)) - 1) t37) fun S38 =>
                f_X9_answer_L6 n x0 x1 x3 (x4 + (-1)) (x5 + 1) S38 k0))))
def f_X9_answer (a0 : Nat) (a1 : Int32) (a2 : Int32) (a3 : Int32) (S : hS) : Option (Int64 × hS) :=
  f_X9_answer_L6 hfuel a0 a1 a3 0 a2 S
    (fun S48 =>
      hbd (gR S48 a0 9 43) fun t49 =>
      hbd (gAJ S48 t49 0) fun t51 =>
      some (t51, S48)
    )
set_option maxRecDepth 100000 in
set_option maxHeartbeats 4000000 in
theorem w_X9_answer_L6 {d : Nat} {S0 : hS} {args : List Value} {cs : Nat → Nat} {r : Int64 × hS} (hd : 3 ≤ d) : ∀ (n : Nat) (x0 : Nat) (x1 : Int32) (x3 : Int32) (x4 : Int32) (x5 : Int32) (S : hS) (k0 : (hS → Option (Int64 × hS))) , f_X9_answer_L6 n x0 x1 x3 x4 x5 S k0 = some r → (∀ (T : hS), k0 T = some r → HW cX9_answer RX9 (x_X9_answer d S0 args r cs) 0 0 T 153 [(0, .ref x0)] []) → HW cX9_answer RX9 (x_X9_answer d S0 args r cs) 0 0 S 6 [(0, .ref x0), (1, .int x1), (3, .int x3), (4, .int x4), (5, .int x5)] [] := by
  intro n
  induction n with
  | zero =>
    intro x0 x1 x3 x4 x5 S k0 hf
    cases hf
  | succ n ih =>
    intro x0 x1 x3 x4 x5 S k0 hf hk0
    rw [f_X9_answer_L6] at hf
    refine h_iload dX9_answer_6 4 rfl ?_
    refine h_iload_n dX9_answer_8 rfl 2 rfl ?_
    refine h_icmp_ge (tgt := 153) dX9_answer_9 (by decide) (fun c1 => ?_) (fun c1 => ?_)
    · replace hf := hif_p c1 hf
      refine h_sub (lv2 := [(0, .ref x0)]) [0] rfl ?_
      exact hk0 S hf
    · replace hf := hif_n c1 hf
      refine h_aload_n dX9_answer_12 rfl 0 rfl ?_
      obtain ⟨t2, h3, hf⟩ := hbd_s hf
      refine h_getR h3 rfl (Nat.le_of_ble_eq_true rfl) rfl q_995 rfl dX9_answer_13 ?_
      refine h_sipush (v := 300) dX9_answer_16 rfl ?_
      refine h_iload_n dX9_answer_19 rfl 1 rfl ?_
      refine h_imul dX9_answer_20 ?_
      refine h_iload dX9_answer_21 4 rfl ?_
      refine h_iadd dX9_answer_23 ?_
      obtain ⟨t4, h5, hf⟩ := hbd_s hf
      refine h_iald h5 dX9_answer_24 ?_
      refine h_istore (lv2 := [(6, .int t4), (0, .ref x0), (1, .int x1), (3, .int x3), (4, .int x4), (5, .int x5)]) dX9_answer_25 (Nat.le_of_ble_eq_true rfl) rfl ?_
      refine h_aload_n dX9_answer_27 rfl 1 rfl ?_
      obtain ⟨t6, h7, hf⟩ := hbd_s hf
      refine h_getR h7 rfl (Nat.le_of_ble_eq_true rfl) rfl q_996 rfl dX9_answer_28 ?_
      refine h_sipush (v := 300) dX9_answer_31 rfl ?_
      refine h_iload_n dX9_answer_34 rfl 2 rfl ?_
      refine h_imul dX9_answer_35 ?_
      refine h_iload dX9_answer_36 5 rfl ?_
      refine h_iadd dX9_answer_38 ?_
      obtain ⟨t8, h9, hf⟩ := hbd_s hf
      refine h_iald h9 dX9_answer_39 ?_
      refine h_istore (lv2 := [(7, .int t8), (6, .int t4), (0, .ref x0), (1, .int x1), (3, .int x3), (4, .int x4), (5, .int x5)]) dX9_answer_40 (Nat.le_of_ble_eq_true rfl) rfl ?_
      refine h_iload dX9_answer_42 1 rfl ?_
      refine hj_s (fun J10 => ∀ (w : Unit), J10 w = some r → HW cX9_answer RX9 (x_X9_answer d S0 args r cs) 0 0 S 53 [(0, .ref x0), (1, .int x1), (3, .int x3), (4, .int x4), (5, .int x5), (6, .int t4), (7, .int t8)] []) hf ?_ ?_
      · intro w hf
        refine h_aload_n dX9_answer_53 rfl 0 rfl ?_
        obtain ⟨t11, h12, hf⟩ := hbd_s hf
        refine h_getR h12 rfl (Nat.le_of_ble_eq_true rfl) rfl q_1003 rfl dX9_answer_54 ?_
        refine h_iload dX9_answer_57 3 rfl ?_
        refine h_iload dX9_answer_59 5 rfl ?_
        refine hj_s (fun J13 => ∀ (v14 : Int64), J13 v14 = some r → HW cX9_answer RX9 (x_X9_answer d S0 args r cs) 0 0 S 77 [(0, .ref x0), (1, .int x1), (3, .int x3), (4, .int x4), (5, .int x5)] [.long v14, .int x4, .ref t11]) hf ?_ ?_
        · intro v14 hf
          obtain ⟨S15, h16, hf⟩ := hbd_s hf
          refine h_last h16 dX9_answer_77 ?_
          refine h_iinc (q := 3) (v := x4 + 1) (lv2 := [(4, .int (x4 + 1)), (0, .ref x0), (1, .int x1), (3, .int x3), (5, .int x5)]) dX9_answer_78 rfl rfl (Nat.le_of_ble_eq_true rfl) rfl ?_
          refine h_goto (tgt := 147) dX9_answer_81 (by decide) ?_
          refine h_iinc (q := 4) (v := x5 + 1) (lv2 := [(5, .int (x5 + 1)), (4, .int (x4 + 1)), (0, .ref x0), (1, .int x1), (3, .int x3)]) dX9_answer_147 rfl rfl (Nat.le_of_ble_eq_true rfl) rfl ?_
          refine h_goto (tgt := 6) dX9_answer_150 (by decide) ?_
          refine h_sub (lv2 := [(0, .ref x0), (1, .int x1), (3, .int x3), (4, .int (x4 + 1)), (5, .int (x5 + 1))]) [2, 3, 4, 1, 0] rfl ?_
          exact ih x0 x1 x3 (x4 + 1) (x5 + 1) S15 k0  hf hk0
        · intro J13 hJ13 hf
          refine h_if_ne (tgt := 70) dX9_answer_61 (by decide) (fun c17 => ?_) (fun c17 => ?_)
          · replace hf := hif_n c17 hf
            refine h_aload_n dX9_answer_70 rfl 0 rfl ?_
            obtain ⟨t18, h19, hf⟩ := hbd_s hf
            refine h_getR h19 rfl (Nat.le_of_ble_eq_true rfl) rfl q_1002 rfl dX9_answer_71 ?_
            refine h_iload dX9_answer_74 6 rfl ?_
            obtain ⟨t20, h21, hf⟩ := hbd_s hf
            refine h_lald h21 dX9_answer_76 ?_
            refine h_sub (lv2 := [(0, .ref x0), (1, .int x1), (3, .int x3), (4, .int x4), (5, .int x5)]) [0, 1, 2, 3, 4] rfl ?_
            exact hJ13 t20 hf
          · replace hf := hif_p c17 hf
            refine h_iload dX9_answer_64 6 rfl ?_
            refine h_i2l dX9_answer_66 ?_
            refine h_goto (tgt := 77) dX9_answer_67 (by decide) ?_
            refine h_sub (lv2 := [(0, .ref x0), (1, .int x1), (3, .int x3), (4, .int x4), (5, .int x5)]) [0, 1, 2, 3, 4] rfl ?_
            exact hJ13 (Int32.toInt64 t8) hf
      · intro J10 hJ10 hf
        refine h_if_eq (tgt := 53) dX9_answer_44 (by decide) (fun c22 => ?_) (fun c22 => ?_)
        · replace hf := hif_p c22 hf
          refine h_sub (lv2 := [(0, .ref x0), (1, .int x1), (3, .int x3), (4, .int x4), (5, .int x5), (6, .int t4), (7, .int t8)]) [2, 3, 4, 5, 6, 1, 0] rfl ?_
          exact hJ10 () hf
        · replace hf := hif_n c22 hf
          refine h_iload dX9_answer_47 1 rfl ?_
          refine h_iconst (v := 1) dX9_answer_49 rfl ?_
          refine h_icmp_ne (tgt := 84) dX9_answer_50 (by decide) (fun c23 => ?_) (fun c23 => ?_)
          · replace hf := hif_n c23 hf
            refine h_iload dX9_answer_84 1 rfl ?_
            refine h_bipush (v := 9) dX9_answer_86 rfl ?_
            refine h_icmp_ne (tgt := 114) dX9_answer_88 (by decide) (fun c24 => ?_) (fun c24 => ?_)
            · replace hf := hif_n c24 hf
              refine h_iinc (q := 5) (v := x4 + (-1)) (lv2 := [(4, .int (x4 + (-1))), (7, .int t8), (6, .int t4), (0, .ref x0), (1, .int x1), (3, .int x3), (5, .int x5)]) dX9_answer_114 rfl rfl (Nat.le_of_ble_eq_true rfl) rfl ?_
              refine h_aload_n dX9_answer_117 rfl 3 rfl ?_
              obtain ⟨t25, h26, hf⟩ := hbd_s hf
              refine h_getR h26 rfl (Nat.le_of_ble_eq_true rfl) rfl q_1003 rfl dX9_answer_118 ?_
              refine h_iload dX9_answer_121 0 rfl ?_
              refine h_iconst (v := 1) dX9_answer_123 rfl ?_
              refine h_isub dX9_answer_124 ?_
              refine h_iload dX9_answer_125 2 rfl ?_
              refine h_aload_n dX9_answer_127 rfl 3 rfl ?_
              obtain ⟨t27, h28, hf⟩ := hbd_s hf
              refine h_getR h28 rfl (Nat.le_of_ble_eq_true rfl) rfl q_1003 rfl dX9_answer_128 ?_
              refine h_iload dX9_answer_131 0 rfl ?_
              refine h_iconst (v := 1) dX9_answer_133 rfl ?_
              refine h_isub dX9_answer_134 ?_
              obtain ⟨t29, h30, hf⟩ := hbd_s hf
              refine h_lald h30 dX9_answer_135 ?_
              refine h_aload_n dX9_answer_136 rfl 3 rfl ?_
              obtain ⟨t31, h32, hf⟩ := hbd_s hf
              refine h_getR h32 rfl (Nat.le_of_ble_eq_true rfl) rfl q_1003 rfl dX9_answer_137 ?_
              refine h_iload dX9_answer_140 0 rfl ?_
              obtain ⟨t33, h34, hf⟩ := hbd_s hf
              refine h_lald h34 dX9_answer_142 ?_
              obtain ⟨t37, S36, h35, hf⟩ := hb2_s hf
              refine h_Sl [.int t4, .long t29, .long t33] (rest := [.int ((x4 + (-1)) - 1), .ref t25]) (m_X9_both (d := 2) (cs := cs) (Nat.le_refl _) h35) v_X9_both q_1430 rfl (Nat.le_trans (by decide) hd) rfl (Nat.le_of_ble_eq_true rfl) dX9_answer_143 (Nat.le_refl _) (Nat.le_refl _) ?_
              obtain ⟨S38, h39, hf⟩ := hbd_s hf
              refine h_last h39 dX9_answer_146 ?_
              refine h_iinc (q := 6) (v := x5 + 1) (lv2 := [(5, .int (x5 + 1)), (4, .int (x4 + (-1))), (7, .int t8), (6, .int t4), (0, .ref x0), (1, .int x1), (3, .int x3)]) dX9_answer_147 rfl rfl (Nat.le_of_ble_eq_true rfl) rfl ?_
              refine h_goto (tgt := 6) dX9_answer_150 (by decide) ?_
              refine h_sub (lv2 := [(0, .ref x0), (1, .int x1), (3, .int x3), (4, .int (x4 + (-1))), (5, .int (x5 + 1))]) [4, 5, 6, 1, 0] rfl ?_
              exact ih x0 x1 x3 (x4 + (-1)) (x5 + 1) S38 k0  hf hk0
            · replace hf := hif_p c24 hf
              refine h_aload_n dX9_answer_91 rfl 2 rfl ?_
              obtain ⟨t40, h41, hf⟩ := hbd_s hf
              refine h_getR h41 rfl (Nat.le_of_ble_eq_true rfl) rfl q_1003 rfl dX9_answer_92 ?_
              refine h_iload dX9_answer_95 5 rfl ?_
              refine h_iconst (v := 1) dX9_answer_97 rfl ?_
              refine h_isub dX9_answer_98 ?_
              refine h_lconst (v := 1) dX9_answer_99 rfl ?_
              refine h_aload_n dX9_answer_100 rfl 2 rfl ?_
              obtain ⟨t42, h43, hf⟩ := hbd_s hf
              refine h_getR h43 rfl (Nat.le_of_ble_eq_true rfl) rfl q_1003 rfl dX9_answer_101 ?_
              refine h_iload dX9_answer_104 5 rfl ?_
              refine h_iconst (v := 1) dX9_answer_106 rfl ?_
              refine h_isub dX9_answer_107 ?_
              obtain ⟨t44, h45, hf⟩ := hbd_s hf
              refine h_lald h45 dX9_answer_108 ?_
              refine h_lsub dX9_answer_109 ?_
              obtain ⟨S46, h47, hf⟩ := hbd_s hf
              refine h_last h47 dX9_answer_110 ?_
              refine h_goto (tgt := 147) dX9_answer_111 (by decide) ?_
              refine h_iinc (q := 6) (v := x5 + 1) (lv2 := [(5, .int (x5 + 1)), (7, .int t8), (6, .int t4), (0, .ref x0), (1, .int x1), (3, .int x3), (4, .int x4)]) dX9_answer_147 rfl rfl (Nat.le_of_ble_eq_true rfl) rfl ?_
              refine h_goto (tgt := 6) dX9_answer_150 (by decide) ?_
              refine h_sub (lv2 := [(0, .ref x0), (1, .int x1), (3, .int x3), (4, .int x4), (5, .int (x5 + 1))]) [3, 4, 5, 6, 0] rfl ?_
              exact ih x0 x1 x3 x4 (x5 + 1) S46 k0  hf hk0
          · replace hf := hif_p c23 hf
            refine h_sub (lv2 := [(0, .ref x0), (1, .int x1), (3, .int x3), (4, .int x4), (5, .int x5), (6, .int t4), (7, .int t8)]) [2, 3, 4, 5, 6, 1, 0] rfl ?_
            exact hJ10 () hf
set_option maxRecDepth 100000 in
set_option maxHeartbeats 4000000 in
theorem m_X9_answer {d : Nat} {cs : Nat → Nat} {a0 : Nat} {a1 : Int32} {a2 : Int32} {a3 : Int32} {S : hS} {r : Int64 × hS} (hd : 3 ≤ d) (hf : f_X9_answer a0 a1 a2 a3 S = some r) : HM yX9_answer cX9_answer 8 (some .long) d 0 0 cs [.ref a0, .int a1, .int a2, .int a3] S (some (.long r.1)) r.2 := by
  unfold f_X9_answer at hf
  refine HM.ofHW false (by decide) (fun h => by cases h) (Nat.le_of_ble_eq_true rfl) ?_
  show HW cX9_answer RX9 (x_X9_answer d S [.ref a0, .int a1, .int a2, .int a3] r cs) 0 0 S 0 [(0, .ref a0), (1, .int a1), (2, .int a2), (3, .int a3)] []
  refine h_iconst (v := 0) dX9_answer_0 rfl ?_
  refine h_istore (lv2 := [(4, .int 0), (0, .ref a0), (1, .int a1), (2, .int a2), (3, .int a3)]) dX9_answer_1 (Nat.le_of_ble_eq_true rfl) rfl ?_
  refine h_iload_n dX9_answer_3 rfl 3 rfl ?_
  refine h_istore (lv2 := [(5, .int a2), (4, .int 0), (0, .ref a0), (1, .int a1), (2, .int a2), (3, .int a3)]) dX9_answer_4 (Nat.le_of_ble_eq_true rfl) rfl ?_
  refine h_sub (lv2 := [(0, .ref a0), (1, .int a1), (3, .int a3), (4, .int 0), (5, .int a2)]) [2, 3, 5, 1, 0] rfl ?_
  refine w_X9_answer_L6 hd hfuel a0 a1 a3 0 a2 S _  hf ?_
  · intro S48 hf
    refine h_aload_n dX9_answer_153 rfl 0 rfl ?_
    obtain ⟨t49, h50, hf⟩ := hbd_s hf
    refine h_getR h50 rfl (Nat.le_of_ble_eq_true rfl) rfl q_1003 rfl dX9_answer_154 ?_
    refine h_iconst (v := 0) dX9_answer_157 rfl ?_
    obtain ⟨t51, h52, hf⟩ := hbd_s hf
    refine h_lald h52 dX9_answer_158 ?_
    obtain rfl := Option.some.inj hf
    exact h_lret rfl rfl rfl (Nat.le_refl _) (Nat.le_refl _) dX9_answer_159
abbrev x_X9_seat (d : Nat) (S0 : hS) (args : List Value) (r : Int32 × hS) (cs : Nat → Nat) : hX := (((some .int), 5, d, 0, 0, false), (S0, args, some (.int r.1), r.2), cs)
theorem v_X9_seat : hVW yX9_seat cX9_seat 5 (some .int) RX9 3 := ⟨q_1321, q_1322, q_9, q_1323, by decide +kernel, by decide⟩
def f_X9_seat (a0 : Nat) (a1 : Int32) (a2 : Int32) (a3 : Int32) (S : hS) : Option (Int32 × hS) :=
  hck (S.K a0 = 10) <|
  hb2 (f_X9_isSeat a0 a1 a2 S) fun t3 S2 =>
  if t3 = 0 then
    (some ((-1), S2))
  else
    (if a3 = 0 then
       (hbd (gR S2 a0 9 2) fun t6 =>
        hbd (gA S2 t6 12 ((10 * a2) + a1)) fun t8 =>
        some (t8, S2))
     else
       (if a3 = 1 then
          (hck (S2.K a0 = 10) <|
           hb2 (f_X9_whoAt a0 ((10 * a2) + a1) S2) fun t13 S12 =>
           some (t13, S12))
        else
          (if a3 = 2 then
             (hbd (gR S2 a0 9 1) fun t16 =>
              hbd (gA S2 t16 12 5) fun t18 =>
              if t18 = ((10 * a2) + a1) then
                (some (1, S2))
              else
                (some (0, S2)))
           else
             (if a3 = 3 then
                (hck (S2.K a0 = 10) <|
                 hb2 (f_X9_edge a0 ((10 * a2) + a1) S2) fun t24 S23 =>
                 some (t24, S23))
              else
                (some ((-1), S2))))))
set_option maxRecDepth 100000 in
set_option maxHeartbeats 4000000 in
theorem m_X9_seat {d : Nat} {cs : Nat → Nat} {a0 : Nat} {a1 : Int32} {a2 : Int32} {a3 : Int32} {S : hS} {r : Int32 × hS} (hd : 3 ≤ d) (hf : f_X9_seat a0 a1 a2 a3 S = some r) : HM yX9_seat cX9_seat 5 (some .int) d 0 0 cs [.ref a0, .int a1, .int a2, .int a3] S (some (.int r.1)) r.2 := by
  unfold f_X9_seat at hf
  refine HM.ofHW false (by decide) (fun h => by cases h) (Nat.le_of_ble_eq_true rfl) ?_
  show HW cX9_seat RX9 (x_X9_seat d S [.ref a0, .int a1, .int a2, .int a3] r cs) 0 0 S 0 [(0, .ref a0), (1, .int a1), (2, .int a2), (3, .int a3)] []
  refine h_aload_n dX9_seat_0 rfl 0 rfl ?_
  refine h_iload_n dX9_seat_1 rfl 1 rfl ?_
  refine h_iload_n dX9_seat_2 rfl 2 rfl ?_
  obtain ⟨g26, hf⟩ := hck_s hf
  obtain ⟨t3, S2, h1, hf⟩ := hb2_s hf
  refine h_Vi [.int a1, .int a2] (rest := []) (m_X9_isSeat (d := 2) (cs := cs) (Nat.le_refl _) h1) v_X9_isSeat q_1324 rfl (Nat.le_trans (by decide) hd) g26 rfl rfl (Nat.le_of_ble_eq_true rfl) dX9_seat_3 (Nat.le_refl _) (Nat.le_refl _) ?_
  refine h_if_ne (tgt := 11) dX9_seat_6 (by decide) (fun c4 => ?_) (fun c4 => ?_)
  · replace hf := hif_n c4 hf
    refine h_bipush (v := 10) dX9_seat_11 rfl ?_
    refine h_iload_n dX9_seat_13 rfl 2 rfl ?_
    refine h_imul dX9_seat_14 ?_
    refine h_iload_n dX9_seat_15 rfl 1 rfl ?_
    refine h_iadd dX9_seat_16 ?_
    refine h_istore (lv2 := [(4, .int ((10 * a2) + a1)), (0, .ref a0), (1, .int a1), (2, .int a2), (3, .int a3)]) dX9_seat_17 (Nat.le_of_ble_eq_true rfl) rfl ?_
    refine h_iload_n dX9_seat_19 rfl 4 rfl ?_
    by_cases c5 : a3 = 0
    · replace hf := hif_p c5 hf
      refine h_tabIn (tgt := 52) 0 (by rw [c5]; rfl) dX9_seat_20 (by decide) (by decide) rfl (by decide) ?_
      refine h_aload_n dX9_seat_52 rfl 1 rfl ?_
      obtain ⟨t6, h7, hf⟩ := hbd_s hf
      refine h_getR h7 rfl (Nat.le_of_ble_eq_true rfl) rfl q_962 rfl dX9_seat_53 ?_
      refine h_iload dX9_seat_56 0 rfl ?_
      obtain ⟨t8, h9, hf⟩ := hbd_s hf
      refine h_iald h9 dX9_seat_58 ?_
      obtain rfl := Option.some.inj hf
      exact h_iret rfl rfl rfl (Nat.le_refl _) (Nat.le_refl _) dX9_seat_59
    · replace hf := hif_n c5 hf
      by_cases c10 : a3 = 1
      · replace hf := hif_p c10 hf
        refine h_tabIn (tgt := 60) 1 (by rw [c10]; rfl) dX9_seat_20 (by decide) (by decide) rfl (by decide) ?_
        refine h_aload_n dX9_seat_60 rfl 1 rfl ?_
        refine h_iload dX9_seat_61 0 rfl ?_
        obtain ⟨g14, hf⟩ := hck_s hf
        obtain ⟨t13, S12, h11, hf⟩ := hb2_s hf
        refine h_Vi [.int ((10 * a2) + a1)] (rest := []) (m_X9_whoAt (d := 1) (cs := cs) (Nat.le_refl _) h11) v_X9_whoAt q_1328 rfl (Nat.le_trans (by decide) hd) g14 rfl rfl (Nat.le_of_ble_eq_true rfl) dX9_seat_63 (Nat.le_refl _) (Nat.le_refl _) ?_
        obtain rfl := Option.some.inj hf
        exact h_iret rfl rfl rfl (Nat.le_refl _) (Nat.le_refl _) dX9_seat_66
      · replace hf := hif_n c10 hf
        by_cases c15 : a3 = 2
        · replace hf := hif_p c15 hf
          refine h_tabIn (tgt := 67) 2 (by rw [c15]; rfl) dX9_seat_20 (by decide) (by decide) rfl (by decide) ?_
          refine h_aload_n dX9_seat_67 rfl 1 rfl ?_
          obtain ⟨t16, h17, hf⟩ := hbd_s hf
          refine h_getR h17 rfl (Nat.le_of_ble_eq_true rfl) rfl q_961 rfl dX9_seat_68 ?_
          refine h_iconst (v := 5) dX9_seat_71 rfl ?_
          obtain ⟨t18, h19, hf⟩ := hbd_s hf
          refine h_iald h19 dX9_seat_72 ?_
          refine h_iload dX9_seat_73 0 rfl ?_
          refine h_icmp_ne (tgt := 82) dX9_seat_75 (by decide) (fun c20 => ?_) (fun c20 => ?_)
          · replace hf := hif_n c20 hf
            refine h_iconst (v := 0) dX9_seat_82 rfl ?_
            obtain rfl := Option.some.inj hf
            exact h_iret rfl rfl rfl (Nat.le_refl _) (Nat.le_refl _) dX9_seat_83
          · replace hf := hif_p c20 hf
            refine h_iconst (v := 1) dX9_seat_78 rfl ?_
            refine h_goto (tgt := 83) dX9_seat_79 (by decide) ?_
            obtain rfl := Option.some.inj hf
            exact h_iret rfl rfl rfl (Nat.le_refl _) (Nat.le_refl _) dX9_seat_83
        · replace hf := hif_n c15 hf
          by_cases c21 : a3 = 3
          · replace hf := hif_p c21 hf
            refine h_tabIn (tgt := 84) 3 (by rw [c21]; rfl) dX9_seat_20 (by decide) (by decide) rfl (by decide) ?_
            refine h_aload_n dX9_seat_84 rfl 1 rfl ?_
            refine h_iload dX9_seat_85 0 rfl ?_
            obtain ⟨g25, hf⟩ := hck_s hf
            obtain ⟨t24, S23, h22, hf⟩ := hb2_s hf
            refine h_Vi [.int ((10 * a2) + a1)] (rest := []) (m_X9_edge (d := 1) (cs := cs) (Nat.le_refl _) h22) v_X9_edge q_1332 rfl (Nat.le_trans (by decide) hd) g25 rfl rfl (Nat.le_of_ble_eq_true rfl) dX9_seat_87 (Nat.le_refl _) (Nat.le_refl _) ?_
            obtain rfl := Option.some.inj hf
            exact h_iret rfl rfl rfl (Nat.le_refl _) (Nat.le_refl _) dX9_seat_90
          · replace hf := hif_n c21 hf
            refine h_tabOut (tgt := 91) dX9_seat_20 (by have g0 := hne_t (a := 0) c5 rfl; have g1 := hne_t (a := 1) c10 rfl; have g2 := hne_t (a := 2) c15 rfl; have g3 := hne_t (a := 3) c21 rfl; omega) (by decide) ?_
            refine h_iconst (v := (-1)) dX9_seat_91 rfl ?_
            obtain rfl := Option.some.inj hf
            exact h_iret rfl rfl rfl (Nat.le_refl _) (Nat.le_refl _) dX9_seat_92
  · replace hf := hif_p c4 hf
    refine h_iconst (v := (-1)) dX9_seat_9 rfl ?_
    obtain rfl := Option.some.inj hf
    exact h_iret rfl rfl rfl (Nat.le_refl _) (Nat.le_refl _) dX9_seat_10
abbrev x_X9_guest (d : Nat) (S0 : hS) (args : List Value) (r : Int32 × hS) (cs : Nat → Nat) : hX := (((some .int), 3, d, 0, 0, false), (S0, args, some (.int r.1), r.2), cs)
theorem v_X9_guest : hVW yX9_guest cX9_guest 3 (some .int) RX9 2 := ⟨q_1337, q_1338, q_9, q_1339, by decide +kernel, by decide⟩
def f_X9_guest (a0 : Nat) (a1 : Int32) (a2 : Int32) (S : hS) : Option (Int32 × hS) :=
  hck (S.K a0 = 10) <|
  hb2 (f_X9_isGuest a0 a1 S) fun t3 S2 =>
  if t3 = 0 then
    (some ((-1), S2))
  else
    (if a2 = 0 then
       (hbd (gR S2 a0 9 3) fun t6 =>
        hbd (gA S2 t6 12 a1) fun t8 =>
        if t8 = (-1) then
          (some ((-1), S2))
        else
          (hbd (gR S2 a0 9 3) fun t11 =>
           hbd (gA S2 t11 12 a1) fun t13 =>
           some (t13 - t13 / 10 * 10, S2)))
     else
       (if a2 = 1 then
          (hbd (gR S2 a0 9 3) fun t16 =>
           hbd (gA S2 t16 12 a1) fun t18 =>
           if t18 = (-1) then
             (some ((-1), S2))
           else
             (hbd (gR S2 a0 9 3) fun t21 =>
              hbd (gA S2 t21 12 a1) fun t23 =>
              some (t23 / 10, S2)))
        else
          (if a2 = 2 then
             (hbd (gR S2 a0 9 4) fun t26 =>
              hbd (gA S2 t26 12 a1) fun t28 =>
              some (t28, S2))
           else
             (if a2 = 3 then
                (hbd (gR S2 a0 9 5) fun t31 =>
                 hbd (gA S2 t31 12 a1) fun t33 =>
                 some (t33, S2))
              else
                (if a2 = 4 then
                   (hbd (gR S2 a0 9 6) fun t36 =>
                    hbd (gA S2 t36 12 a1) fun t38 =>
                    some (t38, S2))
                 else
                   (some ((-1), S2)))))))
set_option maxRecDepth 100000 in
set_option maxHeartbeats 4000000 in
theorem m_X9_guest {d : Nat} {cs : Nat → Nat} {a0 : Nat} {a1 : Int32} {a2 : Int32} {S : hS} {r : Int32 × hS} (hd : 3 ≤ d) (hf : f_X9_guest a0 a1 a2 S = some r) : HM yX9_guest cX9_guest 3 (some .int) d 0 0 cs [.ref a0, .int a1, .int a2] S (some (.int r.1)) r.2 := by
  unfold f_X9_guest at hf
  refine HM.ofHW false (by decide) (fun h => by cases h) (Nat.le_of_ble_eq_true rfl) ?_
  show HW cX9_guest RX9 (x_X9_guest d S [.ref a0, .int a1, .int a2] r cs) 0 0 S 0 [(0, .ref a0), (1, .int a1), (2, .int a2)] []
  refine h_aload_n dX9_guest_0 rfl 0 rfl ?_
  refine h_iload_n dX9_guest_1 rfl 1 rfl ?_
  obtain ⟨g40, hf⟩ := hck_s hf
  obtain ⟨t3, S2, h1, hf⟩ := hb2_s hf
  refine h_Vi [.int a1] (rest := []) (m_X9_isGuest (d := 2) (cs := cs) (Nat.le_refl _) h1) v_X9_isGuest q_1340 rfl (Nat.le_trans (by decide) hd) g40 rfl rfl (Nat.le_of_ble_eq_true rfl) dX9_guest_2 (Nat.le_refl _) (Nat.le_refl _) ?_
  refine h_if_ne (tgt := 10) dX9_guest_5 (by decide) (fun c4 => ?_) (fun c4 => ?_)
  · replace hf := hif_n c4 hf
    refine h_iload_n dX9_guest_10 rfl 2 rfl ?_
    by_cases c5 : a2 = 0
    · replace hf := hif_p c5 hf
      refine h_tabIn (tgt := 44) 0 (by rw [c5]; rfl) dX9_guest_11 (by decide) (by decide) rfl (by decide) ?_
      refine h_aload_n dX9_guest_44 rfl 0 rfl ?_
      obtain ⟨t6, h7, hf⟩ := hbd_s hf
      refine h_getR h7 rfl (Nat.le_of_ble_eq_true rfl) rfl q_963 rfl dX9_guest_45 ?_
      refine h_iload_n dX9_guest_48 rfl 1 rfl ?_
      obtain ⟨t8, h9, hf⟩ := hbd_s hf
      refine h_iald h9 dX9_guest_49 ?_
      refine h_iconst (v := (-1)) dX9_guest_50 rfl ?_
      refine h_icmp_ne (tgt := 58) dX9_guest_51 (by decide) (fun c10 => ?_) (fun c10 => ?_)
      · replace hf := hif_n c10 hf
        refine h_aload_n dX9_guest_58 rfl 0 rfl ?_
        obtain ⟨t11, h12, hf⟩ := hbd_s hf
        refine h_getR h12 rfl (Nat.le_of_ble_eq_true rfl) rfl q_963 rfl dX9_guest_59 ?_
        refine h_iload_n dX9_guest_62 rfl 1 rfl ?_
        obtain ⟨t13, h14, hf⟩ := hbd_s hf
        refine h_iald h14 dX9_guest_63 ?_
        refine h_bipush (v := 10) dX9_guest_64 rfl ?_
        refine h_irem dX9_guest_66 (by decide) ?_
        obtain rfl := Option.some.inj hf
        exact h_iret rfl rfl rfl (Nat.le_refl _) (Nat.le_refl _) dX9_guest_67
      · replace hf := hif_p c10 hf
        refine h_iconst (v := (-1)) dX9_guest_54 rfl ?_
        refine h_goto (tgt := 67) dX9_guest_55 (by decide) ?_
        obtain rfl := Option.some.inj hf
        exact h_iret rfl rfl rfl (Nat.le_refl _) (Nat.le_refl _) dX9_guest_67
    · replace hf := hif_n c5 hf
      by_cases c15 : a2 = 1
      · replace hf := hif_p c15 hf
        refine h_tabIn (tgt := 68) 1 (by rw [c15]; rfl) dX9_guest_11 (by decide) (by decide) rfl (by decide) ?_
        refine h_aload_n dX9_guest_68 rfl 0 rfl ?_
        obtain ⟨t16, h17, hf⟩ := hbd_s hf
        refine h_getR h17 rfl (Nat.le_of_ble_eq_true rfl) rfl q_963 rfl dX9_guest_69 ?_
        refine h_iload_n dX9_guest_72 rfl 1 rfl ?_
        obtain ⟨t18, h19, hf⟩ := hbd_s hf
        refine h_iald h19 dX9_guest_73 ?_
        refine h_iconst (v := (-1)) dX9_guest_74 rfl ?_
        refine h_icmp_ne (tgt := 82) dX9_guest_75 (by decide) (fun c20 => ?_) (fun c20 => ?_)
        · replace hf := hif_n c20 hf
          refine h_aload_n dX9_guest_82 rfl 0 rfl ?_
          obtain ⟨t21, h22, hf⟩ := hbd_s hf
          refine h_getR h22 rfl (Nat.le_of_ble_eq_true rfl) rfl q_963 rfl dX9_guest_83 ?_
          refine h_iload_n dX9_guest_86 rfl 1 rfl ?_
          obtain ⟨t23, h24, hf⟩ := hbd_s hf
          refine h_iald h24 dX9_guest_87 ?_
          refine h_bipush (v := 10) dX9_guest_88 rfl ?_
          refine h_idiv dX9_guest_90 (by decide) ?_
          obtain rfl := Option.some.inj hf
          exact h_iret rfl rfl rfl (Nat.le_refl _) (Nat.le_refl _) dX9_guest_91
        · replace hf := hif_p c20 hf
          refine h_iconst (v := (-1)) dX9_guest_78 rfl ?_
          refine h_goto (tgt := 91) dX9_guest_79 (by decide) ?_
          obtain rfl := Option.some.inj hf
          exact h_iret rfl rfl rfl (Nat.le_refl _) (Nat.le_refl _) dX9_guest_91
      · replace hf := hif_n c15 hf
        by_cases c25 : a2 = 2
        · replace hf := hif_p c25 hf
          refine h_tabIn (tgt := 92) 2 (by rw [c25]; rfl) dX9_guest_11 (by decide) (by decide) rfl (by decide) ?_
          refine h_aload_n dX9_guest_92 rfl 0 rfl ?_
          obtain ⟨t26, h27, hf⟩ := hbd_s hf
          refine h_getR h27 rfl (Nat.le_of_ble_eq_true rfl) rfl q_964 rfl dX9_guest_93 ?_
          refine h_iload_n dX9_guest_96 rfl 1 rfl ?_
          obtain ⟨t28, h29, hf⟩ := hbd_s hf
          refine h_iald h29 dX9_guest_97 ?_
          obtain rfl := Option.some.inj hf
          exact h_iret rfl rfl rfl (Nat.le_refl _) (Nat.le_refl _) dX9_guest_98
        · replace hf := hif_n c25 hf
          by_cases c30 : a2 = 3
          · replace hf := hif_p c30 hf
            refine h_tabIn (tgt := 99) 3 (by rw [c30]; rfl) dX9_guest_11 (by decide) (by decide) rfl (by decide) ?_
            refine h_aload_n dX9_guest_99 rfl 0 rfl ?_
            obtain ⟨t31, h32, hf⟩ := hbd_s hf
            refine h_getR h32 rfl (Nat.le_of_ble_eq_true rfl) rfl q_965 rfl dX9_guest_100 ?_
            refine h_iload_n dX9_guest_103 rfl 1 rfl ?_
            obtain ⟨t33, h34, hf⟩ := hbd_s hf
            refine h_iald h34 dX9_guest_104 ?_
            obtain rfl := Option.some.inj hf
            exact h_iret rfl rfl rfl (Nat.le_refl _) (Nat.le_refl _) dX9_guest_105
          · replace hf := hif_n c30 hf
            by_cases c35 : a2 = 4
            · replace hf := hif_p c35 hf
              refine h_tabIn (tgt := 106) 4 (by rw [c35]; rfl) dX9_guest_11 (by decide) (by decide) rfl (by decide) ?_
              refine h_aload_n dX9_guest_106 rfl 0 rfl ?_
              obtain ⟨t36, h37, hf⟩ := hbd_s hf
              refine h_getR h37 rfl (Nat.le_of_ble_eq_true rfl) rfl q_966 rfl dX9_guest_107 ?_
              refine h_iload_n dX9_guest_110 rfl 1 rfl ?_
              obtain ⟨t38, h39, hf⟩ := hbd_s hf
              refine h_iald h39 dX9_guest_111 ?_
              obtain rfl := Option.some.inj hf
              exact h_iret rfl rfl rfl (Nat.le_refl _) (Nat.le_refl _) dX9_guest_112
            · replace hf := hif_n c35 hf
              refine h_tabOut (tgt := 113) dX9_guest_11 (by have g0 := hne_t (a := 0) c5 rfl; have g1 := hne_t (a := 1) c15 rfl; have g2 := hne_t (a := 2) c25 rfl; have g3 := hne_t (a := 3) c30 rfl; have g4 := hne_t (a := 4) c35 rfl; omega) (by decide) ?_
              refine h_iconst (v := (-1)) dX9_guest_113 rfl ?_
              obtain rfl := Option.some.inj hf
              exact h_iret rfl rfl rfl (Nat.le_refl _) (Nat.le_refl _) dX9_guest_114
  · replace hf := hif_p c4 hf
    refine h_iconst (v := (-1)) dX9_guest_8 rfl ?_
    obtain rfl := Option.some.inj hf
    exact h_iret rfl rfl rfl (Nat.le_refl _) (Nat.le_refl _) dX9_guest_9
abbrev x_X9_fan (d : Nat) (S0 : hS) (args : List Value) (r : Int32 × hS) (cs : Nat → Nat) : hX := (((some .int), 3, d, 0, 0, false), (S0, args, some (.int r.1), r.2), cs)
theorem v_X9_fan : hVW yX9_fan cX9_fan 3 (some .int) RX9 2 := ⟨q_1345, q_1346, q_9, q_1347, by decide +kernel, by decide⟩
def f_X9_fan (a0 : Nat) (a1 : Int32) (a2 : Int32) (S : hS) : Option (Int32 × hS) :=
  hbd (gR S a0 9 1) fun t1 =>
  hbd (gA S t1 12 3) fun t3 =>
  hb2 (f_X9_in (Int32.toInt64 a1) 0 (Int32.toInt64 (t3 - 1)) S) fun t7 S6 =>
  if t7 = 0 then
    (some ((-1), S6))
  else
    (if a2 = 0 then
       (hbd (gR S6 a0 9 7) fun t10 =>
        hbd (gA S6 t10 12 a1) fun t12 =>
        some (t12 - t12 / 10 * 10, S6))
     else
       (if a2 = 1 then
          (hbd (gR S6 a0 9 7) fun t15 =>
           hbd (gA S6 t15 12 a1) fun t17 =>
           some (t17 / 10, S6))
        else
          (if a2 = 2 then
             (hbd (gR S6 a0 9 8) fun t20 =>
              hbd (gA S6 t20 12 a1) fun t22 =>
              some (t22, S6))
           else
             (if a2 = 3 then
                (hbd (gR S6 a0 9 9) fun t25 =>
                 hbd (gA S6 t25 12 a1) fun t27 =>
                 some (t27, S6))
              else
                (some ((-1), S6))))))
set_option maxRecDepth 100000 in
set_option maxHeartbeats 4000000 in
theorem m_X9_fan {d : Nat} {cs : Nat → Nat} {a0 : Nat} {a1 : Int32} {a2 : Int32} {S : hS} {r : Int32 × hS} (hd : 2 ≤ d) (hf : f_X9_fan a0 a1 a2 S = some r) : HM yX9_fan cX9_fan 3 (some .int) d 0 0 cs [.ref a0, .int a1, .int a2] S (some (.int r.1)) r.2 := by
  unfold f_X9_fan at hf
  refine HM.ofHW false (by decide) (fun h => by cases h) (Nat.le_of_ble_eq_true rfl) ?_
  show HW cX9_fan RX9 (x_X9_fan d S [.ref a0, .int a1, .int a2] r cs) 0 0 S 0 [(0, .ref a0), (1, .int a1), (2, .int a2)] []
  refine h_iload_n dX9_fan_0 rfl 1 rfl ?_
  refine h_i2l dX9_fan_1 ?_
  refine h_lconst (v := 0) dX9_fan_2 rfl ?_
  refine h_aload_n dX9_fan_3 rfl 0 rfl ?_
  obtain ⟨t1, h2, hf⟩ := hbd_s hf
  refine h_getR h2 rfl (Nat.le_of_ble_eq_true rfl) rfl q_961 rfl dX9_fan_4 ?_
  refine h_iconst (v := 3) dX9_fan_7 rfl ?_
  obtain ⟨t3, h4, hf⟩ := hbd_s hf
  refine h_iald h4 dX9_fan_8 ?_
  refine h_iconst (v := 1) dX9_fan_9 rfl ?_
  refine h_isub dX9_fan_10 ?_
  refine h_i2l dX9_fan_11 ?_
  obtain ⟨t7, S6, h5, hf⟩ := hb2_s hf
  refine h_Si [.long (Int32.toInt64 a1), .long 0, .long (Int32.toInt64 (t3 - 1))] (rest := []) (m_X9_in (d := 1) (cs := cs) (Nat.le_refl _) h5) v_X9_in q_1225 rfl (Nat.le_trans (by decide) hd) rfl (Nat.le_of_ble_eq_true rfl) dX9_fan_12 (Nat.le_refl _) (Nat.le_refl _) ?_
  refine h_if_ne (tgt := 20) dX9_fan_15 (by decide) (fun c8 => ?_) (fun c8 => ?_)
  · replace hf := hif_n c8 hf
    refine h_iload_n dX9_fan_20 rfl 2 rfl ?_
    by_cases c9 : a2 = 0
    · replace hf := hif_p c9 hf
      refine h_tabIn (tgt := 52) 0 (by rw [c9]; rfl) dX9_fan_21 (by decide) (by decide) rfl (by decide) ?_
      refine h_aload_n dX9_fan_52 rfl 0 rfl ?_
      obtain ⟨t10, h11, hf⟩ := hbd_s hf
      refine h_getR h11 rfl (Nat.le_of_ble_eq_true rfl) rfl q_967 rfl dX9_fan_53 ?_
      refine h_iload_n dX9_fan_56 rfl 1 rfl ?_
      obtain ⟨t12, h13, hf⟩ := hbd_s hf
      refine h_iald h13 dX9_fan_57 ?_
      refine h_bipush (v := 10) dX9_fan_58 rfl ?_
      refine h_irem dX9_fan_60 (by decide) ?_
      obtain rfl := Option.some.inj hf
      exact h_iret rfl rfl rfl (Nat.le_refl _) (Nat.le_refl _) dX9_fan_61
    · replace hf := hif_n c9 hf
      by_cases c14 : a2 = 1
      · replace hf := hif_p c14 hf
        refine h_tabIn (tgt := 62) 1 (by rw [c14]; rfl) dX9_fan_21 (by decide) (by decide) rfl (by decide) ?_
        refine h_aload_n dX9_fan_62 rfl 0 rfl ?_
        obtain ⟨t15, h16, hf⟩ := hbd_s hf
        refine h_getR h16 rfl (Nat.le_of_ble_eq_true rfl) rfl q_967 rfl dX9_fan_63 ?_
        refine h_iload_n dX9_fan_66 rfl 1 rfl ?_
        obtain ⟨t17, h18, hf⟩ := hbd_s hf
        refine h_iald h18 dX9_fan_67 ?_
        refine h_bipush (v := 10) dX9_fan_68 rfl ?_
        refine h_idiv dX9_fan_70 (by decide) ?_
        obtain rfl := Option.some.inj hf
        exact h_iret rfl rfl rfl (Nat.le_refl _) (Nat.le_refl _) dX9_fan_71
      · replace hf := hif_n c14 hf
        by_cases c19 : a2 = 2
        · replace hf := hif_p c19 hf
          refine h_tabIn (tgt := 72) 2 (by rw [c19]; rfl) dX9_fan_21 (by decide) (by decide) rfl (by decide) ?_
          refine h_aload_n dX9_fan_72 rfl 0 rfl ?_
          obtain ⟨t20, h21, hf⟩ := hbd_s hf
          refine h_getR h21 rfl (Nat.le_of_ble_eq_true rfl) rfl q_968 rfl dX9_fan_73 ?_
          refine h_iload_n dX9_fan_76 rfl 1 rfl ?_
          obtain ⟨t22, h23, hf⟩ := hbd_s hf
          refine h_iald h23 dX9_fan_77 ?_
          obtain rfl := Option.some.inj hf
          exact h_iret rfl rfl rfl (Nat.le_refl _) (Nat.le_refl _) dX9_fan_78
        · replace hf := hif_n c19 hf
          by_cases c24 : a2 = 3
          · replace hf := hif_p c24 hf
            refine h_tabIn (tgt := 79) 3 (by rw [c24]; rfl) dX9_fan_21 (by decide) (by decide) rfl (by decide) ?_
            refine h_aload_n dX9_fan_79 rfl 0 rfl ?_
            obtain ⟨t25, h26, hf⟩ := hbd_s hf
            refine h_getR h26 rfl (Nat.le_of_ble_eq_true rfl) rfl q_969 rfl dX9_fan_80 ?_
            refine h_iload_n dX9_fan_83 rfl 1 rfl ?_
            obtain ⟨t27, h28, hf⟩ := hbd_s hf
            refine h_iald h28 dX9_fan_84 ?_
            obtain rfl := Option.some.inj hf
            exact h_iret rfl rfl rfl (Nat.le_refl _) (Nat.le_refl _) dX9_fan_85
          · replace hf := hif_n c24 hf
            refine h_tabOut (tgt := 86) dX9_fan_21 (by have g0 := hne_t (a := 0) c9 rfl; have g1 := hne_t (a := 1) c14 rfl; have g2 := hne_t (a := 2) c19 rfl; have g3 := hne_t (a := 3) c24 rfl; omega) (by decide) ?_
            refine h_iconst (v := (-1)) dX9_fan_86 rfl ?_
            obtain rfl := Option.some.inj hf
            exact h_iret rfl rfl rfl (Nat.le_refl _) (Nat.le_refl _) dX9_fan_87
  · replace hf := hif_p c8 hf
    refine h_iconst (v := (-1)) dX9_fan_18 rfl ?_
    obtain rfl := Option.some.inj hf
    exact h_iret rfl rfl rfl (Nat.le_refl _) (Nat.le_refl _) dX9_fan_19
abbrev x_X9_sits (d : Nat) (S0 : hS) (args : List Value) (r : Int32 × hS) (cs : Nat → Nat) : hX := (((some .boolean), 5, d, 0, 0, false), (S0, args, some (.int r.1), r.2), cs)
theorem v_X9_sits : hVW yX9_sits cX9_sits 5 (some .boolean) RX9 3 := ⟨q_1349, q_1350, q_9, q_1351, by decide +kernel, by decide⟩
def f_X9_sits (a0 : Nat) (a1 : Int32) (a2 : Int32) (a3 : Int32) (S : hS) : Option (Int32 × hS) :=
  hck (S.K a0 = 10) <|
  hb2 (f_X9_isGuest a0 a1 S) fun t3 S2 =>
  hj (γ := Int32 → hS → Option (Int32 × hS)) (fun (v5 : Int32) (S6 : hS) =>
    if v5 = 0 then
      (hck (v5 = 0 ∨ v5 = 1) <|
       some (v5, S6))
    else
      (hbd (gR S6 a0 9 3) fun t8 =>
       hbd (sA S6 t8 a1 ((10 * a3) + a2)) fun S10 =>
       hck (v5 = 0 ∨ v5 = 1) <|
       some (v5, S10))
    ) fun J4 =>
  hj (γ := hS → Option (Int32 × hS)) (fun (S13 : hS) =>
    J4 0 S13
    ) fun J12 =>
  if t3 = 0 then
    (J12 S2)
  else
    (hck (S2.K a0 = 10) <|
     hb2 (f_X9_isSeat a0 a2 a3 S2) fun t17 S16 =>
     if t17 = 0 then
       (J12 S16)
     else
       (hck (S16.K a0 = 10) <|
        hb2 (f_X9_whoAt a0 ((10 * a3) + a2) S16) fun t21 S20 =>
        if t21 = (-1) then
          (J4 1 S20)
        else
          (J12 S20)))
set_option maxRecDepth 100000 in
set_option maxHeartbeats 4000000 in
theorem m_X9_sits {d : Nat} {cs : Nat → Nat} {a0 : Nat} {a1 : Int32} {a2 : Int32} {a3 : Int32} {S : hS} {r : Int32 × hS} (hd : 3 ≤ d) (hf : f_X9_sits a0 a1 a2 a3 S = some r) : HM yX9_sits cX9_sits 5 (some .boolean) d 0 0 cs [.ref a0, .int a1, .int a2, .int a3] S (some (.int r.1)) r.2 := by
  unfold f_X9_sits at hf
  refine HM.ofHW false (by decide) (fun h => by cases h) (Nat.le_of_ble_eq_true rfl) ?_
  show HW cX9_sits RX9 (x_X9_sits d S [.ref a0, .int a1, .int a2, .int a3] r cs) 0 0 S 0 [(0, .ref a0), (1, .int a1), (2, .int a2), (3, .int a3)] []
  refine h_aload_n dX9_sits_0 rfl 0 rfl ?_
  refine h_iload_n dX9_sits_1 rfl 1 rfl ?_
  obtain ⟨g25, hf⟩ := hck_s hf
  obtain ⟨t3, S2, h1, hf⟩ := hb2_s hf
  refine h_Vi [.int a1] (rest := []) (m_X9_isGuest (d := 2) (cs := cs) (Nat.le_refl _) h1) v_X9_isGuest q_1340 rfl (Nat.le_trans (by decide) hd) g25 rfl rfl (Nat.le_of_ble_eq_true rfl) dX9_sits_2 (Nat.le_refl _) (Nat.le_refl _) ?_
  refine hj_s (fun J4 => ∀ (v5 : Int32) (S6 : hS), J4 v5 S6 = some r → HW cX9_sits RX9 (x_X9_sits d S [.ref a0, .int a1, .int a2, .int a3] r cs) 0 0 S6 36 [(0, .ref a0), (1, .int a1), (2, .int a2), (3, .int a3)] [.int v5]) hf ?_ ?_
  · intro v5 S6 hf
    refine h_istore (lv2 := [(4, .int v5), (0, .ref a0), (1, .int a1), (2, .int a2), (3, .int a3)]) dX9_sits_36 (Nat.le_of_ble_eq_true rfl) rfl ?_
    refine h_iload dX9_sits_38 0 rfl ?_
    refine h_if_eq (tgt := 55) dX9_sits_40 (by decide) (fun c7 => ?_) (fun c7 => ?_)
    · replace hf := hif_p c7 hf
      refine h_iload dX9_sits_55 0 rfl ?_
      obtain ⟨hz, hf⟩ := hck_s hf
      obtain rfl := Option.some.inj hf
      exact h_zret rfl hz rfl rfl (Nat.le_refl _) (Nat.le_refl _) dX9_sits_57
    · replace hf := hif_n c7 hf
      refine h_aload_n dX9_sits_43 rfl 1 rfl ?_
      obtain ⟨t8, h9, hf⟩ := hbd_s hf
      refine h_getR h9 rfl (Nat.le_of_ble_eq_true rfl) rfl q_963 rfl dX9_sits_44 ?_
      refine h_iload_n dX9_sits_47 rfl 2 rfl ?_
      refine h_bipush (v := 10) dX9_sits_48 rfl ?_
      refine h_iload_n dX9_sits_50 rfl 4 rfl ?_
      refine h_imul dX9_sits_51 ?_
      refine h_iload_n dX9_sits_52 rfl 3 rfl ?_
      refine h_iadd dX9_sits_53 ?_
      obtain ⟨S10, h11, hf⟩ := hbd_s hf
      refine h_iast h11 dX9_sits_54 ?_
      refine h_iload dX9_sits_55 0 rfl ?_
      obtain ⟨hz, hf⟩ := hck_s hf
      obtain rfl := Option.some.inj hf
      exact h_zret rfl hz rfl rfl (Nat.le_refl _) (Nat.le_refl _) dX9_sits_57
  · intro J4 hJ4 hf
    refine hj_s (fun J12 => ∀ (S13 : hS), J12 S13 = some r → HW cX9_sits RX9 (x_X9_sits d S [.ref a0, .int a1, .int a2, .int a3] r cs) 0 0 S13 35 [(0, .ref a0), (1, .int a1), (2, .int a2), (3, .int a3)] []) hf ?_ ?_
    · intro S13 hf
      refine h_iconst (v := 0) dX9_sits_35 rfl ?_
      exact hJ4 0 S13 hf
    · intro J12 hJ12 hf
      refine h_if_eq (tgt := 35) dX9_sits_5 (by decide) (fun c14 => ?_) (fun c14 => ?_)
      · replace hf := hif_p c14 hf
        exact hJ12 S2 hf
      · replace hf := hif_n c14 hf
        refine h_aload_n dX9_sits_8 rfl 0 rfl ?_
        refine h_iload_n dX9_sits_9 rfl 2 rfl ?_
        refine h_iload_n dX9_sits_10 rfl 3 rfl ?_
        obtain ⟨g24, hf⟩ := hck_s hf
        obtain ⟨t17, S16, h15, hf⟩ := hb2_s hf
        refine h_Vi [.int a2, .int a3] (rest := []) (m_X9_isSeat (d := 2) (cs := cs) (Nat.le_refl _) h15) v_X9_isSeat q_1324 rfl (Nat.le_trans (by decide) hd) g24 rfl rfl (Nat.le_of_ble_eq_true rfl) dX9_sits_11 (Nat.le_refl _) (Nat.le_refl _) ?_
        refine h_if_eq (tgt := 35) dX9_sits_14 (by decide) (fun c18 => ?_) (fun c18 => ?_)
        · replace hf := hif_p c18 hf
          exact hJ12 S16 hf
        · replace hf := hif_n c18 hf
          refine h_aload_n dX9_sits_17 rfl 0 rfl ?_
          refine h_bipush (v := 10) dX9_sits_18 rfl ?_
          refine h_iload_n dX9_sits_20 rfl 3 rfl ?_
          refine h_imul dX9_sits_21 ?_
          refine h_iload_n dX9_sits_22 rfl 2 rfl ?_
          refine h_iadd dX9_sits_23 ?_
          obtain ⟨g23, hf⟩ := hck_s hf
          obtain ⟨t21, S20, h19, hf⟩ := hb2_s hf
          refine h_Vi [.int ((10 * a3) + a2)] (rest := []) (m_X9_whoAt (d := 1) (cs := cs) (Nat.le_refl _) h19) v_X9_whoAt q_1328 rfl (Nat.le_trans (by decide) hd) g23 rfl rfl (Nat.le_of_ble_eq_true rfl) dX9_sits_24 (Nat.le_refl _) (Nat.le_refl _) ?_
          refine h_iconst (v := (-1)) dX9_sits_27 rfl ?_
          refine h_icmp_ne (tgt := 35) dX9_sits_28 (by decide) (fun c22 => ?_) (fun c22 => ?_)
          · replace hf := hif_n c22 hf
            exact hJ12 S20 hf
          · replace hf := hif_p c22 hf
            refine h_iconst (v := 1) dX9_sits_31 rfl ?_
            refine h_goto (tgt := 36) dX9_sits_32 (by decide) ?_
            exact hJ4 1 S20 hf
abbrev x_X9_goes (d : Nat) (S0 : hS) (args : List Value) (r : Int32 × hS) (cs : Nat → Nat) : hX := (((some .boolean), 3, d, 0, 0, false), (S0, args, some (.int r.1), r.2), cs)
theorem v_X9_goes : hVW yX9_goes cX9_goes 3 (some .boolean) RX9 1 := ⟨q_1353, q_1354, q_9, q_1355, by decide +kernel, by decide⟩
def f_X9_goes (a0 : Nat) (a1 : Int32) (S : hS) : Option (Int32 × hS) :=
  hck (S.K a0 = 10) <|
  hb2 (f_X9_isHere a0 a1 S) fun t3 S2 =>
  if t3 = 0 then
    (hck (t3 = 0 ∨ t3 = 1) <|
     some (t3, S2))
  else
    (hbd (gR S2 a0 9 3) fun t5 =>
     hbd (sA S2 t5 a1 (-1)) fun S7 =>
     hck (t3 = 0 ∨ t3 = 1) <|
     some (t3, S7))
set_option maxRecDepth 100000 in
set_option maxHeartbeats 4000000 in
theorem m_X9_goes {d : Nat} {cs : Nat → Nat} {a0 : Nat} {a1 : Int32} {S : hS} {r : Int32 × hS} (hd : 4 ≤ d) (hf : f_X9_goes a0 a1 S = some r) : HM yX9_goes cX9_goes 3 (some .boolean) d 0 0 cs [.ref a0, .int a1] S (some (.int r.1)) r.2 := by
  unfold f_X9_goes at hf
  refine HM.ofHW false (by decide) (fun h => by cases h) (Nat.le_of_ble_eq_true rfl) ?_
  show HW cX9_goes RX9 (x_X9_goes d S [.ref a0, .int a1] r cs) 0 0 S 0 [(0, .ref a0), (1, .int a1)] []
  refine h_aload_n dX9_goes_0 rfl 0 rfl ?_
  refine h_iload_n dX9_goes_1 rfl 1 rfl ?_
  obtain ⟨g9, hf⟩ := hck_s hf
  obtain ⟨t3, S2, h1, hf⟩ := hb2_s hf
  refine h_Vi [.int a1] (rest := []) (m_X9_isHere (d := 3) (cs := cs) (Nat.le_refl _) h1) v_X9_isHere q_1356 rfl (Nat.le_trans (by decide) hd) g9 rfl rfl (Nat.le_of_ble_eq_true rfl) dX9_goes_2 (Nat.le_refl _) (Nat.le_refl _) ?_
  refine h_istore_n (lv2 := [(2, .int t3), (0, .ref a0), (1, .int a1)]) dX9_goes_5 rfl (Nat.le_of_ble_eq_true rfl) rfl ?_
  refine h_iload_n dX9_goes_6 rfl 0 rfl ?_
  refine h_if_eq (tgt := 17) dX9_goes_7 (by decide) (fun c4 => ?_) (fun c4 => ?_)
  · replace hf := hif_p c4 hf
    refine h_iload_n dX9_goes_17 rfl 0 rfl ?_
    obtain ⟨hz, hf⟩ := hck_s hf
    obtain rfl := Option.some.inj hf
    exact h_zret rfl hz rfl rfl (Nat.le_refl _) (Nat.le_refl _) dX9_goes_18
  · replace hf := hif_n c4 hf
    refine h_aload_n dX9_goes_10 rfl 1 rfl ?_
    obtain ⟨t5, h6, hf⟩ := hbd_s hf
    refine h_getR h6 rfl (Nat.le_of_ble_eq_true rfl) rfl q_963 rfl dX9_goes_11 ?_
    refine h_iload_n dX9_goes_14 rfl 2 rfl ?_
    refine h_iconst (v := (-1)) dX9_goes_15 rfl ?_
    obtain ⟨S7, h8, hf⟩ := hbd_s hf
    refine h_iast h8 dX9_goes_16 ?_
    refine h_iload_n dX9_goes_17 rfl 0 rfl ?_
    obtain ⟨hz, hf⟩ := hck_s hf
    obtain rfl := Option.some.inj hf
    exact h_zret rfl hz rfl rfl (Nat.le_refl _) (Nat.le_refl _) dX9_goes_18
abbrev x_X9_changes (d : Nat) (S0 : hS) (args : List Value) (r : hS) (cs : Nat → Nat) : hX := ((none, 4, d, 0, 0, false), (S0, args, none, r), cs)
theorem v_X9_changes : hVW yX9_changes cX9_changes 4 none RX9 2 := ⟨q_1366, q_s68, q_9, q_1367, by decide +kernel, by decide⟩
def f_X9_changes (a0 : Nat) (a1 : Int32) (a2 : Int32) (S : hS) : Option (hS) :=
  hbd (gR S a0 9 3) fun t1 =>
  hbd (gA S t1 12 a1) fun t3 =>
  hbd (gR S a0 9 3) fun t5 =>
  hbd (gR S a0 9 3) fun t7 =>
  hbd (gA S t7 12 a2) fun t9 =>
  hbd (sA S t5 a1 t9) fun S11 =>
  hbd (gR S11 a0 9 3) fun t13 =>
  hbd (sA S11 t13 a2 t3) fun S15 =>
  some S15
set_option maxRecDepth 100000 in
set_option maxHeartbeats 4000000 in
theorem m_X9_changes {d : Nat} {cs : Nat → Nat} {a0 : Nat} {a1 : Int32} {a2 : Int32} {S : hS} {r : hS} (hd : 1 ≤ d) (hf : f_X9_changes a0 a1 a2 S = some r) : HM yX9_changes cX9_changes 4 none d 0 0 cs [.ref a0, .int a1, .int a2] S (none) r := by
  unfold f_X9_changes at hf
  refine HM.ofHW false (by decide) (fun h => by cases h) (Nat.le_of_ble_eq_true rfl) ?_
  show HW cX9_changes RX9 (x_X9_changes d S [.ref a0, .int a1, .int a2] r cs) 0 0 S 0 [(0, .ref a0), (1, .int a1), (2, .int a2)] []
  refine h_aload_n dX9_changes_0 rfl 0 rfl ?_
  obtain ⟨t1, h2, hf⟩ := hbd_s hf
  refine h_getR h2 rfl (Nat.le_of_ble_eq_true rfl) rfl q_963 rfl dX9_changes_1 ?_
  refine h_iload_n dX9_changes_4 rfl 1 rfl ?_
  obtain ⟨t3, h4, hf⟩ := hbd_s hf
  refine h_iald h4 dX9_changes_5 ?_
  refine h_istore_n (lv2 := [(3, .int t3), (0, .ref a0), (1, .int a1), (2, .int a2)]) dX9_changes_6 rfl (Nat.le_of_ble_eq_true rfl) rfl ?_
  refine h_aload_n dX9_changes_7 rfl 1 rfl ?_
  obtain ⟨t5, h6, hf⟩ := hbd_s hf
  refine h_getR h6 rfl (Nat.le_of_ble_eq_true rfl) rfl q_963 rfl dX9_changes_8 ?_
  refine h_iload_n dX9_changes_11 rfl 2 rfl ?_
  refine h_aload_n dX9_changes_12 rfl 1 rfl ?_
  obtain ⟨t7, h8, hf⟩ := hbd_s hf
  refine h_getR h8 rfl (Nat.le_of_ble_eq_true rfl) rfl q_963 rfl dX9_changes_13 ?_
  refine h_iload_n dX9_changes_16 rfl 3 rfl ?_
  obtain ⟨t9, h10, hf⟩ := hbd_s hf
  refine h_iald h10 dX9_changes_17 ?_
  obtain ⟨S11, h12, hf⟩ := hbd_s hf
  refine h_iast h12 dX9_changes_18 ?_
  refine h_aload_n dX9_changes_19 rfl 1 rfl ?_
  obtain ⟨t13, h14, hf⟩ := hbd_s hf
  refine h_getR h14 rfl (Nat.le_of_ble_eq_true rfl) rfl q_963 rfl dX9_changes_20 ?_
  refine h_iload_n dX9_changes_23 rfl 3 rfl ?_
  refine h_iload_n dX9_changes_24 rfl 0 rfl ?_
  obtain ⟨S15, h16, hf⟩ := hbd_s hf
  refine h_iast h16 dX9_changes_25 ?_
  obtain rfl := Option.some.inj hf
  exact h_vret rfl rfl rfl (Nat.le_refl _) (Nat.le_refl _) dX9_changes_26
abbrev x_X9_change (d : Nat) (S0 : hS) (args : List Value) (r : Int32 × hS) (cs : Nat → Nat) : hX := (((some .boolean), 4, d, 0, 0, false), (S0, args, some (.int r.1), r.2), cs)
theorem v_X9_change : hVW yX9_change cX9_change 4 (some .boolean) RX9 2 := ⟨q_1361, q_1362, q_9, q_1363, by decide +kernel, by decide⟩
def f_X9_change (a0 : Nat) (a1 : Int32) (a2 : Int32) (S : hS) : Option (Int32 × hS) :=
  hck (S.K a0 = 10) <|
  hb2 (f_X9_isHere a0 a1 S) fun t3 S2 =>
  hj (γ := Int32 → hS → Option (Int32 × hS)) (fun (v5 : Int32) (S6 : hS) =>
    if v5 = 0 then
      (hck (v5 = 0 ∨ v5 = 1) <|
       some (v5, S6))
    else
      (hck (S6.K a0 = 10) <|
       hbd (f_X9_changes a0 a1 a2 S6) fun S9 =>
       hck (v5 = 0 ∨ v5 = 1) <|
       some (v5, S9))
    ) fun J4 =>
  hj (γ := hS → Option (Int32 × hS)) (fun (S12 : hS) =>
    J4 0 S12
    ) fun J11 =>
  if t3 = 0 then
    (J11 S2)
  else
    (hck (S2.K a0 = 10) <|
     hb2 (f_X9_isHere a0 a2 S2) fun t16 S15 =>
     if t16 = 0 then
       (J11 S15)
     else
       (if a1 = a2 then
          (J11 S15)
        else
          (J4 1 S15)))
set_option maxRecDepth 100000 in
set_option maxHeartbeats 4000000 in
theorem m_X9_change {d : Nat} {cs : Nat → Nat} {a0 : Nat} {a1 : Int32} {a2 : Int32} {S : hS} {r : Int32 × hS} (hd : 4 ≤ d) (hf : f_X9_change a0 a1 a2 S = some r) : HM yX9_change cX9_change 4 (some .boolean) d 0 0 cs [.ref a0, .int a1, .int a2] S (some (.int r.1)) r.2 := by
  unfold f_X9_change at hf
  refine HM.ofHW false (by decide) (fun h => by cases h) (Nat.le_of_ble_eq_true rfl) ?_
  show HW cX9_change RX9 (x_X9_change d S [.ref a0, .int a1, .int a2] r cs) 0 0 S 0 [(0, .ref a0), (1, .int a1), (2, .int a2)] []
  refine h_aload_n dX9_change_0 rfl 0 rfl ?_
  refine h_iload_n dX9_change_1 rfl 1 rfl ?_
  obtain ⟨g20, hf⟩ := hck_s hf
  obtain ⟨t3, S2, h1, hf⟩ := hb2_s hf
  refine h_Vi [.int a1] (rest := []) (m_X9_isHere (d := 3) (cs := cs) (Nat.le_refl _) h1) v_X9_isHere q_1356 rfl (Nat.le_trans (by decide) hd) g20 rfl rfl (Nat.le_of_ble_eq_true rfl) dX9_change_2 (Nat.le_refl _) (Nat.le_refl _) ?_
  refine hj_s (fun J4 => ∀ (v5 : Int32) (S6 : hS), J4 v5 S6 = some r → HW cX9_change RX9 (x_X9_change d S [.ref a0, .int a1, .int a2] r cs) 0 0 S6 26 [(0, .ref a0), (1, .int a1), (2, .int a2)] [.int v5]) hf ?_ ?_
  · intro v5 S6 hf
    refine h_istore_n (lv2 := [(3, .int v5), (0, .ref a0), (1, .int a1), (2, .int a2)]) dX9_change_26 rfl (Nat.le_of_ble_eq_true rfl) rfl ?_
    refine h_iload_n dX9_change_27 rfl 0 rfl ?_
    refine h_if_eq (tgt := 37) dX9_change_28 (by decide) (fun c7 => ?_) (fun c7 => ?_)
    · replace hf := hif_p c7 hf
      refine h_iload_n dX9_change_37 rfl 0 rfl ?_
      obtain ⟨hz, hf⟩ := hck_s hf
      obtain rfl := Option.some.inj hf
      exact h_zret rfl hz rfl rfl (Nat.le_refl _) (Nat.le_refl _) dX9_change_38
    · replace hf := hif_n c7 hf
      refine h_aload_n dX9_change_31 rfl 1 rfl ?_
      refine h_iload_n dX9_change_32 rfl 2 rfl ?_
      refine h_iload_n dX9_change_33 rfl 3 rfl ?_
      obtain ⟨g10, hf⟩ := hck_s hf
      obtain ⟨S9, h8, hf⟩ := hbd_s hf
      refine h_Vv [.int a1, .int a2] (rest := []) (m_X9_changes (d := 1) (cs := cs) (Nat.le_refl _) h8) v_X9_changes q_1364 rfl (Nat.le_trans (by decide) hd) g10 rfl rfl (Nat.le_of_ble_eq_true rfl) dX9_change_34 (Nat.le_refl _) (Nat.le_refl _) ?_
      refine h_iload_n dX9_change_37 rfl 0 rfl ?_
      obtain ⟨hz, hf⟩ := hck_s hf
      obtain rfl := Option.some.inj hf
      exact h_zret rfl hz rfl rfl (Nat.le_refl _) (Nat.le_refl _) dX9_change_38
  · intro J4 hJ4 hf
    refine hj_s (fun J11 => ∀ (S12 : hS), J11 S12 = some r → HW cX9_change RX9 (x_X9_change d S [.ref a0, .int a1, .int a2] r cs) 0 0 S12 25 [(0, .ref a0), (1, .int a1), (2, .int a2)] []) hf ?_ ?_
    · intro S12 hf
      refine h_iconst (v := 0) dX9_change_25 rfl ?_
      exact hJ4 0 S12 hf
    · intro J11 hJ11 hf
      refine h_if_eq (tgt := 25) dX9_change_5 (by decide) (fun c13 => ?_) (fun c13 => ?_)
      · replace hf := hif_p c13 hf
        exact hJ11 S2 hf
      · replace hf := hif_n c13 hf
        refine h_aload_n dX9_change_8 rfl 0 rfl ?_
        refine h_iload_n dX9_change_9 rfl 2 rfl ?_
        obtain ⟨g19, hf⟩ := hck_s hf
        obtain ⟨t16, S15, h14, hf⟩ := hb2_s hf
        refine h_Vi [.int a2] (rest := []) (m_X9_isHere (d := 3) (cs := cs) (Nat.le_refl _) h14) v_X9_isHere q_1356 rfl (Nat.le_trans (by decide) hd) g19 rfl rfl (Nat.le_of_ble_eq_true rfl) dX9_change_10 (Nat.le_refl _) (Nat.le_refl _) ?_
        refine h_if_eq (tgt := 25) dX9_change_13 (by decide) (fun c17 => ?_) (fun c17 => ?_)
        · replace hf := hif_p c17 hf
          exact hJ11 S15 hf
        · replace hf := hif_n c17 hf
          refine h_iload_n dX9_change_16 rfl 1 rfl ?_
          refine h_iload_n dX9_change_17 rfl 2 rfl ?_
          refine h_icmp_eq (tgt := 25) dX9_change_18 (by decide) (fun c18 => ?_) (fun c18 => ?_)
          · replace hf := hif_p c18 hf
            exact hJ11 S15 hf
          · replace hf := hif_n c18 hf
            refine h_iconst (v := 1) dX9_change_21 rfl ?_
            refine h_goto (tgt := 26) dX9_change_22 (by decide) ?_
            exact hJ4 1 S15 hf
abbrev x_X9_warms (d : Nat) (S0 : hS) (args : List Value) (r : Int32 × hS) (cs : Nat → Nat) : hX := (((some .int), 4, d, 0, 0, false), (S0, args, some (.int r.1), r.2), cs)
theorem v_X9_warms : hVW yX9_warms cX9_warms 4 (some .int) RX9 2 := ⟨q_1369, q_1370, q_9, q_1371, by decide +kernel, by decide⟩
def f_X9_warms (a0 : Nat) (a1 : Int32) (a2 : Int32) (S : hS) : Option (Int32 × hS) :=
  hck (S.K a0 = 10) <|
  hb2 (f_X9_isGuest a0 a1 S) fun t3 S2 =>
  if t3 = 0 then
    (some ((-1), S2))
  else
    (hb2 (f_X9_in (Int32.toInt64 a2) 0 99 S2) fun t7 S6 =>
     if t7 = 0 then
       (some ((-1), S6))
     else
       (hbd (gR S6 a0 9 4) fun t9 =>
        hbd (gA S6 t9 12 a1) fun t11 =>
        hbd (gR S6 a0 9 4) fun t13 =>
        hbd (sA S6 t13 a1 a2) fun S15 =>
        some (t11, S15)))
set_option maxRecDepth 100000 in
set_option maxHeartbeats 4000000 in
theorem m_X9_warms {d : Nat} {cs : Nat → Nat} {a0 : Nat} {a1 : Int32} {a2 : Int32} {S : hS} {r : Int32 × hS} (hd : 3 ≤ d) (hf : f_X9_warms a0 a1 a2 S = some r) : HM yX9_warms cX9_warms 4 (some .int) d 0 0 cs [.ref a0, .int a1, .int a2] S (some (.int r.1)) r.2 := by
  unfold f_X9_warms at hf
  refine HM.ofHW false (by decide) (fun h => by cases h) (Nat.le_of_ble_eq_true rfl) ?_
  show HW cX9_warms RX9 (x_X9_warms d S [.ref a0, .int a1, .int a2] r cs) 0 0 S 0 [(0, .ref a0), (1, .int a1), (2, .int a2)] []
  refine h_aload_n dX9_warms_0 rfl 0 rfl ?_
  refine h_iload_n dX9_warms_1 rfl 1 rfl ?_
  obtain ⟨g17, hf⟩ := hck_s hf
  obtain ⟨t3, S2, h1, hf⟩ := hb2_s hf
  refine h_Vi [.int a1] (rest := []) (m_X9_isGuest (d := 2) (cs := cs) (Nat.le_refl _) h1) v_X9_isGuest q_1340 rfl (Nat.le_trans (by decide) hd) g17 rfl rfl (Nat.le_of_ble_eq_true rfl) dX9_warms_2 (Nat.le_refl _) (Nat.le_refl _) ?_
  refine h_if_eq (tgt := 20) dX9_warms_5 (by decide) (fun c4 => ?_) (fun c4 => ?_)
  · replace hf := hif_p c4 hf
    refine h_iconst (v := (-1)) dX9_warms_20 rfl ?_
    obtain rfl := Option.some.inj hf
    exact h_iret rfl rfl rfl (Nat.le_refl _) (Nat.le_refl _) dX9_warms_21
  · replace hf := hif_n c4 hf
    refine h_iload_n dX9_warms_8 rfl 2 rfl ?_
    refine h_i2l dX9_warms_9 ?_
    refine h_lconst (v := 0) dX9_warms_10 rfl ?_
    refine h_ldc2 (v := 99) dX9_warms_11 q_1372 ?_
    obtain ⟨t7, S6, h5, hf⟩ := hb2_s hf
    refine h_Si [.long (Int32.toInt64 a2), .long 0, .long 99] (rest := []) (m_X9_in (d := 1) (cs := cs) (Nat.le_refl _) h5) v_X9_in q_1225 rfl (Nat.le_trans (by decide) hd) rfl (Nat.le_of_ble_eq_true rfl) dX9_warms_14 (Nat.le_refl _) (Nat.le_refl _) ?_
    refine h_if_ne (tgt := 22) dX9_warms_17 (by decide) (fun c8 => ?_) (fun c8 => ?_)
    · replace hf := hif_n c8 hf
      refine h_aload_n dX9_warms_22 rfl 0 rfl ?_
      obtain ⟨t9, h10, hf⟩ := hbd_s hf
      refine h_getR h10 rfl (Nat.le_of_ble_eq_true rfl) rfl q_964 rfl dX9_warms_23 ?_
      refine h_iload_n dX9_warms_26 rfl 1 rfl ?_
      obtain ⟨t11, h12, hf⟩ := hbd_s hf
      refine h_iald h12 dX9_warms_27 ?_
      refine h_istore_n (lv2 := [(3, .int t11), (0, .ref a0), (1, .int a1), (2, .int a2)]) dX9_warms_28 rfl (Nat.le_of_ble_eq_true rfl) rfl ?_
      refine h_aload_n dX9_warms_29 rfl 1 rfl ?_
      obtain ⟨t13, h14, hf⟩ := hbd_s hf
      refine h_getR h14 rfl (Nat.le_of_ble_eq_true rfl) rfl q_964 rfl dX9_warms_30 ?_
      refine h_iload_n dX9_warms_33 rfl 2 rfl ?_
      refine h_iload_n dX9_warms_34 rfl 3 rfl ?_
      obtain ⟨S15, h16, hf⟩ := hbd_s hf
      refine h_iast h16 dX9_warms_35 ?_
      refine h_iload_n dX9_warms_36 rfl 0 rfl ?_
      obtain rfl := Option.some.inj hf
      exact h_iret rfl rfl rfl (Nat.le_refl _) (Nat.le_refl _) dX9_warms_37
    · replace hf := hif_p c8 hf
      refine h_iconst (v := (-1)) dX9_warms_20 rfl ?_
      obtain rfl := Option.some.inj hf
      exact h_iret rfl rfl rfl (Nat.le_refl _) (Nat.le_refl _) dX9_warms_21
abbrev x_X9_guestsGive (d : Nat) (S0 : hS) (args : List Value) (r : hS) (cs : Nat → Nat) : hX := ((none, 2, d, 0, 0, false), (S0, args, none, r), cs)
theorem v_X9_guestsGive : hVW yX9_guestsGive cX9_guestsGive 2 none RX9 0 := ⟨q_1392, q_s72, q_9, q_1393, by decide +kernel, by decide⟩
def f_X9_guestsGive_L2 : Nat → Nat → Int32 → hS → (hS → Option (hS)) → Option (hS)
  | 0, _, _, _, _ => none
  | n + 1, x0, x1, S, k0 =>
    hbd (gR S x0 9 1) fun t1 =>
    hbd (gA S t1 12 2) fun t3 =>
    if t3 ≤ x1 then
      (k0 S)
    else
      (hbd (gR S x0 9 3) fun t6 =>
       hbd (gA S t6 12 x1) fun t8 =>
       if t8 = (-1) then
         (f_X9_guestsGive_L2 n x0 (x1 + 1) S k0)
       else
         (hbd (gR S x0 9 2) fun t11 =>
          hbd (gR S x0 9 3) fun t13 =>
          hbd (gA S t13 12 x1) fun t15 =>
          hbd (gA S t11 12 t15) fun t17 =>
          hbd (gR S x0 9 4) fun t19 =>
          hbd (gA S t19 12 x1) fun t21 =>
          hbd (sA S t11 t15 (t17 + t21)) fun S23 =>
          hbd (gR S23 x0 9 1) fun t25 =>
          hbd (gA S23 t25 12 10) fun t27 =>
          hbd (gR S23 x0 9 4) fun t29 =>
          hbd (gA S23 t29 12 x1) fun t31 =>
          hbd (sA S23 t25 10 (t27 + t31)) fun S33 =>
          f_X9_guestsGive_L2 n x0 (x1 + 1) S33 k0))
def f_X9_guestsGive (a0 : Nat) (S : hS) : Option (hS) :=
  f_X9_guestsGive_L2 hfuel a0 0 S
    (fun S35 =>
      some S35
    )
set_option maxRecDepth 100000 in
set_option maxHeartbeats 4000000 in
theorem w_X9_guestsGive_L2 {d : Nat} {S0 : hS} {args : List Value} {cs : Nat → Nat} {r : hS} (hd : 1 ≤ d) : ∀ (n : Nat) (x0 : Nat) (x1 : Int32) (S : hS) (k0 : (hS → Option (hS))) , f_X9_guestsGive_L2 n x0 x1 S k0 = some r → (∀ (T : hS), k0 T = some r → HW cX9_guestsGive RX9 (x_X9_guestsGive d S0 args r cs) 0 0 T 64 [] []) → HW cX9_guestsGive RX9 (x_X9_guestsGive d S0 args r cs) 0 0 S 2 [(0, .ref x0), (1, .int x1)] [] := by
  intro n
  induction n with
  | zero =>
    intro x0 x1 S k0 hf
    cases hf
  | succ n ih =>
    intro x0 x1 S k0 hf hk0
    rw [f_X9_guestsGive_L2] at hf
    refine h_iload_n dX9_guestsGive_2 rfl 1 rfl ?_
    refine h_aload_n dX9_guestsGive_3 rfl 0 rfl ?_
    obtain ⟨t1, h2, hf⟩ := hbd_s hf
    refine h_getR h2 rfl (Nat.le_of_ble_eq_true rfl) rfl q_961 rfl dX9_guestsGive_4 ?_
    refine h_iconst (v := 2) dX9_guestsGive_7 rfl ?_
    obtain ⟨t3, h4, hf⟩ := hbd_s hf
    refine h_iald h4 dX9_guestsGive_8 ?_
    refine h_icmp_ge (tgt := 64) dX9_guestsGive_9 (by decide) (fun c5 => ?_) (fun c5 => ?_)
    · replace hf := hif_p c5 hf
      refine h_sub (lv2 := []) [] rfl ?_
      exact hk0 S hf
    · replace hf := hif_n c5 hf
      refine h_aload_n dX9_guestsGive_12 rfl 0 rfl ?_
      obtain ⟨t6, h7, hf⟩ := hbd_s hf
      refine h_getR h7 rfl (Nat.le_of_ble_eq_true rfl) rfl q_963 rfl dX9_guestsGive_13 ?_
      refine h_iload_n dX9_guestsGive_16 rfl 1 rfl ?_
      obtain ⟨t8, h9, hf⟩ := hbd_s hf
      refine h_iald h9 dX9_guestsGive_17 ?_
      refine h_iconst (v := (-1)) dX9_guestsGive_18 rfl ?_
      refine h_icmp_eq (tgt := 58) dX9_guestsGive_19 (by decide) (fun c10 => ?_) (fun c10 => ?_)
      · replace hf := hif_p c10 hf
        refine h_iinc (q := 1) (v := x1 + 1) (lv2 := [(1, .int (x1 + 1)), (0, .ref x0)]) dX9_guestsGive_58 rfl rfl (Nat.le_of_ble_eq_true rfl) rfl ?_
        refine h_goto (tgt := 2) dX9_guestsGive_61 (by decide) ?_
        refine h_sub (lv2 := [(0, .ref x0), (1, .int (x1 + 1))]) [1, 0] rfl ?_
        exact ih x0 (x1 + 1) S k0  hf hk0
      · replace hf := hif_n c10 hf
        refine h_aload_n dX9_guestsGive_22 rfl 0 rfl ?_
        obtain ⟨t11, h12, hf⟩ := hbd_s hf
        refine h_getR h12 rfl (Nat.le_of_ble_eq_true rfl) rfl q_962 rfl dX9_guestsGive_23 ?_
        refine h_aload_n dX9_guestsGive_26 rfl 0 rfl ?_
        obtain ⟨t13, h14, hf⟩ := hbd_s hf
        refine h_getR h14 rfl (Nat.le_of_ble_eq_true rfl) rfl q_963 rfl dX9_guestsGive_27 ?_
        refine h_iload_n dX9_guestsGive_30 rfl 1 rfl ?_
        obtain ⟨t15, h16, hf⟩ := hbd_s hf
        refine h_iald h16 dX9_guestsGive_31 ?_
        refine h_dup2 dX9_guestsGive_32 rfl rfl ?_
        obtain ⟨t17, h18, hf⟩ := hbd_s hf
        refine h_iald h18 dX9_guestsGive_33 ?_
        refine h_aload_n dX9_guestsGive_34 rfl 0 rfl ?_
        obtain ⟨t19, h20, hf⟩ := hbd_s hf
        refine h_getR h20 rfl (Nat.le_of_ble_eq_true rfl) rfl q_964 rfl dX9_guestsGive_35 ?_
        refine h_iload_n dX9_guestsGive_38 rfl 1 rfl ?_
        obtain ⟨t21, h22, hf⟩ := hbd_s hf
        refine h_iald h22 dX9_guestsGive_39 ?_
        refine h_iadd dX9_guestsGive_40 ?_
        obtain ⟨S23, h24, hf⟩ := hbd_s hf
        refine h_iast h24 dX9_guestsGive_41 ?_
        refine h_aload_n dX9_guestsGive_42 rfl 0 rfl ?_
        obtain ⟨t25, h26, hf⟩ := hbd_s hf
        refine h_getR h26 rfl (Nat.le_of_ble_eq_true rfl) rfl q_961 rfl dX9_guestsGive_43 ?_
        refine h_bipush (v := 10) dX9_guestsGive_46 rfl ?_
        refine h_dup2 dX9_guestsGive_48 rfl rfl ?_
        obtain ⟨t27, h28, hf⟩ := hbd_s hf
        refine h_iald h28 dX9_guestsGive_49 ?_
        refine h_aload_n dX9_guestsGive_50 rfl 0 rfl ?_
        obtain ⟨t29, h30, hf⟩ := hbd_s hf
        refine h_getR h30 rfl (Nat.le_of_ble_eq_true rfl) rfl q_964 rfl dX9_guestsGive_51 ?_
        refine h_iload_n dX9_guestsGive_54 rfl 1 rfl ?_
        obtain ⟨t31, h32, hf⟩ := hbd_s hf
        refine h_iald h32 dX9_guestsGive_55 ?_
        refine h_iadd dX9_guestsGive_56 ?_
        obtain ⟨S33, h34, hf⟩ := hbd_s hf
        refine h_iast h34 dX9_guestsGive_57 ?_
        refine h_iinc (q := 1) (v := x1 + 1) (lv2 := [(1, .int (x1 + 1)), (0, .ref x0)]) dX9_guestsGive_58 rfl rfl (Nat.le_of_ble_eq_true rfl) rfl ?_
        refine h_goto (tgt := 2) dX9_guestsGive_61 (by decide) ?_
        refine h_sub (lv2 := [(0, .ref x0), (1, .int (x1 + 1))]) [1, 0] rfl ?_
        exact ih x0 (x1 + 1) S33 k0  hf hk0
set_option maxRecDepth 100000 in
set_option maxHeartbeats 4000000 in
theorem m_X9_guestsGive {d : Nat} {cs : Nat → Nat} {a0 : Nat} {S : hS} {r : hS} (hd : 1 ≤ d) (hf : f_X9_guestsGive a0 S = some r) : HM yX9_guestsGive cX9_guestsGive 2 none d 0 0 cs [.ref a0] S (none) r := by
  unfold f_X9_guestsGive at hf
  refine HM.ofHW false (by decide) (fun h => by cases h) (Nat.le_of_ble_eq_true rfl) ?_
  show HW cX9_guestsGive RX9 (x_X9_guestsGive d S [.ref a0] r cs) 0 0 S 0 [(0, .ref a0)] []
  refine h_iconst (v := 0) dX9_guestsGive_0 rfl ?_
  refine h_istore_n (lv2 := [(1, .int 0), (0, .ref a0)]) dX9_guestsGive_1 rfl (Nat.le_of_ble_eq_true rfl) rfl ?_
  refine h_sub (lv2 := [(0, .ref a0), (1, .int 0)]) [1, 0] rfl ?_
  refine w_X9_guestsGive_L2 hd hfuel a0 0 S _  hf ?_
  · intro S35 hf
    obtain rfl := Option.some.inj hf
    exact h_vret rfl rfl rfl (Nat.le_refl _) (Nat.le_refl _) dX9_guestsGive_64
