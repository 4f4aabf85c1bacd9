def hnl {β : Type} (v : Option Nat) (a : Option β) (b : Nat → Option β) : Option β := match v with
  | none => a
  | some x => b x
theorem hnl_n {β : Type} (a : Option β) (b : Nat → Option β) : hnl none a b = a := rfl
theorem hnl_s {β : Type} (x : Nat) (a : Option β) (b : Nat → Option β) : hnl (some x) a b = b x := rfl
def cpA (S : hS) (a0 : Nat) (sp : Int32) (a : Nat) (dp n : Int32) : Option hS := if S.K a0 = 12 ∧ S.K a = 12 ∧ ¬ sp < 0 ∧ ¬ dp < 0 ∧ ¬ n < 0 ∧ sp.toNatClampNeg + n.toNatClampNeg ≤ S.n a0 ∧ dp.toNatClampNeg + n.toNatClampNeg ≤ S.n a then some (S.setRow a (va_cpy (S.I a0) (S.I a) sp.toNatClampNeg dp.toNatClampNeg n.toNatClampNeg)) else none
theorem cpA_s {S T : hS} {a0 a : Nat} {sp dp n : Int32} (h : cpA S a0 sp a dp n = some T) : (S.K a0 = 12 ∧ S.K a = 12 ∧ ¬ sp < 0 ∧ ¬ dp < 0 ∧ ¬ n < 0 ∧ sp.toNatClampNeg + n.toNatClampNeg ≤ S.n a0 ∧ dp.toNatClampNeg + n.toNatClampNeg ≤ S.n a) ∧ T = S.setRow a (va_cpy (S.I a0) (S.I a) sp.toNatClampNeg dp.toNatClampNeg n.toNatClampNeg) := by
  unfold cpA at h; split at h
  · exact ⟨by assumption, (Option.some.inj h).symm⟩
  · cases h
/-- a text's length, a text's sign -/
def gTL (j : Nat) : Option Int32 := if j < hSN then some (Int32.ofNat (hSlen.getD j 0)) else none
def hTC (j : Nat) (i : Int32) : Int32 := ((((hSbyt.getD j []).getD i.toNatClampNeg 0) &&& 255).toUInt32 % 65536).toInt32
def gTC (j : Nat) (i : Int32) : Option Int32 := if j < hSN ∧ 0 ≤ i ∧ i.toNatClampNeg < hSlen.getD j 0 then some (hTC j i) else none
section HR
variable {cc : ByteArray} {own : String} {X : hX} {kc ks pc : Nat} {S : hS} {lv : List (Nat × Value)} {st : List Value}
theorem h_aload_nV {j : Fin 4} {i : Nat} {v : Option Nat} (hd : decode cc pc = .ok (.aload_n j, 1)) (hi : (j : Nat) = i) (q : Nat) (hq : lv[q]? = some (i, va_rf v)) (k : HW cc own X kc ks S (pc + 1) lv (va_rf v :: st)) : HW cc own X kc ks S pc lv st := by
  intro p l e s m below meth c D cy cv H locs ls F P hl
  cases v with
  | none => exact lv_aload_nN F.1 F.2.1 hd hi (lv_at hl q hq) (k p l e s m below meth c D cy cv H locs ls F P hl)
  | some a => exact lv_aload_n F.1 F.2.1 hd hi (lv_at hl q hq) (k p l e s m below meth c D cy cv H locs ls F P hl)
theorem h_aloadV {i : Nat} {v : Option Nat} (hd : decode cc pc = .ok (.aload i, 2)) (q : Nat) (hq : lv[q]? = some (i, va_rf v)) (k : HW cc own X kc ks S (pc + 2) lv (va_rf v :: st)) : HW cc own X kc ks S pc lv st := by
  intro p l e s m below meth c D cy cv H locs ls F P hl
  cases v with
  | none => exact lv_aloadN F.1 F.2.1 hd (lv_at hl q hq) (k p l e s m below meth c D cy cv H locs ls F P hl)
  | some a => exact lv_aload F.1 F.2.1 hd (lv_at hl q hq) (k p l e s m below meth c D cy cv H locs ls F P hl)
theorem h_astore_nV {j : Fin 4} {i : Nat} {v : Option Nat} {lv2 : List (Nat × Value)} (hd : decode cc pc = .ok (.astore_n j, 1)) (hi : (j : Nat) = i) (hn : i < X.nL) (h2 : (i, va_rf v) :: lv.filter (fun q => !(q.1 == i) && !(q.1 + 1 == i && q.2.category == 2)) = lv2) (k : HW cc own X kc ks S (pc + 1) lv2 st) : HW cc own X kc ks S pc lv (va_rf v :: st) := by
  intro p l e s m below meth c D cy cv H locs ls F P hl
  cases v with
  | none => exact lv_astore_nN F.1 F.2.1 hd hi hl hn h2 (fun ls hl => k p l e s m below meth c D cy cv H locs ls F P hl)
  | some a => exact lv_astore_n F.1 F.2.1 hd hi hl hn h2 (fun ls hl => k p l e s m below meth c D cy cv H locs ls F P hl)
theorem h_astoreV {i : Nat} {v : Option Nat} {lv2 : List (Nat × Value)} (hd : decode cc pc = .ok (.astore i, 2)) (hn : i < X.nL) (h2 : (i, va_rf v) :: lv.filter (fun q => !(q.1 == i) && !(q.1 + 1 == i && q.2.category == 2)) = lv2) (k : HW cc own X kc ks S (pc + 2) lv2 st) : HW cc own X kc ks S pc lv (va_rf v :: st) := by
  intro p l e s m below meth c D cy cv H locs ls F P hl
  cases v with
  | none => exact lv_astoreN F.1 F.2.1 hd hl hn h2 (fun ls hl => k p l e s m below meth c D cy cv H locs ls F P hl)
  | some a => exact lv_astore F.1 F.2.1 hd hl hn h2 (fun ls hl => k p l e s m below meth c D cy cv H locs ls F P hl)
theorem h_aret {v : Option Nat} {rt : FieldType} (hr : X.ret = some rt) (hrt : (∃ n, rt = .object n) ∨ ∃ t, rt = .array t) (hv : X.rv = some (va_rf v)) (hT : X.T = S) (h1 : kc ≤ X.mc) (h2 : ks ≤ X.ms) (hd : decode cc pc = .ok (.areturn, 1)) : HW cc own X kc ks S pc lv [va_rf v] := by
  intro p l e s m below meth c D cy cv H locs ls F P hl
  refine W.widen h1 h2 ?_
  exact W.aret (v := va_rf v) F.1 F.2.1 (F.2.2.1.trans hr) hrt (by cases v with | none => exact Or.inl rfl | some a => exact Or.inr ⟨a, rfl⟩) (fun t ht hW => ⟨⟨by rw [hv], by rw [hT]; exact hend P ht⟩, P.2.2.F ht⟩) P.2.2.2.2 hd F.2.2.2.2.2.2.1
theorem h_nret {v : Int32} {ty : FieldType} (hr : X.ret = some ty) (hn : narrow ty (.int v) = .int v) (hv : X.rv = some (.int v)) (hT : X.T = S) (h1 : kc ≤ X.mc) (h2 : ks ≤ X.ms) (hd : decode cc pc = .ok (.ireturn, 1)) : HW cc own X kc ks S pc lv [.int v] := by
  intro p l e s m below meth c D cy cv H locs ls F P hl
  refine W.widen h1 h2 ?_
  exact W.zret (v := v) F.1 F.2.1 (F.2.2.1.trans hr) hn (fun t ht hW => ⟨⟨by rw [hv], by rw [hT]; exact hend P ht⟩, P.2.2.F ht⟩) P.2.2.2.2 hd F.2.2.2.2.2.2.1
theorem h_i2c {x : Int32} (hd : decode cc pc = .ok (.i2c, 1)) (k : HW cc own X kc ks S (pc + 1) lv (.int (x.toUInt32 % 65536).toInt32 :: st)) : HW cc own X kc ks S pc lv (.int x :: st) := by
  intro p l e s m below meth c D cy cv H locs ls F P hl
  exact lv_i2c F.1 F.2.1 hd rfl (k p l e s m below meth c D cy cv H locs ls F P hl)
theorem hnn (z : Int32) (hz : ¬ z < 0) : z.toInt = (z.toNatClampNeg : Int) := by
  have hz0 : (0 : Int) ≤ z.toInt := by
    have := Int32.not_lt.mp hz
    simpa using Int32.le_iff_toInt_le.mp this
  show z.toInt = ((z.toInt.toNat : Nat) : Int)
  omega
theorem h_acopy {T : hS} {a0 a idx : Nat} {sp dp n : Int32} (hg : cpA S a0 sp a dp n = some T) (hq1 : Cond.methodLink own idx arraycopyName ∈ hTbl) (h0 : 1 ≤ X.d) (hcat : (st.map fun v => v.category).sum ≤ 8) (hd : decode cc pc = .ok (.invokestatic idx, 3)) (kk : HW cc own X kc ks T (pc + 3) lv st) : HW cc own X kc ks S pc lv (.int n :: .int dp :: .ref a :: .int sp :: .ref a0 :: st) := by
  obtain ⟨⟨k1, k2, g1, g2, g3, g4, g5⟩, rfl⟩ := cpA_s hg
  intro p l e s m below meth c D cy cv H locs ls F P hl
  have hts := F.2.2.2.2.1
  have hE := F.2.2.2.2.2.2.2.2.1.1
  intro T hT Z
  have hc0 : H[a0]? = some (vp_cell (cy 12) (S.n a0, .inl (S.I a0))) := P.i k1 (by omega)
  have hc1 : H[a]? = some (vp_cell (cy 12) (S.n a, .inl (S.I a))) := P.i k2 (by omega)
  obtain ⟨-, ck0, hk0, cm0, hkk0⟩ := (hE.2 1 _ rfl).1 (S.n a0) (fun j => .int (S.I a0 j))
  obtain ⟨-, ck1, hk1, cm1, hkk1⟩ := (hE.2 1 _ rfl).1 (S.n a) (fun j => .int (S.I a j))
  have hnw : nativeFrameWords "java/lang/System" "arraycopy" 5 ≤ 40 := by decide +kernel
  obtain ⟨vm', X', step⟩ := Z.arraycopy F.1 F.2.2.2.2.2.1 (hts _ hq1) (hts _ q_577) (hts _ q_576) (hts _ q_16) (src := a0) (dst := a) (cs := vp_cell (cy 12) (S.n a0, .inl (S.I a0))) (cd := vp_cell (cy 12) (S.n a, .inl (S.I a))) (srcPos := sp) (destPos := dp) (n := n) (by rw [hT]; exact hc0) (by rw [hT]; exact hc1)
    (fun _ h => by cases h) (fun _ h => by cases h) (fun h => by cases h) (fun h => by cases h) hk0 hk1 hkk0 hkk1 (by simp [refKind]) g1 g2 g3
    (by rw [hnn sp g1, hnn n g3]; show ¬ _ > ((arrV (cy 12) (S.n a0) (fun j => .int (S.I a0 j))).slots.size : Int); rw [arrV_size]; omega)
    (by rw [hnn dp g2, hnn n g3]; show ¬ _ > ((arrV (cy 12) (S.n a) (fun j => .int (S.I a j))).slots.size : Int); rw [arrV_size]; omega)
    (fun vm₁ _ i hi => by
      have e : (vp_cell (cy 12) (S.n a0, .inl (S.I a0))).slots.getD (sp.toNatClampNeg + i) .null = .int (S.I a0 (sp.toNatClampNeg + i)) := by
        show (arrV (cy 12) (S.n a0) (fun j => .int (S.I a0 j))).slots.getD _ _ = _
        rw [Array.getD_eq_getD_getElem?, arrV_read _ _ (by omega)]
        rfl
      refine ⟨?_, ?_⟩
      · rw [e]
        rfl
      · rw [e]
        exact trivial)
    (g := F0 m pc ls (.int n :: .int dp :: .ref a :: .int sp :: .ref a0 :: st)) rfl (by rw [F.2.2.2.1]; exact hl.1) (rest := st) rfl (by rw [F.2.1]; exact hd) h0 (by show 2 * 0 + _ + _ ≤ 64 * X.d; omega)
  have e1 : copied (vp_cell (cy 12) (S.n a0, .inl (S.I a0))) (vp_cell (cy 12) (S.n a, .inl (S.I a))) sp dp n = vp_cell (cy 12) (S.n a, .inl (va_cpy (S.I a0) (S.I a) sp.toNatClampNeg dp.toNatClampNeg n.toNatClampNeg)) := va_copied (fun z => .int z) (cy 12) (cy 12) (S.I a0) (S.I a) g4
  rw [e1] at X' step
  have hlt : a < H.size := (Array.getElem?_eq_some_iff.mp hc1).1
  have hheap : ((T.setVm vm').setCell a (vp_cell (cy 12) (S.n a, .inl (va_cpy (S.I a0) (S.I a) sp.toNatClampNeg dp.toNatClampNeg n.toNatClampNeg)))).heap = H.setIfInBounds a (vp_cell (cy 12) (S.n a, .inl (va_cpy (S.I a0) (S.I a) sp.toNatClampNeg dp.toNatClampNeg n.toNatClampNeg))) := by rw [← hT]; rfl
  have oq : ∀ q : Nat, q ≠ a → (H.setIfInBounds a (vp_cell (cy 12) (S.n a, .inl (va_cpy (S.I a0) (S.I a) sp.toNatClampNeg dp.toNatClampNeg n.toNatClampNeg))))[q]? = H[q]? := fun q hq => by simp [Array.getElem?_setIfInBounds, Ne.symm hq]
  have hAa : hA X.S0 a := P.2.1 a (by rw [k2]; omega)
  obtain ⟨t, a1, b1⟩ := kk p l e s m below meth c D cy cv _ _ ls F ⟨P.1.write (a := a) (by
      rw [hcell_i (k := 12) (by exact k2) (by omega)]
      show (H.setIfInBounds a _)[a]? = some (vp_cell _ _)
      simp [Array.getElem?_setIfInBounds, hlt, hS.setRow, hS.n, hS.I, va_up]) (by simp) oq rfl rfl rfl (fun b h => by simp [hS.setRow, hS.I, va_up, h]) (fun _ _ => rfl) (fun _ _ => rfl), P.2.1, by simp; exact P.2.2.1, fun q g1 g2 => by
      rw [oq q (fun e => g2 (by rw [e]; exact hAa))]
      exact P.2.2.2.1 q g1 g2, fun q hq => by
      rcases List.mem_append.mp hq with h | h
      · exact P.2.2.2.2 q h
      · obtain ⟨z, -, hz⟩ := List.mem_map.mp h
        rw [← hz]
        exact hAa⟩ hl _ hheap X'
  exact ⟨t, step t a1, b1⟩
theorem h_ldcS {i j : Nat} {tx : String} (hd : decode cc pc = .ok (.ldc i, 2)) (hq : (own, i, tx, j) ∈ hSL) (k : HW cc own X kc ks S (pc + 2) lv (.ref (X.cs j) :: st)) : HW cc own X kc ks S pc lv st := by
  intro p l e s m below meth c D cy cv H locs ls F P hl
  exact va_ldcS F.1 F.2.1 F.2.2.2.2.2.1 (F.2.2.2.2.2.2.2.2.1.2.2.2.1 _ hq) hd (k p l e s m below meth c D cy cv H locs ls F P hl)
theorem h_ldcwS {i j : Nat} {tx : String} (hd : decode cc pc = .ok (.ldc_w i, 3)) (hq : (own, i, tx, j) ∈ hSL) (k : HW cc own X kc ks S (pc + 3) lv (.ref (X.cs j) :: st)) : HW cc own X kc ks S pc lv st := by
  intro p l e s m below meth c D cy cv H locs ls F P hl
  have hZ := F.2.2.2.2.2.2.2.2.1.2.2.2.1 _ hq
  have kk := k p l e s m below meth c D cy cv H locs ls F P hl
  intro T hT Z
  obtain ⟨t, a1, b1⟩ := kk T hT Z
  refine ⟨t, ?_, b1⟩
  obtain ⟨kC, cf, i', a', hk, hcf, hcp, -, hr, hev'⟩ := Cond.stringRef_spec F.2.2.2.2.2.1 hZ.1
  cases hZ.2.symm.trans hev'
  obtain ⟨k', hk', he⟩ := Z.warmed.alike.2.2 _ _ hk
  have hr' : k'.resolved[i]? = some (some (.string (X.cs j))) := by
    rcases Z.warmed.entry hk hk' i with h | ⟨h, -⟩
    · rw [h]; exact hr
    · rw [hr] at h; cases h
  have hdg : decode c.code (F0 m pc ls st).pc = .ok (.ldc_w i, 3) := by rw [F.2.1]; exact hd
  jvm_step Z.here [F.1, hdg, ldc_w.wp_string (e := e) (s := T) (f := F0 m pc ls st) Z.here.top hk' (by rw [he]; exact hcf) hcp hr']
  exact a1
theorem h_getsCS {idx : Nat} (hq : Cond.fieldLink own idx "java/lang/String" "COMPACT_STRINGS" "Z" ∈ hTbl) (hd : decode cc pc = .ok (.getstatic idx, 3)) (k : HW cc own X kc ks S (pc + 3) lv (.int 1 :: st)) : HW cc own X kc ks S pc lv st := by
  intro p l e s m below meth c D cy cv H locs ls F P hl
  exact va_gets F.1 F.2.1 F.2.2.2.2.2.2.2.2.1.2.2.2.2.2.1 P.2.2 F.2.2.2.2.2.1 (F.2.2.2.2.1 _ hq) (fun _ h => h) hd (k p l e s m below meth c D cy cv H locs ls F P hl)
theorem h_getsF {idx : Nat} (hq : Cond.fieldLink own idx "jdk/internal/util/Preconditions" "SIOOBE_FORMATTER" "Ljava/util/function/BiFunction;" ∈ hTbl) (hd : decode cc pc = .ok (.getstatic idx, 3)) (k : ∀ v : Option Nat, HW cc own X kc ks S (pc + 3) lv (va_rf v :: st)) : HW cc own X kc ks S pc lv st := by
  intro p l e s m below meth c D cy cv H locs ls F P hl
  rcases F.2.2.2.2.2.2.2.2.1.2.2.2.2.2.2.2.2.1 with hz | ⟨t, hz⟩
  · exact va_gets F.1 F.2.1 hz P.2.2 F.2.2.2.2.2.1 (F.2.2.2.2.1 _ hq) (fun _ h => h) hd (k none p l e s m below meth c D cy cv H locs ls F P hl)
  · exact va_gets F.1 F.2.1 hz P.2.2 F.2.2.2.2.2.1 (F.2.2.2.2.1 _ hq) (fun _ h => h) hd (k (some t) p l e s m below meth c D cy cv H locs ls F P hl)
theorem h_strC {idx j : Nat} (hj : j < hSN) (hq : Cond.fieldLink own idx "java/lang/String" "coder" "B" ∈ hTbl) (hd : decode cc pc = .ok (.getfield idx, 3)) (k : HW cc own X kc ks S (pc + 3) lv (.int 0 :: st)) : HW cc own X kc ks S pc lv (.ref (X.cs j) :: st) := by
  intro p l e s m below meth c D cy cv H locs ls F P hl
  exact vk_getf F.1 F.2.1 (F.2.2.2.2.2.2.2.2.1.2.2.2.2.1 j hj).2.1 P.2.2 F.2.2.2.2.2.1 (F.2.2.2.2.1 _ hq) (fun _ h => h) hd (k p l e s m below meth c D cy cv H locs ls F P hl)
theorem h_strV {idx j : Nat} (hj : j < hSN) (hq : Cond.fieldLink own idx "java/lang/String" "value" "[B" ∈ hTbl) (hd : decode cc pc = .ok (.getfield idx, 3)) (k : HW cc own X kc ks S (pc + 3) lv (.ref (X.cs (1000 + j)) :: st)) : HW cc own X kc ks S pc lv (.ref (X.cs j) :: st) := by
  intro p l e s m below meth c D cy cv H locs ls F P hl
  exact vk_getf F.1 F.2.1 (F.2.2.2.2.2.2.2.2.1.2.2.2.2.1 j hj).2.2.1 P.2.2 F.2.2.2.2.2.1 (F.2.2.2.2.1 _ hq) (fun _ h => h) hd (k p l e s m below meth c D cy cv H locs ls F P hl)
theorem h_strL {j : Nat} (hj : j < hSN) (hd : decode cc pc = .ok (.arraylength, 1)) (k : HW cc own X kc ks S (pc + 1) lv (.int (Int32.ofNat (hSlen.getD j 0)) :: st)) : HW cc own X kc ks S pc lv (.ref (X.cs (1000 + j)) :: st) := by
  intro p l e s m below meth c D cy cv H locs ls F P hl
  exact va_tlen F.1 F.2.1 (F.2.2.2.2.2.2.2.2.1.2.2.2.2.1 j hj).2.2.2 P.2.2 rfl hd (k p l e s m below meth c D cy cv H locs ls F P hl)
theorem h_strB {j : Nat} {i : Int32} (hj : j < hSN) (hi : vp_in i (hSlen.getD j 0)) (hd : decode cc pc = .ok (.baload, 1)) (k : HW cc own X kc ks S (pc + 1) lv (.int ((hSbyt.getD j []).getD i.toNatClampNeg 0) :: st)) : HW cc own X kc ks S pc lv (.int i :: .ref (X.cs (1000 + j)) :: st) := by
  intro p l e s m below meth c D cy cv H locs ls F P hl
  exact va_tb F.1 F.2.1 (F.2.2.2.2.2.2.2.2.1.2.2.2.2.1 j hj).2.2.2 P.2.2 hi rfl hd (k p l e s m below meth c D cy cv H locs ls F P hl)
theorem h_Ti {y : MethodName} {cc' : ByteArray} {nL' d' idx j n : Nat} {ret' : Option FieldType} {r : Int32} (As : List Value) {rest : List Value} {T : hS} (hM : HM y cc' nL' ret' d' 0 0 X.cs (.ref (X.cs j) :: As) S (some (.int r)) T) (hw : hVW y cc' nL' ret' RJ0 n) (hj : j < hSN) (hq1 : Cond.methodLink own idx y ∈ hTbl) (hn : As.length = n) (hd' : d' + 1 ≤ X.d) (hst : st = As.reverse ++ .ref (X.cs j) :: rest) (hcat : (rest.map fun v => v.category).sum ≤ 8) (hd : decode cc pc = .ok (.invokevirtual idx, 3)) (h1 : kc ≤ X.mc) (h2 : ks ≤ X.ms)
    (kk : HW cc own X kc ks T (pc + 3) lv (.int r :: rest)) : HW cc own X kc ks S pc lv st := by
  intro p l e s m below meth c D cy cv H locs ls F P hl
  obtain ⟨hq2, hq3, hq4, hq5, hy, hL⟩ := hw
  have hG : GoodIn hTbl (wsV own idx RJ0 y (Cond.code y cc' nL' ret' :: hTbl)) := by
    intro w hw
    have hm : w ∈ hTbl := by
      simp only [wsV, List.mem_append, List.mem_cons, List.not_mem_nil, or_false] at hw
      rcases hw with (rfl | rfl | rfl | rfl) | rfl | hw
      · exact hq1
      · exact hq2
      · exact hq3
      · exact hq4
      · exact hq5
      · exact hw
    exact ⟨hm, hgood hm⟩
  subst hst
  exact h_after (rv := some (.int r)) (va_runV (As := As) (rest := rest) ⟨F.1, F.2.1, F.2.2.2.1, F.2.2.2.2.2.1, F.2.2.2.2.1⟩ (hM l D cy cv) (cwV n F.2.2.2.2.1 hG rfl rfl rfl hy ⟨hd', by show 8 + (nL' + 11) + 64 * d' ≤ 64 * X.d; omega⟩) ⟨hpre_blind, (by obtain ⟨cell, h1, h2, h3, -⟩ := (F.2.2.2.2.2.2.2.2.1.2.2.2.2.1 j hj).1.kept P.2.2.2.1; exact ⟨cell, h1, h2, h3⟩), F.pre P⟩ rfl hn hl.1 rfl (lv_room hcat) hd ⟨h1, h2⟩) P F.A0 (fun H1 locs1 P1 => kk p l e s m below meth c D cy cv H1 locs1 ls F P1 hl)
end HR

theorem v_J0_coder_7d493 : hVW yJ0_coder_7d493 cJ0_coder_7d493 1 (some .byte) RJ0 0 := ⟨q_404, q_405, q_11, q_406, by decide +kernel, by decide⟩
theorem v_J0_isLatin1_aae02 : hVW yJ0_isLatin1_aae02 cJ0_isLatin1_aae02 1 (some .boolean) RJ0 0 := ⟨q_414, q_415, q_11, q_416, by decide +kernel, by decide⟩
theorem v_J0_length_8abf5 : hVW yJ0_length_8abf5 cJ0_length_8abf5 1 (some .int) RJ0 0 := ⟨q_400, q_401, q_11, q_402, by decide +kernel, by decide⟩
theorem v_J0_charAt_5068e : hVW yJ0_charAt_5068e cJ0_charAt_5068e 2 (some .char) RJ0 1 := ⟨q_410, q_411, q_11, q_412, by decide +kernel, by decide⟩
theorem v_J3_checkIndex_8e157 : hSW yJ3_checkIndex_8e157 cJ3_checkIndex_8e157 3 (some .int) 3 := ⟨q_426, q_13, q_427, by decide +kernel, by decide⟩
theorem v_J0_checkIndex_df160 : hSW yJ0_checkIndex_df160 cJ0_checkIndex_df160 2 none 2 := ⟨q_421, q_11, q_422, by decide +kernel, by decide⟩
theorem v_J1_charAt_3b067 : hSW yJ1_charAt_3b067 cJ1_charAt_3b067 2 (some .char) 2 := ⟨q_418, q_12, q_419, by decide +kernel, by decide⟩
set_option maxRecDepth 100000 in
set_option maxHeartbeats 4000000 in
theorem m_J0_coder_7d493 {d : Nat} {cs : Nat → Nat} {j : Nat} {S : hS} (hd : 1 ≤ d) (hj : j < hSN) : HM yJ0_coder_7d493 cJ0_coder_7d493 1 (some .byte) d 0 0 cs [.ref (cs j)] S (some (.int 0)) S := by
  refine HM.ofHW false (by decide) (fun h => by cases h) (Nat.le_of_ble_eq_true rfl) ?_
  show HW cJ0_coder_7d493 RJ0 ((some .byte, 1, d, 0, 0, false), (S, [.ref (cs j)], some (.int 0), S), cs) 0 0 S 0 [(0, .ref (cs j))] []
  refine h_getsCS q_407 dJ0_coder_7d493_0 ?_
  refine h_if_eq (tgt := 13) dJ0_coder_7d493_3 (by decide) (fun c => absurd c (by decide)) (fun c => ?_)
  refine h_aload_n dJ0_coder_7d493_6 rfl 0 rfl ?_
  refine h_strC hj q_1580 dJ0_coder_7d493_7 ?_
  refine h_goto (tgt := 14) dJ0_coder_7d493_10 (by decide) ?_
  exact h_nret rfl (by decide) rfl rfl (Nat.le_refl _) (Nat.le_refl _) dJ0_coder_7d493_14
set_option maxRecDepth 100000 in
set_option maxHeartbeats 4000000 in
theorem m_J0_isLatin1_aae02 {d : Nat} {cs : Nat → Nat} {j : Nat} {S : hS} (hd : 1 ≤ d) (hj : j < hSN) : HM yJ0_isLatin1_aae02 cJ0_isLatin1_aae02 1 (some .boolean) d 0 0 cs [.ref (cs j)] S (some (.int 1)) S := by
  refine HM.ofHW false (by decide) (fun h => by cases h) (Nat.le_of_ble_eq_true rfl) ?_
  show HW cJ0_isLatin1_aae02 RJ0 ((some .boolean, 1, d, 0, 0, false), (S, [.ref (cs j)], some (.int 1), S), cs) 0 0 S 0 [(0, .ref (cs j))] []
  refine h_getsCS q_407 dJ0_isLatin1_aae02_0 ?_
  refine h_if_eq (tgt := 17) dJ0_isLatin1_aae02_3 (by decide) (fun c => absurd c (by decide)) (fun c => ?_)
  refine h_aload_n dJ0_isLatin1_aae02_6 rfl 0 rfl ?_
  refine h_strC hj q_1580 dJ0_isLatin1_aae02_7 ?_
  refine h_if_ne (tgt := 17) dJ0_isLatin1_aae02_10 (by decide) (fun c => absurd rfl c) (fun c => ?_)
  refine h_iconst (v := 1) dJ0_isLatin1_aae02_13 rfl ?_
  refine h_goto (tgt := 18) dJ0_isLatin1_aae02_14 (by decide) ?_
  exact h_zret rfl (by decide) rfl rfl (Nat.le_refl _) (Nat.le_refl _) dJ0_isLatin1_aae02_18
set_option maxRecDepth 100000 in
set_option maxHeartbeats 4000000 in
theorem m_J3_checkIndex_8e157 {d : Nat} {cs : Nat → Nat} {i n : Int32} {v : Option Nat} {S : hS} (hd : 1 ≤ d) (h1 : ¬ i < 0) (h2 : i < n) : HM yJ3_checkIndex_8e157 cJ3_checkIndex_8e157 3 (some .int) d 0 0 cs [.int i, .int n, va_rf v] S (some (.int i)) S := by
  have hl : (lg_sl [.int i, .int n, va_rf v]).length ≤ 3 := by cases v <;> exact Nat.le_of_ble_eq_true rfl
  have hlv : lv_args 0 [.int i, .int n, va_rf v] = [(0, .int i), (1, .int n), (2, va_rf v)] := by cases v <;> rfl
  refine HM.ofHW false (by decide) (fun h => by cases h) hl ?_
  rw [hlv]
  show HW cJ3_checkIndex_8e157 RJ3 ((some .int, 3, d, 0, 0, false), (S, [.int i, .int n, va_rf v], some (.int i), S), cs) 0 0 S 0 [(0, .int i), (1, .int n), (2, va_rf v)] []
  refine h_iload_n dJ3_checkIndex_8e157_0 rfl 0 rfl ?_
  refine h_if_lt (tgt := 9) dJ3_checkIndex_8e157_1 (by decide) (fun c => absurd c h1) (fun c => ?_)
  refine h_iload_n dJ3_checkIndex_8e157_4 rfl 0 rfl ?_
  refine h_iload_n dJ3_checkIndex_8e157_5 rfl 1 rfl ?_
  refine h_icmp_lt (tgt := 16) dJ3_checkIndex_8e157_6 (by decide) (fun c => ?_) (fun c => absurd h2 c)
  refine h_iload_n dJ3_checkIndex_8e157_16 rfl 0 rfl ?_
  exact h_iret rfl rfl rfl (Nat.le_refl _) (Nat.le_refl _) dJ3_checkIndex_8e157_17
set_option maxRecDepth 100000 in
set_option maxHeartbeats 4000000 in
theorem m_J0_checkIndex_df160 {d : Nat} {cs : Nat → Nat} {i n : Int32} {S : hS} (hd : 2 ≤ d) (h1 : ¬ i < 0) (h2 : i < n) : HM yJ0_checkIndex_df160 cJ0_checkIndex_df160 2 none d 0 0 cs [.int i, .int n] S none S := by
  refine HM.ofHW false (by decide) (fun h => by cases h) (Nat.le_of_ble_eq_true rfl) ?_
  show HW cJ0_checkIndex_df160 RJ0 ((none, 2, d, 0, 0, false), (S, [.int i, .int n], none, S), cs) 0 0 S 0 [(0, .int i), (1, .int n)] []
  refine h_iload_n dJ0_checkIndex_df160_0 rfl 0 rfl ?_
  refine h_iload_n dJ0_checkIndex_df160_1 rfl 1 rfl ?_
  refine h_getsF q_423 dJ0_checkIndex_df160_2 (fun v => ?_)
  refine h_Si [.int i, .int n, va_rf v] (rest := []) (m_J3_checkIndex_8e157 (d := 1) (cs := cs) (Nat.le_refl _) h1 h2) v_J3_checkIndex_8e157 q_425 rfl (Nat.le_trans (by decide) hd) rfl (Nat.le_of_ble_eq_true rfl) dJ0_checkIndex_df160_5 (Nat.le_refl _) (Nat.le_refl _) ?_
  refine h_pop dJ0_checkIndex_df160_8 rfl ?_
  exact h_vret rfl rfl rfl (Nat.le_refl _) (Nat.le_refl _) dJ0_checkIndex_df160_9
set_option maxRecDepth 100000 in
set_option maxHeartbeats 4000000 in
theorem m_J1_charAt_3b067 {d : Nat} {cs : Nat → Nat} {j : Nat} {i : Int32} {S : hS} (hd : 3 ≤ d) (hj : j < hSN) (h1 : ¬ i < 0) (h2 : i < Int32.ofNat (hSlen.getD j 0)) (hi : vp_in i (hSlen.getD j 0)) : HM yJ1_charAt_3b067 cJ1_charAt_3b067 2 (some .char) d 0 0 cs [.ref (cs (1000 + j)), .int i] S (some (.int (hTC j i))) S := by
  refine HM.ofHW false (by decide) (fun h => by cases h) (Nat.le_of_ble_eq_true rfl) ?_
  show HW cJ1_charAt_3b067 RJ1 ((some .char, 2, d, 0, 0, false), (S, [.ref (cs (1000 + j)), .int i], some (.int (hTC j i)), S), cs) 0 0 S 0 [(0, .ref (cs (1000 + j))), (1, .int i)] []
  refine h_iload_n dJ1_charAt_3b067_0 rfl 1 rfl ?_
  refine h_aload_n dJ1_charAt_3b067_1 rfl 0 rfl ?_
  refine h_strL hj dJ1_charAt_3b067_2 ?_
  refine h_Sv [.int i, .int (Int32.ofNat (hSlen.getD j 0))] (rest := []) (m_J0_checkIndex_df160 (d := 2) (cs := cs) (Nat.le_refl _) h1 h2) v_J0_checkIndex_df160 q_420 rfl (Nat.le_trans (by decide) hd) rfl (Nat.le_of_ble_eq_true rfl) dJ1_charAt_3b067_3 (Nat.le_refl _) (Nat.le_refl _) ?_
  refine h_aload_n dJ1_charAt_3b067_6 rfl 0 rfl ?_
  refine h_iload_n dJ1_charAt_3b067_7 rfl 1 rfl ?_
  refine h_strB hj hi dJ1_charAt_3b067_8 ?_
  refine h_sipush (v := 255) dJ1_charAt_3b067_9 rfl ?_
  refine h_iand dJ1_charAt_3b067_12 ?_
  refine h_i2c dJ1_charAt_3b067_13 ?_
  exact h_nret rfl (pk_nc _) rfl rfl (Nat.le_refl _) (Nat.le_refl _) dJ1_charAt_3b067_14
theorem hlen_shr : ∀ j, j < hSN → Int32.ofNat (hSlen.getD j 0) >>> ((0 : Int32) &&& 31) = Int32.ofNat (hSlen.getD j 0) := by decide +kernel
theorem hlen_lt : ∀ j, j < hSN → hSlen.getD j 0 < 100 := by decide +kernel
theorem gTC_s {j : Nat} {i r : Int32} (h : gTC j i = some r) : j < hSN ∧ ¬ i < 0 ∧ i < Int32.ofNat (hSlen.getD j 0) ∧ vp_in i (hSlen.getD j 0) ∧ hTC j i = r := by
  unfold gTC at h; split at h
  · rename_i q
    obtain ⟨q1, q2, q3⟩ := q
    have hv := hin_of ⟨q2, q3⟩
    have h0 : ¬ i < 0 := fun z => hv (Or.inl z)
    refine ⟨q1, h0, ?_, hv, Option.some.inj h⟩
    have hl := hlen_lt j q1
    rw [Int32.lt_iff_toInt_lt, hnn i h0]
    have : (Int32.ofNat (hSlen.getD j 0)).toInt = ((hSlen.getD j 0 : Nat) : Int) := nI_toInt (by omega)
    rw [this]; omega
  · cases h
theorem gTL_s {j : Nat} {r : Int32} (h : gTL j = some r) : j < hSN ∧ Int32.ofNat (hSlen.getD j 0) = r := by
  unfold gTL at h; split at h
  · exact ⟨by assumption, Option.some.inj h⟩
  · cases h
set_option maxRecDepth 100000 in
set_option maxHeartbeats 4000000 in
theorem m_J0_charAt_5068e {d : Nat} {cs : Nat → Nat} {j : Nat} {i r : Int32} {S : hS} (hd : 4 ≤ d) (hf : gTC j i = some r) : HM yJ0_charAt_5068e cJ0_charAt_5068e 2 (some .char) d 0 0 cs [.ref (cs j), .int i] S (some (.int r)) S := by
  obtain ⟨hj, h1, h2, hi, rfl⟩ := gTC_s hf
  refine HM.ofHW false (by decide) (fun h => by cases h) (Nat.le_of_ble_eq_true rfl) ?_
  show HW cJ0_charAt_5068e RJ0 ((some .char, 2, d, 0, 0, false), (S, [.ref (cs j), .int i], some (.int (hTC j i)), S), cs) 0 0 S 0 [(0, .ref (cs j)), (1, .int i)] []
  refine h_aload_n dJ0_charAt_5068e_0 rfl 0 rfl ?_
  refine h_Ti [] (rest := []) (m_J0_isLatin1_aae02 (d := 1) (cs := cs) (Nat.le_refl _) hj) v_J0_isLatin1_aae02 hj q_413 rfl (Nat.le_trans (by decide) hd) rfl (Nat.le_of_ble_eq_true rfl) dJ0_charAt_5068e_1 (Nat.le_refl _) (Nat.le_refl _) ?_
  refine h_if_eq (tgt := 16) dJ0_charAt_5068e_4 (by decide) (fun c => absurd c (by decide)) (fun c => ?_)
  refine h_aload_n dJ0_charAt_5068e_7 rfl 0 rfl ?_
  refine h_strV hj q_1579 dJ0_charAt_5068e_8 ?_
  refine h_iload_n dJ0_charAt_5068e_11 rfl 1 rfl ?_
  refine h_Si [.ref (cs (1000 + j)), .int i] (rest := []) (m_J1_charAt_3b067 (d := 3) (cs := cs) (Nat.le_refl _) hj h1 h2 hi) v_J1_charAt_3b067 q_417 rfl (Nat.le_trans (by decide) hd) rfl (Nat.le_of_ble_eq_true rfl) dJ0_charAt_5068e_12 (Nat.le_refl _) (Nat.le_refl _) ?_
  exact h_nret rfl (pk_nc _) rfl rfl (Nat.le_refl _) (Nat.le_refl _) dJ0_charAt_5068e_15
set_option maxRecDepth 100000 in
set_option maxHeartbeats 4000000 in
theorem m_J0_length_8abf5 {d : Nat} {cs : Nat → Nat} {j : Nat} {r : Int32} {S : hS} (hd : 2 ≤ d) (hf : gTL j = some r) : HM yJ0_length_8abf5 cJ0_length_8abf5 1 (some .int) d 0 0 cs [.ref (cs j)] S (some (.int r)) S := by
  obtain ⟨hj, rfl⟩ := gTL_s hf
  have e := hlen_shr j hj
  refine HM.ofHW false (by decide) (fun h => by cases h) (Nat.le_of_ble_eq_true rfl) ?_
  show HW cJ0_length_8abf5 RJ0 ((some .int, 1, d, 0, 0, false), (S, [.ref (cs j)], some (.int (Int32.ofNat (hSlen.getD j 0))), S), cs) 0 0 S 0 [(0, .ref (cs j))] []
  refine h_aload_n dJ0_length_8abf5_0 rfl 0 rfl ?_
  refine h_strV hj q_1579 dJ0_length_8abf5_1 ?_
  refine h_strL hj dJ0_length_8abf5_4 ?_
  refine h_aload_n dJ0_length_8abf5_5 rfl 0 rfl ?_
  refine h_Ti [] (rest := [.int (Int32.ofNat (hSlen.getD j 0))]) (m_J0_coder_7d493 (d := 1) (cs := cs) (Nat.le_refl _) hj) v_J0_coder_7d493 hj q_403 rfl (Nat.le_trans (by decide) hd) rfl (Nat.le_of_ble_eq_true rfl) dJ0_length_8abf5_6 (Nat.le_refl _) (Nat.le_refl _) ?_
  refine h_ishr dJ0_length_8abf5_9 ?_
  rw [e]
  exact h_iret rfl rfl rfl (Nat.le_refl _) (Nat.le_refl _) dJ0_length_8abf5_10
