theorem hif_p {β : Type} {c : Prop} [Decidable c] {a b : Option β} {r : β} (h : c) (hf : (if c then a else b) = some r) : a = some r := by rwa [if_pos h] at hf
theorem hif_n {β : Type} {c : Prop} [Decidable c] {a b : Option β} {r : β} (h : ¬ c) (hf : (if c then a else b) = some r) : b = some r := by rwa [if_neg h] at hf
theorem hnl_N {β : Type} {a : Option β} {b : Nat → Option β} {r : β} (hf : hnl none a b = some r) : a = some r := hf
theorem hnl_S {β : Type} {x : Nat} {a : Option β} {b : Nat → Option β} {r : β} (hf : hnl (some x) a b = some r) : b x = some r := hf
theorem qo_code : Cond.code Lib.objectInit ⟨#[0xb1]⟩ 1 none ∈ hTbl := hm_1 (i := 25) (by decide +kernel) (by decide +kernel)
theorem hdf_0 : ∀ k, k < 12 → (hT 0)[k]? = some ((hT 0).getD k false) ∧ defaultValue (tyX0 k) = (if (hT 0).getD k false then Value.null else .int 0) := by decide +kernel
theorem hdf_1 : ∀ k, k < 7 → (hT 1)[k]? = some ((hT 1).getD k false) ∧ defaultValue (tyX1 k) = (if (hT 1).getD k false then Value.null else .int 0) := by decide +kernel
theorem hdf_2 : ∀ k, k < 6 → (hT 2)[k]? = some ((hT 2).getD k false) ∧ defaultValue (tyX2 k) = (if (hT 2).getD k false then Value.null else .int 0) := by decide +kernel
theorem hdf_3 : ∀ k, k < 3 → (hT 3)[k]? = some ((hT 3).getD k false) ∧ defaultValue (tyX3 k) = (if (hT 3).getD k false then Value.null else .int 0) := by decide +kernel
theorem hdf_4 : ∀ k, k < 4 → (hT 4)[k]? = some ((hT 4).getD k false) ∧ defaultValue (tyX4 k) = (if (hT 4).getD k false then Value.null else .int 0) := by decide +kernel
theorem hdf_5 : ∀ k, k < 6 → (hT 5)[k]? = some ((hT 5).getD k false) ∧ defaultValue (tyX5 k) = (if (hT 5).getD k false then Value.null else .int 0) := by decide +kernel
theorem hdf_6 : ∀ k, k < 15 → (hT 6)[k]? = some ((hT 6).getD k false) ∧ defaultValue (tyX6 k) = (if (hT 6).getD k false then Value.null else .int 0) := by decide +kernel
theorem hdf_7 : ∀ k, k < 4 → (hT 7)[k]? = some ((hT 7).getD k false) ∧ defaultValue (tyX7 k) = (if (hT 7).getD k false then Value.null else .int 0) := by decide +kernel
theorem hdf_8 : ∀ k, k < 11 → (hT 8)[k]? = some ((hT 8).getD k false) ∧ defaultValue (tyX8 k) = (if (hT 8).getD k false then Value.null else .int 0) := by decide +kernel
theorem hdf_9 : ∀ k, k < 63 → (hT 9)[k]? = some ((hT 9).getD k false) ∧ defaultValue (tyX9 k) = (if (hT 9).getD k false then Value.null else .int 0) := by decide +kernel
theorem hDef : ∀ (ci : Nat) (C : String) (TT : u_T) (N : Nat), vwCl[ci]? = some (C, TT, N) → ∃ ty : Nat → FieldType, (∀ k, k < N → parseFieldDescriptor (TT k).2.2.1 = some (ty k)) ∧ ∀ k, k < N → (hT ci)[k]? = some ((hT ci).getD k false) ∧ defaultValue (ty k) = (if (hT ci).getD k false then Value.null else .int 0) := by
  intro ci C TT N h
  match ci, h with
  | 0, h => cases h; exact ⟨tyX0, tyX0_ok, hdf_0⟩
  | 1, h => cases h; exact ⟨tyX1, tyX1_ok, hdf_1⟩
  | 2, h => cases h; exact ⟨tyX2, tyX2_ok, hdf_2⟩
  | 3, h => cases h; exact ⟨tyX3, tyX3_ok, hdf_3⟩
  | 4, h => cases h; exact ⟨tyX4, tyX4_ok, hdf_4⟩
  | 5, h => cases h; exact ⟨tyX5, tyX5_ok, hdf_5⟩
  | 6, h => cases h; exact ⟨tyX6, tyX6_ok, hdf_6⟩
  | 7, h => cases h; exact ⟨tyX7, tyX7_ok, hdf_7⟩
  | 8, h => cases h; exact ⟨tyX8, tyX8_ok, hdf_8⟩
  | 9, h => cases h; exact ⟨tyX9, tyX9_ok, hdf_9⟩
  | n + 10, h => simp [vwCl] at h
/-- a new cell: its address, the state with it -/
def hnw {β : Type} (S : hS) (kd len : Nat) (k : Nat → hS → Option β) : Option β := k S.nx (S.new kd len)
theorem hnw_s {β : Type} {S : hS} {kd len : Nat} {k : Nat → hS → Option β} {r : β} (h : hnw S kd len k = some r) : ∃ q T, q = S.nx ∧ T = S.new kd len ∧ k q T = some r := ⟨_, _, rfl, rfl, h⟩
def sAR (S : hS) (a kd kv : Nat) (i : Int32) (v : Nat) : Option hS := if S.K a = kd ∧ S.K v = kv ∧ 0 ≤ i ∧ i.toNatClampNeg < S.n a then some (S.setR a i.toNatClampNeg (some v)) else none
theorem sAR_s {S T : hS} {a kd kv v : Nat} {i : Int32} (h : sAR S a kd kv i v = some T) : S.K a = kd ∧ S.K v = kv ∧ vp_in i (S.n a) ∧ T = S.setR a i.toNatClampNeg (some v) := by
  unfold sAR at h; split at h
  · rename_i q
    exact ⟨q.1, q.2.1, hin_of q.2.2, (Option.some.inj h).symm⟩
  · cases h
theorem hB.new {D : va_G} {cy : Nat → ClassId} {S : hS} {H H1 : Heap} {kd len : Nat} (P : hB D cy S H) (z : H1.size = H.size + 1) (o1 : ∀ q : Nat, q < H.size → H1[q]? = H[q]?) (e : va_at D vwCl (S.nx, hcell cy (S.new kd len) S.nx) H1) : hB D cy (S.new kd len) H1 := by
  refine ⟨by rw [z, P.1]; rfl, fun a ha => ?_⟩
  by_cases q : a = S.nx
  · subst q; exact e
  · have hK : (S.new kd len).K a = S.K a := by simp [hS.new, hS.K, va_up, q]
    rw [hcell_same (S := S) hK (by simp [hS.new, hS.n, va_up, q]) (by simp [hS.new, hS.I, va_up, q]) (by simp [hS.new, hS.J, va_up, q]) (by simp [hS.new, hS.R, va_up, q])]
    have h := P.2 a (by rw [← hK]; exact ha)
    exact h.kept (o1 a h.lt)
theorem hPool.new {D : va_G} {cy : Nat → ClassId} {A : Nat → Prop} {H0 H H1 : Heap} {S : hS} {locs : List Loc} {kd len : Nat} (P : hPool D cy A H0 S H locs) (hA0 : ∀ q : Nat, H0.size ≤ q → A q) (z : H1.size = H.size + 1) (o1 : ∀ q : Nat, q < H.size → H1[q]? = H[q]?) (e : va_at D vwCl (S.nx, hcell cy (S.new kd len) S.nx) H1) : hPool D cy A H0 (S.new kd len) H1 locs := by
  refine ⟨P.1.new z o1 e, fun a ha => ?_, Nat.le_trans P.2.2.1 (by omega), fun x h1 h2 => (o1 x (Nat.lt_of_lt_of_le h1 P.2.2.1)).trans (P.2.2.2.1 x h1 h2), P.2.2.2.2⟩
  by_cases q : a = S.nx
  · subst q
    exact hA0 _ (by have := P.2.2.1; rw [P.1.1] at this; exact this)
  · exact P.2.1 a (by simpa [hS.new, hS.K, va_up, q] using ha)
def hIW (y : MethodName) (cc : ByteArray) (nL n : Nat) : Prop := Cond.instanceMethod y ∈ hTbl ∧ Cond.initialized y.cls ∈ hTbl ∧ Cond.code y cc nL none ∈ hTbl ∧ y.name = "<init>" ∧ (y.cls ≠ "java/lang/invoke/MethodHandle" ∧ y.cls ≠ "java/lang/invoke/VarHandle" ∧ (parseMethodDescriptor y.desc).map (fun d => d.parameters.length) = some n) ∧ nL ≤ 45
section HR
variable {cc : ByteArray} {own : String} {X : hX} {kc ks pc : Nat} {S : hS} {lv : List (Nat × Value)} {st : List Value}
theorem h_wid {kc' ks' : Nat} (h1 : kc ≤ kc') (h2 : ks ≤ ks') (k : HW cc own X kc' ks' S pc lv st) : HW cc own X kc ks S pc lv st := by
  intro p l e s m below meth c D cy cv H locs ls F P hl
  exact W.widen h1 h2 (k p l e s m below meth c D cy cv H locs ls F P hl)
theorem h_obj {a idx : Nat} (hq1 : Cond.methodLink own idx Lib.objectInit ∈ hTbl) (h0 : 1 ≤ X.d) (hcat : (st.map fun v => v.category).sum ≤ 8) (hd : decode cc pc = .ok (.invokespecial idx, 3)) (k : HW cc own X kc ks S (pc + 3) lv st) : HW cc own X kc ks S pc lv (.ref a :: st) := by
  intro p l e s m below meth c D cy cv H locs ls F P hl
  exact W.objInit F.1 F.2.1 F.2.2.2.2.2.1 (F.2.2.2.2.1 _ hq1) (F.2.2.2.2.1 _ q_24) (F.2.2.2.2.1 _ qo_code) rfl (hl.1.trans F.2.2.2.1.symm) rfl hd h0 (by show 2 * 0 + _ + 12 ≤ 64 * X.d; omega) (k p l e s m below meth c D cy cv H locs ls F P hl)
theorem h_new {ci idx N q : Nat} {C : String} {TT : u_T} {S2 : hS} (hq : q = S.nx) (hS2 : S2 = S.new (ci + 1) 0) (hc : vwCl[ci]? = some (C, TT, N)) (hq1 : Cond.classLink own idx C ∈ hTbl) (hq2 : Cond.instantiable C N ∈ hTbl) (hq3 : Cond.initialized C ∈ hTbl) (hd : decode cc pc = .ok (.new idx, 3)) (h1 : kc + 1 ≤ X.mc) (h2 : ks + N ≤ X.ms) (k : HW cc own X (kc + 1) (ks + N) S2 (pc + 3) lv (.ref q :: st)) : HW cc own X kc ks S pc lv st := by
  subst hq hS2
  intro p l e s m below meth c D cy cv H locs ls F P hl
  have hi := hIn ci C TT N hc
  obtain ⟨ty, hty, hdf⟩ := hDef ci C TT N hc
  have hKn := F.2.2.2.2.2.2.2.2.1.1.1 ci _ hc
  refine W.newcK F.1 F.2.1 F.2.2.2.2.2.1 (F.2.2.2.2.1 _ hq1) (F.2.2.2.2.1 _ hq2) (F.2.2.2.2.1 _ hq3) rfl hd h1 h2 hKn.2.1 P.1.1 fun H1 kC hkC e1 z1 o1 => ?_
  refine k p l e s m below meth c D cy cv H1 locs ls F (P.new F.A0 (by rw [z1, P.1.1]) (by rw [P.1.1]; exact o1) ?_) hl
  rw [hcell_o (ci := ci) (by simp [hS.new, hS.K, va_up]) hi.1]
  refine ⟨_, hc, (u_born ty F.2.2.2.2.1 hi.2.1 hKn hkC e1 hty).to (fun j hj => ?_)⟩
  obtain ⟨g1, g2⟩ := hdf j hj
  have e3 : ((hT ci).mapIdx (hF (S.new (ci + 1) 0) S.nx))[j]? = some (hF (S.new (ci + 1) 0) S.nx j ((hT ci).getD j false)) := by rw [List.getElem?_mapIdx, g1]; rfl
  have e4 : ((hT ci).mapIdx (hF (S.new (ci + 1) 0) S.nx)).getD j Value.null = hF (S.new (ci + 1) 0) S.nx j ((hT ci).getD j false) := by rw [List.getD_eq_getElem?_getD, e3]; rfl
  show _ = ((hT ci).mapIdx (hF (S.new (ci + 1) 0) S.nx)).getD j Value.null
  rw [g2, e4]
  cases (hT ci).getD j false <;> simp [hF, hS.new, hS.I, hS.R, va_up, va_rf]
theorem h_newI {n : Int32} {N q : Nat} {S2 : hS} (hq : q = S.nx) (hS2 : S2 = S.new 12 N) (hn : ¬ n < 0) (hN : n.toNatClampNeg = N) (hb : N ≤ 100000) (hd : decode cc pc = .ok (.newarray .int, 2)) (h1 : kc + 1 ≤ X.mc) (h2 : ks + N ≤ X.ms) (k : HW cc own X (kc + 1) (ks + N) S2 (pc + 2) lv (.ref q :: st)) : HW cc own X kc ks S pc lv (.int n :: st) := by
  subst hq hS2 hN
  intro p l e s m below meth c D cy cv H locs ls F P hl
  refine W.newa (atype := .int) F.1 F.2.1 (F.2.2.2.2.1 _ q_49) rfl hd rfl hn (by show _ * 4 ≤ _; omega) h1 h2 fun cA kA comp f1 f2 f3 => ?_
  have hcA : cA = cy 12 := Option.some.inj (f1.symm.trans (F.2.2.2.2.2.2.2.2.1.1.2 1 _ rfl).2)
  subst hcA
  rw [show H.size = S.nx from P.1.1]
  generalize hH1 : H.push ({ cls := cy 12, slots := Array.replicate n.toNatClampNeg (defaultValue (newarray.typeOf .int)), vm := .none } : Cell) = H1
  have z1 : H1.size = H.size + 1 := by rw [← hH1, Array.size_push]
  have e1 : H1[H.size]? = some (arrV (cy 12) n.toNatClampNeg (fun _ => .int 0)) := by rw [← hH1, Array.getElem?_push_size, ← arrV_new]; rfl
  have o1 : ∀ q : Nat, q < H.size → H1[q]? = H[q]? := fun q hq => by rw [← hH1, Array.getElem?_push, if_neg (Nat.ne_of_lt hq)]
  refine k p l e s m below meth c D cy cv H1 locs ls F (P.new F.A0 z1 o1 ?_) hl
  rw [hcell_i (k := 12) (by simp [hS.new, hS.K, va_up]) (by omega)]
  show H1[S.nx]? = some (vp_cell _ _)
  have e2 := e1
  rw [show H.size = S.nx from P.1.1] at e2
  rw [e2, vp_cell_i]
  simp [hS.new, hS.n, hS.I, hS.J, va_up]
theorem h_newB {n : Int32} {N q : Nat} {S2 : hS} (hq : q = S.nx) (hS2 : S2 = S.new 11 N) (hn : ¬ n < 0) (hN : n.toNatClampNeg = N) (hb : N ≤ 100000) (hd : decode cc pc = .ok (.newarray .byte, 2)) (h1 : kc + 1 ≤ X.mc) (h2 : ks + N ≤ X.ms) (k : HW cc own X (kc + 1) (ks + N) S2 (pc + 2) lv (.ref q :: st)) : HW cc own X kc ks S pc lv (.int n :: st) := by
  subst hq hS2 hN
  intro p l e s m below meth c D cy cv H locs ls F P hl
  refine W.newa (atype := .byte) F.1 F.2.1 (F.2.2.2.2.1 _ q_588) rfl hd rfl hn (by show _ * 1 ≤ _; omega) h1 h2 fun cA kA comp f1 f2 f3 => ?_
  have hcA : cA = cy 11 := Option.some.inj (f1.symm.trans (F.2.2.2.2.2.2.2.2.1.1.2 0 _ rfl).2)
  subst hcA
  rw [show H.size = S.nx from P.1.1]
  generalize hH1 : H.push ({ cls := cy 11, slots := Array.replicate n.toNatClampNeg (defaultValue (newarray.typeOf .byte)), vm := .none } : Cell) = H1
  have z1 : H1.size = H.size + 1 := by rw [← hH1, Array.size_push]
  have e1 : H1[H.size]? = some (arrV (cy 11) n.toNatClampNeg (fun _ => .int 0)) := by rw [← hH1, Array.getElem?_push_size, ← arrV_new]; rfl
  have o1 : ∀ q : Nat, q < H.size → H1[q]? = H[q]? := fun q hq => by rw [← hH1, Array.getElem?_push, if_neg (Nat.ne_of_lt hq)]
  refine k p l e s m below meth c D cy cv H1 locs ls F (P.new F.A0 z1 o1 ?_) hl
  rw [hcell_i (k := 11) (by simp [hS.new, hS.K, va_up]) (by omega)]
  show H1[S.nx]? = some (vp_cell _ _)
  have e2 := e1
  rw [show H.size = S.nx from P.1.1] at e2
  rw [e2, vp_cell_i]
  simp [hS.new, hS.n, hS.I, hS.J, va_up]
theorem h_newZ {n : Int32} {N q : Nat} {S2 : hS} (hq : q = S.nx) (hS2 : S2 = S.new 14 N) (hn : ¬ n < 0) (hN : n.toNatClampNeg = N) (hb : N ≤ 100000) (hd : decode cc pc = .ok (.newarray .boolean, 2)) (h1 : kc + 1 ≤ X.mc) (h2 : ks + N ≤ X.ms) (k : HW cc own X (kc + 1) (ks + N) S2 (pc + 2) lv (.ref q :: st)) : HW cc own X kc ks S pc lv (.int n :: st) := by
  subst hq hS2 hN
  intro p l e s m below meth c D cy cv H locs ls F P hl
  refine W.newa (atype := .boolean) F.1 F.2.1 (F.2.2.2.2.1 _ q_1150) rfl hd rfl hn (by show _ * 1 ≤ _; omega) h1 h2 fun cA kA comp f1 f2 f3 => ?_
  have hcA : cA = cy 14 := Option.some.inj (f1.symm.trans (F.2.2.2.2.2.2.2.2.1.1.2 3 _ rfl).2)
  subst hcA
  rw [show H.size = S.nx from P.1.1]
  generalize hH1 : H.push ({ cls := cy 14, slots := Array.replicate n.toNatClampNeg (defaultValue (newarray.typeOf .boolean)), vm := .none } : Cell) = H1
  have z1 : H1.size = H.size + 1 := by rw [← hH1, Array.size_push]
  have e1 : H1[H.size]? = some (arrV (cy 14) n.toNatClampNeg (fun _ => .int 0)) := by rw [← hH1, Array.getElem?_push_size, ← arrV_new]; rfl
  have o1 : ∀ q : Nat, q < H.size → H1[q]? = H[q]? := fun q hq => by rw [← hH1, Array.getElem?_push, if_neg (Nat.ne_of_lt hq)]
  refine k p l e s m below meth c D cy cv H1 locs ls F (P.new F.A0 z1 o1 ?_) hl
  rw [hcell_i (k := 14) (by simp [hS.new, hS.K, va_up]) (by omega)]
  show H1[S.nx]? = some (vp_cell _ _)
  have e2 := e1
  rw [show H.size = S.nx from P.1.1] at e2
  rw [e2, vp_cell_i]
  simp [hS.new, hS.n, hS.I, hS.J, va_up]
theorem h_newJ {n : Int32} {N q : Nat} {S2 : hS} (hq : q = S.nx) (hS2 : S2 = S.new 13 N) (hn : ¬ n < 0) (hN : n.toNatClampNeg = N) (hb : N ≤ 100000) (hd : decode cc pc = .ok (.newarray .long, 2)) (h1 : kc + 1 ≤ X.mc) (h2 : ks + N ≤ X.ms) (k : HW cc own X (kc + 1) (ks + N) S2 (pc + 2) lv (.ref q :: st)) : HW cc own X kc ks S pc lv (.int n :: st) := by
  subst hq hS2 hN
  intro p l e s m below meth c D cy cv H locs ls F P hl
  refine W.newa (atype := .long) F.1 F.2.1 (F.2.2.2.2.1 _ q_685) rfl hd rfl hn (by show _ * 8 ≤ _; omega) h1 h2 fun cA kA comp f1 f2 f3 => ?_
  have hcA : cA = cy 13 := Option.some.inj (f1.symm.trans (F.2.2.2.2.2.2.2.2.1.1.2 2 _ rfl).2)
  subst hcA
  rw [show H.size = S.nx from P.1.1]
  generalize hH1 : H.push ({ cls := cy 13, slots := Array.replicate n.toNatClampNeg (defaultValue (newarray.typeOf .long)), vm := .none } : Cell) = H1
  have z1 : H1.size = H.size + 1 := by rw [← hH1, Array.size_push]
  have e1 : H1[H.size]? = some (arrV (cy 13) n.toNatClampNeg (fun _ => .long 0)) := by rw [← hH1, Array.getElem?_push_size, ← arrV_new]; rfl
  have o1 : ∀ q : Nat, q < H.size → H1[q]? = H[q]? := fun q hq => by rw [← hH1, Array.getElem?_push, if_neg (Nat.ne_of_lt hq)]
  refine k p l e s m below meth c D cy cv H1 locs ls F (P.new F.A0 z1 o1 ?_) hl
  rw [hcell_j (by simp [hS.new, hS.K, va_up])]
  show H1[S.nx]? = some (vp_cell _ _)
  have e2 := e1
  rw [show H.size = S.nx from P.1.1] at e2
  rw [e2, vp_cell_l]
  simp [hS.new, hS.n, hS.I, hS.J, va_up]
theorem h_newQ15 {n : Int32} {N q idx : Nat} {S2 : hS} (hq : q = S.nx) (hS2 : S2 = S.new 15 N) (hn : ¬ n < 0) (hN : n.toNatClampNeg = N) (hb : N ≤ 100000) (hq1 : Cond.classLink own idx "DeafSpot$Evening" ∈ hTbl) (hd : decode cc pc = .ok (.anewarray idx, 3)) (h1 : kc + 1 ≤ X.mc) (h2 : ks + N ≤ X.ms) (k : HW cc own X (kc + 1) (ks + N) S2 (pc + 3) lv (.ref q :: st)) : HW cc own X kc ks S pc lv (.int n :: st) := by
  subst hq hS2 hN
  intro p l e s m below meth c D cy cv H locs ls F P hl
  refine W.anew F.1 F.2.1 F.2.2.2.2.2.1 (F.2.2.2.2.1 _ hq1) (va_AO.use F.2.2.2.2.2.2.2.2.1.2.2.2.2.2.2.1) rfl hd rfl hn (by omega) h1 h2 fun cA kA comp f1 f2 f3 f4 => ?_
  obtain ⟨kB, cB, -, -, -, f9⟩ := (F.2.2.2.2.2.2.2.2.1.1.2 4 _ rfl).2
  have hcA : cA = cy 15 := Option.some.inj (f1.symm.trans f9)
  subst hcA
  rw [show H.size = S.nx from P.1.1]
  generalize hH1 : H.push ({ cls := cy 15, slots := Array.replicate n.toNatClampNeg .null, vm := .none } : Cell) = H1
  have z1 : H1.size = H.size + 1 := by rw [← hH1, Array.size_push]
  have e1 : H1[H.size]? = some (arrV (cy 15) n.toNatClampNeg (fun _ => .null)) := by rw [← hH1, Array.getElem?_push_size, ← arrV_new]
  have o1 : ∀ q : Nat, q < H.size → H1[q]? = H[q]? := fun q hq => by rw [← hH1, Array.getElem?_push, if_neg (Nat.ne_of_lt hq)]
  refine k p l e s m below meth c D cy cv H1 locs ls F (P.new F.A0 z1 o1 ?_) hl
  rw [hcell_r (k := 15) (by simp [hS.new, hS.K, va_up]) (by omega)]
  show H1[S.nx]? = some (vp_cell _ _)
  have e2 := e1
  rw [show H.size = S.nx from P.1.1] at e2
  rw [e2, vp_cell_q]
  simp [hS.new, hS.n, hS.R, va_up, va_rf]
theorem h_aast15 {T : hS} {a v : Nat} {i : Int32} (hg : sAR S a 15 1 i v = some T) (hd : decode cc pc = .ok (.aastore, 1)) (kk : HW cc own X kc ks T (pc + 1) lv st) : HW cc own X kc ks S pc lv (.ref v :: .int i :: .ref a :: st) := by
  obtain ⟨h1, hv, h2, rfl⟩ := sAR_s hg
  intro p l e s m below meth c D cy cv H locs ls F P hl
  have hE := F.2.2.2.2.2.2.2.2.1.1
  have hlt : i.toNatClampNeg < S.n a := Nat.not_le.mp fun q => h2 (Or.inr q)
  have h0 : ¬ i < 0 := fun q => h2 (Or.inl q)
  obtain ⟨r', hr', cellV, g1, g2, g3, -⟩ := P.o (ci := 0) hv (by omega)
  cases hr'
  have hcls := (hE.1 0 _ rfl).2
  obtain ⟨kA, comp, k1, k2, k3, -⟩ := (hE.2 4 _ rfl).2
  have hcomp : comp = D.1 0 := Option.some.inj (k3.symm.trans hcls.1)
  subst hcomp
  have hcls2 := hcls
  obtain ⟨kC, hkC, -⟩ := hcls.2
  refine W.aast F.1 F.2.1 (P.r h1 (by omega)) (fun q h => by cases h) (fun h => by cases h) k1 k2 rfl hkC ⟨h0, by show _ < (arrV _ _ _).slots.size; rw [arrV_size]; exact hlt⟩ g1 (fun q h => by rw [g3] at h; cases h) (by rw [g2]; exact hkC) (by rw [g2]; exact va_assign hcls2) rfl rfl hd fun H1 e1 z oq => ?_
  refine kk p l e s m below meth c D cy cv H1 _ ls F (P.write (a := a) (by rw [h1]; omega) ?_ z oq rfl rfl rfl (fun _ _ => rfl) (fun _ _ => rfl) (fun b h => by simp [hS.setR, hS.R, va_up, h])) hl
  rw [hcell_r (k := 15) (by exact h1) (by omega)]
  show H1[a]? = some (vp_cell _ _)
  rw [e1]
  show some ((vp_cell _ _).setSlot _ _) = _
  rw [vp_cell_q, vp_cell_q, arrV_store]
  congr 2
  funext q
  by_cases hq : q = i.toNatClampNeg
  · subst hq
    simp [updV, hS.setR, hS.R, va_up, va_rf]
  · simp [updV, hS.setR, hS.R, va_up, hq]
theorem h_newQ16 {n : Int32} {N q idx : Nat} {S2 : hS} (hq : q = S.nx) (hS2 : S2 = S.new 16 N) (hn : ¬ n < 0) (hN : n.toNatClampNeg = N) (hb : N ≤ 100000) (hq1 : Cond.classLink own idx "DeafSpot$Law" ∈ hTbl) (hd : decode cc pc = .ok (.anewarray idx, 3)) (h1 : kc + 1 ≤ X.mc) (h2 : ks + N ≤ X.ms) (k : HW cc own X (kc + 1) (ks + N) S2 (pc + 3) lv (.ref q :: st)) : HW cc own X kc ks S pc lv (.int n :: st) := by
  subst hq hS2 hN
  intro p l e s m below meth c D cy cv H locs ls F P hl
  refine W.anew F.1 F.2.1 F.2.2.2.2.2.1 (F.2.2.2.2.1 _ hq1) (va_AO.use F.2.2.2.2.2.2.2.2.1.2.2.2.2.2.2.2.1) rfl hd rfl hn (by omega) h1 h2 fun cA kA comp f1 f2 f3 f4 => ?_
  obtain ⟨kB, cB, -, -, -, f9⟩ := (F.2.2.2.2.2.2.2.2.1.1.2 5 _ rfl).2
  have hcA : cA = cy 16 := Option.some.inj (f1.symm.trans f9)
  subst hcA
  rw [show H.size = S.nx from P.1.1]
  generalize hH1 : H.push ({ cls := cy 16, slots := Array.replicate n.toNatClampNeg .null, vm := .none } : Cell) = H1
  have z1 : H1.size = H.size + 1 := by rw [← hH1, Array.size_push]
  have e1 : H1[H.size]? = some (arrV (cy 16) n.toNatClampNeg (fun _ => .null)) := by rw [← hH1, Array.getElem?_push_size, ← arrV_new]
  have o1 : ∀ q : Nat, q < H.size → H1[q]? = H[q]? := fun q hq => by rw [← hH1, Array.getElem?_push, if_neg (Nat.ne_of_lt hq)]
  refine k p l e s m below meth c D cy cv H1 locs ls F (P.new F.A0 z1 o1 ?_) hl
  rw [hcell_r (k := 16) (by simp [hS.new, hS.K, va_up]) (by omega)]
  show H1[S.nx]? = some (vp_cell _ _)
  have e2 := e1
  rw [show H.size = S.nx from P.1.1] at e2
  rw [e2, vp_cell_q]
  simp [hS.new, hS.n, hS.R, va_up, va_rf]
theorem h_aast16 {T : hS} {a v : Nat} {i : Int32} (hg : sAR S a 16 5 i v = some T) (hd : decode cc pc = .ok (.aastore, 1)) (kk : HW cc own X kc ks T (pc + 1) lv st) : HW cc own X kc ks S pc lv (.ref v :: .int i :: .ref a :: st) := by
  obtain ⟨h1, hv, h2, rfl⟩ := sAR_s hg
  intro p l e s m below meth c D cy cv H locs ls F P hl
  have hE := F.2.2.2.2.2.2.2.2.1.1
  have hlt : i.toNatClampNeg < S.n a := Nat.not_le.mp fun q => h2 (Or.inr q)
  have h0 : ¬ i < 0 := fun q => h2 (Or.inl q)
  obtain ⟨r', hr', cellV, g1, g2, g3, -⟩ := P.o (ci := 4) hv (by omega)
  cases hr'
  have hcls := (hE.1 4 _ rfl).2
  obtain ⟨kA, comp, k1, k2, k3, -⟩ := (hE.2 5 _ rfl).2
  have hcomp : comp = D.1 4 := Option.some.inj (k3.symm.trans hcls.1)
  subst hcomp
  have hcls2 := hcls
  obtain ⟨kC, hkC, -⟩ := hcls.2
  refine W.aast F.1 F.2.1 (P.r h1 (by omega)) (fun q h => by cases h) (fun h => by cases h) k1 k2 rfl hkC ⟨h0, by show _ < (arrV _ _ _).slots.size; rw [arrV_size]; exact hlt⟩ g1 (fun q h => by rw [g3] at h; cases h) (by rw [g2]; exact hkC) (by rw [g2]; exact va_assign hcls2) rfl rfl hd fun H1 e1 z oq => ?_
  refine kk p l e s m below meth c D cy cv H1 _ ls F (P.write (a := a) (by rw [h1]; omega) ?_ z oq rfl rfl rfl (fun _ _ => rfl) (fun _ _ => rfl) (fun b h => by simp [hS.setR, hS.R, va_up, h])) hl
  rw [hcell_r (k := 16) (by exact h1) (by omega)]
  show H1[a]? = some (vp_cell _ _)
  rw [e1]
  show some ((vp_cell _ _).setSlot _ _) = _
  rw [vp_cell_q, vp_cell_q, arrV_store]
  congr 2
  funext q
  by_cases hq : q = i.toNatClampNeg
  · subst hq
    simp [updV, hS.setR, hS.R, va_up, va_rf]
  · simp [updV, hS.setR, hS.R, va_up, hq]
theorem hF_R1 (S : hS) (a k v : Nat) : hF (S.setR a k (some v)) a k true = .ref v := by simp [hF, hS.setR, hS.R, va_up, va_rf]
theorem hF_R2 (S : hS) (a k v : Nat) (j : Nat) (x : Bool) (h : j ≠ k) : hF (S.setR a k (some v)) a j x = hF S a j x := by cases x <;> simp [hF, hS.setR, hS.I, hS.R, va_up, h]
theorem h_putF {T : hS} {a ci k idx N v : Nat} {C ref : String} {TT : u_T} {ty : FieldType} (hini : X.ini = true) (hg : sR S a ci k v = some T) (hc : vwCl[ci]? = some (C, TT, N)) (hk : k < N) (hb : (hT ci)[k]? = some true) (hq : Cond.fieldLink own idx ref (TT k).2.1 (TT k).2.2.1 ∈ hTbl) (hr : (TT k).1 = ref) (hfin : (TT k).2.2.2 = true) (hdecl : (TT k).1 = own) (hds : parseFieldDescriptor (TT k).2.2.1 = some ty) (hn : narrow ty (.ref v) = .ref v) (hfit : fits ty (.ref v) = true) (hd : decode cc pc = .ok (.putfield idx, 3)) (kk : HW cc own X kc ks T (pc + 3) lv st) : HW cc own X kc ks S pc lv (.ref v :: .ref a :: st) := by
  obtain ⟨hK, rfl⟩ := sR_s hg
  intro p l e s m below meth c D cy cv H locs ls F P hl
  have hi := hIn ci C TT N hc
  obtain ⟨ty0, hty⟩ := hi.2.2.1
  have hts := F.2.2.2.2.1
  have hown := F.2.2.2.2.2.1
  have hKE := F.2.2.2.2.2.2.2.2.1.1
  have hap := va_apart (own := own) hts hi.2.1 ty0 hty hi.2.2.2 hKE hc
  obtain ⟨r, e1, cell, q1, q2, q3, q4⟩ := P.o hK hi.1
  have hr2 : r = (C, TT, N) := Option.some.inj (e1.symm.trans hc)
  subst hr2
  obtain ⟨hSl, hfc, kC, hkC, hkind⟩ := hKE.1 ci _ hc
  obtain ⟨cf, kf, fi, f, hif, hsl⟩ := hSl k hk
  have hlay := hts _ (hi.2.1 _ (u_in_lay hk))
  unfold u_lay at hlay
  rw [if_pos hfin] at hlay
  have hst := (u_facts hfc hkC (u_lays hts hi.2.1 hk) hif).1
  have hcf : m.cls = cf := by
    obtain ⟨_, _, c', _, _, _, -, -, hf', -, -, -, hown2, -⟩ := Cond.laysFinal_spec hlay
    have e1 : c' = cf := by have := hif.symm.trans hf'; simp at this; exact this.1.symm
    rw [hdecl] at hown2
    rw [← e1]; exact Option.some.inj (hown.symm.trans hown2)
  have h6 := u_fits hfc hkC hkind (Or.inr hlay) hif hds hn hfit
  refine W.putFinK F.1 F.2.1 hown (hts _ hq) (by rw [← hr]; exact hif) hst hcf (F.2.2.2.2.2.2.2.1 hini) (by rw [q2]; exact h6) q1 q3 (by rw [hsl]; exact k2_hasslot (q4 k hk)) rfl rfl hd fun H' e1 e2 e3 => ?_
  rw [hsl] at e1 ⊢
  exact kk p l e s m below meth c D cy cv H' _ ls F (P.write (a := a) (by rw [hK]; omega) (h_putAt hK hi.1 hc hb (hF_R1 S a k v) (hF_R2 S a k v) ⟨_, e1, q2, q3, t_set q4 hap hk (.ref v)⟩) e2 e3 rfl rfl rfl (fun _ _ => rfl) (fun _ _ => rfl) (fun b h => by simp [hS.setR, hS.R, va_up, h])) hl
theorem h_callI {y : MethodName} {cc' : ByteArray} {nL' d' mc' ms' idx b n : Nat} (As : List Value) {rest : List Value} {T : hS} (hM : HM y cc' nL' none d' mc' ms' X.cs (.ref b :: As) S none T) (hq1 : Cond.methodLink own idx y ∈ hTbl) (hq2 : Cond.instanceMethod y ∈ hTbl) (hq4 : Cond.initialized y.cls ∈ hTbl) (hq5 : Cond.code y cc' nL' none ∈ hTbl) (hy1 : y.name = "<init>")
    (hy : y.cls ≠ "java/lang/invoke/MethodHandle" ∧ y.cls ≠ "java/lang/invoke/VarHandle" ∧ (parseMethodDescriptor y.desc).map (fun d => d.parameters.length) = some n) (hn : As.length = n) (hd' : d' + 1 ≤ X.d) (hL : nL' ≤ 45) (hst : st = As.reverse ++ .ref b :: rest) (hcat : (rest.map fun v => v.category).sum ≤ 8) (hd : decode cc pc = .ok (.invokespecial idx, 3)) (h1 : kc + mc' ≤ X.mc) (h2 : ks + ms' ≤ X.ms)
    (kk : HW cc own X (kc + mc') (ks + ms') T (pc + 3) lv rest) : HW cc own X kc ks S pc lv st := by
  intro p l e s m below meth c D cy cv H locs ls F P hl
  have hG : GoodIn hTbl (Cond.code y cc' nL' none :: hTbl) := by
    intro w hw
    have hm : w ∈ hTbl := by
      rcases List.mem_cons.mp hw with rfl | hw
      · exact hq5
      · exact hw
    exact ⟨hm, hgood hm⟩
  subst hst
  exact h_after (rv := none) (va_runI (As := As) (rest := rest) ⟨F.1, F.2.1, F.2.2.2.1, F.2.2.2.2.2.1, F.2.2.2.2.1⟩ (hM l D cy cv) (cwI n F.2.2.2.2.1 hG rfl rfl rfl (F.2.2.2.2.1 _ hq4) (F.2.2.2.2.1 _ hq1) (F.2.2.2.2.1 _ hq2) hy1 hy ⟨hd', by show 8 + (nL' + 11) + 64 * d' ≤ 64 * X.d; omega⟩) ⟨hpre_blind, F.pre P⟩ rfl hn hl.1 rfl (lv_room hcat) hd ⟨h1, h2⟩) P F.A0 (fun H1 locs1 P1 => kk p l e s m below meth c D cy cv H1 locs1 ls F P1 hl)
theorem h_callIN {y : MethodName} {cc' : ByteArray} {nL' d' mc' ms' idx b n : Nat} {host : String} (As : List Value) {rest : List Value} {T : hS} (hM : HM y cc' nL' none d' mc' ms' X.cs (.ref b :: As) S none T) (hq1 : (own, idx, y, host) ∈ hNM) (hq2 : Cond.instanceMethod y ∈ hTbl) (hq4 : Cond.initialized y.cls ∈ hTbl) (hq5 : Cond.code y cc' nL' none ∈ hTbl) (hy1 : y.name = "<init>")
    (hy : y.cls ≠ "java/lang/invoke/MethodHandle" ∧ y.cls ≠ "java/lang/invoke/VarHandle" ∧ (parseMethodDescriptor y.desc).map (fun d => d.parameters.length) = some n) (hn : As.length = n) (hd' : d' + 1 ≤ X.d) (hL : nL' ≤ 45) (hst : st = As.reverse ++ .ref b :: rest) (hcat : (rest.map fun v => v.category).sum ≤ 8) (hd : decode cc pc = .ok (.invokespecial idx, 3)) (h1 : kc + mc' ≤ X.mc) (h2 : ks + ms' ≤ X.ms)
    (kk : HW cc own X (kc + mc') (ks + ms') T (pc + 3) lv rest) : HW cc own X kc ks S pc lv st := by
  intro p l e s m below meth c D cy cv H locs ls F P hl
  have hG : GoodIn hTbl (Cond.code y cc' nL' none :: hTbl) := by
    intro w hw
    have hm : w ∈ hTbl := by
      rcases List.mem_cons.mp hw with rfl | hw
      · exact hq5
      · exact hw
    exact ⟨hm, hgood hm⟩
  subst hst
  exact h_after (rv := none) (va_runIN (As := As) (rest := rest) ⟨F.1, F.2.1, F.2.2.2.1, F.2.2.2.2.2.1, F.2.2.2.2.1⟩ (hM l D cy cv) ⟨va_cnB n F.2.2.2.2.1 hG rfl rfl rfl (F.2.2.2.2.2.2.2.2.1.2.2.1 _ hq1) (F.2.2.2.2.1 _ hq4) hy ⟨hd', by show 8 + (nL' + 11) + 64 * d' ≤ 64 * X.d; omega⟩, hy1, F.2.2.2.2.1 _ hq2⟩ ⟨hpre_blind, F.pre P⟩ rfl hn hl.1 rfl (lv_room hcat) hd ⟨h1, h2⟩) P F.A0 (fun H1 locs1 P1 => kk p l e s m below meth c D cy cv H1 locs1 ls F P1 hl)
theorem h_VrA {y : MethodName} {cc' : ByteArray} {nL' d' mc' ms' idx b n ci N : Nat} {ret' : Option FieldType} {C : String} {TT : u_T} (As : List Value) {rest : List Value} {r : Option Nat} {T : hS} (hM : HM y cc' nL' ret' d' mc' ms' X.cs (.ref b :: As) S (some (va_rf r)) T) (hw : hVW y cc' nL' ret' C n) (hq1 : Cond.methodLink own idx y ∈ hTbl) (hn : As.length = n) (hd' : d' + 1 ≤ X.d) (hk : S.K b = ci + 1) (hc : vwCl[ci]? = some (C, TT, N)) (hst : st = As.reverse ++ .ref b :: rest) (hcat : (rest.map fun v => v.category).sum ≤ 8) (hd : decode cc pc = .ok (.invokevirtual idx, 3)) (h1 : kc + mc' ≤ X.mc) (h2 : ks + ms' ≤ X.ms)
    (kk : HW cc own X (kc + mc') (ks + ms') T (pc + 3) lv (va_rf r :: rest)) : HW cc own X kc ks S pc lv st := h_callV (rest := rest) (T := T) hM hq1 hw.1 hw.2.1 hw.2.2.1 hw.2.2.2.1 hw.2.2.2.2.1 hn hd' hw.2.2.2.2.2 hk hc hst hcat hd h1 h2 kk
theorem h_SaA {y : MethodName} {cc' : ByteArray} {nL' d' mc' ms' idx n : Nat} {ret' : Option FieldType} (As : List Value) {rest : List Value} {r : Nat} {T : hS} (hM : HM y cc' nL' ret' d' mc' ms' X.cs As S (some (.ref r)) T) (hw : hSW y cc' nL' ret' n) (hq1 : Cond.methodLink own idx y ∈ hTbl) (hn : As.length = n) (hd' : d' + 1 ≤ X.d) (hst : st = As.reverse ++ rest) (hcat : (rest.map fun v => v.category).sum ≤ 8) (hd : decode cc pc = .ok (.invokestatic idx, 3)) (h1 : kc + mc' ≤ X.mc) (h2 : ks + ms' ≤ X.ms)
    (kk : HW cc own X (kc + mc') (ks + ms') T (pc + 3) lv (.ref r :: rest)) : HW cc own X kc ks S pc lv st := h_callS (rest := rest) (T := T) hM hq1 hw.1 hw.2.1 hw.2.2.1 hw.2.2.2.1 hn hd' hw.2.2.2.2 hst hcat hd h1 h2 kk
end HR
