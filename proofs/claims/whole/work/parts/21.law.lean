/-- the law's standing: the state at its entry, its script at b, the texts' addresses -/
abbrev lX (S0 : hS) (b : Nat) (cs : Nat → Nat) : hX := ((some .boolean, 4, 1300, 600000, 7302249, false), (S0, [.ref b], none, S0), cs)
def HL (S0 : hS) (b : Nat) (cs : Nat → Nat) (L : Nat) (xs : Nat → Int32) (kc ks : Nat) (S : hS) (pc : Nat) (lv : List (Nat × Value)) (st : List Value) : Prop :=
  ∀ (p : Program) (l : Launch) (e : Env) (s : State) (m : MethodId) (below : List Frame) (meth : Method) (c : Code) (D : va_G) (cy : Nat → ClassId) (cv : Nat → Nat) (H : Heap) (locs : List Loc) (ls : Array Slot), hFix cL_law RL (lX S0 b cs) D cy cv p s m meth c → (va_X b L xs s s.heap ∧ b < s.heap.size ∧ ∀ q, S0.K q = 0) → hPool D cy (hA S0) s.heap S H locs → lv_has ls 4 lv →
    W p l e room_1 s m #[Value.ref b] below meth c H locs kc ks (lw_Z below #[Value.ref b] s) (F0 m pc ls st)
section HR
variable {S0 : hS} {b : Nat} {cs : Nat → Nat} {L : Nat} {xs : Nat → Int32} {kc ks pc : Nat} {S : hS} {lv : List (Nat × Value)} {st : List Value}
theorem l_iadd {x y : Int32} (hd : decode cL_law pc = .ok (.iadd, 1)) (k : HL S0 b cs L xs kc ks S (pc + 1) lv (.int (x + y) :: st)) : HL S0 b cs L xs kc ks S pc lv (.int y :: .int x :: st) := by
  intro p l e s m below meth c D cy cv H locs ls F V P hl
  exact lv_iadd F.1 F.2.1 hd (k p l e s m below meth c D cy cv H locs ls F V P hl)
theorem l_isub {x y : Int32} (hd : decode cL_law pc = .ok (.isub, 1)) (k : HL S0 b cs L xs kc ks S (pc + 1) lv (.int (x - y) :: st)) : HL S0 b cs L xs kc ks S pc lv (.int y :: .int x :: st) := by
  intro p l e s m below meth c D cy cv H locs ls F V P hl
  exact lv_isub F.1 F.2.1 hd (k p l e s m below meth c D cy cv H locs ls F V P hl)
theorem l_iand {x y : Int32} (hd : decode cL_law pc = .ok (.iand, 1)) (k : HL S0 b cs L xs kc ks S (pc + 1) lv (.int (x &&& y) :: st)) : HL S0 b cs L xs kc ks S pc lv (.int y :: .int x :: st) := by
  intro p l e s m below meth c D cy cv H locs ls F V P hl
  exact lv_iand F.1 F.2.1 hd (k p l e s m below meth c D cy cv H locs ls F V P hl)
theorem l_iconst {n : Int} {v : Int32} (hd : decode cL_law pc = .ok (.iconst n, 1)) (hv : Int32.ofInt n = v) (k : HL S0 b cs L xs kc ks S (pc + 1) lv (.int v :: st)) : HL S0 b cs L xs kc ks S pc lv st := by
  intro p l e s m below meth c D cy cv H locs ls F V P hl
  exact lv_iconst F.1 F.2.1 hd hv (k p l e s m below meth c D cy cv H locs ls F V P hl)
theorem l_bipush {n : Int} {v : Int32} (hd : decode cL_law pc = .ok (.bipush n, 2)) (hv : (Int8.ofInt n).toInt32 = v) (k : HL S0 b cs L xs kc ks S (pc + 2) lv (.int v :: st)) : HL S0 b cs L xs kc ks S pc lv st := by
  intro p l e s m below meth c D cy cv H locs ls F V P hl
  exact lv_bipush F.1 F.2.1 hd hv (k p l e s m below meth c D cy cv H locs ls F V P hl)
theorem l_dup {v : Value} (hd : decode cL_law pc = .ok (.dup, 1)) (hv : v.category = 1) (k : HL S0 b cs L xs kc ks S (pc + 1) lv (v :: v :: st)) : HL S0 b cs L xs kc ks S pc lv (v :: st) := by
  intro p l e s m below meth c D cy cv H locs ls F V P hl
  exact lv_dup F.1 F.2.1 hd hv (k p l e s m below meth c D cy cv H locs ls F V P hl)
theorem l_iload_n {j : Fin 4} {i : Nat} {x : Int32} (hd : decode cL_law pc = .ok (.iload_n j, 1)) (hi : (j : Nat) = i) (q : Nat) (hq : lv[q]? = some (i, .int x)) (k : HL S0 b cs L xs kc ks S (pc + 1) lv (.int x :: st)) : HL S0 b cs L xs kc ks S pc lv st := by
  intro p l e s m below meth c D cy cv H locs ls F V P hl
  exact lv_iload_n F.1 F.2.1 hd hi (lv_at hl q hq) (k p l e s m below meth c D cy cv H locs ls F V P hl)
theorem l_aload_n {j : Fin 4} {i : Nat} {x : Nat} (hd : decode cL_law pc = .ok (.aload_n j, 1)) (hi : (j : Nat) = i) (q : Nat) (hq : lv[q]? = some (i, .ref x)) (k : HL S0 b cs L xs kc ks S (pc + 1) lv (.ref x :: st)) : HL S0 b cs L xs kc ks S pc lv st := by
  intro p l e s m below meth c D cy cv H locs ls F V P hl
  exact lv_aload_n F.1 F.2.1 hd hi (lv_at hl q hq) (k p l e s m below meth c D cy cv H locs ls F V P hl)
theorem l_istore_n {j : Fin 4} {i : Nat} {x : Int32} {lv2 : List (Nat × Value)} (hd : decode cL_law pc = .ok (.istore_n j, 1)) (hi : (j : Nat) = i) (hn : i < 4) (h2 : (i, Value.int x) :: lv.filter (fun q => !(q.1 == i) && !(q.1 + 1 == i && q.2.category == 2)) = lv2) (k : HL S0 b cs L xs kc ks S (pc + 1) lv2 st) : HL S0 b cs L xs kc ks S pc lv (Value.int x :: st) := by
  intro p l e s m below meth c D cy cv H locs ls F V P hl
  exact lv_istore_n F.1 F.2.1 hd hi hl hn h2 (fun ls hl => k p l e s m below meth c D cy cv H locs ls F V P hl)
theorem l_astore_n {j : Fin 4} {i : Nat} {x : Nat} {lv2 : List (Nat × Value)} (hd : decode cL_law pc = .ok (.astore_n j, 1)) (hi : (j : Nat) = i) (hn : i < 4) (h2 : (i, Value.ref x) :: lv.filter (fun q => !(q.1 == i) && !(q.1 + 1 == i && q.2.category == 2)) = lv2) (k : HL S0 b cs L xs kc ks S (pc + 1) lv2 st) : HL S0 b cs L xs kc ks S pc lv (Value.ref x :: st) := by
  intro p l e s m below meth c D cy cv H locs ls F V P hl
  exact lv_astore_n F.1 F.2.1 hd hi hl hn h2 (fun ls hl => k p l e s m below meth c D cy cv H locs ls F V P hl)
theorem l_iinc {i q : Nat} {n : Int} {x v : Int32} {lv2 : List (Nat × Value)} (hd : decode cL_law pc = .ok (.iinc i n, 3)) (hq : lv[q]? = some (i, .int x)) (hv : x + Int32.ofInt n = v) (hn : i < 4) (h2 : (i, Value.int v) :: lv.filter (fun q => !(q.1 == i) && !(q.1 + 1 == i && q.2.category == 2)) = lv2) (k : HL S0 b cs L xs kc ks S (pc + 3) lv2 st) : HL S0 b cs L xs kc ks S pc lv st := by
  intro p l e s m below meth c D cy cv H locs ls F V P hl
  exact lv_iinc F.1 F.2.1 hd hl hq hv hn h2 (fun ls hl => k p l e s m below meth c D cy cv H locs ls F V P hl)
theorem l_sub {lv2 : List (Nat × Value)} (ps : List Nat) (hp : lv_pick lv ps = lv2) (k : HL S0 b cs L xs kc ks S pc lv2 st) : HL S0 b cs L xs kc ks S pc lv st := by
  intro p l e s m below meth c D cy cv H locs ls F V P hl
  exact k p l e s m below meth c D cy cv H locs ls F V P (lv_sub hl ps hp)
theorem l_icmp_eq {x y : Int32} {off : Int} {tgt : Nat} (hd : decode cL_law pc = .ok (.if_icmp .eq off, 3)) (ht : (pc : Int) + off = (tgt : Int)) (kt : x = y → HL S0 b cs L xs kc ks S tgt lv st) (kf : ¬ (x = y) → HL S0 b cs L xs kc ks S (pc + 3) lv st) : HL S0 b cs L xs kc ks S pc lv (.int y :: .int x :: st) := by
  intro p l e s m below meth c D cy cv H locs ls F V P hl
  exact lv_icmp_eq F.1 F.2.1 hd ht (fun q => kt q p l e s m below meth c D cy cv H locs ls F V P hl) (fun q => kf q p l e s m below meth c D cy cv H locs ls F V P hl)
theorem l_icmp_gt {x y : Int32} {off : Int} {tgt : Nat} (hd : decode cL_law pc = .ok (.if_icmp .gt off, 3)) (ht : (pc : Int) + off = (tgt : Int)) (kt : y < x → HL S0 b cs L xs kc ks S tgt lv st) (kf : ¬ (y < x) → HL S0 b cs L xs kc ks S (pc + 3) lv st) : HL S0 b cs L xs kc ks S pc lv (.int y :: .int x :: st) := by
  intro p l e s m below meth c D cy cv H locs ls F V P hl
  exact lv_icmp_gt F.1 F.2.1 hd ht (fun q => kt q p l e s m below meth c D cy cv H locs ls F V P hl) (fun q => kf q p l e s m below meth c D cy cv H locs ls F V P hl)
theorem l_goto {off : Int} {tgt : Nat} (hd : decode cL_law pc = .ok (.goto off, 3)) (ht : (pc : Int) + off = (tgt : Int)) (k : HL S0 b cs L xs kc ks S tgt lv st) : HL S0 b cs L xs kc ks S pc lv st := by
  intro p l e s m below meth c D cy cv H locs ls F V P hl
  exact lv_goto F.1 F.2.1 hd ht (k p l e s m below meth c D cy cv H locs ls F V P hl)
theorem l_tabOut {dflt lo hi : Int} {offs : Array Int} {len tgt : Nat} {x : Int32} (hd : decode cL_law pc = .ok (.tableswitch dflt lo hi offs, len)) (h : x.toInt < lo ∨ hi < x.toInt) (ht : (pc : Int) + dflt = (tgt : Int)) (k : HL S0 b cs L xs kc ks S tgt lv st) : HL S0 b cs L xs kc ks S pc lv (.int x :: st) := by
  intro p l e s m below meth c D cy cv H locs ls F V P hl
  exact lv_tableOut F.1 F.2.1 hd h ht (k p l e s m below meth c D cy cv H locs ls F V P hl)
theorem l_tabIn {dflt lo hi off : Int} {offs : Array Int} {len tgt : Nat} {x : Int32} (v : Int) (hx : x.toInt = v) (hd : decode cL_law pc = .ok (.tableswitch dflt lo hi offs, len)) (h1 : ¬ v < lo) (h2 : ¬ hi < v) (ho : offs[(v - lo).toNat]? = some off) (ht : (pc : Int) + off = (tgt : Int)) (k : HL S0 b cs L xs kc ks S tgt lv st) : HL S0 b cs L xs kc ks S pc lv (.int x :: st) := by
  intro p l e s m below meth c D cy cv H locs ls F V P hl
  subst hx
  exact lv_tableIn F.1 F.2.1 hd h1 h2 ho ht (k p l e s m below meth c D cy cv H locs ls F V P hl)
theorem l_sld {i : Int32} (hin : vp_in i L) (hd : decode cL_law pc = .ok (.iaload, 1)) (k : HL S0 b cs L xs kc ks S (pc + 1) lv (.int (xs i.toNatClampNeg) :: st)) : HL S0 b cs L xs kc ks S pc lv (.int i :: .ref b :: st) := by
  intro p l e s m below meth c D cy cv H locs ls F V P hl
  exact va_sld F.1 F.2.1 V.1 V.2.1 (fun q => q.elim (fun z => z (V.2.2 b)) (fun z => by have h0 := V.2.1; have h : s.heap.size = S0.nx := F.2.2.2.2.2.2.2.2.2; rw [h] at h0; exact absurd (Nat.lt_of_lt_of_le h0 z) (Nat.lt_irrefl _))) P.2.2 hin hd (k p l e s m below meth c D cy cv H locs ls F V P hl)
theorem l_slen (hd : decode cL_law pc = .ok (.arraylength, 1)) (k : HL S0 b cs L xs kc ks S (pc + 1) lv (.int (Int32.ofNat L) :: st)) : HL S0 b cs L xs kc ks S pc lv (.ref b :: st) := by
  intro p l e s m below meth c D cy cv H locs ls F V P hl
  exact va_slen F.1 F.2.1 V.1 V.2.1 (fun q => q.elim (fun z => z (V.2.2 b)) (fun z => by have h0 := V.2.1; have h : s.heap.size = S0.nx := F.2.2.2.2.2.2.2.2.2; rw [h] at h0; exact absurd (Nat.lt_of_lt_of_le h0 z) (Nat.lt_irrefl _))) P.2.2 hd (k p l e s m below meth c D cy cv H locs ls F V P hl)
theorem l_ret1 (h1 : kc ≤ 600000) (h2 : ks ≤ 7302249) (hd : decode cL_law pc = .ok (.ireturn, 1)) : HL S0 b cs L xs kc ks S pc lv [.int 1] := by
  intro p l e s m below meth c D cy cv H locs ls F V P hl
  refine va_forget (fun q hq => (P.2.2.2.2 q hq).elim (fun z => absurd (V.2.2 _) z) (fun z => by rw [F.2.2.2.2.2.2.2.2.2]; exact z)) ?_
  refine W.widen (k := 600000) (n := 7302249) h1 h2 ?_
  exact lw_ret F.1 F.2.1 F.2.2.1 F.2.2.2.2.2.2.1 hd
theorem l_V {y : MethodName} {cc' : ByteArray} {nL' d' mc' ms' idx a n ci N : Nat} {ret' : Option FieldType} {C : String} {TT : u_T} {r : Int32} (As : List Value) {rest : List Value} {T : hS} (hM : HM y cc' nL' ret' d' mc' ms' cs (.ref a :: As) S (some (.int r)) T) (hw : hVW y cc' nL' ret' C n) (hq1 : Cond.methodLink RL idx y ∈ hTbl) (hn : As.length = n) (hd' : d' ≤ 100) (hk : S.K a = ci + 1) (hc : vwCl[ci]? = some (C, TT, N)) (hst : st = As.reverse ++ .ref a :: rest) (hcat : (rest.map fun v => v.category).sum ≤ 8) (hd : decode cL_law pc = .ok (.invokevirtual idx, 3)) (h1 : kc + mc' ≤ 600000) (h2 : ks + ms' ≤ 7302249)
    (kk : HL S0 b cs L xs (kc + mc') (ks + ms') T (pc + 3) lv (.int r :: rest)) : HL S0 b cs L xs kc ks S pc lv st := by
  intro p l e s m below meth c D cy cv H locs ls F V P hl
  have hi := hIn ci C TT N hc
  obtain ⟨hq2, hq3, hq4, hq5, hy, hL⟩ := hw
  have hG : GoodIn hTbl (wsV RL idx C y (Cond.code y cc' nL' ret' :: hTbl)) := by
    intro w hw
    have hm : w ∈ hTbl := by
      simp only [wsV, List.mem_append, List.mem_cons, List.not_mem_nil, or_false] at hw
      rcases hw with (rfl | rfl | rfl | rfl) | rfl | hw
      · exact hq1
      · exact hq2
      · exact hq3
      · exact hq4
      · exact hq5
      · exact hw
    exact ⟨hm, hgood hm⟩
  subst hst
  exact h_after (rv := some (.int r)) (va_runV (As := As) (rest := rest) (R := room_1) ⟨F.1, F.2.1, F.2.2.2.1, F.2.2.2.2.2.1, F.2.2.2.2.1⟩ (hM l D cy cv) (cwV n F.2.2.2.2.1 hG rfl rfl rfl hy ⟨by show d' + 1 ≤ 2048; omega, by show 8 + (nL' + 11) + 64 * d' ≤ 84000; omega⟩) ⟨hpre_blind, va_recv F.2.2.2.2.2.2.2.2.1.1 (hone (P.o hk hi.1)) hc (q0 := 0) rfl, F.pre P⟩ rfl hn hl.1 rfl (lv_room hcat) hd ⟨h1, h2⟩) P F.A0 (fun H1 locs1 P1 => kk p l e s m below meth c D cy cv H1 locs1 ls F V P1 hl)
theorem l_I {y : MethodName} {cc' : ByteArray} {nL' d' mc' ms' idx a n : Nat} (As : List Value) {rest : List Value} {T : hS} (hM : HM y cc' nL' none d' mc' ms' cs (.ref a :: As) S none T) (hw : hIW y cc' nL' n) (hq1 : Cond.methodLink RL idx y ∈ hTbl) (hn : As.length = n) (hd' : d' ≤ 100) (hst : st = As.reverse ++ .ref a :: rest) (hcat : (rest.map fun v => v.category).sum ≤ 8) (hd : decode cL_law pc = .ok (.invokespecial idx, 3)) (h1 : kc + mc' ≤ 600000) (h2 : ks + ms' ≤ 7302249)
    (kk : HL S0 b cs L xs (kc + mc') (ks + ms') T (pc + 3) lv rest) : HL S0 b cs L xs kc ks S pc lv st := by
  intro p l e s m below meth c D cy cv H locs ls F V P hl
  obtain ⟨hq2, hq4, hq5, hy1, hy, hL⟩ := hw
  have hG : GoodIn hTbl (Cond.code y cc' nL' none :: hTbl) := by
    intro w hw
    have hm : w ∈ hTbl := by
      rcases List.mem_cons.mp hw with rfl | hw
      · exact hq5
      · exact hw
    exact ⟨hm, hgood hm⟩
  subst hst
  exact h_after (rv := none) (va_runI (As := As) (rest := rest) (R := room_1) ⟨F.1, F.2.1, F.2.2.2.1, F.2.2.2.2.2.1, F.2.2.2.2.1⟩ (hM l D cy cv) (cwI n F.2.2.2.2.1 hG rfl rfl rfl (F.2.2.2.2.1 _ hq4) (F.2.2.2.2.1 _ hq1) (F.2.2.2.2.1 _ hq2) hy1 hy ⟨by show d' + 1 ≤ 2048; omega, by show 8 + (nL' + 11) + 64 * d' ≤ 84000; omega⟩) ⟨hpre_blind, F.pre P⟩ rfl hn hl.1 rfl (lv_room hcat) hd ⟨h1, h2⟩) P F.A0 (fun H1 locs1 P1 => kk p l e s m below meth c D cy cv H1 locs1 ls F V P1 hl)
theorem l_new {ci idx N q : Nat} {C : String} {TT : u_T} {S2 : hS} (hq : q = S.nx) (hS2 : S2 = S.new (ci + 1) 0) (hc : vwCl[ci]? = some (C, TT, N)) (hq1 : Cond.classLink RL idx C ∈ hTbl) (hq2 : Cond.instantiable C N ∈ hTbl) (hq3 : Cond.initialized C ∈ hTbl) (hd : decode cL_law pc = .ok (.new idx, 3)) (h1 : kc + 1 ≤ 600000) (h2 : ks + N ≤ 7302249) (k : HL S0 b cs L xs (kc + 1) (ks + N) S2 (pc + 3) lv (.ref q :: st)) : HL S0 b cs L xs kc ks S pc lv st := by
  subst hq hS2
  intro p l e s m below meth c D cy cv H locs ls F V P hl
  have hi := hIn ci C TT N hc
  obtain ⟨ty, hty, hdf⟩ := hDef ci C TT N hc
  have hKn := F.2.2.2.2.2.2.2.2.1.1.1 ci _ hc
  refine W.newcK F.1 F.2.1 F.2.2.2.2.2.1 (F.2.2.2.2.1 _ hq1) (F.2.2.2.2.1 _ hq2) (F.2.2.2.2.1 _ hq3) rfl hd h1 h2 hKn.2.1 P.1.1 fun H1 kC hkC e1 z1 o1 => ?_
  refine k p l e s m below meth c D cy cv H1 locs ls F V (P.new F.A0 (by rw [z1, P.1.1]) (by rw [P.1.1]; exact o1) ?_) hl
  rw [hcell_o (ci := ci) (by simp [hS.new, hS.K, va_up]) hi.1]
  refine ⟨_, hc, (u_born ty F.2.2.2.2.1 hi.2.1 hKn hkC e1 hty).to (fun j hj => ?_)⟩
  obtain ⟨g1, g2⟩ := hdf j hj
  have e3 : ((hT ci).mapIdx (hF (S.new (ci + 1) 0) S.nx))[j]? = some (hF (S.new (ci + 1) 0) S.nx j ((hT ci).getD j false)) := by rw [List.getElem?_mapIdx, g1]; rfl
  have e4 : ((hT ci).mapIdx (hF (S.new (ci + 1) 0) S.nx)).getD j Value.null = hF (S.new (ci + 1) 0) S.nx j ((hT ci).getD j false) := by rw [List.getD_eq_getElem?_getD, e3]; rfl
  show _ = ((hT ci).mapIdx (hF (S.new (ci + 1) 0) S.nx)).getD j Value.null
  rw [g2, e4]
  cases (hT ci).getD j false <;> simp [hF, hS.new, hS.I, hS.R, va_up, va_rf]
end HR
def step_feed (Rel : hS → Prop) (a b : Nat) : Prop := ∀ (S : hS) (p1 p2 p3 p4 p5 : Int32), Rel S → ∃ (r : Int32) (S1 S2 : hS), f_X8_feed a p1 p2 p3 p4 p5 S = some (r, S1) ∧ S1.K b = 10 ∧ f_X9_feed b p1 p2 p3 p4 p5 S1 = some (r, S2) ∧ Rel S2
def step_end (Rel : hS → Prop) (a b : Nat) : Prop := ∀ (S : hS) (p1 : Int32), Rel S → ∃ (r : Int32) (S1 S2 : hS), f_X8_end a p1 S = some (r, S1) ∧ S1.K b = 10 ∧ f_X9_end b p1 S1 = some (r, S2) ∧ Rel S2
def step_hall (Rel : hS → Prop) (a b : Nat) : Prop := ∀ (S : hS), Rel S → ∃ (r : Int32) (S1 S2 : hS), f_X8_hall a S = some (r, S1) ∧ S1.K b = 10 ∧ f_X9_hall b S1 = some (r, S2) ∧ Rel S2
def step_law (Rel : hS → Prop) (a b : Nat) : Prop := ∀ (S : hS), Rel S → ∃ (r : Int32) (S1 S2 : hS), f_X8_law a S = some (r, S1) ∧ S1.K b = 10 ∧ f_X9_law b S1 = some (r, S2) ∧ Rel S2
def step_seat (Rel : hS → Prop) (a b : Nat) : Prop := ∀ (S : hS) (p1 p2 p3 : Int32), Rel S → ∃ (r : Int32) (S1 S2 : hS), f_X8_seat a p1 p2 p3 S = some (r, S1) ∧ S1.K b = 10 ∧ f_X9_seat b p1 p2 p3 S1 = some (r, S2) ∧ Rel S2
def step_guest (Rel : hS → Prop) (a b : Nat) : Prop := ∀ (S : hS) (p1 p2 : Int32), Rel S → ∃ (r : Int32) (S1 S2 : hS), f_X8_guest a p1 p2 S = some (r, S1) ∧ S1.K b = 10 ∧ f_X9_guest b p1 p2 S1 = some (r, S2) ∧ Rel S2
def step_fan (Rel : hS → Prop) (a b : Nat) : Prop := ∀ (S : hS) (p1 p2 : Int32), Rel S → ∃ (r : Int32) (S1 S2 : hS), f_X8_fan a p1 p2 S = some (r, S1) ∧ S1.K b = 10 ∧ f_X9_fan b p1 p2 S1 = some (r, S2) ∧ Rel S2
def step_sits (Rel : hS → Prop) (a b : Nat) : Prop := ∀ (S : hS) (p1 p2 p3 : Int32), Rel S → ∃ (r : Int32) (S1 S2 : hS), f_X8_sits a p1 p2 p3 S = some (r, S1) ∧ S1.K b = 10 ∧ f_X9_sits b p1 p2 p3 S1 = some (r, S2) ∧ Rel S2
def step_goes (Rel : hS → Prop) (a b : Nat) : Prop := ∀ (S : hS) (p1 : Int32), Rel S → ∃ (r : Int32) (S1 S2 : hS), f_X8_goes a p1 S = some (r, S1) ∧ S1.K b = 10 ∧ f_X9_goes b p1 S1 = some (r, S2) ∧ Rel S2
def step_change (Rel : hS → Prop) (a b : Nat) : Prop := ∀ (S : hS) (p1 p2 : Int32), Rel S → ∃ (r : Int32) (S1 S2 : hS), f_X8_change a p1 p2 S = some (r, S1) ∧ S1.K b = 10 ∧ f_X9_change b p1 p2 S1 = some (r, S2) ∧ Rel S2
def step_warms (Rel : hS → Prop) (a b : Nat) : Prop := ∀ (S : hS) (p1 p2 : Int32), Rel S → ∃ (r : Int32) (S1 S2 : hS), f_X8_warms a p1 p2 S = some (r, S1) ∧ S1.K b = 10 ∧ f_X9_warms b p1 p2 S1 = some (r, S2) ∧ Rel S2
def step_tick (Rel : hS → Prop) (a b : Nat) : Prop := ∀ (S : hS) (p1 p2 : Int32), Rel S → ∃ (r : Int32) (S1 S2 : hS), f_X8_tick a p1 p2 S = some (r, S1) ∧ S1.K b = 10 ∧ f_X9_tick b p1 p2 S1 = some (r, S2) ∧ Rel S2
def step_there (Rel : hS → Prop) (a b : Nat) : Prop := ∀ (S : hS) (p1 p2 p3 : Int32), Rel S → ∃ (r : Int32) (S1 S2 : hS), f_X8_there a p1 p2 p3 S = some (r, S1) ∧ S1.K b = 10 ∧ f_X9_there b p1 p2 p3 S1 = some (r, S2) ∧ Rel S2
def step_deaf (Rel : hS → Prop) (a b : Nat) : Prop := ∀ (S : hS) (p1 p2 p3 : Int32), Rel S → ∃ (r : Int32) (S1 S2 : hS), f_X8_deaf a p1 p2 p3 S = some (r, S1) ∧ S1.K b = 10 ∧ f_X9_deaf b p1 p2 p3 S1 = some (r, S2) ∧ Rel S2
def step_critic (Rel : hS → Prop) (a b : Nat) : Prop := ∀ (S : hS) (p1 p2 p3 : Int32), Rel S → ∃ (r : Int32) (S1 S2 : hS), f_X8_critic a p1 p2 p3 S = some (r, S1) ∧ S1.K b = 10 ∧ f_X9_critic b p1 p2 p3 S1 = some (r, S2) ∧ Rel S2
def step_seated (Rel : hS → Prop) (a b : Nat) : Prop := ∀ (S : hS) (p1 p2 p3 p4 : Int32), Rel S → ∃ (r : Int32) (S1 S2 : hS), f_X8_seated a p1 p2 p3 p4 S = some (r, S1) ∧ S1.K b = 10 ∧ f_X9_seated b p1 p2 p3 p4 S1 = some (r, S2) ∧ Rel S2
def step_changed (Rel : hS → Prop) (a b : Nat) : Prop := ∀ (S : hS) (p1 p2 p3 : Int32), Rel S → ∃ (r : Int32) (S1 S2 : hS), f_X8_changed a p1 p2 p3 S = some (r, S1) ∧ S1.K b = 10 ∧ f_X9_changed b p1 p2 p3 S1 = some (r, S2) ∧ Rel S2
def step_without (Rel : hS → Prop) (a b : Nat) : Prop := ∀ (S : hS) (p1 p2 p3 : Int32), Rel S → ∃ (r : Int32) (S1 S2 : hS), f_X8_without a p1 p2 p3 S = some (r, S1) ∧ S1.K b = 10 ∧ f_X9_without b p1 p2 p3 S1 = some (r, S2) ∧ Rel S2
def step_baron (Rel : hS → Prop) (a b : Nat) : Prop := ∀ (S : hS) (p1 p2 p3 : Int32), Rel S → ∃ (r : Int32) (S1 S2 : hS), f_X8_baron a p1 p2 p3 S = some (r, S1) ∧ S1.K b = 10 ∧ f_X9_baron b p1 p2 p3 S1 = some (r, S2) ∧ Rel S2
def step_led (Rel : hS → Prop) (a b : Nat) : Prop := ∀ (S : hS) (p1 p2 : Int32), Rel S → ∃ (r : Int32) (S1 S2 : hS), f_X8_led a p1 p2 S = some (r, S1) ∧ S1.K b = 10 ∧ f_X9_led b p1 p2 S1 = some (r, S2) ∧ Rel S2
def step_fanned (Rel : hS → Prop) (a b : Nat) : Prop := ∀ (S : hS) (p1 p2 p3 p4 p5 : Int32), Rel S → ∃ (r : Int32) (S1 S2 : hS), f_X8_fanned a p1 p2 p3 p4 p5 S = some (r, S1) ∧ S1.K b = 10 ∧ f_X9_fanned b p1 p2 p3 p4 p5 S1 = some (r, S2) ∧ Rel S2
def step_span (Rel : hS → Prop) (a b : Nat) : Prop := ∀ (S : hS) (p1 p2 p3 p4 p5 : Int32), Rel S → ∃ (r : Int32) (S1 S2 : hS), f_X8_span a p1 p2 p3 p4 p5 S = some (r, S1) ∧ S1.K b = 10 ∧ f_X9_span b p1 p2 p3 p4 p5 S1 = some (r, S2) ∧ Rel S2
def step_spy (Rel : hS → Prop) (a b : Nat) : Prop := ∀ (S : hS) (p1 p2 p3 p4 p5 : Int32), Rel S → ∃ (r : Int32) (S1 S2 : hS), f_X8_spy a p1 p2 p3 p4 p5 S = some (r, S1) ∧ S1.K b = 10 ∧ f_X9_spy b p1 p2 p3 p4 p5 S1 = some (r, S2) ∧ Rel S2
def step_seed (Rel : hS → Prop) (a b : Nat) : Prop := ∀ (S : hS) (p1 : Int32), Rel S → ∃ (r : Int32) (S1 S2 : hS), f_X8_seed a p1 S = some (r, S1) ∧ S1.K b = 10 ∧ f_X9_seed b p1 S1 = some (r, S2) ∧ Rel S2
def step_evenings (Rel : hS → Prop) (a b : Nat) : Prop := ∀ (S : hS) (p1 p2 p3 p4 p5 : Int32), Rel S → ∃ (r : Int32) (S1 S2 : hS), f_X8_evenings a p1 p2 p3 p4 p5 S = some (r, S1) ∧ S1.K b = 10 ∧ f_X9_evenings b p1 p2 p3 p4 p5 S1 = some (r, S2) ∧ Rel S2
def step_log (Rel : hS → Prop) (a b : Nat) : Prop := ∀ (S : hS) (p1 p2 : Int32), Rel S → ∃ (r : Int32) (S1 S2 : hS), f_X8_log a p1 p2 S = some (r, S1) ∧ S1.K b = 10 ∧ f_X9_log b p1 p2 S1 = some (r, S2) ∧ Rel S2
def step_hushed (Rel : hS → Prop) (a b : Nat) : Prop := ∀ (S : hS) (p1 p2 : Int32), Rel S → ∃ (r : Int32) (S1 S2 : hS), f_X8_hushed a p1 p2 S = some (r, S1) ∧ S1.K b = 10 ∧ f_X9_hushed b p1 p2 S1 = some (r, S2) ∧ Rel S2
def step_count (Rel : hS → Prop) (a b : Nat) : Prop := ∀ (S : hS) (p1 : Int32), Rel S → ∃ (r : Int32) (S1 S2 : hS), f_X8_count a p1 S = some (r, S1) ∧ S1.K b = 10 ∧ f_X9_count b p1 S1 = some (r, S2) ∧ Rel S2
def step_image (Rel : hS → Prop) (a b : Nat) : Prop := ∀ (S : hS) (p1 : Int32), Rel S → ∃ (r : Int32) (S1 S2 : hS), f_X8_image a p1 S = some (r, S1) ∧ S1.K b = 10 ∧ f_X9_image b p1 S1 = some (r, S2) ∧ Rel S2
def step_back (Rel : hS → Prop) (a b : Nat) : Prop := ∀ (S : hS) (p1 : Int32), Rel S → ∃ (r : Int32) (S1 S2 : hS), f_X8_back a p1 S = some (r, S1) ∧ S1.K b = 10 ∧ f_X9_back b p1 S1 = some (r, S2) ∧ Rel S2
def steps (Rel : hS → Prop) (a b : Nat) : Prop := (∀ S, Rel S → S.K a = 9 ∧ S.K b = 10) ∧ step_feed Rel a b ∧ step_end Rel a b ∧ step_hall Rel a b ∧ step_law Rel a b ∧ step_seat Rel a b ∧ step_guest Rel a b ∧ step_fan Rel a b ∧ step_sits Rel a b ∧ step_goes Rel a b ∧ step_change Rel a b ∧ step_warms Rel a b ∧ step_tick Rel a b ∧ step_there Rel a b ∧ step_deaf Rel a b ∧ step_critic Rel a b ∧ step_seated Rel a b ∧ step_changed Rel a b ∧ step_without Rel a b ∧ step_baron Rel a b ∧ step_led Rel a b ∧ step_fanned Rel a b ∧ step_span Rel a b ∧ step_spy Rel a b ∧ step_seed Rel a b ∧ step_evenings Rel a b ∧ step_log Rel a b ∧ step_hushed Rel a b ∧ step_count Rel a b ∧ step_image Rel a b ∧ step_back Rel a b
set_option maxRecDepth 100000 in
set_option maxHeartbeats 4000000 in
theorem lc_feed {S0 : hS} {b : Nat} {cs : Nat → Nat} {L : Nat} {xs : Nat → Int32} {kc ks a a2 i : Nat} {S : hS} {Rel : hS → Prop} (hs : steps Rel a a2) (hR : Rel S) (hL : L ≤ 3072) (hi : i + 6 ≤ L) (h1 : kc ≤ 500000) (h2 : ks ≤ 7000000) (kk : ∀ (kc' ks' : Nat) (T : hS), kc' ≤ kc + 24 → ks' ≤ ks + 1320 → Rel T → HL S0 b cs L xs kc' ks' T 1308 [(0, .ref b), (1, .ref a), (2, .ref a2), (3, .int (nI i))] []) : HL S0 b cs L xs kc ks S 168 [(0, .ref b), (1, .ref a), (2, .ref a2), (3, .int (nI i))] [] := by
  have hb := (hs.1 S hR).1
  obtain ⟨r, S1, S2, g1, g2, g3, g4⟩ := (hs.2.1) S (xs (nI i + 1).toNatClampNeg) (xs (nI i + 2).toNatClampNeg) (xs (nI i + 3).toNatClampNeg) (xs (nI i + 4).toNatClampNeg) (xs (nI i + 5).toNatClampNeg) hR
  have v1 : vp_in (nI i + 1) L := by rw [show (1 : Int32) = nI 1 from rfl, nI_add]; exact vp_in_nI (by omega) (by omega)
  have v2 : vp_in (nI i + 2) L := by rw [show (2 : Int32) = nI 2 from rfl, nI_add]; exact vp_in_nI (by omega) (by omega)
  have v3 : vp_in (nI i + 3) L := by rw [show (3 : Int32) = nI 3 from rfl, nI_add]; exact vp_in_nI (by omega) (by omega)
  have v4 : vp_in (nI i + 4) L := by rw [show (4 : Int32) = nI 4 from rfl, nI_add]; exact vp_in_nI (by omega) (by omega)
  have v5 : vp_in (nI i + 5) L := by rw [show (5 : Int32) = nI 5 from rfl, nI_add]; exact vp_in_nI (by omega) (by omega)
  refine l_aload_n dL_law_168 rfl 1 rfl ?_
  refine l_aload_n dL_law_169 rfl 0 rfl ?_
  refine l_iload_n dL_law_170 rfl 3 rfl ?_
  refine l_iconst (v := 1) dL_law_171 rfl ?_
  refine l_iadd dL_law_172 ?_
  refine l_sld v1 dL_law_173 ?_
  refine l_aload_n dL_law_174 rfl 0 rfl ?_
  refine l_iload_n dL_law_175 rfl 3 rfl ?_
  refine l_iconst (v := 2) dL_law_176 rfl ?_
  refine l_iadd dL_law_177 ?_
  refine l_sld v2 dL_law_178 ?_
  refine l_aload_n dL_law_179 rfl 0 rfl ?_
  refine l_iload_n dL_law_180 rfl 3 rfl ?_
  refine l_iconst (v := 3) dL_law_181 rfl ?_
  refine l_iadd dL_law_182 ?_
  refine l_sld v3 dL_law_183 ?_
  refine l_aload_n dL_law_184 rfl 0 rfl ?_
  refine l_iload_n dL_law_185 rfl 3 rfl ?_
  refine l_iconst (v := 4) dL_law_186 rfl ?_
  refine l_iadd dL_law_187 ?_
  refine l_sld v4 dL_law_188 ?_
  refine l_aload_n dL_law_189 rfl 0 rfl ?_
  refine l_iload_n dL_law_190 rfl 3 rfl ?_
  refine l_iconst (v := 5) dL_law_191 rfl ?_
  refine l_iadd dL_law_192 ?_
  refine l_sld v5 dL_law_193 ?_
  refine l_V [.int (xs (nI i + 1).toNatClampNeg), .int (xs (nI i + 2).toNatClampNeg), .int (xs (nI i + 3).toNatClampNeg), .int (xs (nI i + 4).toNatClampNeg), .int (xs (nI i + 5).toNatClampNeg)] (rest := []) (m_X8_feed (d := 3) (cs := cs) (Nat.le_refl _) g1) v_X8_feed q_334 rfl (by decide) hb rfl rfl (Nat.le_of_ble_eq_true rfl) dL_law_194 (by omega) (by omega) ?_
  refine l_aload_n dL_law_197 rfl 2 rfl ?_
  refine l_aload_n dL_law_198 rfl 0 rfl ?_
  refine l_iload_n dL_law_199 rfl 3 rfl ?_
  refine l_iconst (v := 1) dL_law_200 rfl ?_
  refine l_iadd dL_law_201 ?_
  refine l_sld v1 dL_law_202 ?_
  refine l_aload_n dL_law_203 rfl 0 rfl ?_
  refine l_iload_n dL_law_204 rfl 3 rfl ?_
  refine l_iconst (v := 2) dL_law_205 rfl ?_
  refine l_iadd dL_law_206 ?_
  refine l_sld v2 dL_law_207 ?_
  refine l_aload_n dL_law_208 rfl 0 rfl ?_
  refine l_iload_n dL_law_209 rfl 3 rfl ?_
  refine l_iconst (v := 3) dL_law_210 rfl ?_
  refine l_iadd dL_law_211 ?_
  refine l_sld v3 dL_law_212 ?_
  refine l_aload_n dL_law_213 rfl 0 rfl ?_
  refine l_iload_n dL_law_214 rfl 3 rfl ?_
  refine l_iconst (v := 4) dL_law_215 rfl ?_
  refine l_iadd dL_law_216 ?_
  refine l_sld v4 dL_law_217 ?_
  refine l_aload_n dL_law_218 rfl 0 rfl ?_
  refine l_iload_n dL_law_219 rfl 3 rfl ?_
  refine l_iconst (v := 5) dL_law_220 rfl ?_
  refine l_iadd dL_law_221 ?_
  refine l_sld v5 dL_law_222 ?_
  refine l_V [.int (xs (nI i + 1).toNatClampNeg), .int (xs (nI i + 2).toNatClampNeg), .int (xs (nI i + 3).toNatClampNeg), .int (xs (nI i + 4).toNatClampNeg), .int (xs (nI i + 5).toNatClampNeg)] (rest := [.int r]) (m_X9_feed (d := 2) (cs := cs) (Nat.le_refl _) g3) v_X9_feed q_1151 rfl (by decide) g2 rfl rfl (Nat.le_of_ble_eq_true rfl) dL_law_223 (by omega) (by omega) ?_
  refine l_icmp_eq (tgt := 1308) dL_law_226 (by decide) (fun _ => ?_) (fun c => absurd rfl c)
  exact kk _ _ _ (by omega) (by omega) g4
set_option maxRecDepth 100000 in
set_option maxHeartbeats 4000000 in
theorem lc_end {S0 : hS} {b : Nat} {cs : Nat → Nat} {L : Nat} {xs : Nat → Int32} {kc ks a a2 i : Nat} {S : hS} {Rel : hS → Prop} (hs : steps Rel a a2) (hR : Rel S) (hL : L ≤ 3072) (hi : i + 6 ≤ L) (h1 : kc ≤ 500000) (h2 : ks ≤ 7000000) (kk : ∀ (kc' ks' : Nat) (T : hS), kc' ≤ kc + 24 → ks' ≤ ks + 1320 → Rel T → HL S0 b cs L xs kc' ks' T 1308 [(0, .ref b), (1, .ref a), (2, .ref a2), (3, .int (nI i))] []) : HL S0 b cs L xs kc ks S 231 [(0, .ref b), (1, .ref a), (2, .ref a2), (3, .int (nI i))] [] := by
  have hb := (hs.1 S hR).1
  obtain ⟨r, S1, S2, g1, g2, g3, g4⟩ := (hs.2.2.1) S (xs (nI i + 1).toNatClampNeg) hR
  have v1 : vp_in (nI i + 1) L := by rw [show (1 : Int32) = nI 1 from rfl, nI_add]; exact vp_in_nI (by omega) (by omega)
  refine l_aload_n dL_law_231 rfl 1 rfl ?_
  refine l_aload_n dL_law_232 rfl 0 rfl ?_
  refine l_iload_n dL_law_233 rfl 3 rfl ?_
  refine l_iconst (v := 1) dL_law_234 rfl ?_
  refine l_iadd dL_law_235 ?_
  refine l_sld v1 dL_law_236 ?_
  refine l_V [.int (xs (nI i + 1).toNatClampNeg)] (rest := []) (m_X8_end (d := 2) (cs := cs) (Nat.le_refl _) g1) v_X8_end q_346 rfl (by decide) hb rfl rfl (Nat.le_of_ble_eq_true rfl) dL_law_237 (by omega) (by omega) ?_
  refine l_aload_n dL_law_240 rfl 2 rfl ?_
  refine l_aload_n dL_law_241 rfl 0 rfl ?_
  refine l_iload_n dL_law_242 rfl 3 rfl ?_
  refine l_iconst (v := 1) dL_law_243 rfl ?_
  refine l_iadd dL_law_244 ?_
  refine l_sld v1 dL_law_245 ?_
  refine l_V [.int (xs (nI i + 1).toNatClampNeg)] (rest := [.int r]) (m_X9_end (d := 1) (cs := cs) (Nat.le_refl _) g3) v_X9_end q_1159 rfl (by decide) g2 rfl rfl (Nat.le_of_ble_eq_true rfl) dL_law_246 (by omega) (by omega) ?_
  refine l_icmp_eq (tgt := 1308) dL_law_249 (by decide) (fun _ => ?_) (fun c => absurd rfl c)
  exact kk _ _ _ (by omega) (by omega) g4
set_option maxRecDepth 100000 in
set_option maxHeartbeats 4000000 in
theorem lc_hall {S0 : hS} {b : Nat} {cs : Nat → Nat} {L : Nat} {xs : Nat → Int32} {kc ks a a2 i : Nat} {S : hS} {Rel : hS → Prop} (hs : steps Rel a a2) (hR : Rel S) (hL : L ≤ 3072) (hi : i + 6 ≤ L) (h1 : kc ≤ 500000) (h2 : ks ≤ 7000000) (kk : ∀ (kc' ks' : Nat) (T : hS), kc' ≤ kc + 24 → ks' ≤ ks + 1320 → Rel T → HL S0 b cs L xs kc' ks' T 1308 [(0, .ref b), (1, .ref a), (2, .ref a2), (3, .int (nI i))] []) : HL S0 b cs L xs kc ks S 254 [(0, .ref b), (1, .ref a), (2, .ref a2), (3, .int (nI i))] [] := by
  have hb := (hs.1 S hR).1
  obtain ⟨r, S1, S2, g1, g2, g3, g4⟩ := (hs.2.2.2.1) S hR
  refine l_aload_n dL_law_254 rfl 1 rfl ?_
  refine l_V [] (rest := []) (m_X8_hall (d := 9) (cs := cs) (Nat.le_refl _) g1) v_X8_hall q_354 rfl (by decide) hb rfl rfl (Nat.le_of_ble_eq_true rfl) dL_law_255 (by omega) (by omega) ?_
  refine l_aload_n dL_law_258 rfl 2 rfl ?_
  refine l_V [] (rest := [.int r]) (m_X9_hall (d := 9) (cs := cs) (Nat.le_refl _) g3) v_X9_hall q_1163 rfl (by decide) g2 rfl rfl (Nat.le_of_ble_eq_true rfl) dL_law_259 (by omega) (by omega) ?_
  refine l_icmp_eq (tgt := 1308) dL_law_262 (by decide) (fun _ => ?_) (fun c => absurd rfl c)
  exact kk _ _ _ (by omega) (by omega) g4
set_option maxRecDepth 100000 in
set_option maxHeartbeats 4000000 in
theorem lc_law {S0 : hS} {b : Nat} {cs : Nat → Nat} {L : Nat} {xs : Nat → Int32} {kc ks a a2 i : Nat} {S : hS} {Rel : hS → Prop} (hs : steps Rel a a2) (hR : Rel S) (hL : L ≤ 3072) (hi : i + 6 ≤ L) (h1 : kc ≤ 500000) (h2 : ks ≤ 7000000) (kk : ∀ (kc' ks' : Nat) (T : hS), kc' ≤ kc + 24 → ks' ≤ ks + 1320 → Rel T → HL S0 b cs L xs kc' ks' T 1308 [(0, .ref b), (1, .ref a), (2, .ref a2), (3, .int (nI i))] []) : HL S0 b cs L xs kc ks S 267 [(0, .ref b), (1, .ref a), (2, .ref a2), (3, .int (nI i))] [] := by
  have hb := (hs.1 S hR).1
  obtain ⟨r, S1, S2, g1, g2, g3, g4⟩ := (hs.2.2.2.2.1) S hR
  refine l_aload_n dL_law_267 rfl 1 rfl ?_
  refine l_V [] (rest := []) (m_X8_law (d := 51) (cs := cs) (Nat.le_refl _) g1) v_X8_law q_589 rfl (by decide) hb rfl rfl (Nat.le_of_ble_eq_true rfl) dL_law_268 (by omega) (by omega) ?_
  refine l_aload_n dL_law_271 rfl 2 rfl ?_
  refine l_V [] (rest := [.int r]) (m_X9_law (d := 13) (cs := cs) (Nat.le_refl _) g3) v_X9_law q_1247 rfl (by decide) g2 rfl rfl (Nat.le_of_ble_eq_true rfl) dL_law_272 (by omega) (by omega) ?_
  refine l_icmp_eq (tgt := 1308) dL_law_275 (by decide) (fun _ => ?_) (fun c => absurd rfl c)
  exact kk _ _ _ (by omega) (by omega) g4
set_option maxRecDepth 100000 in
set_option maxHeartbeats 4000000 in
theorem lc_seat {S0 : hS} {b : Nat} {cs : Nat → Nat} {L : Nat} {xs : Nat → Int32} {kc ks a a2 i : Nat} {S : hS} {Rel : hS → Prop} (hs : steps Rel a a2) (hR : Rel S) (hL : L ≤ 3072) (hi : i + 6 ≤ L) (h1 : kc ≤ 500000) (h2 : ks ≤ 7000000) (kk : ∀ (kc' ks' : Nat) (T : hS), kc' ≤ kc + 24 → ks' ≤ ks + 1320 → Rel T → HL S0 b cs L xs kc' ks' T 1308 [(0, .ref b), (1, .ref a), (2, .ref a2), (3, .int (nI i))] []) : HL S0 b cs L xs kc ks S 280 [(0, .ref b), (1, .ref a), (2, .ref a2), (3, .int (nI i))] [] := by
  have hb := (hs.1 S hR).1
  obtain ⟨r, S1, S2, g1, g2, g3, g4⟩ := (hs.2.2.2.2.2.1) S (xs (nI i + 1).toNatClampNeg) (xs (nI i + 2).toNatClampNeg) (xs (nI i + 3).toNatClampNeg) hR
  have v1 : vp_in (nI i + 1) L := by rw [show (1 : Int32) = nI 1 from rfl, nI_add]; exact vp_in_nI (by omega) (by omega)
  have v2 : vp_in (nI i + 2) L := by rw [show (2 : Int32) = nI 2 from rfl, nI_add]; exact vp_in_nI (by omega) (by omega)
  have v3 : vp_in (nI i + 3) L := by rw [show (3 : Int32) = nI 3 from rfl, nI_add]; exact vp_in_nI (by omega) (by omega)
  refine l_aload_n dL_law_280 rfl 1 rfl ?_
  refine l_aload_n dL_law_281 rfl 0 rfl ?_
  refine l_iload_n dL_law_282 rfl 3 rfl ?_
  refine l_iconst (v := 1) dL_law_283 rfl ?_
  refine l_iadd dL_law_284 ?_
  refine l_sld v1 dL_law_285 ?_
  refine l_aload_n dL_law_286 rfl 0 rfl ?_
  refine l_iload_n dL_law_287 rfl 3 rfl ?_
  refine l_iconst (v := 2) dL_law_288 rfl ?_
  refine l_iadd dL_law_289 ?_
  refine l_sld v2 dL_law_290 ?_
  refine l_aload_n dL_law_291 rfl 0 rfl ?_
  refine l_iload_n dL_law_292 rfl 3 rfl ?_
  refine l_iconst (v := 3) dL_law_293 rfl ?_
  refine l_iadd dL_law_294 ?_
  refine l_sld v3 dL_law_295 ?_
  refine l_V [.int (xs (nI i + 1).toNatClampNeg), .int (xs (nI i + 2).toNatClampNeg), .int (xs (nI i + 3).toNatClampNeg)] (rest := []) (m_X8_seat (d := 2) (cs := cs) (Nat.le_refl _) g1) v_X8_seat q_686 rfl (by decide) hb rfl rfl (Nat.le_of_ble_eq_true rfl) dL_law_296 (by omega) (by omega) ?_
  refine l_aload_n dL_law_299 rfl 2 rfl ?_
  refine l_aload_n dL_law_300 rfl 0 rfl ?_
  refine l_iload_n dL_law_301 rfl 3 rfl ?_
  refine l_iconst (v := 1) dL_law_302 rfl ?_
  refine l_iadd dL_law_303 ?_
  refine l_sld v1 dL_law_304 ?_
  refine l_aload_n dL_law_305 rfl 0 rfl ?_
  refine l_iload_n dL_law_306 rfl 3 rfl ?_
  refine l_iconst (v := 2) dL_law_307 rfl ?_
  refine l_iadd dL_law_308 ?_
  refine l_sld v2 dL_law_309 ?_
  refine l_aload_n dL_law_310 rfl 0 rfl ?_
  refine l_iload_n dL_law_311 rfl 3 rfl ?_
  refine l_iconst (v := 3) dL_law_312 rfl ?_
  refine l_iadd dL_law_313 ?_
  refine l_sld v3 dL_law_314 ?_
  refine l_V [.int (xs (nI i + 1).toNatClampNeg), .int (xs (nI i + 2).toNatClampNeg), .int (xs (nI i + 3).toNatClampNeg)] (rest := [.int r]) (m_X9_seat (d := 3) (cs := cs) (Nat.le_refl _) g3) v_X9_seat q_1320 rfl (by decide) g2 rfl rfl (Nat.le_of_ble_eq_true rfl) dL_law_315 (by omega) (by omega) ?_
  refine l_icmp_eq (tgt := 1308) dL_law_318 (by decide) (fun _ => ?_) (fun c => absurd rfl c)
  exact kk _ _ _ (by omega) (by omega) g4
set_option maxRecDepth 100000 in
set_option maxHeartbeats 4000000 in
theorem lc_guest {S0 : hS} {b : Nat} {cs : Nat → Nat} {L : Nat} {xs : Nat → Int32} {kc ks a a2 i : Nat} {S : hS} {Rel : hS → Prop} (hs : steps Rel a a2) (hR : Rel S) (hL : L ≤ 3072) (hi : i + 6 ≤ L) (h1 : kc ≤ 500000) (h2 : ks ≤ 7000000) (kk : ∀ (kc' ks' : Nat) (T : hS), kc' ≤ kc + 24 → ks' ≤ ks + 1320 → Rel T → HL S0 b cs L xs kc' ks' T 1308 [(0, .ref b), (1, .ref a), (2, .ref a2), (3, .int (nI i))] []) : HL S0 b cs L xs kc ks S 323 [(0, .ref b), (1, .ref a), (2, .ref a2), (3, .int (nI i))] [] := by
  have hb := (hs.1 S hR).1
  obtain ⟨r, S1, S2, g1, g2, g3, g4⟩ := (hs.2.2.2.2.2.2.1) S (xs (nI i + 1).toNatClampNeg) (xs (nI i + 2).toNatClampNeg) hR
  have v1 : vp_in (nI i + 1) L := by rw [show (1 : Int32) = nI 1 from rfl, nI_add]; exact vp_in_nI (by omega) (by omega)
  have v2 : vp_in (nI i + 2) L := by rw [show (2 : Int32) = nI 2 from rfl, nI_add]; exact vp_in_nI (by omega) (by omega)
  refine l_aload_n dL_law_323 rfl 1 rfl ?_
  refine l_aload_n dL_law_324 rfl 0 rfl ?_
  refine l_iload_n dL_law_325 rfl 3 rfl ?_
  refine l_iconst (v := 1) dL_law_326 rfl ?_
  refine l_iadd dL_law_327 ?_
  refine l_sld v1 dL_law_328 ?_
  refine l_aload_n dL_law_329 rfl 0 rfl ?_
  refine l_iload_n dL_law_330 rfl 3 rfl ?_
  refine l_iconst (v := 2) dL_law_331 rfl ?_
  refine l_iadd dL_law_332 ?_
  refine l_sld v2 dL_law_333 ?_
  refine l_V [.int (xs (nI i + 1).toNatClampNeg), .int (xs (nI i + 2).toNatClampNeg)] (rest := []) (m_X8_guest (d := 2) (cs := cs) (Nat.le_refl _) g1) v_X8_guest q_691 rfl (by decide) hb rfl rfl (Nat.le_of_ble_eq_true rfl) dL_law_334 (by omega) (by omega) ?_
  refine l_aload_n dL_law_337 rfl 2 rfl ?_
  refine l_aload_n dL_law_338 rfl 0 rfl ?_
  refine l_iload_n dL_law_339 rfl 3 rfl ?_
  refine l_iconst (v := 1) dL_law_340 rfl ?_
  refine l_iadd dL_law_341 ?_
  refine l_sld v1 dL_law_342 ?_
  refine l_aload_n dL_law_343 rfl 0 rfl ?_
  refine l_iload_n dL_law_344 rfl 3 rfl ?_
  refine l_iconst (v := 2) dL_law_345 rfl ?_
  refine l_iadd dL_law_346 ?_
  refine l_sld v2 dL_law_347 ?_
  refine l_V [.int (xs (nI i + 1).toNatClampNeg), .int (xs (nI i + 2).toNatClampNeg)] (rest := [.int r]) (m_X9_guest (d := 3) (cs := cs) (Nat.le_refl _) g3) v_X9_guest q_1336 rfl (by decide) g2 rfl rfl (Nat.le_of_ble_eq_true rfl) dL_law_348 (by omega) (by omega) ?_
  refine l_icmp_eq (tgt := 1308) dL_law_351 (by decide) (fun _ => ?_) (fun c => absurd rfl c)
  exact kk _ _ _ (by omega) (by omega) g4
set_option maxRecDepth 100000 in
set_option maxHeartbeats 4000000 in
theorem lc_fan {S0 : hS} {b : Nat} {cs : Nat → Nat} {L : Nat} {xs : Nat → Int32} {kc ks a a2 i : Nat} {S : hS} {Rel : hS → Prop} (hs : steps Rel a a2) (hR : Rel S) (hL : L ≤ 3072) (hi : i + 6 ≤ L) (h1 : kc ≤ 500000) (h2 : ks ≤ 7000000) (kk : ∀ (kc' ks' : Nat) (T : hS), kc' ≤ kc + 24 → ks' ≤ ks + 1320 → Rel T → HL S0 b cs L xs kc' ks' T 1308 [(0, .ref b), (1, .ref a), (2, .ref a2), (3, .int (nI i))] []) : HL S0 b cs L xs kc ks S 356 [(0, .ref b), (1, .ref a), (2, .ref a2), (3, .int (nI i))] [] := by
  have hb := (hs.1 S hR).1
  obtain ⟨r, S1, S2, g1, g2, g3, g4⟩ := (hs.2.2.2.2.2.2.2.1) S (xs (nI i + 1).toNatClampNeg) (xs (nI i + 2).toNatClampNeg) hR
  have v1 : vp_in (nI i + 1) L := by rw [show (1 : Int32) = nI 1 from rfl, nI_add]; exact vp_in_nI (by omega) (by omega)
  have v2 : vp_in (nI i + 2) L := by rw [show (2 : Int32) = nI 2 from rfl, nI_add]; exact vp_in_nI (by omega) (by omega)
  refine l_aload_n dL_law_356 rfl 1 rfl ?_
  refine l_aload_n dL_law_357 rfl 0 rfl ?_
  refine l_iload_n dL_law_358 rfl 3 rfl ?_
  refine l_iconst (v := 1) dL_law_359 rfl ?_
  refine l_iadd dL_law_360 ?_
  refine l_sld v1 dL_law_361 ?_
  refine l_aload_n dL_law_362 rfl 0 rfl ?_
  refine l_iload_n dL_law_363 rfl 3 rfl ?_
  refine l_iconst (v := 2) dL_law_364 rfl ?_
  refine l_iadd dL_law_365 ?_
  refine l_sld v2 dL_law_366 ?_
  refine l_V [.int (xs (nI i + 1).toNatClampNeg), .int (xs (nI i + 2).toNatClampNeg)] (rest := []) (m_X8_fan (d := 2) (cs := cs) (Nat.le_refl _) g1) v_X8_fan q_704 rfl (by decide) hb rfl rfl (Nat.le_of_ble_eq_true rfl) dL_law_367 (by omega) (by omega) ?_
  refine l_aload_n dL_law_370 rfl 2 rfl ?_
  refine l_aload_n dL_law_371 rfl 0 rfl ?_
  refine l_iload_n dL_law_372 rfl 3 rfl ?_
  refine l_iconst (v := 1) dL_law_373 rfl ?_
  refine l_iadd dL_law_374 ?_
  refine l_sld v1 dL_law_375 ?_
  refine l_aload_n dL_law_376 rfl 0 rfl ?_
  refine l_iload_n dL_law_377 rfl 3 rfl ?_
  refine l_iconst (v := 2) dL_law_378 rfl ?_
  refine l_iadd dL_law_379 ?_
  refine l_sld v2 dL_law_380 ?_
  refine l_V [.int (xs (nI i + 1).toNatClampNeg), .int (xs (nI i + 2).toNatClampNeg)] (rest := [.int r]) (m_X9_fan (d := 2) (cs := cs) (Nat.le_refl _) g3) v_X9_fan q_1344 rfl (by decide) g2 rfl rfl (Nat.le_of_ble_eq_true rfl) dL_law_381 (by omega) (by omega) ?_
  refine l_icmp_eq (tgt := 1308) dL_law_384 (by decide) (fun _ => ?_) (fun c => absurd rfl c)
  exact kk _ _ _ (by omega) (by omega) g4
set_option maxRecDepth 100000 in
set_option maxHeartbeats 4000000 in
theorem lc_sits {S0 : hS} {b : Nat} {cs : Nat → Nat} {L : Nat} {xs : Nat → Int32} {kc ks a a2 i : Nat} {S : hS} {Rel : hS → Prop} (hs : steps Rel a a2) (hR : Rel S) (hL : L ≤ 3072) (hi : i + 6 ≤ L) (h1 : kc ≤ 500000) (h2 : ks ≤ 7000000) (kk : ∀ (kc' ks' : Nat) (T : hS), kc' ≤ kc + 24 → ks' ≤ ks + 1320 → Rel T → HL S0 b cs L xs kc' ks' T 1308 [(0, .ref b), (1, .ref a), (2, .ref a2), (3, .int (nI i))] []) : HL S0 b cs L xs kc ks S 389 [(0, .ref b), (1, .ref a), (2, .ref a2), (3, .int (nI i))] [] := by
  have hb := (hs.1 S hR).1
  obtain ⟨r, S1, S2, g1, g2, g3, g4⟩ := (hs.2.2.2.2.2.2.2.2.1) S (xs (nI i + 1).toNatClampNeg) (xs (nI i + 2).toNatClampNeg) (xs (nI i + 3).toNatClampNeg) hR
  have v1 : vp_in (nI i + 1) L := by rw [show (1 : Int32) = nI 1 from rfl, nI_add]; exact vp_in_nI (by omega) (by omega)
  have v2 : vp_in (nI i + 2) L := by rw [show (2 : Int32) = nI 2 from rfl, nI_add]; exact vp_in_nI (by omega) (by omega)
  have v3 : vp_in (nI i + 3) L := by rw [show (3 : Int32) = nI 3 from rfl, nI_add]; exact vp_in_nI (by omega) (by omega)
  refine l_aload_n dL_law_389 rfl 1 rfl ?_
  refine l_aload_n dL_law_390 rfl 0 rfl ?_
  refine l_iload_n dL_law_391 rfl 3 rfl ?_
  refine l_iconst (v := 1) dL_law_392 rfl ?_
  refine l_iadd dL_law_393 ?_
  refine l_sld v1 dL_law_394 ?_
  refine l_aload_n dL_law_395 rfl 0 rfl ?_
  refine l_iload_n dL_law_396 rfl 3 rfl ?_
  refine l_iconst (v := 2) dL_law_397 rfl ?_
  refine l_iadd dL_law_398 ?_
  refine l_sld v2 dL_law_399 ?_
  refine l_aload_n dL_law_400 rfl 0 rfl ?_
  refine l_iload_n dL_law_401 rfl 3 rfl ?_
  refine l_iconst (v := 3) dL_law_402 rfl ?_
  refine l_iadd dL_law_403 ?_
  refine l_sld v3 dL_law_404 ?_
  refine l_V [.int (xs (nI i + 1).toNatClampNeg), .int (xs (nI i + 2).toNatClampNeg), .int (xs (nI i + 3).toNatClampNeg)] (rest := []) (m_X8_sits (d := 4) (cs := cs) (Nat.le_refl _) g1) v_X8_sits q_708 rfl (by decide) hb rfl rfl (Nat.le_of_ble_eq_true rfl) dL_law_405 (by omega) (by omega) ?_
  refine l_aload_n dL_law_408 rfl 2 rfl ?_
  refine l_aload_n dL_law_409 rfl 0 rfl ?_
  refine l_iload_n dL_law_410 rfl 3 rfl ?_
  refine l_iconst (v := 1) dL_law_411 rfl ?_
  refine l_iadd dL_law_412 ?_
  refine l_sld v1 dL_law_413 ?_
  refine l_aload_n dL_law_414 rfl 0 rfl ?_
  refine l_iload_n dL_law_415 rfl 3 rfl ?_
  refine l_iconst (v := 2) dL_law_416 rfl ?_
  refine l_iadd dL_law_417 ?_
  refine l_sld v2 dL_law_418 ?_
  refine l_aload_n dL_law_419 rfl 0 rfl ?_
  refine l_iload_n dL_law_420 rfl 3 rfl ?_
  refine l_iconst (v := 3) dL_law_421 rfl ?_
  refine l_iadd dL_law_422 ?_
  refine l_sld v3 dL_law_423 ?_
  refine l_V [.int (xs (nI i + 1).toNatClampNeg), .int (xs (nI i + 2).toNatClampNeg), .int (xs (nI i + 3).toNatClampNeg)] (rest := [.int r]) (m_X9_sits (d := 3) (cs := cs) (Nat.le_refl _) g3) v_X9_sits q_1348 rfl (by decide) g2 rfl rfl (Nat.le_of_ble_eq_true rfl) dL_law_424 (by omega) (by omega) ?_
  refine l_icmp_eq (tgt := 1308) dL_law_427 (by decide) (fun _ => ?_) (fun c => absurd rfl c)
  exact kk _ _ _ (by omega) (by omega) g4
set_option maxRecDepth 100000 in
set_option maxHeartbeats 4000000 in
theorem lc_goes {S0 : hS} {b : Nat} {cs : Nat → Nat} {L : Nat} {xs : Nat → Int32} {kc ks a a2 i : Nat} {S : hS} {Rel : hS → Prop} (hs : steps Rel a a2) (hR : Rel S) (hL : L ≤ 3072) (hi : i + 6 ≤ L) (h1 : kc ≤ 500000) (h2 : ks ≤ 7000000) (kk : ∀ (kc' ks' : Nat) (T : hS), kc' ≤ kc + 24 → ks' ≤ ks + 1320 → Rel T → HL S0 b cs L xs kc' ks' T 1308 [(0, .ref b), (1, .ref a), (2, .ref a2), (3, .int (nI i))] []) : HL S0 b cs L xs kc ks S 432 [(0, .ref b), (1, .ref a), (2, .ref a2), (3, .int (nI i))] [] := by
  have hb := (hs.1 S hR).1
  obtain ⟨r, S1, S2, g1, g2, g3, g4⟩ := (hs.2.2.2.2.2.2.2.2.2.1) S (xs (nI i + 1).toNatClampNeg) hR
  have v1 : vp_in (nI i + 1) L := by rw [show (1 : Int32) = nI 1 from rfl, nI_add]; exact vp_in_nI (by omega) (by omega)
  refine l_aload_n dL_law_432 rfl 1 rfl ?_
  refine l_aload_n dL_law_433 rfl 0 rfl ?_
  refine l_iload_n dL_law_434 rfl 3 rfl ?_
  refine l_iconst (v := 1) dL_law_435 rfl ?_
  refine l_iadd dL_law_436 ?_
  refine l_sld v1 dL_law_437 ?_
  refine l_V [.int (xs (nI i + 1).toNatClampNeg)] (rest := []) (m_X8_goes (d := 3) (cs := cs) (Nat.le_refl _) g1) v_X8_goes q_713 rfl (by decide) hb rfl rfl (Nat.le_of_ble_eq_true rfl) dL_law_438 (by omega) (by omega) ?_
  refine l_aload_n dL_law_441 rfl 2 rfl ?_
  refine l_aload_n dL_law_442 rfl 0 rfl ?_
  refine l_iload_n dL_law_443 rfl 3 rfl ?_
  refine l_iconst (v := 1) dL_law_444 rfl ?_
  refine l_iadd dL_law_445 ?_
  refine l_sld v1 dL_law_446 ?_
  refine l_V [.int (xs (nI i + 1).toNatClampNeg)] (rest := [.int r]) (m_X9_goes (d := 4) (cs := cs) (Nat.le_refl _) g3) v_X9_goes q_1352 rfl (by decide) g2 rfl rfl (Nat.le_of_ble_eq_true rfl) dL_law_447 (by omega) (by omega) ?_
  refine l_icmp_eq (tgt := 1308) dL_law_450 (by decide) (fun _ => ?_) (fun c => absurd rfl c)
  exact kk _ _ _ (by omega) (by omega) g4
set_option maxRecDepth 100000 in
set_option maxHeartbeats 4000000 in
theorem lc_change {S0 : hS} {b : Nat} {cs : Nat → Nat} {L : Nat} {xs : Nat → Int32} {kc ks a a2 i : Nat} {S : hS} {Rel : hS → Prop} (hs : steps Rel a a2) (hR : Rel S) (hL : L ≤ 3072) (hi : i + 6 ≤ L) (h1 : kc ≤ 500000) (h2 : ks ≤ 7000000) (kk : ∀ (kc' ks' : Nat) (T : hS), kc' ≤ kc + 24 → ks' ≤ ks + 1320 → Rel T → HL S0 b cs L xs kc' ks' T 1308 [(0, .ref b), (1, .ref a), (2, .ref a2), (3, .int (nI i))] []) : HL S0 b cs L xs kc ks S 455 [(0, .ref b), (1, .ref a), (2, .ref a2), (3, .int (nI i))] [] := by
  have hb := (hs.1 S hR).1
  obtain ⟨r, S1, S2, g1, g2, g3, g4⟩ := (hs.2.2.2.2.2.2.2.2.2.2.1) S (xs (nI i + 1).toNatClampNeg) (xs (nI i + 2).toNatClampNeg) hR
  have v1 : vp_in (nI i + 1) L := by rw [show (1 : Int32) = nI 1 from rfl, nI_add]; exact vp_in_nI (by omega) (by omega)
  have v2 : vp_in (nI i + 2) L := by rw [show (2 : Int32) = nI 2 from rfl, nI_add]; exact vp_in_nI (by omega) (by omega)
  refine l_aload_n dL_law_455 rfl 1 rfl ?_
  refine l_aload_n dL_law_456 rfl 0 rfl ?_
  refine l_iload_n dL_law_457 rfl 3 rfl ?_
  refine l_iconst (v := 1) dL_law_458 rfl ?_
  refine l_iadd dL_law_459 ?_
  refine l_sld v1 dL_law_460 ?_
  refine l_aload_n dL_law_461 rfl 0 rfl ?_
  refine l_iload_n dL_law_462 rfl 3 rfl ?_
  refine l_iconst (v := 2) dL_law_463 rfl ?_
  refine l_iadd dL_law_464 ?_
  refine l_sld v2 dL_law_465 ?_
  refine l_V [.int (xs (nI i + 1).toNatClampNeg), .int (xs (nI i + 2).toNatClampNeg)] (rest := []) (m_X8_change (d := 5) (cs := cs) (Nat.le_refl _) g1) v_X8_change q_719 rfl (by decide) hb rfl rfl (Nat.le_of_ble_eq_true rfl) dL_law_466 (by omega) (by omega) ?_
  refine l_aload_n dL_law_469 rfl 2 rfl ?_
  refine l_aload_n dL_law_470 rfl 0 rfl ?_
  refine l_iload_n dL_law_471 rfl 3 rfl ?_
  refine l_iconst (v := 1) dL_law_472 rfl ?_
  refine l_iadd dL_law_473 ?_
  refine l_sld v1 dL_law_474 ?_
  refine l_aload_n dL_law_475 rfl 0 rfl ?_
  refine l_iload_n dL_law_476 rfl 3 rfl ?_
  refine l_iconst (v := 2) dL_law_477 rfl ?_
  refine l_iadd dL_law_478 ?_
  refine l_sld v2 dL_law_479 ?_
  refine l_V [.int (xs (nI i + 1).toNatClampNeg), .int (xs (nI i + 2).toNatClampNeg)] (rest := [.int r]) (m_X9_change (d := 4) (cs := cs) (Nat.le_refl _) g3) v_X9_change q_1360 rfl (by decide) g2 rfl rfl (Nat.le_of_ble_eq_true rfl) dL_law_480 (by omega) (by omega) ?_
  refine l_icmp_eq (tgt := 1308) dL_law_483 (by decide) (fun _ => ?_) (fun c => absurd rfl c)
  exact kk _ _ _ (by omega) (by omega) g4
set_option maxRecDepth 100000 in
set_option maxHeartbeats 4000000 in
theorem lc_warms {S0 : hS} {b : Nat} {cs : Nat → Nat} {L : Nat} {xs : Nat → Int32} {kc ks a a2 i : Nat} {S : hS} {Rel : hS → Prop} (hs : steps Rel a a2) (hR : Rel S) (hL : L ≤ 3072) (hi : i + 6 ≤ L) (h1 : kc ≤ 500000) (h2 : ks ≤ 7000000) (kk : ∀ (kc' ks' : Nat) (T : hS), kc' ≤ kc + 24 → ks' ≤ ks + 1320 → Rel T → HL S0 b cs L xs kc' ks' T 1308 [(0, .ref b), (1, .ref a), (2, .ref a2), (3, .int (nI i))] []) : HL S0 b cs L xs kc ks S 488 [(0, .ref b), (1, .ref a), (2, .ref a2), (3, .int (nI i))] [] := by
  have hb := (hs.1 S hR).1
  obtain ⟨r, S1, S2, g1, g2, g3, g4⟩ := (hs.2.2.2.2.2.2.2.2.2.2.2.1) S (xs (nI i + 1).toNatClampNeg) (xs (nI i + 2).toNatClampNeg) hR
  have v1 : vp_in (nI i + 1) L := by rw [show (1 : Int32) = nI 1 from rfl, nI_add]; exact vp_in_nI (by omega) (by omega)
  have v2 : vp_in (nI i + 2) L := by rw [show (2 : Int32) = nI 2 from rfl, nI_add]; exact vp_in_nI (by omega) (by omega)
  refine l_aload_n dL_law_488 rfl 1 rfl ?_
  refine l_aload_n dL_law_489 rfl 0 rfl ?_
  refine l_iload_n dL_law_490 rfl 3 rfl ?_
  refine l_iconst (v := 1) dL_law_491 rfl ?_
  refine l_iadd dL_law_492 ?_
  refine l_sld v1 dL_law_493 ?_
  refine l_aload_n dL_law_494 rfl 0 rfl ?_
  refine l_iload_n dL_law_495 rfl 3 rfl ?_
  refine l_iconst (v := 2) dL_law_496 rfl ?_
  refine l_iadd dL_law_497 ?_
  refine l_sld v2 dL_law_498 ?_
  refine l_V [.int (xs (nI i + 1).toNatClampNeg), .int (xs (nI i + 2).toNatClampNeg)] (rest := []) (m_X8_warms (d := 2) (cs := cs) (Nat.le_refl _) g1) v_X8_warms q_727 rfl (by decide) hb rfl rfl (Nat.le_of_ble_eq_true rfl) dL_law_499 (by omega) (by omega) ?_
  refine l_aload_n dL_law_502 rfl 2 rfl ?_
  refine l_aload_n dL_law_503 rfl 0 rfl ?_
  refine l_iload_n dL_law_504 rfl 3 rfl ?_
  refine l_iconst (v := 1) dL_law_505 rfl ?_
  refine l_iadd dL_law_506 ?_
  refine l_sld v1 dL_law_507 ?_
  refine l_aload_n dL_law_508 rfl 0 rfl ?_
  refine l_iload_n dL_law_509 rfl 3 rfl ?_
  refine l_iconst (v := 2) dL_law_510 rfl ?_
  refine l_iadd dL_law_511 ?_
  refine l_sld v2 dL_law_512 ?_
  refine l_V [.int (xs (nI i + 1).toNatClampNeg), .int (xs (nI i + 2).toNatClampNeg)] (rest := [.int r]) (m_X9_warms (d := 3) (cs := cs) (Nat.le_refl _) g3) v_X9_warms q_1368 rfl (by decide) g2 rfl rfl (Nat.le_of_ble_eq_true rfl) dL_law_513 (by omega) (by omega) ?_
  refine l_icmp_eq (tgt := 1308) dL_law_516 (by decide) (fun _ => ?_) (fun c => absurd rfl c)
  exact kk _ _ _ (by omega) (by omega) g4
set_option maxRecDepth 100000 in
set_option maxHeartbeats 4000000 in
theorem lc_tick {S0 : hS} {b : Nat} {cs : Nat → Nat} {L : Nat} {xs : Nat → Int32} {kc ks a a2 i : Nat} {S : hS} {Rel : hS → Prop} (hs : steps Rel a a2) (hR : Rel S) (hL : L ≤ 3072) (hi : i + 6 ≤ L) (h1 : kc ≤ 500000) (h2 : ks ≤ 7000000) (kk : ∀ (kc' ks' : Nat) (T : hS), kc' ≤ kc + 24 → ks' ≤ ks + 1320 → Rel T → HL S0 b cs L xs kc' ks' T 1308 [(0, .ref b), (1, .ref a), (2, .ref a2), (3, .int (nI i))] []) : HL S0 b cs L xs kc ks S 521 [(0, .ref b), (1, .ref a), (2, .ref a2), (3, .int (nI i))] [] := by
  have hb := (hs.1 S hR).1
  obtain ⟨r, S1, S2, g1, g2, g3, g4⟩ := (hs.2.2.2.2.2.2.2.2.2.2.2.2.1) S (xs (nI i + 1).toNatClampNeg) (xs (nI i + 2).toNatClampNeg) hR
  have v1 : vp_in (nI i + 1) L := by rw [show (1 : Int32) = nI 1 from rfl, nI_add]; exact vp_in_nI (by omega) (by omega)
  have v2 : vp_in (nI i + 2) L := by rw [show (2 : Int32) = nI 2 from rfl, nI_add]; exact vp_in_nI (by omega) (by omega)
  refine l_aload_n dL_law_521 rfl 1 rfl ?_
  refine l_aload_n dL_law_522 rfl 0 rfl ?_
  refine l_iload_n dL_law_523 rfl 3 rfl ?_
  refine l_iconst (v := 1) dL_law_524 rfl ?_
  refine l_iadd dL_law_525 ?_
  refine l_sld v1 dL_law_526 ?_
  refine l_aload_n dL_law_527 rfl 0 rfl ?_
  refine l_iload_n dL_law_528 rfl 3 rfl ?_
  refine l_iconst (v := 2) dL_law_529 rfl ?_
  refine l_iadd dL_law_530 ?_
  refine l_sld v2 dL_law_531 ?_
  refine l_V [.int (xs (nI i + 1).toNatClampNeg), .int (xs (nI i + 2).toNatClampNeg)] (rest := []) (m_X8_tick (d := 7) (cs := cs) (Nat.le_refl _) g1) v_X8_tick q_731 rfl (by decide) hb rfl rfl (Nat.le_of_ble_eq_true rfl) dL_law_532 (by omega) (by omega) ?_
  refine l_aload_n dL_law_535 rfl 2 rfl ?_
  refine l_aload_n dL_law_536 rfl 0 rfl ?_
  refine l_iload_n dL_law_537 rfl 3 rfl ?_
  refine l_iconst (v := 1) dL_law_538 rfl ?_
  refine l_iadd dL_law_539 ?_
  refine l_sld v1 dL_law_540 ?_
  refine l_aload_n dL_law_541 rfl 0 rfl ?_
  refine l_iload_n dL_law_542 rfl 3 rfl ?_
  refine l_iconst (v := 2) dL_law_543 rfl ?_
  refine l_iadd dL_law_544 ?_
  refine l_sld v2 dL_law_545 ?_
  refine l_V [.int (xs (nI i + 1).toNatClampNeg), .int (xs (nI i + 2).toNatClampNeg)] (rest := [.int r]) (m_X9_tick (d := 8) (cs := cs) (Nat.le_refl _) g3) v_X9_tick q_1373 rfl (by decide) g2 rfl rfl (Nat.le_of_ble_eq_true rfl) dL_law_546 (by omega) (by omega) ?_
  refine l_icmp_eq (tgt := 1308) dL_law_549 (by decide) (fun _ => ?_) (fun c => absurd rfl c)
  exact kk _ _ _ (by omega) (by omega) g4
set_option maxRecDepth 100000 in
set_option maxHeartbeats 4000000 in
theorem lc_there {S0 : hS} {b : Nat} {cs : Nat → Nat} {L : Nat} {xs : Nat → Int32} {kc ks a a2 i : Nat} {S : hS} {Rel : hS → Prop} (hs : steps Rel a a2) (hR : Rel S) (hL : L ≤ 3072) (hi : i + 6 ≤ L) (h1 : kc ≤ 500000) (h2 : ks ≤ 7000000) (kk : ∀ (kc' ks' : Nat) (T : hS), kc' ≤ kc + 24 → ks' ≤ ks + 1320 → Rel T → HL S0 b cs L xs kc' ks' T 1308 [(0, .ref b), (1, .ref a), (2, .ref a2), (3, .int (nI i))] []) : HL S0 b cs L xs kc ks S 554 [(0, .ref b), (1, .ref a), (2, .ref a2), (3, .int (nI i))] [] := by
  have hb := (hs.1 S hR).1
  obtain ⟨r, S1, S2, g1, g2, g3, g4⟩ := (hs.2.2.2.2.2.2.2.2.2.2.2.2.2.1) S (xs (nI i + 1).toNatClampNeg) (xs (nI i + 2).toNatClampNeg) (xs (nI i + 3).toNatClampNeg) hR
  have v1 : vp_in (nI i + 1) L := by rw [show (1 : Int32) = nI 1 from rfl, nI_add]; exact vp_in_nI (by omega) (by omega)
  have v2 : vp_in (nI i + 2) L := by rw [show (2 : Int32) = nI 2 from rfl, nI_add]; exact vp_in_nI (by omega) (by omega)
  have v3 : vp_in (nI i + 3) L := by rw [show (3 : Int32) = nI 3 from rfl, nI_add]; exact vp_in_nI (by omega) (by omega)
  refine l_aload_n dL_law_554 rfl 1 rfl ?_
  refine l_aload_n dL_law_555 rfl 0 rfl ?_
  refine l_iload_n dL_law_556 rfl 3 rfl ?_
  refine l_iconst (v := 1) dL_law_557 rfl ?_
  refine l_iadd dL_law_558 ?_
  refine l_sld v1 dL_law_559 ?_
  refine l_aload_n dL_law_560 rfl 0 rfl ?_
  refine l_iload_n dL_law_561 rfl 3 rfl ?_
  refine l_iconst (v := 2) dL_law_562 rfl ?_
  refine l_iadd dL_law_563 ?_
  refine l_sld v2 dL_law_564 ?_
  refine l_aload_n dL_law_565 rfl 0 rfl ?_
  refine l_iload_n dL_law_566 rfl 3 rfl ?_
  refine l_iconst (v := 3) dL_law_567 rfl ?_
  refine l_iadd dL_law_568 ?_
  refine l_sld v3 dL_law_569 ?_
  refine l_V [.int (xs (nI i + 1).toNatClampNeg), .int (xs (nI i + 2).toNatClampNeg), .int (xs (nI i + 3).toNatClampNeg)] (rest := []) (m_X8_there (d := 8) (cs := cs) (Nat.le_refl _) g1) v_X8_there q_783 rfl (by decide) hb rfl rfl (Nat.le_of_ble_eq_true rfl) dL_law_570 (by omega) (by omega) ?_
  refine l_aload_n dL_law_573 rfl 2 rfl ?_
  refine l_aload_n dL_law_574 rfl 0 rfl ?_
  refine l_iload_n dL_law_575 rfl 3 rfl ?_
  refine l_iconst (v := 1) dL_law_576 rfl ?_
  refine l_iadd dL_law_577 ?_
  refine l_sld v1 dL_law_578 ?_
  refine l_aload_n dL_law_579 rfl 0 rfl ?_
  refine l_iload_n dL_law_580 rfl 3 rfl ?_
  refine l_iconst (v := 2) dL_law_581 rfl ?_
  refine l_iadd dL_law_582 ?_
  refine l_sld v2 dL_law_583 ?_
  refine l_aload_n dL_law_584 rfl 0 rfl ?_
  refine l_iload_n dL_law_585 rfl 3 rfl ?_
  refine l_iconst (v := 3) dL_law_586 rfl ?_
  refine l_iadd dL_law_587 ?_
  refine l_sld v3 dL_law_588 ?_
  refine l_V [.int (xs (nI i + 1).toNatClampNeg), .int (xs (nI i + 2).toNatClampNeg), .int (xs (nI i + 3).toNatClampNeg)] (rest := [.int r]) (m_X9_there (d := 9) (cs := cs) (Nat.le_refl _) g3) v_X9_there q_1436 rfl (by decide) g2 rfl rfl (Nat.le_of_ble_eq_true rfl) dL_law_589 (by omega) (by omega) ?_
  refine l_icmp_eq (tgt := 1308) dL_law_592 (by decide) (fun _ => ?_) (fun c => absurd rfl c)
  exact kk _ _ _ (by omega) (by omega) g4
set_option maxRecDepth 100000 in
set_option maxHeartbeats 4000000 in
theorem lc_deaf {S0 : hS} {b : Nat} {cs : Nat → Nat} {L : Nat} {xs : Nat → Int32} {kc ks a a2 i : Nat} {S : hS} {Rel : hS → Prop} (hs : steps Rel a a2) (hR : Rel S) (hL : L ≤ 3072) (hi : i + 6 ≤ L) (h1 : kc ≤ 500000) (h2 : ks ≤ 7000000) (kk : ∀ (kc' ks' : Nat) (T : hS), kc' ≤ kc + 24 → ks' ≤ ks + 1320 → Rel T → HL S0 b cs L xs kc' ks' T 1308 [(0, .ref b), (1, .ref a), (2, .ref a2), (3, .int (nI i))] []) : HL S0 b cs L xs kc ks S 597 [(0, .ref b), (1, .ref a), (2, .ref a2), (3, .int (nI i))] [] := by
  have hb := (hs.1 S hR).1
  obtain ⟨r, S1, S2, g1, g2, g3, g4⟩ := (hs.2.2.2.2.2.2.2.2.2.2.2.2.2.2.1) S (xs (nI i + 1).toNatClampNeg) (xs (nI i + 2).toNatClampNeg) (xs (nI i + 3).toNatClampNeg) hR
  have v1 : vp_in (nI i + 1) L := by rw [show (1 : Int32) = nI 1 from rfl, nI_add]; exact vp_in_nI (by omega) (by omega)
  have v2 : vp_in (nI i + 2) L := by rw [show (2 : Int32) = nI 2 from rfl, nI_add]; exact vp_in_nI (by omega) (by omega)
  have v3 : vp_in (nI i + 3) L := by rw [show (3 : Int32) = nI 3 from rfl, nI_add]; exact vp_in_nI (by omega) (by omega)
  refine l_aload_n dL_law_597 rfl 1 rfl ?_
  refine l_aload_n dL_law_598 rfl 0 rfl ?_
  refine l_iload_n dL_law_599 rfl 3 rfl ?_
  refine l_iconst (v := 1) dL_law_600 rfl ?_
  refine l_iadd dL_law_601 ?_
  refine l_sld v1 dL_law_602 ?_
  refine l_aload_n dL_law_603 rfl 0 rfl ?_
  refine l_iload_n dL_law_604 rfl 3 rfl ?_
  refine l_iconst (v := 2) dL_law_605 rfl ?_
  refine l_iadd dL_law_606 ?_
  refine l_sld v2 dL_law_607 ?_
  refine l_aload_n dL_law_608 rfl 0 rfl ?_
  refine l_iload_n dL_law_609 rfl 3 rfl ?_
  refine l_iconst (v := 3) dL_law_610 rfl ?_
  refine l_iadd dL_law_611 ?_
  refine l_sld v3 dL_law_612 ?_
  refine l_V [.int (xs (nI i + 1).toNatClampNeg), .int (xs (nI i + 2).toNatClampNeg), .int (xs (nI i + 3).toNatClampNeg)] (rest := []) (m_X8_deaf (d := 8) (cs := cs) (Nat.le_refl _) g1) v_X8_deaf q_791 rfl (by decide) hb rfl rfl (Nat.le_of_ble_eq_true rfl) dL_law_613 (by omega) (by omega) ?_
  refine l_aload_n dL_law_616 rfl 2 rfl ?_
  refine l_aload_n dL_law_617 rfl 0 rfl ?_
  refine l_iload_n dL_law_618 rfl 3 rfl ?_
  refine l_iconst (v := 1) dL_law_619 rfl ?_
  refine l_iadd dL_law_620 ?_
  refine l_sld v1 dL_law_621 ?_
  refine l_aload_n dL_law_622 rfl 0 rfl ?_
  refine l_iload_n dL_law_623 rfl 3 rfl ?_
  refine l_iconst (v := 2) dL_law_624 rfl ?_
  refine l_iadd dL_law_625 ?_
  refine l_sld v2 dL_law_626 ?_
  refine l_aload_n dL_law_627 rfl 0 rfl ?_
  refine l_iload_n dL_law_628 rfl 3 rfl ?_
  refine l_iconst (v := 3) dL_law_629 rfl ?_
  refine l_iadd dL_law_630 ?_
  refine l_sld v3 dL_law_631 ?_
  refine l_V [.int (xs (nI i + 1).toNatClampNeg), .int (xs (nI i + 2).toNatClampNeg), .int (xs (nI i + 3).toNatClampNeg)] (rest := [.int r]) (m_X9_deaf (d := 9) (cs := cs) (Nat.le_refl _) g3) v_X9_deaf q_1459 rfl (by decide) g2 rfl rfl (Nat.le_of_ble_eq_true rfl) dL_law_632 (by omega) (by omega) ?_
  refine l_icmp_eq (tgt := 1308) dL_law_635 (by decide) (fun _ => ?_) (fun c => absurd rfl c)
  exact kk _ _ _ (by omega) (by omega) g4
set_option maxRecDepth 100000 in
set_option maxHeartbeats 4000000 in
theorem lc_critic {S0 : hS} {b : Nat} {cs : Nat → Nat} {L : Nat} {xs : Nat → Int32} {kc ks a a2 i : Nat} {S : hS} {Rel : hS → Prop} (hs : steps Rel a a2) (hR : Rel S) (hL : L ≤ 3072) (hi : i + 6 ≤ L) (h1 : kc ≤ 500000) (h2 : ks ≤ 7000000) (kk : ∀ (kc' ks' : Nat) (T : hS), kc' ≤ kc + 24 → ks' ≤ ks + 1320 → Rel T → HL S0 b cs L xs kc' ks' T 1308 [(0, .ref b), (1, .ref a), (2, .ref a2), (3, .int (nI i))] []) : HL S0 b cs L xs kc ks S 640 [(0, .ref b), (1, .ref a), (2, .ref a2), (3, .int (nI i))] [] := by
  have hb := (hs.1 S hR).1
  obtain ⟨r, S1, S2, g1, g2, g3, g4⟩ := (hs.2.2.2.2.2.2.2.2.2.2.2.2.2.2.2.1) S (xs (nI i + 1).toNatClampNeg) (xs (nI i + 2).toNatClampNeg) (xs (nI i + 3).toNatClampNeg) hR
  have v1 : vp_in (nI i + 1) L := by rw [show (1 : Int32) = nI 1 from rfl, nI_add]; exact vp_in_nI (by omega) (by omega)
  have v2 : vp_in (nI i + 2) L := by rw [show (2 : Int32) = nI 2 from rfl, nI_add]; exact vp_in_nI (by omega) (by omega)
  have v3 : vp_in (nI i + 3) L := by rw [show (3 : Int32) = nI 3 from rfl, nI_add]; exact vp_in_nI (by omega) (by omega)
  refine l_aload_n dL_law_640 rfl 1 rfl ?_
  refine l_aload_n dL_law_641 rfl 0 rfl ?_
  refine l_iload_n dL_law_642 rfl 3 rfl ?_
  refine l_iconst (v := 1) dL_law_643 rfl ?_
  refine l_iadd dL_law_644 ?_
  refine l_sld v1 dL_law_645 ?_
  refine l_aload_n dL_law_646 rfl 0 rfl ?_
  refine l_iload_n dL_law_647 rfl 3 rfl ?_
  refine l_iconst (v := 2) dL_law_648 rfl ?_
  refine l_iadd dL_law_649 ?_
  refine l_sld v2 dL_law_650 ?_
  refine l_aload_n dL_law_651 rfl 0 rfl ?_
  refine l_iload_n dL_law_652 rfl 3 rfl ?_
  refine l_iconst (v := 3) dL_law_653 rfl ?_
  refine l_iadd dL_law_654 ?_
  refine l_sld v3 dL_law_655 ?_
  refine l_V [.int (xs (nI i + 1).toNatClampNeg), .int (xs (nI i + 2).toNatClampNeg), .int (xs (nI i + 3).toNatClampNeg)] (rest := []) (m_X8_critic (d := 8) (cs := cs) (Nat.le_refl _) g1) v_X8_critic q_799 rfl (by decide) hb rfl rfl (Nat.le_of_ble_eq_true rfl) dL_law_656 (by omega) (by omega) ?_
  refine l_aload_n dL_law_659 rfl 2 rfl ?_
  refine l_aload_n dL_law_660 rfl 0 rfl ?_
  refine l_iload_n dL_law_661 rfl 3 rfl ?_
  refine l_iconst (v := 1) dL_law_662 rfl ?_
  refine l_iadd dL_law_663 ?_
  refine l_sld v1 dL_law_664 ?_
  refine l_aload_n dL_law_665 rfl 0 rfl ?_
  refine l_iload_n dL_law_666 rfl 3 rfl ?_
  refine l_iconst (v := 2) dL_law_667 rfl ?_
  refine l_iadd dL_law_668 ?_
  refine l_sld v2 dL_law_669 ?_
  refine l_aload_n dL_law_670 rfl 0 rfl ?_
  refine l_iload_n dL_law_671 rfl 3 rfl ?_
  refine l_iconst (v := 3) dL_law_672 rfl ?_
  refine l_iadd dL_law_673 ?_
  refine l_sld v3 dL_law_674 ?_
  refine l_V [.int (xs (nI i + 1).toNatClampNeg), .int (xs (nI i + 2).toNatClampNeg), .int (xs (nI i + 3).toNatClampNeg)] (rest := [.int r]) (m_X9_critic (d := 9) (cs := cs) (Nat.le_refl _) g3) v_X9_critic q_1467 rfl (by decide) g2 rfl rfl (Nat.le_of_ble_eq_true rfl) dL_law_675 (by omega) (by omega) ?_
  refine l_icmp_eq (tgt := 1308) dL_law_678 (by decide) (fun _ => ?_) (fun c => absurd rfl c)
  exact kk _ _ _ (by omega) (by omega) g4
set_option maxRecDepth 100000 in
set_option maxHeartbeats 4000000 in
theorem lc_seated {S0 : hS} {b : Nat} {cs : Nat → Nat} {L : Nat} {xs : Nat → Int32} {kc ks a a2 i : Nat} {S : hS} {Rel : hS → Prop} (hs : steps Rel a a2) (hR : Rel S) (hL : L ≤ 3072) (hi : i + 6 ≤ L) (h1 : kc ≤ 500000) (h2 : ks ≤ 7000000) (kk : ∀ (kc' ks' : Nat) (T : hS), kc' ≤ kc + 24 → ks' ≤ ks + 1320 → Rel T → HL S0 b cs L xs kc' ks' T 1308 [(0, .ref b), (1, .ref a), (2, .ref a2), (3, .int (nI i))] []) : HL S0 b cs L xs kc ks S 683 [(0, .ref b), (1, .ref a), (2, .ref a2), (3, .int (nI i))] [] := by
  have hb := (hs.1 S hR).1
  obtain ⟨r, S1, S2, g1, g2, g3, g4⟩ := (hs.2.2.2.2.2.2.2.2.2.2.2.2.2.2.2.2.1) S (xs (nI i + 1).toNatClampNeg) (xs (nI i + 2).toNatClampNeg) (xs (nI i + 3).toNatClampNeg) (xs (nI i + 4).toNatClampNeg) hR
  have v1 : vp_in (nI i + 1) L := by rw [show (1 : Int32) = nI 1 from rfl, nI_add]; exact vp_in_nI (by omega) (by omega)
  have v2 : vp_in (nI i + 2) L := by rw [show (2 : Int32) = nI 2 from rfl, nI_add]; exact vp_in_nI (by omega) (by omega)
  have v3 : vp_in (nI i + 3) L := by rw [show (3 : Int32) = nI 3 from rfl, nI_add]; exact vp_in_nI (by omega) (by omega)
  have v4 : vp_in (nI i + 4) L := by rw [show (4 : Int32) = nI 4 from rfl, nI_add]; exact vp_in_nI (by omega) (by omega)
  refine l_aload_n dL_law_683 rfl 1 rfl ?_
  refine l_aload_n dL_law_684 rfl 0 rfl ?_
  refine l_iload_n dL_law_685 rfl 3 rfl ?_
  refine l_iconst (v := 1) dL_law_686 rfl ?_
  refine l_iadd dL_law_687 ?_
  refine l_sld v1 dL_law_688 ?_
  refine l_aload_n dL_law_689 rfl 0 rfl ?_
  refine l_iload_n dL_law_690 rfl 3 rfl ?_
  refine l_iconst (v := 2) dL_law_691 rfl ?_
  refine l_iadd dL_law_692 ?_
  refine l_sld v2 dL_law_693 ?_
  refine l_aload_n dL_law_694 rfl 0 rfl ?_
  refine l_iload_n dL_law_695 rfl 3 rfl ?_
  refine l_iconst (v := 3) dL_law_696 rfl ?_
  refine l_iadd dL_law_697 ?_
  refine l_sld v3 dL_law_698 ?_
  refine l_aload_n dL_law_699 rfl 0 rfl ?_
  refine l_iload_n dL_law_700 rfl 3 rfl ?_
  refine l_iconst (v := 4) dL_law_701 rfl ?_
  refine l_iadd dL_law_702 ?_
  refine l_sld v4 dL_law_703 ?_
  refine l_V [.int (xs (nI i + 1).toNatClampNeg), .int (xs (nI i + 2).toNatClampNeg), .int (xs (nI i + 3).toNatClampNeg), .int (xs (nI i + 4).toNatClampNeg)] (rest := []) (m_X8_seated (d := 8) (cs := cs) (Nat.le_refl _) g1) v_X8_seated q_803 rfl (by decide) hb rfl rfl (Nat.le_of_ble_eq_true rfl) dL_law_704 (by omega) (by omega) ?_
  refine l_aload_n dL_law_707 rfl 2 rfl ?_
  refine l_aload_n dL_law_708 rfl 0 rfl ?_
  refine l_iload_n dL_law_709 rfl 3 rfl ?_
  refine l_iconst (v := 1) dL_law_710 rfl ?_
  refine l_iadd dL_law_711 ?_
  refine l_sld v1 dL_law_712 ?_
  refine l_aload_n dL_law_713 rfl 0 rfl ?_
  refine l_iload_n dL_law_714 rfl 3 rfl ?_
  refine l_iconst (v := 2) dL_law_715 rfl ?_
  refine l_iadd dL_law_716 ?_
  refine l_sld v2 dL_law_717 ?_
  refine l_aload_n dL_law_718 rfl 0 rfl ?_
  refine l_iload_n dL_law_719 rfl 3 rfl ?_
  refine l_iconst (v := 3) dL_law_720 rfl ?_
  refine l_iadd dL_law_721 ?_
  refine l_sld v3 dL_law_722 ?_
  refine l_aload_n dL_law_723 rfl 0 rfl ?_
  refine l_iload_n dL_law_724 rfl 3 rfl ?_
  refine l_iconst (v := 4) dL_law_725 rfl ?_
  refine l_iadd dL_law_726 ?_
  refine l_sld v4 dL_law_727 ?_
  refine l_V [.int (xs (nI i + 1).toNatClampNeg), .int (xs (nI i + 2).toNatClampNeg), .int (xs (nI i + 3).toNatClampNeg), .int (xs (nI i + 4).toNatClampNeg)] (rest := [.int r]) (m_X9_seated (d := 10) (cs := cs) (Nat.le_refl _) g3) v_X9_seated q_1471 rfl (by decide) g2 rfl rfl (Nat.le_of_ble_eq_true rfl) dL_law_728 (by omega) (by omega) ?_
  refine l_icmp_eq (tgt := 1308) dL_law_731 (by decide) (fun _ => ?_) (fun c => absurd rfl c)
  exact kk _ _ _ (by omega) (by omega) g4
set_option maxRecDepth 100000 in
set_option maxHeartbeats 4000000 in
theorem lc_changed {S0 : hS} {b : Nat} {cs : Nat → Nat} {L : Nat} {xs : Nat → Int32} {kc ks a a2 i : Nat} {S : hS} {Rel : hS → Prop} (hs : steps Rel a a2) (hR : Rel S) (hL : L ≤ 3072) (hi : i + 6 ≤ L) (h1 : kc ≤ 500000) (h2 : ks ≤ 7000000) (kk : ∀ (kc' ks' : Nat) (T : hS), kc' ≤ kc + 24 → ks' ≤ ks + 1320 → Rel T → HL S0 b cs L xs kc' ks' T 1308 [(0, .ref b), (1, .ref a), (2, .ref a2), (3, .int (nI i))] []) : HL S0 b cs L xs kc ks S 736 [(0, .ref b), (1, .ref a), (2, .ref a2), (3, .int (nI i))] [] := by
  have hb := (hs.1 S hR).1
  obtain ⟨r, S1, S2, g1, g2, g3, g4⟩ := (hs.2.2.2.2.2.2.2.2.2.2.2.2.2.2.2.2.2.1) S (xs (nI i + 1).toNatClampNeg) (xs (nI i + 2).toNatClampNeg) (xs (nI i + 3).toNatClampNeg) hR
  have v1 : vp_in (nI i + 1) L := by rw [show (1 : Int32) = nI 1 from rfl, nI_add]; exact vp_in_nI (by omega) (by omega)
  have v2 : vp_in (nI i + 2) L := by rw [show (2 : Int32) = nI 2 from rfl, nI_add]; exact vp_in_nI (by omega) (by omega)
  have v3 : vp_in (nI i + 3) L := by rw [show (3 : Int32) = nI 3 from rfl, nI_add]; exact vp_in_nI (by omega) (by omega)
  refine l_aload_n dL_law_736 rfl 1 rfl ?_
  refine l_aload_n dL_law_737 rfl 0 rfl ?_
  refine l_iload_n dL_law_738 rfl 3 rfl ?_
  refine l_iconst (v := 1) dL_law_739 rfl ?_
  refine l_iadd dL_law_740 ?_
  refine l_sld v1 dL_law_741 ?_
  refine l_aload_n dL_law_742 rfl 0 rfl ?_
  refine l_iload_n dL_law_743 rfl 3 rfl ?_
  refine l_iconst (v := 2) dL_law_744 rfl ?_
  refine l_iadd dL_law_745 ?_
  refine l_sld v2 dL_law_746 ?_
  refine l_aload_n dL_law_747 rfl 0 rfl ?_
  refine l_iload_n dL_law_748 rfl 3 rfl ?_
  refine l_iconst (v := 3) dL_law_749 rfl ?_
  refine l_iadd dL_law_750 ?_
  refine l_sld v3 dL_law_751 ?_
  refine l_V [.int (xs (nI i + 1).toNatClampNeg), .int (xs (nI i + 2).toNatClampNeg), .int (xs (nI i + 3).toNatClampNeg)] (rest := []) (m_X8_changed (d := 7) (cs := cs) (Nat.le_refl _) g1) v_X8_changed q_841 rfl (by decide) hb rfl rfl (Nat.le_of_ble_eq_true rfl) dL_law_752 (by omega) (by omega) ?_
  refine l_aload_n dL_law_755 rfl 2 rfl ?_
  refine l_aload_n dL_law_756 rfl 0 rfl ?_
  refine l_iload_n dL_law_757 rfl 3 rfl ?_
  refine l_iconst (v := 1) dL_law_758 rfl ?_
  refine l_iadd dL_law_759 ?_
  refine l_sld v1 dL_law_760 ?_
  refine l_aload_n dL_law_761 rfl 0 rfl ?_
  refine l_iload_n dL_law_762 rfl 3 rfl ?_
  refine l_iconst (v := 2) dL_law_763 rfl ?_
  refine l_iadd dL_law_764 ?_
  refine l_sld v2 dL_law_765 ?_
  refine l_aload_n dL_law_766 rfl 0 rfl ?_
  refine l_iload_n dL_law_767 rfl 3 rfl ?_
  refine l_iconst (v := 3) dL_law_768 rfl ?_
  refine l_iadd dL_law_769 ?_
  refine l_sld v3 dL_law_770 ?_
  refine l_V [.int (xs (nI i + 1).toNatClampNeg), .int (xs (nI i + 2).toNatClampNeg), .int (xs (nI i + 3).toNatClampNeg)] (rest := [.int r]) (m_X9_changed (d := 9) (cs := cs) (Nat.le_refl _) g3) v_X9_changed q_1480 rfl (by decide) g2 rfl rfl (Nat.le_of_ble_eq_true rfl) dL_law_771 (by omega) (by omega) ?_
  refine l_icmp_eq (tgt := 1308) dL_law_774 (by decide) (fun _ => ?_) (fun c => absurd rfl c)
  exact kk _ _ _ (by omega) (by omega) g4
set_option maxRecDepth 100000 in
set_option maxHeartbeats 4000000 in
theorem lc_without {S0 : hS} {b : Nat} {cs : Nat → Nat} {L : Nat} {xs : Nat → Int32} {kc ks a a2 i : Nat} {S : hS} {Rel : hS → Prop} (hs : steps Rel a a2) (hR : Rel S) (hL : L ≤ 3072) (hi : i + 6 ≤ L) (h1 : kc ≤ 500000) (h2 : ks ≤ 7000000) (kk : ∀ (kc' ks' : Nat) (T : hS), kc' ≤ kc + 24 → ks' ≤ ks + 1320 → Rel T → HL S0 b cs L xs kc' ks' T 1308 [(0, .ref b), (1, .ref a), (2, .ref a2), (3, .int (nI i))] []) : HL S0 b cs L xs kc ks S 779 [(0, .ref b), (1, .ref a), (2, .ref a2), (3, .int (nI i))] [] := by
  have hb := (hs.1 S hR).1
  obtain ⟨r, S1, S2, g1, g2, g3, g4⟩ := (hs.2.2.2.2.2.2.2.2.2.2.2.2.2.2.2.2.2.2.1) S (xs (nI i + 1).toNatClampNeg) (xs (nI i + 2).toNatClampNeg) (xs (nI i + 3).toNatClampNeg) hR
  have v1 : vp_in (nI i + 1) L := by rw [show (1 : Int32) = nI 1 from rfl, nI_add]; exact vp_in_nI (by omega) (by omega)
  have v2 : vp_in (nI i + 2) L := by rw [show (2 : Int32) = nI 2 from rfl, nI_add]; exact vp_in_nI (by omega) (by omega)
  have v3 : vp_in (nI i + 3) L := by rw [show (3 : Int32) = nI 3 from rfl, nI_add]; exact vp_in_nI (by omega) (by omega)
  refine l_aload_n dL_law_779 rfl 1 rfl ?_
  refine l_aload_n dL_law_780 rfl 0 rfl ?_
  refine l_iload_n dL_law_781 rfl 3 rfl ?_
  refine l_iconst (v := 1) dL_law_782 rfl ?_
  refine l_iadd dL_law_783 ?_
  refine l_sld v1 dL_law_784 ?_
  refine l_aload_n dL_law_785 rfl 0 rfl ?_
  refine l_iload_n dL_law_786 rfl 3 rfl ?_
  refine l_iconst (v := 2) dL_law_787 rfl ?_
  refine l_iadd dL_law_788 ?_
  refine l_sld v2 dL_law_789 ?_
  refine l_aload_n dL_law_790 rfl 0 rfl ?_
  refine l_iload_n dL_law_791 rfl 3 rfl ?_
  refine l_iconst (v := 3) dL_law_792 rfl ?_
  refine l_iadd dL_law_793 ?_
  refine l_sld v3 dL_law_794 ?_
  refine l_V [.int (xs (nI i + 1).toNatClampNeg), .int (xs (nI i + 2).toNatClampNeg), .int (xs (nI i + 3).toNatClampNeg)] (rest := []) (m_X8_without (d := 8) (cs := cs) (Nat.le_refl _) g1) v_X8_without q_845 rfl (by decide) hb rfl rfl (Nat.le_of_ble_eq_true rfl) dL_law_795 (by omega) (by omega) ?_
  refine l_aload_n dL_law_798 rfl 2 rfl ?_
  refine l_aload_n dL_law_799 rfl 0 rfl ?_
  refine l_iload_n dL_law_800 rfl 3 rfl ?_
  refine l_iconst (v := 1) dL_law_801 rfl ?_
  refine l_iadd dL_law_802 ?_
  refine l_sld v1 dL_law_803 ?_
  refine l_aload_n dL_law_804 rfl 0 rfl ?_
  refine l_iload_n dL_law_805 rfl 3 rfl ?_
  refine l_iconst (v := 2) dL_law_806 rfl ?_
  refine l_iadd dL_law_807 ?_
  refine l_sld v2 dL_law_808 ?_
  refine l_aload_n dL_law_809 rfl 0 rfl ?_
  refine l_iload_n dL_law_810 rfl 3 rfl ?_
  refine l_iconst (v := 3) dL_law_811 rfl ?_
  refine l_iadd dL_law_812 ?_
  refine l_sld v3 dL_law_813 ?_
  refine l_V [.int (xs (nI i + 1).toNatClampNeg), .int (xs (nI i + 2).toNatClampNeg), .int (xs (nI i + 3).toNatClampNeg)] (rest := [.int r]) (m_X9_without (d := 10) (cs := cs) (Nat.le_refl _) g3) v_X9_without q_1484 rfl (by decide) g2 rfl rfl (Nat.le_of_ble_eq_true rfl) dL_law_814 (by omega) (by omega) ?_
  refine l_icmp_eq (tgt := 1308) dL_law_817 (by decide) (fun _ => ?_) (fun c => absurd rfl c)
  exact kk _ _ _ (by omega) (by omega) g4
set_option maxRecDepth 100000 in
set_option maxHeartbeats 4000000 in
theorem lc_baron {S0 : hS} {b : Nat} {cs : Nat → Nat} {L : Nat} {xs : Nat → Int32} {kc ks a a2 i : Nat} {S : hS} {Rel : hS → Prop} (hs : steps Rel a a2) (hR : Rel S) (hL : L ≤ 3072) (hi : i + 6 ≤ L) (h1 : kc ≤ 500000) (h2 : ks ≤ 7000000) (kk : ∀ (kc' ks' : Nat) (T : hS), kc' ≤ kc + 24 → ks' ≤ ks + 1320 → Rel T → HL S0 b cs L xs kc' ks' T 1308 [(0, .ref b), (1, .ref a), (2, .ref a2), (3, .int (nI i))] []) : HL S0 b cs L xs kc ks S 822 [(0, .ref b), (1, .ref a), (2, .ref a2), (3, .int (nI i))] [] := by
  have hb := (hs.1 S hR).1
  obtain ⟨r, S1, S2, g1, g2, g3, g4⟩ := (hs.2.2.2.2.2.2.2.2.2.2.2.2.2.2.2.2.2.2.2.1) S (xs (nI i + 1).toNatClampNeg) (xs (nI i + 2).toNatClampNeg) (xs (nI i + 3).toNatClampNeg) hR
  have v1 : vp_in (nI i + 1) L := by rw [show (1 : Int32) = nI 1 from rfl, nI_add]; exact vp_in_nI (by omega) (by omega)
  have v2 : vp_in (nI i + 2) L := by rw [show (2 : Int32) = nI 2 from rfl, nI_add]; exact vp_in_nI (by omega) (by omega)
  have v3 : vp_in (nI i + 3) L := by rw [show (3 : Int32) = nI 3 from rfl, nI_add]; exact vp_in_nI (by omega) (by omega)
  refine l_aload_n dL_law_822 rfl 1 rfl ?_
  refine l_aload_n dL_law_823 rfl 0 rfl ?_
  refine l_iload_n dL_law_824 rfl 3 rfl ?_
  refine l_iconst (v := 1) dL_law_825 rfl ?_
  refine l_iadd dL_law_826 ?_
  refine l_sld v1 dL_law_827 ?_
  refine l_aload_n dL_law_828 rfl 0 rfl ?_
  refine l_iload_n dL_law_829 rfl 3 rfl ?_
  refine l_iconst (v := 2) dL_law_830 rfl ?_
  refine l_iadd dL_law_831 ?_
  refine l_sld v2 dL_law_832 ?_
  refine l_aload_n dL_law_833 rfl 0 rfl ?_
  refine l_iload_n dL_law_834 rfl 3 rfl ?_
  refine l_iconst (v := 3) dL_law_835 rfl ?_
  refine l_iadd dL_law_836 ?_
  refine l_sld v3 dL_law_837 ?_
  refine l_V [.int (xs (nI i + 1).toNatClampNeg), .int (xs (nI i + 2).toNatClampNeg), .int (xs (nI i + 3).toNatClampNeg)] (rest := []) (m_X8_baron (d := 8) (cs := cs) (Nat.le_refl _) g1) v_X8_baron q_854 rfl (by decide) hb rfl rfl (Nat.le_of_ble_eq_true rfl) dL_law_838 (by omega) (by omega) ?_
  refine l_aload_n dL_law_841 rfl 2 rfl ?_
  refine l_aload_n dL_law_842 rfl 0 rfl ?_
  refine l_iload_n dL_law_843 rfl 3 rfl ?_
  refine l_iconst (v := 1) dL_law_844 rfl ?_
  refine l_iadd dL_law_845 ?_
  refine l_sld v1 dL_law_846 ?_
  refine l_aload_n dL_law_847 rfl 0 rfl ?_
  refine l_iload_n dL_law_848 rfl 3 rfl ?_
  refine l_iconst (v := 2) dL_law_849 rfl ?_
  refine l_iadd dL_law_850 ?_
  refine l_sld v2 dL_law_851 ?_
  refine l_aload_n dL_law_852 rfl 0 rfl ?_
  refine l_iload_n dL_law_853 rfl 3 rfl ?_
  refine l_iconst (v := 3) dL_law_854 rfl ?_
  refine l_iadd dL_law_855 ?_
  refine l_sld v3 dL_law_856 ?_
  refine l_V [.int (xs (nI i + 1).toNatClampNeg), .int (xs (nI i + 2).toNatClampNeg), .int (xs (nI i + 3).toNatClampNeg)] (rest := [.int r]) (m_X9_baron (d := 10) (cs := cs) (Nat.le_refl _) g3) v_X9_baron q_1495 rfl (by decide) g2 rfl rfl (Nat.le_of_ble_eq_true rfl) dL_law_857 (by omega) (by omega) ?_
  refine l_icmp_eq (tgt := 1308) dL_law_860 (by decide) (fun _ => ?_) (fun c => absurd rfl c)
  exact kk _ _ _ (by omega) (by omega) g4
set_option maxRecDepth 100000 in
set_option maxHeartbeats 4000000 in
theorem lc_led {S0 : hS} {b : Nat} {cs : Nat → Nat} {L : Nat} {xs : Nat → Int32} {kc ks a a2 i : Nat} {S : hS} {Rel : hS → Prop} (hs : steps Rel a a2) (hR : Rel S) (hL : L ≤ 3072) (hi : i + 6 ≤ L) (h1 : kc ≤ 500000) (h2 : ks ≤ 7000000) (kk : ∀ (kc' ks' : Nat) (T : hS), kc' ≤ kc + 24 → ks' ≤ ks + 1320 → Rel T → HL S0 b cs L xs kc' ks' T 1308 [(0, .ref b), (1, .ref a), (2, .ref a2), (3, .int (nI i))] []) : HL S0 b cs L xs kc ks S 865 [(0, .ref b), (1, .ref a), (2, .ref a2), (3, .int (nI i))] [] := by
  have hb := (hs.1 S hR).1
  obtain ⟨r, S1, S2, g1, g2, g3, g4⟩ := (hs.2.2.2.2.2.2.2.2.2.2.2.2.2.2.2.2.2.2.2.2.1) S (xs (nI i + 1).toNatClampNeg) (xs (nI i + 2).toNatClampNeg) hR
  have v1 : vp_in (nI i + 1) L := by rw [show (1 : Int32) = nI 1 from rfl, nI_add]; exact vp_in_nI (by omega) (by omega)
  have v2 : vp_in (nI i + 2) L := by rw [show (2 : Int32) = nI 2 from rfl, nI_add]; exact vp_in_nI (by omega) (by omega)
  refine l_aload_n dL_law_865 rfl 1 rfl ?_
  refine l_aload_n dL_law_866 rfl 0 rfl ?_
  refine l_iload_n dL_law_867 rfl 3 rfl ?_
  refine l_iconst (v := 1) dL_law_868 rfl ?_
  refine l_iadd dL_law_869 ?_
  refine l_sld v1 dL_law_870 ?_
  refine l_aload_n dL_law_871 rfl 0 rfl ?_
  refine l_iload_n dL_law_872 rfl 3 rfl ?_
  refine l_iconst (v := 2) dL_law_873 rfl ?_
  refine l_iadd dL_law_874 ?_
  refine l_sld v2 dL_law_875 ?_
  refine l_V [.int (xs (nI i + 1).toNatClampNeg), .int (xs (nI i + 2).toNatClampNeg)] (rest := []) (m_X8_led (d := 8) (cs := cs) (Nat.le_refl _) g1) v_X8_led q_858 rfl (by decide) hb rfl rfl (Nat.le_of_ble_eq_true rfl) dL_law_876 (by omega) (by omega) ?_
  refine l_aload_n dL_law_879 rfl 2 rfl ?_
  refine l_aload_n dL_law_880 rfl 0 rfl ?_
  refine l_iload_n dL_law_881 rfl 3 rfl ?_
  refine l_iconst (v := 1) dL_law_882 rfl ?_
  refine l_iadd dL_law_883 ?_
  refine l_sld v1 dL_law_884 ?_
  refine l_aload_n dL_law_885 rfl 0 rfl ?_
  refine l_iload_n dL_law_886 rfl 3 rfl ?_
  refine l_iconst (v := 2) dL_law_887 rfl ?_
  refine l_iadd dL_law_888 ?_
  refine l_sld v2 dL_law_889 ?_
  refine l_V [.int (xs (nI i + 1).toNatClampNeg), .int (xs (nI i + 2).toNatClampNeg)] (rest := [.int r]) (m_X9_led (d := 10) (cs := cs) (Nat.le_refl _) g3) v_X9_led q_1499 rfl (by decide) g2 rfl rfl (Nat.le_of_ble_eq_true rfl) dL_law_890 (by omega) (by omega) ?_
  refine l_icmp_eq (tgt := 1308) dL_law_893 (by decide) (fun _ => ?_) (fun c => absurd rfl c)
  exact kk _ _ _ (by omega) (by omega) g4
set_option maxRecDepth 100000 in
set_option maxHeartbeats 4000000 in
theorem lc_fanned {S0 : hS} {b : Nat} {cs : Nat → Nat} {L : Nat} {xs : Nat → Int32} {kc ks a a2 i : Nat} {S : hS} {Rel : hS → Prop} (hs : steps Rel a a2) (hR : Rel S) (hL : L ≤ 3072) (hi : i + 6 ≤ L) (h1 : kc ≤ 500000) (h2 : ks ≤ 7000000) (kk : ∀ (kc' ks' : Nat) (T : hS), kc' ≤ kc + 24 → ks' ≤ ks + 1320 → Rel T → HL S0 b cs L xs kc' ks' T 1308 [(0, .ref b), (1, .ref a), (2, .ref a2), (3, .int (nI i))] []) : HL S0 b cs L xs kc ks S 898 [(0, .ref b), (1, .ref a), (2, .ref a2), (3, .int (nI i))] [] := by
  have hb := (hs.1 S hR).1
  obtain ⟨r, S1, S2, g1, g2, g3, g4⟩ := (hs.2.2.2.2.2.2.2.2.2.2.2.2.2.2.2.2.2.2.2.2.2.1) S (xs (nI i + 1).toNatClampNeg) (xs (nI i + 2).toNatClampNeg) (xs (nI i + 3).toNatClampNeg) (xs (nI i + 4).toNatClampNeg) (xs (nI i + 5).toNatClampNeg) hR
  have v1 : vp_in (nI i + 1) L := by rw [show (1 : Int32) = nI 1 from rfl, nI_add]; exact vp_in_nI (by omega) (by omega)
  have v2 : vp_in (nI i + 2) L := by rw [show (2 : Int32) = nI 2 from rfl, nI_add]; exact vp_in_nI (by omega) (by omega)
  have v3 : vp_in (nI i + 3) L := by rw [show (3 : Int32) = nI 3 from rfl, nI_add]; exact vp_in_nI (by omega) (by omega)
  have v4 : vp_in (nI i + 4) L := by rw [show (4 : Int32) = nI 4 from rfl, nI_add]; exact vp_in_nI (by omega) (by omega)
  have v5 : vp_in (nI i + 5) L := by rw [show (5 : Int32) = nI 5 from rfl, nI_add]; exact vp_in_nI (by omega) (by omega)
  refine l_aload_n dL_law_898 rfl 1 rfl ?_
  refine l_aload_n dL_law_899 rfl 0 rfl ?_
  refine l_iload_n dL_law_900 rfl 3 rfl ?_
  refine l_iconst (v := 1) dL_law_901 rfl ?_
  refine l_iadd dL_law_902 ?_
  refine l_sld v1 dL_law_903 ?_
  refine l_aload_n dL_law_904 rfl 0 rfl ?_
  refine l_iload_n dL_law_905 rfl 3 rfl ?_
  refine l_iconst (v := 2) dL_law_906 rfl ?_
  refine l_iadd dL_law_907 ?_
  refine l_sld v2 dL_law_908 ?_
  refine l_aload_n dL_law_909 rfl 0 rfl ?_
  refine l_iload_n dL_law_910 rfl 3 rfl ?_
  refine l_iconst (v := 3) dL_law_911 rfl ?_
  refine l_iadd dL_law_912 ?_
  refine l_sld v3 dL_law_913 ?_
  refine l_aload_n dL_law_914 rfl 0 rfl ?_
  refine l_iload_n dL_law_915 rfl 3 rfl ?_
  refine l_iconst (v := 4) dL_law_916 rfl ?_
  refine l_iadd dL_law_917 ?_
  refine l_sld v4 dL_law_918 ?_
  refine l_aload_n dL_law_919 rfl 0 rfl ?_
  refine l_iload_n dL_law_920 rfl 3 rfl ?_
  refine l_iconst (v := 5) dL_law_921 rfl ?_
  refine l_iadd dL_law_922 ?_
  refine l_sld v5 dL_law_923 ?_
  refine l_V [.int (xs (nI i + 1).toNatClampNeg), .int (xs (nI i + 2).toNatClampNeg), .int (xs (nI i + 3).toNatClampNeg), .int (xs (nI i + 4).toNatClampNeg), .int (xs (nI i + 5).toNatClampNeg)] (rest := []) (m_X8_fanned (d := 8) (cs := cs) (Nat.le_refl _) g1) v_X8_fanned q_862 rfl (by decide) hb rfl rfl (Nat.le_of_ble_eq_true rfl) dL_law_924 (by omega) (by omega) ?_
  refine l_aload_n dL_law_927 rfl 2 rfl ?_
  refine l_aload_n dL_law_928 rfl 0 rfl ?_
  refine l_iload_n dL_law_929 rfl 3 rfl ?_
  refine l_iconst (v := 1) dL_law_930 rfl ?_
  refine l_iadd dL_law_931 ?_
  refine l_sld v1 dL_law_932 ?_
  refine l_aload_n dL_law_933 rfl 0 rfl ?_
  refine l_iload_n dL_law_934 rfl 3 rfl ?_
  refine l_iconst (v := 2) dL_law_935 rfl ?_
  refine l_iadd dL_law_936 ?_
  refine l_sld v2 dL_law_937 ?_
  refine l_aload_n dL_law_938 rfl 0 rfl ?_
  refine l_iload_n dL_law_939 rfl 3 rfl ?_
  refine l_iconst (v := 3) dL_law_940 rfl ?_
  refine l_iadd dL_law_941 ?_
  refine l_sld v3 dL_law_942 ?_
  refine l_aload_n dL_law_943 rfl 0 rfl ?_
  refine l_iload_n dL_law_944 rfl 3 rfl ?_
  refine l_iconst (v := 4) dL_law_945 rfl ?_
  refine l_iadd dL_law_946 ?_
  refine l_sld v4 dL_law_947 ?_
  refine l_aload_n dL_law_948 rfl 0 rfl ?_
  refine l_iload_n dL_law_949 rfl 3 rfl ?_
  refine l_iconst (v := 5) dL_law_950 rfl ?_
  refine l_iadd dL_law_951 ?_
  refine l_sld v5 dL_law_952 ?_
  refine l_V [.int (xs (nI i + 1).toNatClampNeg), .int (xs (nI i + 2).toNatClampNeg), .int (xs (nI i + 3).toNatClampNeg), .int (xs (nI i + 4).toNatClampNeg), .int (xs (nI i + 5).toNatClampNeg)] (rest := [.int r]) (m_X9_fanned (d := 10) (cs := cs) (Nat.le_refl _) g3) v_X9_fanned q_1503 rfl (by decide) g2 rfl rfl (Nat.le_of_ble_eq_true rfl) dL_law_953 (by omega) (by omega) ?_
  refine l_icmp_eq (tgt := 1308) dL_law_956 (by decide) (fun _ => ?_) (fun c => absurd rfl c)
  exact kk _ _ _ (by omega) (by omega) g4
set_option maxRecDepth 100000 in
set_option maxHeartbeats 4000000 in
theorem lc_span {S0 : hS} {b : Nat} {cs : Nat → Nat} {L : Nat} {xs : Nat → Int32} {kc ks a a2 i : Nat} {S : hS} {Rel : hS → Prop} (hs : steps Rel a a2) (hR : Rel S) (hL : L ≤ 3072) (hi : i + 6 ≤ L) (h1 : kc ≤ 500000) (h2 : ks ≤ 7000000) (kk : ∀ (kc' ks' : Nat) (T : hS), kc' ≤ kc + 24 → ks' ≤ ks + 1320 → Rel T → HL S0 b cs L xs kc' ks' T 1308 [(0, .ref b), (1, .ref a), (2, .ref a2), (3, .int (nI i))] []) : HL S0 b cs L xs kc ks S 961 [(0, .ref b), (1, .ref a), (2, .ref a2), (3, .int (nI i))] [] := by
  have hb := (hs.1 S hR).1
  obtain ⟨r, S1, S2, g1, g2, g3, g4⟩ := (hs.2.2.2.2.2.2.2.2.2.2.2.2.2.2.2.2.2.2.2.2.2.2.1) S (xs (nI i + 1).toNatClampNeg) (xs (nI i + 2).toNatClampNeg) (xs (nI i + 3).toNatClampNeg) (xs (nI i + 4).toNatClampNeg) (xs (nI i + 5).toNatClampNeg) hR
  have v1 : vp_in (nI i + 1) L := by rw [show (1 : Int32) = nI 1 from rfl, nI_add]; exact vp_in_nI (by omega) (by omega)
  have v2 : vp_in (nI i + 2) L := by rw [show (2 : Int32) = nI 2 from rfl, nI_add]; exact vp_in_nI (by omega) (by omega)
  have v3 : vp_in (nI i + 3) L := by rw [show (3 : Int32) = nI 3 from rfl, nI_add]; exact vp_in_nI (by omega) (by omega)
  have v4 : vp_in (nI i + 4) L := by rw [show (4 : Int32) = nI 4 from rfl, nI_add]; exact vp_in_nI (by omega) (by omega)
  have v5 : vp_in (nI i + 5) L := by rw [show (5 : Int32) = nI 5 from rfl, nI_add]; exact vp_in_nI (by omega) (by omega)
  refine l_aload_n dL_law_961 rfl 1 rfl ?_
  refine l_aload_n dL_law_962 rfl 0 rfl ?_
  refine l_iload_n dL_law_963 rfl 3 rfl ?_
  refine l_iconst (v := 1) dL_law_964 rfl ?_
  refine l_iadd dL_law_965 ?_
  refine l_sld v1 dL_law_966 ?_
  refine l_aload_n dL_law_967 rfl 0 rfl ?_
  refine l_iload_n dL_law_968 rfl 3 rfl ?_
  refine l_iconst (v := 2) dL_law_969 rfl ?_
  refine l_iadd dL_law_970 ?_
  refine l_sld v2 dL_law_971 ?_
  refine l_aload_n dL_law_972 rfl 0 rfl ?_
  refine l_iload_n dL_law_973 rfl 3 rfl ?_
  refine l_iconst (v := 3) dL_law_974 rfl ?_
  refine l_iadd dL_law_975 ?_
  refine l_sld v3 dL_law_976 ?_
  refine l_aload_n dL_law_977 rfl 0 rfl ?_
  refine l_iload_n dL_law_978 rfl 3 rfl ?_
  refine l_iconst (v := 4) dL_law_979 rfl ?_
  refine l_iadd dL_law_980 ?_
  refine l_sld v4 dL_law_981 ?_
  refine l_aload_n dL_law_982 rfl 0 rfl ?_
  refine l_iload_n dL_law_983 rfl 3 rfl ?_
  refine l_iconst (v := 5) dL_law_984 rfl ?_
  refine l_iadd dL_law_985 ?_
  refine l_sld v5 dL_law_986 ?_
  refine l_V [.int (xs (nI i + 1).toNatClampNeg), .int (xs (nI i + 2).toNatClampNeg), .int (xs (nI i + 3).toNatClampNeg), .int (xs (nI i + 4).toNatClampNeg), .int (xs (nI i + 5).toNatClampNeg)] (rest := []) (m_X8_span (d := 8) (cs := cs) (Nat.le_refl _) g1) v_X8_span q_871 rfl (by decide) hb rfl rfl (Nat.le_of_ble_eq_true rfl) dL_law_987 (by omega) (by omega) ?_
  refine l_aload_n dL_law_990 rfl 2 rfl ?_
  refine l_aload_n dL_law_991 rfl 0 rfl ?_
  refine l_iload_n dL_law_992 rfl 3 rfl ?_
  refine l_iconst (v := 1) dL_law_993 rfl ?_
  refine l_iadd dL_law_994 ?_
  refine l_sld v1 dL_law_995 ?_
  refine l_aload_n dL_law_996 rfl 0 rfl ?_
  refine l_iload_n dL_law_997 rfl 3 rfl ?_
  refine l_iconst (v := 2) dL_law_998 rfl ?_
  refine l_iadd dL_law_999 ?_
  refine l_sld v2 dL_law_1000 ?_
  refine l_aload_n dL_law_1001 rfl 0 rfl ?_
  refine l_iload_n dL_law_1002 rfl 3 rfl ?_
  refine l_iconst (v := 3) dL_law_1003 rfl ?_
  refine l_iadd dL_law_1004 ?_
  refine l_sld v3 dL_law_1005 ?_
  refine l_aload_n dL_law_1006 rfl 0 rfl ?_
  refine l_iload_n dL_law_1007 rfl 3 rfl ?_
  refine l_iconst (v := 4) dL_law_1008 rfl ?_
  refine l_iadd dL_law_1009 ?_
  refine l_sld v4 dL_law_1010 ?_
  refine l_aload_n dL_law_1011 rfl 0 rfl ?_
  refine l_iload_n dL_law_1012 rfl 3 rfl ?_
  refine l_iconst (v := 5) dL_law_1013 rfl ?_
  refine l_iadd dL_law_1014 ?_
  refine l_sld v5 dL_law_1015 ?_
  refine l_V [.int (xs (nI i + 1).toNatClampNeg), .int (xs (nI i + 2).toNatClampNeg), .int (xs (nI i + 3).toNatClampNeg), .int (xs (nI i + 4).toNatClampNeg), .int (xs (nI i + 5).toNatClampNeg)] (rest := [.int r]) (m_X9_span (d := 9) (cs := cs) (Nat.le_refl _) g3) v_X9_span q_1512 rfl (by decide) g2 rfl rfl (Nat.le_of_ble_eq_true rfl) dL_law_1016 (by omega) (by omega) ?_
  refine l_icmp_eq (tgt := 1308) dL_law_1019 (by decide) (fun _ => ?_) (fun c => absurd rfl c)
  exact kk _ _ _ (by omega) (by omega) g4
set_option maxRecDepth 100000 in
set_option maxHeartbeats 4000000 in
theorem lc_spy {S0 : hS} {b : Nat} {cs : Nat → Nat} {L : Nat} {xs : Nat → Int32} {kc ks a a2 i : Nat} {S : hS} {Rel : hS → Prop} (hs : steps Rel a a2) (hR : Rel S) (hL : L ≤ 3072) (hi : i + 6 ≤ L) (h1 : kc ≤ 500000) (h2 : ks ≤ 7000000) (kk : ∀ (kc' ks' : Nat) (T : hS), kc' ≤ kc + 24 → ks' ≤ ks + 1320 → Rel T → HL S0 b cs L xs kc' ks' T 1308 [(0, .ref b), (1, .ref a), (2, .ref a2), (3, .int (nI i))] []) : HL S0 b cs L xs kc ks S 1024 [(0, .ref b), (1, .ref a), (2, .ref a2), (3, .int (nI i))] [] := by
  have hb := (hs.1 S hR).1
  obtain ⟨r, S1, S2, g1, g2, g3, g4⟩ := (hs.2.2.2.2.2.2.2.2.2.2.2.2.2.2.2.2.2.2.2.2.2.2.2.1) S (xs (nI i + 1).toNatClampNeg) (xs (nI i + 2).toNatClampNeg) (xs (nI i + 3).toNatClampNeg) (xs (nI i + 4).toNatClampNeg) (xs (nI i + 5).toNatClampNeg) hR
  have v1 : vp_in (nI i + 1) L := by rw [show (1 : Int32) = nI 1 from rfl, nI_add]; exact vp_in_nI (by omega) (by omega)
  have v2 : vp_in (nI i + 2) L := by rw [show (2 : Int32) = nI 2 from rfl, nI_add]; exact vp_in_nI (by omega) (by omega)
  have v3 : vp_in (nI i + 3) L := by rw [show (3 : Int32) = nI 3 from rfl, nI_add]; exact vp_in_nI (by omega) (by omega)
  have v4 : vp_in (nI i + 4) L := by rw [show (4 : Int32) = nI 4 from rfl, nI_add]; exact vp_in_nI (by omega) (by omega)
  have v5 : vp_in (nI i + 5) L := by rw [show (5 : Int32) = nI 5 from rfl, nI_add]; exact vp_in_nI (by omega) (by omega)
  refine l_aload_n dL_law_1024 rfl 1 rfl ?_
  refine l_aload_n dL_law_1025 rfl 0 rfl ?_
  refine l_iload_n dL_law_1026 rfl 3 rfl ?_
  refine l_iconst (v := 1) dL_law_1027 rfl ?_
  refine l_iadd dL_law_1028 ?_
  refine l_sld v1 dL_law_1029 ?_
  refine l_aload_n dL_law_1030 rfl 0 rfl ?_
  refine l_iload_n dL_law_1031 rfl 3 rfl ?_
  refine l_iconst (v := 2) dL_law_1032 rfl ?_
  refine l_iadd dL_law_1033 ?_
  refine l_sld v2 dL_law_1034 ?_
  refine l_aload_n dL_law_1035 rfl 0 rfl ?_
  refine l_iload_n dL_law_1036 rfl 3 rfl ?_
  refine l_iconst (v := 3) dL_law_1037 rfl ?_
  refine l_iadd dL_law_1038 ?_
  refine l_sld v3 dL_law_1039 ?_
  refine l_aload_n dL_law_1040 rfl 0 rfl ?_
  refine l_iload_n dL_law_1041 rfl 3 rfl ?_
  refine l_iconst (v := 4) dL_law_1042 rfl ?_
  refine l_iadd dL_law_1043 ?_
  refine l_sld v4 dL_law_1044 ?_
  refine l_aload_n dL_law_1045 rfl 0 rfl ?_
  refine l_iload_n dL_law_1046 rfl 3 rfl ?_
  refine l_iconst (v := 5) dL_law_1047 rfl ?_
  refine l_iadd dL_law_1048 ?_
  refine l_sld v5 dL_law_1049 ?_
  refine l_V [.int (xs (nI i + 1).toNatClampNeg), .int (xs (nI i + 2).toNatClampNeg), .int (xs (nI i + 3).toNatClampNeg), .int (xs (nI i + 4).toNatClampNeg), .int (xs (nI i + 5).toNatClampNeg)] (rest := []) (m_X8_spy (d := 6) (cs := cs) (Nat.le_refl _) g1) v_X8_spy q_891 rfl (by decide) hb rfl rfl (Nat.le_of_ble_eq_true rfl) dL_law_1050 (by omega) (by omega) ?_
  refine l_aload_n dL_law_1053 rfl 2 rfl ?_
  refine l_aload_n dL_law_1054 rfl 0 rfl ?_
  refine l_iload_n dL_law_1055 rfl 3 rfl ?_
  refine l_iconst (v := 1) dL_law_1056 rfl ?_
  refine l_iadd dL_law_1057 ?_
  refine l_sld v1 dL_law_1058 ?_
  refine l_aload_n dL_law_1059 rfl 0 rfl ?_
  refine l_iload_n dL_law_1060 rfl 3 rfl ?_
  refine l_iconst (v := 2) dL_law_1061 rfl ?_
  refine l_iadd dL_law_1062 ?_
  refine l_sld v2 dL_law_1063 ?_
  refine l_aload_n dL_law_1064 rfl 0 rfl ?_
  refine l_iload_n dL_law_1065 rfl 3 rfl ?_
  refine l_iconst (v := 3) dL_law_1066 rfl ?_
  refine l_iadd dL_law_1067 ?_
  refine l_sld v3 dL_law_1068 ?_
  refine l_aload_n dL_law_1069 rfl 0 rfl ?_
  refine l_iload_n dL_law_1070 rfl 3 rfl ?_
  refine l_iconst (v := 4) dL_law_1071 rfl ?_
  refine l_iadd dL_law_1072 ?_
  refine l_sld v4 dL_law_1073 ?_
  refine l_aload_n dL_law_1074 rfl 0 rfl ?_
  refine l_iload_n dL_law_1075 rfl 3 rfl ?_
  refine l_iconst (v := 5) dL_law_1076 rfl ?_
  refine l_iadd dL_law_1077 ?_
  refine l_sld v5 dL_law_1078 ?_
  refine l_V [.int (xs (nI i + 1).toNatClampNeg), .int (xs (nI i + 2).toNatClampNeg), .int (xs (nI i + 3).toNatClampNeg), .int (xs (nI i + 4).toNatClampNeg), .int (xs (nI i + 5).toNatClampNeg)] (rest := [.int r]) (m_X9_spy (d := 8) (cs := cs) (Nat.le_refl _) g3) v_X9_spy q_1518 rfl (by decide) g2 rfl rfl (Nat.le_of_ble_eq_true rfl) dL_law_1079 (by omega) (by omega) ?_
  refine l_icmp_eq (tgt := 1308) dL_law_1082 (by decide) (fun _ => ?_) (fun c => absurd rfl c)
  exact kk _ _ _ (by omega) (by omega) g4
set_option maxRecDepth 100000 in
set_option maxHeartbeats 4000000 in
theorem lc_seed {S0 : hS} {b : Nat} {cs : Nat → Nat} {L : Nat} {xs : Nat → Int32} {kc ks a a2 i : Nat} {S : hS} {Rel : hS → Prop} (hs : steps Rel a a2) (hR : Rel S) (hL : L ≤ 3072) (hi : i + 6 ≤ L) (h1 : kc ≤ 500000) (h2 : ks ≤ 7000000) (kk : ∀ (kc' ks' : Nat) (T : hS), kc' ≤ kc + 24 → ks' ≤ ks + 1320 → Rel T → HL S0 b cs L xs kc' ks' T 1308 [(0, .ref b), (1, .ref a), (2, .ref a2), (3, .int (nI i))] []) : HL S0 b cs L xs kc ks S 1087 [(0, .ref b), (1, .ref a), (2, .ref a2), (3, .int (nI i))] [] := by
  have hb := (hs.1 S hR).1
  obtain ⟨r, S1, S2, g1, g2, g3, g4⟩ := (hs.2.2.2.2.2.2.2.2.2.2.2.2.2.2.2.2.2.2.2.2.2.2.2.2.1) S (xs (nI i + 1).toNatClampNeg) hR
  have v1 : vp_in (nI i + 1) L := by rw [show (1 : Int32) = nI 1 from rfl, nI_add]; exact vp_in_nI (by omega) (by omega)
  refine l_aload_n dL_law_1087 rfl 1 rfl ?_
  refine l_aload_n dL_law_1088 rfl 0 rfl ?_
  refine l_iload_n dL_law_1089 rfl 3 rfl ?_
  refine l_iconst (v := 1) dL_law_1090 rfl ?_
  refine l_iadd dL_law_1091 ?_
  refine l_sld v1 dL_law_1092 ?_
  refine l_V [.int (xs (nI i + 1).toNatClampNeg)] (rest := []) (m_X8_seed (d := 1) (cs := cs) (Nat.le_refl _) g1) v_X8_seed q_908 rfl (by decide) hb rfl rfl (Nat.le_of_ble_eq_true rfl) dL_law_1093 (by omega) (by omega) ?_
  refine l_aload_n dL_law_1096 rfl 2 rfl ?_
  refine l_aload_n dL_law_1097 rfl 0 rfl ?_
  refine l_iload_n dL_law_1098 rfl 3 rfl ?_
  refine l_iconst (v := 1) dL_law_1099 rfl ?_
  refine l_iadd dL_law_1100 ?_
  refine l_sld v1 dL_law_1101 ?_
  refine l_V [.int (xs (nI i + 1).toNatClampNeg)] (rest := [.int r]) (m_X9_seed (d := 1) (cs := cs) (Nat.le_refl _) g3) v_X9_seed q_1534 rfl (by decide) g2 rfl rfl (Nat.le_of_ble_eq_true rfl) dL_law_1102 (by omega) (by omega) ?_
  refine l_icmp_eq (tgt := 1308) dL_law_1105 (by decide) (fun _ => ?_) (fun c => absurd rfl c)
  exact kk _ _ _ (by omega) (by omega) g4
set_option maxRecDepth 100000 in
set_option maxHeartbeats 4000000 in
theorem lc_evenings {S0 : hS} {b : Nat} {cs : Nat → Nat} {L : Nat} {xs : Nat → Int32} {kc ks a a2 i : Nat} {S : hS} {Rel : hS → Prop} (hs : steps Rel a a2) (hR : Rel S) (hL : L ≤ 3072) (hi : i + 6 ≤ L) (h1 : kc ≤ 500000) (h2 : ks ≤ 7000000) (kk : ∀ (kc' ks' : Nat) (T : hS), kc' ≤ kc + 24 → ks' ≤ ks + 1320 → Rel T → HL S0 b cs L xs kc' ks' T 1308 [(0, .ref b), (1, .ref a), (2, .ref a2), (3, .int (nI i))] []) : HL S0 b cs L xs kc ks S 1110 [(0, .ref b), (1, .ref a), (2, .ref a2), (3, .int (nI i))] [] := by
  have hb := (hs.1 S hR).1
  obtain ⟨r, S1, S2, g1, g2, g3, g4⟩ := (hs.2.2.2.2.2.2.2.2.2.2.2.2.2.2.2.2.2.2.2.2.2.2.2.2.2.1) S (xs (nI i + 1).toNatClampNeg) (xs (nI i + 2).toNatClampNeg) (xs (nI i + 3).toNatClampNeg) (xs (nI i + 4).toNatClampNeg) (xs (nI i + 5).toNatClampNeg) hR
  have v1 : vp_in (nI i + 1) L := by rw [show (1 : Int32) = nI 1 from rfl, nI_add]; exact vp_in_nI (by omega) (by omega)
  have v2 : vp_in (nI i + 2) L := by rw [show (2 : Int32) = nI 2 from rfl, nI_add]; exact vp_in_nI (by omega) (by omega)
  have v3 : vp_in (nI i + 3) L := by rw [show (3 : Int32) = nI 3 from rfl, nI_add]; exact vp_in_nI (by omega) (by omega)
  have v4 : vp_in (nI i + 4) L := by rw [show (4 : Int32) = nI 4 from rfl, nI_add]; exact vp_in_nI (by omega) (by omega)
  have v5 : vp_in (nI i + 5) L := by rw [show (5 : Int32) = nI 5 from rfl, nI_add]; exact vp_in_nI (by omega) (by omega)
  refine l_aload_n dL_law_1110 rfl 1 rfl ?_
  refine l_aload_n dL_law_1111 rfl 0 rfl ?_
  refine l_iload_n dL_law_1112 rfl 3 rfl ?_
  refine l_iconst (v := 1) dL_law_1113 rfl ?_
  refine l_iadd dL_law_1114 ?_
  refine l_sld v1 dL_law_1115 ?_
  refine l_aload_n dL_law_1116 rfl 0 rfl ?_
  refine l_iload_n dL_law_1117 rfl 3 rfl ?_
  refine l_iconst (v := 2) dL_law_1118 rfl ?_
  refine l_iadd dL_law_1119 ?_
  refine l_sld v2 dL_law_1120 ?_
  refine l_aload_n dL_law_1121 rfl 0 rfl ?_
  refine l_iload_n dL_law_1122 rfl 3 rfl ?_
  refine l_iconst (v := 3) dL_law_1123 rfl ?_
  refine l_iadd dL_law_1124 ?_
  refine l_sld v3 dL_law_1125 ?_
  refine l_aload_n dL_law_1126 rfl 0 rfl ?_
  refine l_iload_n dL_law_1127 rfl 3 rfl ?_
  refine l_iconst (v := 4) dL_law_1128 rfl ?_
  refine l_iadd dL_law_1129 ?_
  refine l_sld v4 dL_law_1130 ?_
  refine l_aload_n dL_law_1131 rfl 0 rfl ?_
  refine l_iload_n dL_law_1132 rfl 3 rfl ?_
  refine l_iconst (v := 5) dL_law_1133 rfl ?_
  refine l_iadd dL_law_1134 ?_
  refine l_sld v5 dL_law_1135 ?_
  refine l_V [.int (xs (nI i + 1).toNatClampNeg), .int (xs (nI i + 2).toNatClampNeg), .int (xs (nI i + 3).toNatClampNeg), .int (xs (nI i + 4).toNatClampNeg), .int (xs (nI i + 5).toNatClampNeg)] (rest := []) (m_X8_evenings (d := 7) (cs := cs) (Nat.le_refl _) g1) v_X8_evenings q_912 rfl (by decide) hb rfl rfl (Nat.le_of_ble_eq_true rfl) dL_law_1136 (by omega) (by omega) ?_
  refine l_aload_n dL_law_1139 rfl 2 rfl ?_
  refine l_aload_n dL_law_1140 rfl 0 rfl ?_
  refine l_iload_n dL_law_1141 rfl 3 rfl ?_
  refine l_iconst (v := 1) dL_law_1142 rfl ?_
  refine l_iadd dL_law_1143 ?_
  refine l_sld v1 dL_law_1144 ?_
  refine l_aload_n dL_law_1145 rfl 0 rfl ?_
  refine l_iload_n dL_law_1146 rfl 3 rfl ?_
  refine l_iconst (v := 2) dL_law_1147 rfl ?_
  refine l_iadd dL_law_1148 ?_
  refine l_sld v2 dL_law_1149 ?_
  refine l_aload_n dL_law_1150 rfl 0 rfl ?_
  refine l_iload_n dL_law_1151 rfl 3 rfl ?_
  refine l_iconst (v := 3) dL_law_1152 rfl ?_
  refine l_iadd dL_law_1153 ?_
  refine l_sld v3 dL_law_1154 ?_
  refine l_aload_n dL_law_1155 rfl 0 rfl ?_
  refine l_iload_n dL_law_1156 rfl 3 rfl ?_
  refine l_iconst (v := 4) dL_law_1157 rfl ?_
  refine l_iadd dL_law_1158 ?_
  refine l_sld v4 dL_law_1159 ?_
  refine l_aload_n dL_law_1160 rfl 0 rfl ?_
  refine l_iload_n dL_law_1161 rfl 3 rfl ?_
  refine l_iconst (v := 5) dL_law_1162 rfl ?_
  refine l_iadd dL_law_1163 ?_
  refine l_sld v5 dL_law_1164 ?_
  refine l_V [.int (xs (nI i + 1).toNatClampNeg), .int (xs (nI i + 2).toNatClampNeg), .int (xs (nI i + 3).toNatClampNeg), .int (xs (nI i + 4).toNatClampNeg), .int (xs (nI i + 5).toNatClampNeg)] (rest := [.int r]) (m_X9_evenings (d := 8) (cs := cs) (Nat.le_refl _) g3) v_X9_evenings q_1538 rfl (by decide) g2 rfl rfl (Nat.le_of_ble_eq_true rfl) dL_law_1165 (by omega) (by omega) ?_
  refine l_icmp_eq (tgt := 1308) dL_law_1168 (by decide) (fun _ => ?_) (fun c => absurd rfl c)
  exact kk _ _ _ (by omega) (by omega) g4
set_option maxRecDepth 100000 in
set_option maxHeartbeats 4000000 in
theorem lc_log {S0 : hS} {b : Nat} {cs : Nat → Nat} {L : Nat} {xs : Nat → Int32} {kc ks a a2 i : Nat} {S : hS} {Rel : hS → Prop} (hs : steps Rel a a2) (hR : Rel S) (hL : L ≤ 3072) (hi : i + 6 ≤ L) (h1 : kc ≤ 500000) (h2 : ks ≤ 7000000) (kk : ∀ (kc' ks' : Nat) (T : hS), kc' ≤ kc + 24 → ks' ≤ ks + 1320 → Rel T → HL S0 b cs L xs kc' ks' T 1308 [(0, .ref b), (1, .ref a), (2, .ref a2), (3, .int (nI i))] []) : HL S0 b cs L xs kc ks S 1173 [(0, .ref b), (1, .ref a), (2, .ref a2), (3, .int (nI i))] [] := by
  have hb := (hs.1 S hR).1
  obtain ⟨r, S1, S2, g1, g2, g3, g4⟩ := (hs.2.2.2.2.2.2.2.2.2.2.2.2.2.2.2.2.2.2.2.2.2.2.2.2.2.2.1) S (xs (nI i + 1).toNatClampNeg) (xs (nI i + 2).toNatClampNeg) hR
  have v1 : vp_in (nI i + 1) L := by rw [show (1 : Int32) = nI 1 from rfl, nI_add]; exact vp_in_nI (by omega) (by omega)
  have v2 : vp_in (nI i + 2) L := by rw [show (2 : Int32) = nI 2 from rfl, nI_add]; exact vp_in_nI (by omega) (by omega)
  refine l_aload_n dL_law_1173 rfl 1 rfl ?_
  refine l_aload_n dL_law_1174 rfl 0 rfl ?_
  refine l_iload_n dL_law_1175 rfl 3 rfl ?_
  refine l_iconst (v := 1) dL_law_1176 rfl ?_
  refine l_iadd dL_law_1177 ?_
  refine l_sld v1 dL_law_1178 ?_
  refine l_aload_n dL_law_1179 rfl 0 rfl ?_
  refine l_iload_n dL_law_1180 rfl 3 rfl ?_
  refine l_iconst (v := 2) dL_law_1181 rfl ?_
  refine l_iadd dL_law_1182 ?_
  refine l_sld v2 dL_law_1183 ?_
  refine l_V [.int (xs (nI i + 1).toNatClampNeg), .int (xs (nI i + 2).toNatClampNeg)] (rest := []) (m_X8_log (d := 3) (cs := cs) (Nat.le_refl _) g1) v_X8_log q_925 rfl (by decide) hb rfl rfl (Nat.le_of_ble_eq_true rfl) dL_law_1184 (by omega) (by omega) ?_
  refine l_aload_n dL_law_1187 rfl 2 rfl ?_
  refine l_aload_n dL_law_1188 rfl 0 rfl ?_
  refine l_iload_n dL_law_1189 rfl 3 rfl ?_
  refine l_iconst (v := 1) dL_law_1190 rfl ?_
  refine l_iadd dL_law_1191 ?_
  refine l_sld v1 dL_law_1192 ?_
  refine l_aload_n dL_law_1193 rfl 0 rfl ?_
  refine l_iload_n dL_law_1194 rfl 3 rfl ?_
  refine l_iconst (v := 2) dL_law_1195 rfl ?_
  refine l_iadd dL_law_1196 ?_
  refine l_sld v2 dL_law_1197 ?_
  refine l_V [.int (xs (nI i + 1).toNatClampNeg), .int (xs (nI i + 2).toNatClampNeg)] (rest := [.int r]) (m_X9_log (d := 2) (cs := cs) (Nat.le_refl _) g3) v_X9_log q_1551 rfl (by decide) g2 rfl rfl (Nat.le_of_ble_eq_true rfl) dL_law_1198 (by omega) (by omega) ?_
  refine l_icmp_eq (tgt := 1308) dL_law_1201 (by decide) (fun _ => ?_) (fun c => absurd rfl c)
  exact kk _ _ _ (by omega) (by omega) g4
set_option maxRecDepth 100000 in
set_option maxHeartbeats 4000000 in
theorem lc_hushed {S0 : hS} {b : Nat} {cs : Nat → Nat} {L : Nat} {xs : Nat → Int32} {kc ks a a2 i : Nat} {S : hS} {Rel : hS → Prop} (hs : steps Rel a a2) (hR : Rel S) (hL : L ≤ 3072) (hi : i + 6 ≤ L) (h1 : kc ≤ 500000) (h2 : ks ≤ 7000000) (kk : ∀ (kc' ks' : Nat) (T : hS), kc' ≤ kc + 24 → ks' ≤ ks + 1320 → Rel T → HL S0 b cs L xs kc' ks' T 1308 [(0, .ref b), (1, .ref a), (2, .ref a2), (3, .int (nI i))] []) : HL S0 b cs L xs kc ks S 1206 [(0, .ref b), (1, .ref a), (2, .ref a2), (3, .int (nI i))] [] := by
  have hb := (hs.1 S hR).1
  obtain ⟨r, S1, S2, g1, g2, g3, g4⟩ := (hs.2.2.2.2.2.2.2.2.2.2.2.2.2.2.2.2.2.2.2.2.2.2.2.2.2.2.2.1) S (xs (nI i + 1).toNatClampNeg) (xs (nI i + 2).toNatClampNeg) hR
  have v1 : vp_in (nI i + 1) L := by rw [show (1 : Int32) = nI 1 from rfl, nI_add]; exact vp_in_nI (by omega) (by omega)
  have v2 : vp_in (nI i + 2) L := by rw [show (2 : Int32) = nI 2 from rfl, nI_add]; exact vp_in_nI (by omega) (by omega)
  refine l_aload_n dL_law_1206 rfl 1 rfl ?_
  refine l_aload_n dL_law_1207 rfl 0 rfl ?_
  refine l_iload_n dL_law_1208 rfl 3 rfl ?_
  refine l_iconst (v := 1) dL_law_1209 rfl ?_
  refine l_iadd dL_law_1210 ?_
  refine l_sld v1 dL_law_1211 ?_
  refine l_aload_n dL_law_1212 rfl 0 rfl ?_
  refine l_iload_n dL_law_1213 rfl 3 rfl ?_
  refine l_iconst (v := 2) dL_law_1214 rfl ?_
  refine l_iadd dL_law_1215 ?_
  refine l_sld v2 dL_law_1216 ?_
  refine l_V [.int (xs (nI i + 1).toNatClampNeg), .int (xs (nI i + 2).toNatClampNeg)] (rest := []) (m_X8_hushed (d := 3) (cs := cs) (Nat.le_refl _) g1) v_X8_hushed q_938 rfl (by decide) hb rfl rfl (Nat.le_of_ble_eq_true rfl) dL_law_1217 (by omega) (by omega) ?_
  refine l_aload_n dL_law_1220 rfl 2 rfl ?_
  refine l_aload_n dL_law_1221 rfl 0 rfl ?_
  refine l_iload_n dL_law_1222 rfl 3 rfl ?_
  refine l_iconst (v := 1) dL_law_1223 rfl ?_
  refine l_iadd dL_law_1224 ?_
  refine l_sld v1 dL_law_1225 ?_
  refine l_aload_n dL_law_1226 rfl 0 rfl ?_
  refine l_iload_n dL_law_1227 rfl 3 rfl ?_
  refine l_iconst (v := 2) dL_law_1228 rfl ?_
  refine l_iadd dL_law_1229 ?_
  refine l_sld v2 dL_law_1230 ?_
  refine l_V [.int (xs (nI i + 1).toNatClampNeg), .int (xs (nI i + 2).toNatClampNeg)] (rest := [.int r]) (m_X9_hushed (d := 3) (cs := cs) (Nat.le_refl _) g3) v_X9_hushed q_1555 rfl (by decide) g2 rfl rfl (Nat.le_of_ble_eq_true rfl) dL_law_1231 (by omega) (by omega) ?_
  refine l_icmp_eq (tgt := 1308) dL_law_1234 (by decide) (fun _ => ?_) (fun c => absurd rfl c)
  exact kk _ _ _ (by omega) (by omega) g4
set_option maxRecDepth 100000 in
set_option maxHeartbeats 4000000 in
theorem lc_count {S0 : hS} {b : Nat} {cs : Nat → Nat} {L : Nat} {xs : Nat → Int32} {kc ks a a2 i : Nat} {S : hS} {Rel : hS → Prop} (hs : steps Rel a a2) (hR : Rel S) (hL : L ≤ 3072) (hi : i + 6 ≤ L) (h1 : kc ≤ 500000) (h2 : ks ≤ 7000000) (kk : ∀ (kc' ks' : Nat) (T : hS), kc' ≤ kc + 24 → ks' ≤ ks + 1320 → Rel T → HL S0 b cs L xs kc' ks' T 1308 [(0, .ref b), (1, .ref a), (2, .ref a2), (3, .int (nI i))] []) : HL S0 b cs L xs kc ks S 1239 [(0, .ref b), (1, .ref a), (2, .ref a2), (3, .int (nI i))] [] := by
  have hb := (hs.1 S hR).1
  obtain ⟨r, S1, S2, g1, g2, g3, g4⟩ := (hs.2.2.2.2.2.2.2.2.2.2.2.2.2.2.2.2.2.2.2.2.2.2.2.2.2.2.2.2.1) S (xs (nI i + 1).toNatClampNeg) hR
  have v1 : vp_in (nI i + 1) L := by rw [show (1 : Int32) = nI 1 from rfl, nI_add]; exact vp_in_nI (by omega) (by omega)
  refine l_aload_n dL_law_1239 rfl 1 rfl ?_
  refine l_aload_n dL_law_1240 rfl 0 rfl ?_
  refine l_iload_n dL_law_1241 rfl 3 rfl ?_
  refine l_iconst (v := 1) dL_law_1242 rfl ?_
  refine l_iadd dL_law_1243 ?_
  refine l_sld v1 dL_law_1244 ?_
  refine l_V [.int (xs (nI i + 1).toNatClampNeg)] (rest := []) (m_X8_count (d := 2) (cs := cs) (Nat.le_refl _) g1) v_X8_count q_942 rfl (by decide) hb rfl rfl (Nat.le_of_ble_eq_true rfl) dL_law_1245 (by omega) (by omega) ?_
  refine l_aload_n dL_law_1248 rfl 2 rfl ?_
  refine l_aload_n dL_law_1249 rfl 0 rfl ?_
  refine l_iload_n dL_law_1250 rfl 3 rfl ?_
  refine l_iconst (v := 1) dL_law_1251 rfl ?_
  refine l_iadd dL_law_1252 ?_
  refine l_sld v1 dL_law_1253 ?_
  refine l_V [.int (xs (nI i + 1).toNatClampNeg)] (rest := [.int r]) (m_X9_count (d := 2) (cs := cs) (Nat.le_refl _) g3) v_X9_count q_1559 rfl (by decide) g2 rfl rfl (Nat.le_of_ble_eq_true rfl) dL_law_1254 (by omega) (by omega) ?_
  refine l_icmp_eq (tgt := 1308) dL_law_1257 (by decide) (fun _ => ?_) (fun c => absurd rfl c)
  exact kk _ _ _ (by omega) (by omega) g4
set_option maxRecDepth 100000 in
set_option maxHeartbeats 4000000 in
theorem lc_image {S0 : hS} {b : Nat} {cs : Nat → Nat} {L : Nat} {xs : Nat → Int32} {kc ks a a2 i : Nat} {S : hS} {Rel : hS → Prop} (hs : steps Rel a a2) (hR : Rel S) (hL : L ≤ 3072) (hi : i + 6 ≤ L) (h1 : kc ≤ 500000) (h2 : ks ≤ 7000000) (kk : ∀ (kc' ks' : Nat) (T : hS), kc' ≤ kc + 24 → ks' ≤ ks + 1320 → Rel T → HL S0 b cs L xs kc' ks' T 1308 [(0, .ref b), (1, .ref a), (2, .ref a2), (3, .int (nI i))] []) : HL S0 b cs L xs kc ks S 1262 [(0, .ref b), (1, .ref a), (2, .ref a2), (3, .int (nI i))] [] := by
  have hb := (hs.1 S hR).1
  obtain ⟨r, S1, S2, g1, g2, g3, g4⟩ := (hs.2.2.2.2.2.2.2.2.2.2.2.2.2.2.2.2.2.2.2.2.2.2.2.2.2.2.2.2.2.1) S (xs (nI i + 1).toNatClampNeg) hR
  have v1 : vp_in (nI i + 1) L := by rw [show (1 : Int32) = nI 1 from rfl, nI_add]; exact vp_in_nI (by omega) (by omega)
  refine l_aload_n dL_law_1262 rfl 1 rfl ?_
  refine l_aload_n dL_law_1263 rfl 0 rfl ?_
  refine l_iload_n dL_law_1264 rfl 3 rfl ?_
  refine l_iconst (v := 1) dL_law_1265 rfl ?_
  refine l_iadd dL_law_1266 ?_
  refine l_sld v1 dL_law_1267 ?_
  refine l_V [.int (xs (nI i + 1).toNatClampNeg)] (rest := []) (m_X8_image (d := 4) (cs := cs) (Nat.le_refl _) g1) v_X8_image q_947 rfl (by decide) hb rfl rfl (Nat.le_of_ble_eq_true rfl) dL_law_1268 (by omega) (by omega) ?_
  refine l_aload_n dL_law_1271 rfl 2 rfl ?_
  refine l_aload_n dL_law_1272 rfl 0 rfl ?_
  refine l_iload_n dL_law_1273 rfl 3 rfl ?_
  refine l_iconst (v := 1) dL_law_1274 rfl ?_
  refine l_iadd dL_law_1275 ?_
  refine l_sld v1 dL_law_1276 ?_
  refine l_V [.int (xs (nI i + 1).toNatClampNeg)] (rest := [.int r]) (m_X9_image (d := 3) (cs := cs) (Nat.le_refl _) g3) v_X9_image q_1563 rfl (by decide) g2 rfl rfl (Nat.le_of_ble_eq_true rfl) dL_law_1277 (by omega) (by omega) ?_
  refine l_icmp_eq (tgt := 1308) dL_law_1280 (by decide) (fun _ => ?_) (fun c => absurd rfl c)
  exact kk _ _ _ (by omega) (by omega) g4
set_option maxRecDepth 100000 in
set_option maxHeartbeats 4000000 in
theorem lc_back {S0 : hS} {b : Nat} {cs : Nat → Nat} {L : Nat} {xs : Nat → Int32} {kc ks a a2 i : Nat} {S : hS} {Rel : hS → Prop} (hs : steps Rel a a2) (hR : Rel S) (hL : L ≤ 3072) (hi : i + 6 ≤ L) (h1 : kc ≤ 500000) (h2 : ks ≤ 7000000) (kk : ∀ (kc' ks' : Nat) (T : hS), kc' ≤ kc + 24 → ks' ≤ ks + 1320 → Rel T → HL S0 b cs L xs kc' ks' T 1308 [(0, .ref b), (1, .ref a), (2, .ref a2), (3, .int (nI i))] []) : HL S0 b cs L xs kc ks S 1285 [(0, .ref b), (1, .ref a), (2, .ref a2), (3, .int (nI i))] [] := by
  have hb := (hs.1 S hR).1
  obtain ⟨r, S1, S2, g1, g2, g3, g4⟩ := (hs.2.2.2.2.2.2.2.2.2.2.2.2.2.2.2.2.2.2.2.2.2.2.2.2.2.2.2.2.2.2) S (xs (nI i + 1).toNatClampNeg) hR
  have v1 : vp_in (nI i + 1) L := by rw [show (1 : Int32) = nI 1 from rfl, nI_add]; exact vp_in_nI (by omega) (by omega)
  refine l_aload_n dL_law_1285 rfl 1 rfl ?_
  refine l_aload_n dL_law_1286 rfl 0 rfl ?_
  refine l_iload_n dL_law_1287 rfl 3 rfl ?_
  refine l_iconst (v := 1) dL_law_1288 rfl ?_
  refine l_iadd dL_law_1289 ?_
  refine l_sld v1 dL_law_1290 ?_
  refine l_V [.int (xs (nI i + 1).toNatClampNeg)] (rest := []) (m_X8_back (d := 4) (cs := cs) (Nat.le_refl _) g1) v_X8_back q_951 rfl (by decide) hb rfl rfl (Nat.le_of_ble_eq_true rfl) dL_law_1291 (by omega) (by omega) ?_
  refine l_aload_n dL_law_1294 rfl 2 rfl ?_
  refine l_aload_n dL_law_1295 rfl 0 rfl ?_
  refine l_iload_n dL_law_1296 rfl 3 rfl ?_
  refine l_iconst (v := 1) dL_law_1297 rfl ?_
  refine l_iadd dL_law_1298 ?_
  refine l_sld v1 dL_law_1299 ?_
  refine l_V [.int (xs (nI i + 1).toNatClampNeg)] (rest := [.int r]) (m_X9_back (d := 3) (cs := cs) (Nat.le_refl _) g3) v_X9_back q_1575 rfl (by decide) g2 rfl rfl (Nat.le_of_ble_eq_true rfl) dL_law_1300 (by omega) (by omega) ?_
  refine l_icmp_eq (tgt := 1308) dL_law_1303 (by decide) (fun _ => ?_) (fun c => absurd rfl c)
  exact kk _ _ _ (by omega) (by omega) g4
set_option maxRecDepth 100000 in
set_option maxHeartbeats 4000000 in
theorem law_loop {S0 : hS} {b : Nat} {cs : Nat → Nat} {L : Nat} {xs : Nat → Int32} {a a2 : Nat} {Rel : hS → Prop} (hs : steps Rel a a2) (hL : L ≤ 3072) : ∀ (n i kc ks : Nat) (S : hS), Rel S → i ≤ L → L + 6 ≤ i + 6 * n → kc ≤ 200 + 4 * i → ks ≤ 12000 + 220 * i → HL S0 b cs L xs kc ks S 18 [(0, .ref b), (1, .ref a), (2, .ref a2), (3, .int (nI i))] [] := by
  intro n
  induction n with
  | zero => intro i kc ks S hR h1 h2; omega
  | succ n ih =>
    intro i kc ks S hR hi hn hkc hks
    refine l_iload_n dL_law_18 rfl 3 rfl ?_
    refine l_aload_n dL_law_19 rfl 0 rfl ?_
    refine l_slen dL_law_20 ?_
    refine l_bipush (v := 6) dL_law_21 rfl ?_
    refine l_isub dL_law_23 ?_
    refine l_icmp_gt (tgt := 1314) dL_law_24 (by decide) (fun c => ?_) (fun c => ?_)
    · refine l_iconst (v := 1) dL_law_1314 rfl ?_
      exact l_ret1 (by omega) (by omega) dL_law_1315
    · have hi6 : i + 6 ≤ L := by
        rw [Int32.lt_iff_toInt_lt] at c
        have e1 : (Int32.ofNat L - 6).toInt = (L : Int) - 6 := pk_sub_toInt (a := L) (b := 6) (by omega) (by omega)
        have e2 : (nI i).toInt = (i : Int) := nI_toInt (by omega)
        rw [e1, e2] at c
        omega
      have v0 : vp_in (nI i) L := vp_in_nI (by omega) (by omega)
      have back : ∀ (kc' ks' : Nat) (T : hS), kc' ≤ kc + 24 → ks' ≤ ks + 1320 → Rel T → HL S0 b cs L xs kc' ks' T 1308 [(0, .ref b), (1, .ref a), (2, .ref a2), (3, .int (nI i))] [] := by
        intro kc' ks' T g1 g2 g3
        refine l_iinc (q := 3) (v := nI (i + 6)) (lv2 := [(3, .int (nI (i + 6))), (0, .ref b), (1, .ref a), (2, .ref a2)]) dL_law_1308 rfl (by rw [show Int32.ofInt 6 = nI 6 from rfl, nI_add]) (by decide) rfl ?_
        refine l_goto (tgt := 18) dL_law_1311 (by decide) ?_
        refine l_sub (lv2 := [(0, .ref b), (1, .ref a), (2, .ref a2), (3, .int (nI (i + 6)))]) [1, 2, 3, 0] rfl ?_
        exact ih (i + 6) kc' ks' T g3 hi6 (by omega) (by omega) (by omega)
      refine l_aload_n dL_law_27 rfl 0 rfl ?_
      refine l_iload_n dL_law_28 rfl 3 rfl ?_
      refine l_sld v0 dL_law_29 ?_
      refine l_bipush (v := 31) dL_law_30 rfl ?_
      refine l_iand dL_law_32 ?_
      generalize xs (nI i).toNatClampNeg &&& 31 = z
      by_cases c0 : z = 0
      · refine l_tabIn (tgt := 168) 0 (by rw [c0]; rfl) dL_law_33 (by decide) (by decide) rfl (by decide) ?_
        exact lc_feed hs hR hL hi6 (by omega) (by omega) back
      by_cases c1 : z = 1
      · refine l_tabIn (tgt := 231) 1 (by rw [c1]; rfl) dL_law_33 (by decide) (by decide) rfl (by decide) ?_
        exact lc_end hs hR hL hi6 (by omega) (by omega) back
      by_cases c2 : z = 2
      · refine l_tabIn (tgt := 254) 2 (by rw [c2]; rfl) dL_law_33 (by decide) (by decide) rfl (by decide) ?_
        exact lc_hall hs hR hL hi6 (by omega) (by omega) back
      by_cases c3 : z = 3
      · refine l_tabIn (tgt := 267) 3 (by rw [c3]; rfl) dL_law_33 (by decide) (by decide) rfl (by decide) ?_
        exact lc_law hs hR hL hi6 (by omega) (by omega) back
      by_cases c4 : z = 4
      · refine l_tabIn (tgt := 280) 4 (by rw [c4]; rfl) dL_law_33 (by decide) (by decide) rfl (by decide) ?_
        exact lc_seat hs hR hL hi6 (by omega) (by omega) back
      by_cases c5 : z = 5
      · refine l_tabIn (tgt := 323) 5 (by rw [c5]; rfl) dL_law_33 (by decide) (by decide) rfl (by decide) ?_
        exact lc_guest hs hR hL hi6 (by omega) (by omega) back
      by_cases c6 : z = 6
      · refine l_tabIn (tgt := 356) 6 (by rw [c6]; rfl) dL_law_33 (by decide) (by decide) rfl (by decide) ?_
        exact lc_fan hs hR hL hi6 (by omega) (by omega) back
      by_cases c7 : z = 7
      · refine l_tabIn (tgt := 389) 7 (by rw [c7]; rfl) dL_law_33 (by decide) (by decide) rfl (by decide) ?_
        exact lc_sits hs hR hL hi6 (by omega) (by omega) back
      by_cases c8 : z = 8
      · refine l_tabIn (tgt := 432) 8 (by rw [c8]; rfl) dL_law_33 (by decide) (by decide) rfl (by decide) ?_
        exact lc_goes hs hR hL hi6 (by omega) (by omega) back
      by_cases c9 : z = 9
      · refine l_tabIn (tgt := 455) 9 (by rw [c9]; rfl) dL_law_33 (by decide) (by decide) rfl (by decide) ?_
        exact lc_change hs hR hL hi6 (by omega) (by omega) back
      by_cases c10 : z = 10
      · refine l_tabIn (tgt := 488) 10 (by rw [c10]; rfl) dL_law_33 (by decide) (by decide) rfl (by decide) ?_
        exact lc_warms hs hR hL hi6 (by omega) (by omega) back
      by_cases c11 : z = 11
      · refine l_tabIn (tgt := 521) 11 (by rw [c11]; rfl) dL_law_33 (by decide) (by decide) rfl (by decide) ?_
        exact lc_tick hs hR hL hi6 (by omega) (by omega) back
      by_cases c12 : z = 12
      · refine l_tabIn (tgt := 554) 12 (by rw [c12]; rfl) dL_law_33 (by decide) (by decide) rfl (by decide) ?_
        exact lc_there hs hR hL hi6 (by omega) (by omega) back
      by_cases c13 : z = 13
      · refine l_tabIn (tgt := 597) 13 (by rw [c13]; rfl) dL_law_33 (by decide) (by decide) rfl (by decide) ?_
        exact lc_deaf hs hR hL hi6 (by omega) (by omega) back
      by_cases c14 : z = 14
      · refine l_tabIn (tgt := 640) 14 (by rw [c14]; rfl) dL_law_33 (by decide) (by decide) rfl (by decide) ?_
        exact lc_critic hs hR hL hi6 (by omega) (by omega) back
      by_cases c15 : z = 15
      · refine l_tabIn (tgt := 683) 15 (by rw [c15]; rfl) dL_law_33 (by decide) (by decide) rfl (by decide) ?_
        exact lc_seated hs hR hL hi6 (by omega) (by omega) back
      by_cases c16 : z = 16
      · refine l_tabIn (tgt := 736) 16 (by rw [c16]; rfl) dL_law_33 (by decide) (by decide) rfl (by decide) ?_
        exact lc_changed hs hR hL hi6 (by omega) (by omega) back
      by_cases c17 : z = 17
      · refine l_tabIn (tgt := 779) 17 (by rw [c17]; rfl) dL_law_33 (by decide) (by decide) rfl (by decide) ?_
        exact lc_without hs hR hL hi6 (by omega) (by omega) back
      by_cases c18 : z = 18
      · refine l_tabIn (tgt := 822) 18 (by rw [c18]; rfl) dL_law_33 (by decide) (by decide) rfl (by decide) ?_
        exact lc_baron hs hR hL hi6 (by omega) (by omega) back
      by_cases c19 : z = 19
      · refine l_tabIn (tgt := 865) 19 (by rw [c19]; rfl) dL_law_33 (by decide) (by decide) rfl (by decide) ?_
        exact lc_led hs hR hL hi6 (by omega) (by omega) back
      by_cases c20 : z = 20
      · refine l_tabIn (tgt := 898) 20 (by rw [c20]; rfl) dL_law_33 (by decide) (by decide) rfl (by decide) ?_
        exact lc_fanned hs hR hL hi6 (by omega) (by omega) back
      by_cases c21 : z = 21
      · refine l_tabIn (tgt := 961) 21 (by rw [c21]; rfl) dL_law_33 (by decide) (by decide) rfl (by decide) ?_
        exact lc_span hs hR hL hi6 (by omega) (by omega) back
      by_cases c22 : z = 22
      · refine l_tabIn (tgt := 1024) 22 (by rw [c22]; rfl) dL_law_33 (by decide) (by decide) rfl (by decide) ?_
        exact lc_spy hs hR hL hi6 (by omega) (by omega) back
      by_cases c23 : z = 23
      · refine l_tabIn (tgt := 1087) 23 (by rw [c23]; rfl) dL_law_33 (by decide) (by decide) rfl (by decide) ?_
        exact lc_seed hs hR hL hi6 (by omega) (by omega) back
      by_cases c24 : z = 24
      · refine l_tabIn (tgt := 1110) 24 (by rw [c24]; rfl) dL_law_33 (by decide) (by decide) rfl (by decide) ?_
        exact lc_evenings hs hR hL hi6 (by omega) (by omega) back
      by_cases c25 : z = 25
      · refine l_tabIn (tgt := 1173) 25 (by rw [c25]; rfl) dL_law_33 (by decide) (by decide) rfl (by decide) ?_
        exact lc_log hs hR hL hi6 (by omega) (by omega) back
      by_cases c26 : z = 26
      · refine l_tabIn (tgt := 1206) 26 (by rw [c26]; rfl) dL_law_33 (by decide) (by decide) rfl (by decide) ?_
        exact lc_hushed hs hR hL hi6 (by omega) (by omega) back
      by_cases c27 : z = 27
      · refine l_tabIn (tgt := 1239) 27 (by rw [c27]; rfl) dL_law_33 (by decide) (by decide) rfl (by decide) ?_
        exact lc_count hs hR hL hi6 (by omega) (by omega) back
      by_cases c28 : z = 28
      · refine l_tabIn (tgt := 1262) 28 (by rw [c28]; rfl) dL_law_33 (by decide) (by decide) rfl (by decide) ?_
        exact lc_image hs hR hL hi6 (by omega) (by omega) back
      by_cases c29 : z = 29
      · refine l_tabIn (tgt := 1285) 29 (by rw [c29]; rfl) dL_law_33 (by decide) (by decide) rfl (by decide) ?_
        exact lc_back hs hR hL hi6 (by omega) (by omega) back
      refine l_tabOut (tgt := 1308) dL_law_33 (by have g0 := hne_t (a := 0) c0 rfl; have g1 := hne_t (a := 1) c1 rfl; have g2 := hne_t (a := 2) c2 rfl; have g3 := hne_t (a := 3) c3 rfl; have g4 := hne_t (a := 4) c4 rfl; have g5 := hne_t (a := 5) c5 rfl; have g6 := hne_t (a := 6) c6 rfl; have g7 := hne_t (a := 7) c7 rfl; have g8 := hne_t (a := 8) c8 rfl; have g9 := hne_t (a := 9) c9 rfl; have g10 := hne_t (a := 10) c10 rfl; have g11 := hne_t (a := 11) c11 rfl; have g12 := hne_t (a := 12) c12 rfl; have g13 := hne_t (a := 13) c13 rfl; have g14 := hne_t (a := 14) c14 rfl; have g15 := hne_t (a := 15) c15 rfl; have g16 := hne_t (a := 16) c16 rfl; have g17 := hne_t (a := 17) c17 rfl; have g18 := hne_t (a := 18) c18 rfl; have g19 := hne_t (a := 19) c19 rfl; have g20 := hne_t (a := 20) c20 rfl; have g21 := hne_t (a := 21) c21 rfl; have g22 := hne_t (a := 22) c22 rfl; have g23 := hne_t (a := 23) c23 rfl; have g24 := hne_t (a := 24) c24 rfl; have g25 := hne_t (a := 25) c25 rfl; have g26 := hne_t (a := 26) c26 rfl; have g27 := hne_t (a := 27) c27 rfl; have g28 := hne_t (a := 28) c28 rfl; have g29 := hne_t (a := 29) c29 rfl; omega) (by decide) ?_
      exact back kc ks S (by omega) (by omega) hR

set_option maxRecDepth 100000 in
set_option maxHeartbeats 4000000 in
theorem law_start {S0 : hS} {b : Nat} {cs : Nat → Nat} {L : Nat} {xs : Nat → Int32} {Sa Sb : hS} {Rel : hS → Prop} (hL : L ≤ 3072) (ha : f_X8_init S0.nx (S0.new 9 0) = some Sa) (hb : f_X9_init Sa.nx (Sa.new 10 0) = some Sb) (hR : Rel Sb) (hs : steps Rel S0.nx Sa.nx) : HL S0 b cs L xs 0 0 S0 0 [(0, .ref b)] [] := by
  refine l_new (ci := 8) (C := RX8) (TT := TX8) (N := 11) rfl rfl rfl q_18 q_19 q_1 dL_law_0 (by decide) (by decide) ?_
  refine l_dup dL_law_3 rfl ?_
  refine l_I [] (rest := [.ref S0.nx]) (m_X8_init (d := 3) (cs := cs) (Nat.le_refl _) ha) v_X8_init q_20 rfl (by decide) rfl (Nat.le_of_ble_eq_true rfl) dL_law_4 (by decide) (by decide) ?_
  refine l_astore_n (lv2 := [(1, .ref S0.nx), (0, .ref b)]) dL_law_7 rfl (by decide) rfl ?_
  refine l_new (ci := 9) (C := RX9) (TT := TX9) (N := 63) rfl rfl rfl q_955 q_956 q_9 dL_law_8 (by decide) (by decide) ?_
  refine l_dup dL_law_11 rfl ?_
  refine l_I [] (rest := [.ref Sa.nx]) (m_X9_init (d := 1) (cs := cs) (Nat.le_refl _) hb) v_X9_init q_957 rfl (by decide) rfl (Nat.le_of_ble_eq_true rfl) dL_law_12 (by decide) (by decide) ?_
  refine l_astore_n (lv2 := [(2, .ref Sa.nx), (1, .ref S0.nx), (0, .ref b)]) dL_law_15 rfl (by decide) rfl ?_
  refine l_iconst (v := 0) dL_law_16 rfl ?_
  refine l_istore_n (lv2 := [(3, .int 0), (2, .ref Sa.nx), (1, .ref S0.nx), (0, .ref b)]) dL_law_17 rfl (by decide) rfl ?_
  refine l_sub (lv2 := [(0, .ref b), (1, .ref S0.nx), (2, .ref Sa.nx), (3, .int (nI 0))]) [3, 2, 1, 0] rfl ?_
  exact law_loop hs hL (L + 1) 0 _ _ Sb hR (Nat.zero_le _) (by omega) (by decide) (by decide)
