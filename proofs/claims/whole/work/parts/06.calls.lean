theorem hgood {w : Cond} (h : w ∈ hTbl) : (w.onTables && w.keeps) = true ∨ ∃ ty, w = .arrayClass ty := good_of_word (List.mem_filter.mp h).2
theorem hpre_blind {args : List Value} {D : va_G} {cy : Nat → ClassId} {cs cv : Nat → Nat} {S : hS} : FrameBlind (va_Pc args (hpre D cy cs cv S)) := fun a U g mk q => by
  obtain ⟨q0, q1, q2⟩ := q
  exact ⟨q0, q1, q2.same rfl rfl⟩
theorem hA_in {D : va_G} {cy : Nat → ClassId} {A : Nat → Prop} {H0 H : Heap} {S : hS} {locs : List Loc} (P : hPool D cy A H0 S H locs) (hA0 : ∀ q : Nat, H0.size ≤ q → A q) : ∀ q, hA S q → A q := fun q h => h.elim (P.2.1 q) (fun h => hA0 q (Nat.le_trans P.2.2.1 (by rw [P.1.1]; exact h)))
theorem h_after {p : Program} {l : Launch} {e : Env} {R : Room} {s : State} {m : MethodId} {args : Array Value} {below : List Frame} {meth : Method} {c : Code} {H H0 : Heap} {locs : List Loc} {cells slots mc ms pc : Nat} {Q : State → Prop} {ls : Array Slot} {rest st0 : List Value} {a : Array Value} {D : va_G} {cy : Nat → ClassId} {A : Nat → Prop} {S T : hS} {rv : Option Value}
    (hr : va_Run p l e R s m args below meth c H locs cells slots mc ms (F0 m pc ls st0) rest (hQ D cy S rv T a) (hA S)) (P : hPool D cy A H0 S H locs) (hA0 : ∀ q : Nat, H0.size ≤ q → A q)
    (kk : ∀ (H1 : Heap) (locs1 : List Loc), hPool D cy A H0 T H1 locs1 → W p l e R s m args below meth c H1 locs1 (cells + mc) (slots + ms) Q (F0 m (pc + 3) ls (rv.toList ++ rest))) : W p l e R s m args below meth c H locs cells slots Q (F0 m pc ls st0) := by
  intro Tt hT X
  have hin := hA_in P hA0
  obtain ⟨v, st₀, t, T', L, h0, X', hL, e1, e2, ⟨⟨hv, hb, hk⟩, hz, hkp⟩, stp⟩ := hr Tt hT X
  cases hv
  rw [h0] at hz hkp
  obtain ⟨t2, a1, b1⟩ := kk T'.heap (locs ++ L) ⟨by rw [e1]; exact hb, fun q h => hin q (hk q h), Nat.le_trans P.2.2.1 (by rw [e1]; exact hz), fun q h1 h2 => by
      rw [e1, hkp q (Nat.lt_of_lt_of_le h1 P.2.2.1) (fun z => h2 (hin q z))]
      exact P.2.2.2.1 q h1 h2, fun q hq => (List.mem_append.mp hq).elim (P.2.2.2.2 q) (fun h => hin _ (hL q h))⟩ T' rfl X'
  exact ⟨t2, stp t2 a1, b1⟩
section HR
variable {cc : ByteArray} {own : String} {X : hX} {kc ks pc : Nat} {S : hS} {lv : List (Nat × Value)} {st : List Value}
theorem hFix.A0 {D : va_G} {cy : Nat → ClassId} {cv : Nat → Nat} {p : Program} {s : State} {m : MethodId} {meth : Method} {c : Code} (F : hFix cc own X D cy cv p s m meth c) : ∀ q : Nat, s.heap.size ≤ q → hA X.S0 q := fun q h => Or.inr (by rw [← F.2.2.2.2.2.2.2.2.2]; exact h)
theorem hFix.pre {D : va_G} {cy : Nat → ClassId} {cv : Nat → Nat} {p : Program} {s : State} {m : MethodId} {meth : Method} {c : Code} {H : Heap} {locs : List Loc} (F : hFix cc own X D cy cv p s m meth c) (P : hPool D cy (hA X.S0) s.heap S H locs) {args : List Value} : ∀ U : State, U.heap = H → s.WarmedH U.vm → va_Pc args (hpre D cy X.cs cv S) args.toArray U := fun U hU hW =>
  ⟨rfl, by rw [hU]; exact P.1, F.2.2.2.2.2.2.2.2.1.warm hW (fun a h1 h2 => by rw [hU]; exact P.2.2.2.1 a h1 h2) (hA_in P F.A0)⟩
theorem h_callV {y : MethodName} {cc' : ByteArray} {nL' d' mc' ms' idx b n ci N : Nat} {ret' : Option FieldType} {C : String} {TT : u_T} {As rest : List Value} {rv : Option Value} {T : hS} (hM : HM y cc' nL' ret' d' mc' ms' X.cs (.ref b :: As) S rv T) (hq1 : Cond.methodLink own idx y ∈ hTbl) (hq2 : Cond.instanceMethod y ∈ hTbl) (hq3 : Cond.selects C y y ∈ hTbl) (hq4 : Cond.initialized C ∈ hTbl) (hq5 : Cond.code y cc' nL' ret' ∈ hTbl)
    (hy : y.cls = C ∧ y.cls ≠ "java/lang/invoke/MethodHandle" ∧ y.cls ≠ "java/lang/invoke/VarHandle" ∧ (parseMethodDescriptor y.desc).map (fun d => d.parameters.length) = some n) (hn : As.length = n) (hd' : d' + 1 ≤ X.d) (hL : nL' ≤ 45) (hk : S.K b = ci + 1) (hc : vwCl[ci]? = some (C, TT, N)) (hst : st = As.reverse ++ .ref b :: rest) (hcat : (rest.map fun v => v.category).sum ≤ 8) (hd : decode cc pc = .ok (.invokevirtual idx, 3)) (h1 : kc + mc' ≤ X.mc) (h2 : ks + ms' ≤ X.ms)
    (kk : HW cc own X (kc + mc') (ks + ms') T (pc + 3) lv (rv.toList ++ rest)) : HW cc own X kc ks S pc lv st := by
  intro p l e s m below meth c D cy cv H locs ls F P hl
  have hi := hIn ci C TT N hc
  have hG : GoodIn hTbl (wsV own idx C y (Cond.code y cc' nL' ret' :: hTbl)) := by
    intro w hw
    have hm : w ∈ hTbl := by
      simp only [wsV, List.mem_append, List.mem_cons, List.not_mem_nil, or_false] at hw
      rcases hw with (rfl | rfl | rfl | rfl) | rfl | hw
      · exact hq1
      · exact hq2
      · exact hq3
      · exact hq4
      · exact hq5
      · exact hw
    exact ⟨hm, hgood hm⟩
  subst hst
  exact h_after (va_runV (As := As) (rest := rest) ⟨F.1, F.2.1, F.2.2.2.1, F.2.2.2.2.2.1, F.2.2.2.2.1⟩ (hM l D cy cv) (cwV n F.2.2.2.2.1 hG rfl rfl rfl hy ⟨hd', by show 8 + (nL' + 11) + 64 * d' ≤ 64 * X.d; omega⟩) ⟨hpre_blind, va_recv F.2.2.2.2.2.2.2.2.1.1 (hone (P.o hk hi.1)) hc (q0 := 0) rfl, F.pre P⟩ rfl hn hl.1 rfl (lv_room hcat) hd ⟨h1, h2⟩) P F.A0 (fun H1 locs1 P1 => kk p l e s m below meth c D cy cv H1 locs1 ls F P1 hl)
theorem h_callS {y : MethodName} {cc' : ByteArray} {nL' d' mc' ms' idx n : Nat} {ret' : Option FieldType} {As rest : List Value} {rv : Option Value} {T : hS} (hM : HM y cc' nL' ret' d' mc' ms' X.cs As S rv T) (hq1 : Cond.methodLink own idx y ∈ hTbl) (hq2 : Cond.static y ∈ hTbl) (hq4 : Cond.initialized y.cls ∈ hTbl) (hq5 : Cond.code y cc' nL' ret' ∈ hTbl)
    (hy : y.cls ≠ "java/lang/invoke/MethodHandle" ∧ y.cls ≠ "java/lang/invoke/VarHandle" ∧ (parseMethodDescriptor y.desc).map (fun d => d.parameters.length) = some n) (hn : As.length = n) (hd' : d' + 1 ≤ X.d) (hL : nL' ≤ 45) (hst : st = As.reverse ++ rest) (hcat : (rest.map fun v => v.category).sum ≤ 8) (hd : decode cc pc = .ok (.invokestatic idx, 3)) (h1 : kc + mc' ≤ X.mc) (h2 : ks + ms' ≤ X.ms)
    (kk : HW cc own X (kc + mc') (ks + ms') T (pc + 3) lv (rv.toList ++ rest)) : HW cc own X kc ks S pc lv st := by
  intro p l e s m below meth c D cy cv H locs ls F P hl
  have hG : GoodIn hTbl (va_wsS own idx y (Cond.code y cc' nL' ret' :: hTbl)) := by
    intro w hw
    have hm : w ∈ hTbl := by
      simp only [va_wsS, List.mem_append, List.mem_cons, List.not_mem_nil, or_false] at hw
      rcases hw with (rfl | rfl | rfl) | rfl | hw
      · exact hq1
      · exact hq2
      · exact hq4
      · exact hq5
      · exact hw
    exact ⟨hm, hgood hm⟩
  subst hst
  exact h_after (va_runS (As := As) (rest := rest) ⟨F.1, F.2.1, F.2.2.2.1, F.2.2.2.2.2.1, F.2.2.2.2.1⟩ (hM l D cy cv) (va_cwS n F.2.2.2.2.1 hG rfl rfl rfl hy ⟨hd', by show 8 + (nL' + 11) + 64 * d' ≤ 64 * X.d; omega⟩) ⟨hpre_blind, F.pre P⟩ rfl hn hl.1 rfl (lv_room hcat) hd ⟨h1, h2⟩) P F.A0 (fun H1 locs1 P1 => kk p l e s m below meth c D cy cv H1 locs1 ls F P1 hl)
/-- a method's own words, in one: its call by its class -/
def hVW (y : MethodName) (cc : ByteArray) (nL : Nat) (ret : Option FieldType) (C : String) (n : Nat) : Prop := Cond.instanceMethod y ∈ hTbl ∧ Cond.selects C y y ∈ hTbl ∧ Cond.initialized C ∈ hTbl ∧ Cond.code y cc nL ret ∈ hTbl ∧ (y.cls = C ∧ y.cls ≠ "java/lang/invoke/MethodHandle" ∧ y.cls ≠ "java/lang/invoke/VarHandle" ∧ (parseMethodDescriptor y.desc).map (fun d => d.parameters.length) = some n) ∧ nL ≤ 45
def hSW (y : MethodName) (cc : ByteArray) (nL : Nat) (ret : Option FieldType) (n : Nat) : Prop := Cond.static y ∈ hTbl ∧ Cond.initialized y.cls ∈ hTbl ∧ Cond.code y cc nL ret ∈ hTbl ∧ (y.cls ≠ "java/lang/invoke/MethodHandle" ∧ y.cls ≠ "java/lang/invoke/VarHandle" ∧ (parseMethodDescriptor y.desc).map (fun d => d.parameters.length) = some n) ∧ nL ≤ 45
theorem h_Vi {y : MethodName} {cc' : ByteArray} {nL' d' idx b n ci N : Nat} {ret' : Option FieldType} {C : String} {TT : u_T} (As : List Value) {rest : List Value} {r : Int32} {T : hS} (hM : HM y cc' nL' ret' d' 0 0 X.cs (.ref b :: As) S (some (.int r)) T) (hw : hVW y cc' nL' ret' C n) (hq1 : Cond.methodLink own idx y ∈ hTbl) (hn : As.length = n) (hd' : d' + 1 ≤ X.d) (hk : S.K b = ci + 1) (hc : vwCl[ci]? = some (C, TT, N)) (hst : st = As.reverse ++ .ref b :: rest) (hcat : (rest.map fun v => v.category).sum ≤ 8) (hd : decode cc pc = .ok (.invokevirtual idx, 3)) (h1 : kc ≤ X.mc) (h2 : ks ≤ X.ms)
    (kk : HW cc own X kc ks T (pc + 3) lv (.int r :: rest)) : HW cc own X kc ks S pc lv st := h_callV (rest := rest) (T := T) hM hq1 hw.1 hw.2.1 hw.2.2.1 hw.2.2.2.1 hw.2.2.2.2.1 hn hd' hw.2.2.2.2.2 hk hc hst hcat hd h1 h2 kk
theorem h_Si {y : MethodName} {cc' : ByteArray} {nL' d' idx n : Nat} {ret' : Option FieldType} (As : List Value) {rest : List Value} {r : Int32} {T : hS} (hM : HM y cc' nL' ret' d' 0 0 X.cs As S (some (.int r)) T) (hw : hSW y cc' nL' ret' n) (hq1 : Cond.methodLink own idx y ∈ hTbl) (hn : As.length = n) (hd' : d' + 1 ≤ X.d) (hst : st = As.reverse ++ rest) (hcat : (rest.map fun v => v.category).sum ≤ 8) (hd : decode cc pc = .ok (.invokestatic idx, 3)) (h1 : kc ≤ X.mc) (h2 : ks ≤ X.ms)
    (kk : HW cc own X kc ks T (pc + 3) lv (.int r :: rest)) : HW cc own X kc ks S pc lv st := h_callS (rest := rest) (T := T) hM hq1 hw.1 hw.2.1 hw.2.2.1 hw.2.2.2.1 hn hd' hw.2.2.2.2 hst hcat hd h1 h2 kk
theorem h_Vl {y : MethodName} {cc' : ByteArray} {nL' d' idx b n ci N : Nat} {ret' : Option FieldType} {C : String} {TT : u_T} (As : List Value) {rest : List Value} {r : Int64} {T : hS} (hM : HM y cc' nL' ret' d' 0 0 X.cs (.ref b :: As) S (some (.long r)) T) (hw : hVW y cc' nL' ret' C n) (hq1 : Cond.methodLink own idx y ∈ hTbl) (hn : As.length = n) (hd' : d' + 1 ≤ X.d) (hk : S.K b = ci + 1) (hc : vwCl[ci]? = some (C, TT, N)) (hst : st = As.reverse ++ .ref b :: rest) (hcat : (rest.map fun v => v.category).sum ≤ 8) (hd : decode cc pc = .ok (.invokevirtual idx, 3)) (h1 : kc ≤ X.mc) (h2 : ks ≤ X.ms)
    (kk : HW cc own X kc ks T (pc + 3) lv (.long r :: rest)) : HW cc own X kc ks S pc lv st := h_callV (rest := rest) (T := T) hM hq1 hw.1 hw.2.1 hw.2.2.1 hw.2.2.2.1 hw.2.2.2.2.1 hn hd' hw.2.2.2.2.2 hk hc hst hcat hd h1 h2 kk
theorem h_Sl {y : MethodName} {cc' : ByteArray} {nL' d' idx n : Nat} {ret' : Option FieldType} (As : List Value) {rest : List Value} {r : Int64} {T : hS} (hM : HM y cc' nL' ret' d' 0 0 X.cs As S (some (.long r)) T) (hw : hSW y cc' nL' ret' n) (hq1 : Cond.methodLink own idx y ∈ hTbl) (hn : As.length = n) (hd' : d' + 1 ≤ X.d) (hst : st = As.reverse ++ rest) (hcat : (rest.map fun v => v.category).sum ≤ 8) (hd : decode cc pc = .ok (.invokestatic idx, 3)) (h1 : kc ≤ X.mc) (h2 : ks ≤ X.ms)
    (kk : HW cc own X kc ks T (pc + 3) lv (.long r :: rest)) : HW cc own X kc ks S pc lv st := h_callS (rest := rest) (T := T) hM hq1 hw.1 hw.2.1 hw.2.2.1 hw.2.2.2.1 hn hd' hw.2.2.2.2 hst hcat hd h1 h2 kk
theorem h_Vv {y : MethodName} {cc' : ByteArray} {nL' d' idx b n ci N : Nat} {ret' : Option FieldType} {C : String} {TT : u_T} (As : List Value) {rest : List Value} {T : hS} (hM : HM y cc' nL' ret' d' 0 0 X.cs (.ref b :: As) S (none) T) (hw : hVW y cc' nL' ret' C n) (hq1 : Cond.methodLink own idx y ∈ hTbl) (hn : As.length = n) (hd' : d' + 1 ≤ X.d) (hk : S.K b = ci + 1) (hc : vwCl[ci]? = some (C, TT, N)) (hst : st = As.reverse ++ .ref b :: rest) (hcat : (rest.map fun v => v.category).sum ≤ 8) (hd : decode cc pc = .ok (.invokevirtual idx, 3)) (h1 : kc ≤ X.mc) (h2 : ks ≤ X.ms)
    (kk : HW cc own X kc ks T (pc + 3) lv (rest)) : HW cc own X kc ks S pc lv st := h_callV (rest := rest) (T := T) hM hq1 hw.1 hw.2.1 hw.2.2.1 hw.2.2.2.1 hw.2.2.2.2.1 hn hd' hw.2.2.2.2.2 hk hc hst hcat hd h1 h2 kk
theorem h_Sv {y : MethodName} {cc' : ByteArray} {nL' d' idx n : Nat} {ret' : Option FieldType} (As : List Value) {rest : List Value} {T : hS} (hM : HM y cc' nL' ret' d' 0 0 X.cs As S (none) T) (hw : hSW y cc' nL' ret' n) (hq1 : Cond.methodLink own idx y ∈ hTbl) (hn : As.length = n) (hd' : d' + 1 ≤ X.d) (hst : st = As.reverse ++ rest) (hcat : (rest.map fun v => v.category).sum ≤ 8) (hd : decode cc pc = .ok (.invokestatic idx, 3)) (h1 : kc ≤ X.mc) (h2 : ks ≤ X.ms)
    (kk : HW cc own X kc ks T (pc + 3) lv (rest)) : HW cc own X kc ks S pc lv st := h_callS (rest := rest) (T := T) hM hq1 hw.1 hw.2.1 hw.2.2.1 hw.2.2.2.1 hn hd' hw.2.2.2.2 hst hcat hd h1 h2 kk
theorem h_Vr {y : MethodName} {cc' : ByteArray} {nL' d' idx b n ci N : Nat} {ret' : Option FieldType} {C : String} {TT : u_T} (As : List Value) {rest : List Value} {r : Option Nat} {T : hS} (hM : HM y cc' nL' ret' d' 0 0 X.cs (.ref b :: As) S (some (va_rf r)) T) (hw : hVW y cc' nL' ret' C n) (hq1 : Cond.methodLink own idx y ∈ hTbl) (hn : As.length = n) (hd' : d' + 1 ≤ X.d) (hk : S.K b = ci + 1) (hc : vwCl[ci]? = some (C, TT, N)) (hst : st = As.reverse ++ .ref b :: rest) (hcat : (rest.map fun v => v.category).sum ≤ 8) (hd : decode cc pc = .ok (.invokevirtual idx, 3)) (h1 : kc ≤ X.mc) (h2 : ks ≤ X.ms)
    (kk : HW cc own X kc ks T (pc + 3) lv (va_rf r :: rest)) : HW cc own X kc ks S pc lv st := h_callV (rest := rest) (T := T) hM hq1 hw.1 hw.2.1 hw.2.2.1 hw.2.2.2.1 hw.2.2.2.2.1 hn hd' hw.2.2.2.2.2 hk hc hst hcat hd h1 h2 kk
theorem h_Sr {y : MethodName} {cc' : ByteArray} {nL' d' idx n : Nat} {ret' : Option FieldType} (As : List Value) {rest : List Value} {r : Option Nat} {T : hS} (hM : HM y cc' nL' ret' d' 0 0 X.cs As S (some (va_rf r)) T) (hw : hSW y cc' nL' ret' n) (hq1 : Cond.methodLink own idx y ∈ hTbl) (hn : As.length = n) (hd' : d' + 1 ≤ X.d) (hst : st = As.reverse ++ rest) (hcat : (rest.map fun v => v.category).sum ≤ 8) (hd : decode cc pc = .ok (.invokestatic idx, 3)) (h1 : kc ≤ X.mc) (h2 : ks ≤ X.ms)
    (kk : HW cc own X kc ks T (pc + 3) lv (va_rf r :: rest)) : HW cc own X kc ks S pc lv st := h_callS (rest := rest) (T := T) hM hq1 hw.1 hw.2.1 hw.2.2.1 hw.2.2.2.1 hn hd' hw.2.2.2.2 hst hcat hd h1 h2 kk
theorem h_mmin {idx : Nat} {x y : Int32} (hq1 : Cond.methodLink own idx Lib.Math.min.name ∈ hTbl) (hq2 : Cond.static Lib.Math.min.name ∈ hTbl) (hq3 : Cond.initialized "java/lang/Math" ∈ hTbl) (hq4 : Cond.code Lib.Math.min.name Lib.Math.min.code 2 (some .int) ∈ hTbl) (h0 : 1 ≤ X.d) (hcat : (st.map fun v => v.category).sum ≤ 8) (h1 : kc ≤ X.mc) (h2 : ks ≤ X.ms) (hd : decode cc pc = .ok (.invokestatic idx, 3)) (kk : HW cc own X kc ks S (pc + 3) lv (.int (if y < x then y else x) :: st)) : HW cc own X kc ks S pc lv (.int y :: .int x :: st) := by
  intro p l e s m below meth c D cy cv H locs ls F P hl
  exact va_mmin F.1 F.2.1 (F.2.2.2.1.trans hl.1.symm) F.2.2.2.2.2.1 (F.2.2.2.2.1 _ hq1) (F.2.2.2.2.1 _ hq2) (F.2.2.2.2.1 _ hq3) (F.2.2.2.2.1 _ hq4) h0 (by show _ + 13 ≤ 64 * X.d; omega) h1 h2 hd (kk p l e s m below meth c D cy cv H locs ls F P hl)
theorem h_mmax {idx : Nat} {x y : Int32} (hq1 : Cond.methodLink own idx Lib.Math.max.name ∈ hTbl) (hq2 : Cond.static Lib.Math.max.name ∈ hTbl) (hq3 : Cond.initialized "java/lang/Math" ∈ hTbl) (hq4 : Cond.code Lib.Math.max.name Lib.Math.max.code 2 (some .int) ∈ hTbl) (h0 : 1 ≤ X.d) (hcat : (st.map fun v => v.category).sum ≤ 8) (h1 : kc ≤ X.mc) (h2 : ks ≤ X.ms) (hd : decode cc pc = .ok (.invokestatic idx, 3)) (kk : HW cc own X kc ks S (pc + 3) lv (.int (if x < y then y else x) :: st)) : HW cc own X kc ks S pc lv (.int y :: .int x :: st) := by
  intro p l e s m below meth c D cy cv H locs ls F P hl
  exact va_mmax F.1 F.2.1 (F.2.2.2.1.trans hl.1.symm) F.2.2.2.2.2.1 (F.2.2.2.2.1 _ hq1) (F.2.2.2.2.1 _ hq2) (F.2.2.2.2.1 _ hq3) (F.2.2.2.2.1 _ hq4) h0 (by show _ + 13 ≤ 64 * X.d; omega) h1 h2 hd (kk p l e s m below meth c D cy cv H locs ls F P hl)
theorem h_mabs {idx : Nat} {x : Int32} (hq1 : Cond.methodLink own idx Lib.Math.abs.name ∈ hTbl) (hq2 : Cond.static Lib.Math.abs.name ∈ hTbl) (hq3 : Cond.initialized "java/lang/Math" ∈ hTbl) (hq4 : Cond.code Lib.Math.abs.name Lib.Math.abs.code 1 (some .int) ∈ hTbl) (h0 : 1 ≤ X.d) (hcat : (st.map fun v => v.category).sum ≤ 8) (h1 : kc ≤ X.mc) (h2 : ks ≤ X.ms) (hd : decode cc pc = .ok (.invokestatic idx, 3)) (kk : HW cc own X kc ks S (pc + 3) lv (.int (if 0 ≤ x then x else 0 - x) :: st)) : HW cc own X kc ks S pc lv (.int x :: st) := by
  intro p l e s m below meth c D cy cv H locs ls F P hl
  exact va_mabs F.1 F.2.1 (F.2.2.2.1.trans hl.1.symm) F.2.2.2.2.2.1 (F.2.2.2.2.1 _ hq1) (F.2.2.2.2.1 _ hq2) (F.2.2.2.2.1 _ hq3) (F.2.2.2.2.1 _ hq4) h0 (by show _ + 13 ≤ 64 * X.d; omega) h1 h2 hd (kk p l e s m below meth c D cy cv H locs ls F P hl)
theorem qm_min : Cond.code Lib.Math.min.name Lib.Math.min.code 2 (some .int) ∈ hTbl := hm_3 (i := 6) (by decide +kernel) (by decide +kernel)
theorem qm_abs : Cond.code Lib.Math.abs.name Lib.Math.abs.code 1 (some .int) ∈ hTbl := hm_4 (i := 111) (by decide +kernel) (by decide +kernel)
theorem qm_max : Cond.code Lib.Math.max.name Lib.Math.max.code 2 (some .int) ∈ hTbl := hm_4 (i := 163) (by decide +kernel) (by decide +kernel)
theorem h_ldcw {i : Nat} {v : Int32} (hd : decode cc pc = .ok (.ldc_w i, 3)) (hq : Cond.constant own i v ∈ hTbl) (k : HW cc own X kc ks S (pc + 3) lv (.int v :: st)) : HW cc own X kc ks S pc lv st := by
  intro p l e s m below meth c D cy cv H locs ls F P hl
  exact lv_ldcw F.1 F.2.1 F.2.2.2.2.2.1 (F.2.2.2.2.1 _ hq) hd (k p l e s m below meth c D cy cv H locs ls F P hl)
theorem h_ifnull {v : Option Nat} {off : Int} {tgt : Nat} (hd : decode cc pc = .ok (.ifnull off, 3)) (ht : (pc : Int) + off = (tgt : Int)) (k0 : v = none → HW cc own X kc ks S tgt lv st) (k1 : ∀ a, v = some a → HW cc own X kc ks S (pc + 3) lv st) : HW cc own X kc ks S pc lv (va_rf v :: st) := by
  intro p l e s m below meth c D cy cv H locs ls F P hl
  cases v with
  | none => exact lv_ifnullN F.1 F.2.1 hd ht (k0 rfl p l e s m below meth c D cy cv H locs ls F P hl)
  | some a => exact lv_ifnull F.1 F.2.1 hd (k1 a rfl p l e s m below meth c D cy cv H locs ls F P hl)
theorem h_ifnonnull {v : Option Nat} {off : Int} {tgt : Nat} (hd : decode cc pc = .ok (.ifnonnull off, 3)) (ht : (pc : Int) + off = (tgt : Int)) (k0 : v = none → HW cc own X kc ks S (pc + 3) lv st) (k1 : ∀ a, v = some a → HW cc own X kc ks S tgt lv st) : HW cc own X kc ks S pc lv (va_rf v :: st) := by
  intro p l e s m below meth c D cy cv H locs ls F P hl
  cases v with
  | none => exact lv_ifnonnullN F.1 F.2.1 hd (k0 rfl p l e s m below meth c D cy cv H locs ls F P hl)
  | some a => exact lv_ifnonnull F.1 F.2.1 hd ht (k1 a rfl p l e s m below meth c D cy cv H locs ls F P hl)
theorem h_tabOut {dflt lo hi : Int} {offs : Array Int} {len tgt : Nat} {x : Int32} (hd : decode cc pc = .ok (.tableswitch dflt lo hi offs, len)) (h : x.toInt < lo ∨ hi < x.toInt) (ht : (pc : Int) + dflt = (tgt : Int)) (k : HW cc own X kc ks S tgt lv st) : HW cc own X kc ks S pc lv (.int x :: st) := by
  intro p l e s m below meth c D cy cv H locs ls F P hl
  exact lv_tableOut F.1 F.2.1 hd h ht (k p l e s m below meth c D cy cv H locs ls F P hl)
theorem h_tabIn {dflt lo hi off : Int} {offs : Array Int} {len tgt : Nat} {x : Int32} (v : Int) (hx : x.toInt = v) (hd : decode cc pc = .ok (.tableswitch dflt lo hi offs, len)) (h1 : ¬ v < lo) (h2 : ¬ hi < v) (ho : offs[(v - lo).toNat]? = some off) (ht : (pc : Int) + off = (tgt : Int)) (k : HW cc own X kc ks S tgt lv st) : HW cc own X kc ks S pc lv (.int x :: st) := by
  intro p l e s m below meth c D cy cv H locs ls F P hl
  subst hx
  exact lv_tableIn F.1 F.2.1 hd h1 h2 ho ht (k p l e s m below meth c D cy cv H locs ls F P hl)
theorem hne_t {x v : Int32} {a : Int} (h : ¬ x = v) (hv : v.toInt = a) : ¬ x.toInt = a := lv_neT h hv
end HR
