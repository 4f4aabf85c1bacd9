/-- an int row once more -/
def hS.clone (S : hS) (a : Nat) : hS := (S.nx + 1, va_up S.K S.nx 12, va_up S.n S.nx (S.n a), va_up S.I S.nx (S.I a), va_up S.J S.nx (fun _ => 0), va_up S.R S.nx (fun _ => none))
theorem hPool.clone {D : va_G} {cy : Nat → ClassId} {A : Nat → Prop} {H0 H H1 : Heap} {S : hS} {locs : List Loc} {a : Nat} (P : hPool D cy A H0 S H locs) (hA0 : ∀ q : Nat, H0.size ≤ q → A q) (z : H1.size = H.size + 1) (o1 : ∀ q : Nat, q < H.size → H1[q]? = H[q]?) (e : va_at D vwCl (S.nx, hcell cy (S.clone a) S.nx) H1) : hPool D cy A H0 (S.clone a) H1 locs := by
  refine ⟨⟨by rw [z, P.1.1]; rfl, fun b hb => ?_⟩, fun b ha => ?_, Nat.le_trans P.2.2.1 (by omega), fun x h1 h2 => (o1 x (Nat.lt_of_lt_of_le h1 P.2.2.1)).trans (P.2.2.2.1 x h1 h2), P.2.2.2.2⟩
  · by_cases q : b = S.nx
    · subst q; exact e
    · have hK : (S.clone a).K b = S.K b := by simp [hS.clone, hS.K, va_up, q]
      rw [hcell_same (S := S) hK (by simp [hS.clone, hS.n, va_up, q]) (by simp [hS.clone, hS.I, va_up, q]) (by simp [hS.clone, hS.J, va_up, q]) (by simp [hS.clone, hS.R, va_up, q])]
      have h := P.1.2 b (by rw [← hK]; exact hb)
      exact h.kept (o1 b h.lt)
  · by_cases q : b = S.nx
    · subst q
      exact hA0 _ (by have := P.2.2.1; rw [P.1.1] at this; exact this)
    · exact P.2.1 b (by simpa [hS.clone, hS.K, va_up, q] using ha)
section HR
variable {cc : ByteArray} {own : String} {X : hX} {kc ks pc : Nat} {S : hS} {lv : List (Nat × Value)} {st : List Value}
theorem h_clone {a idx : Nat} (hK : S.K a = 12) (hq1 : Cond.methodLink own idx ⟨"[I", "clone", "()Ljava/lang/Object;"⟩ ∈ hTbl) (h0 : 1 ≤ X.d) (hcat : (st.map fun v => v.category).sum ≤ 8) (hd : decode cc pc = .ok (.invokevirtual idx, 3)) (h1 : kc + 1 ≤ X.mc) (h2 : ks + S.n a ≤ X.ms) (kk : HW cc own X (kc + 1) (ks + S.n a) (S.clone a) (pc + 3) lv (.ref S.nx :: st)) : HW cc own X kc ks S pc lv (.ref a :: st) := by
  intro p l e s m below meth c D cy cv H locs ls F P hl
  have hts := F.2.2.2.2.1
  have hE := F.2.2.2.2.2.2.2.2.1
  have hnm : s.vm.findClass "[I" = some (cy 12) := (hE.1.2 1 _ rfl).2
  have hc1 : H[a]? = some (vp_cell (cy 12) (S.n a, .inl (S.I a))) := P.i hK (by omega)
  have hsz : (vp_cell (cy 12) (S.n a, .inl (S.I a))).slots.size = S.n a := arrV_size _ _ _
  have hcellE : ({ cls := (vp_cell (cy 12) (S.n a, .inl (S.I a))).cls, slots := (vp_cell (cy 12) (S.n a, .inl (S.I a))).slots } : Cell) = vp_cell (cy 12) (S.n a, .inl (S.I a)) := rfl
  obtain ⟨c0, t0', f1, f2, f3⟩ := Cond.castable_spec (va_Nw.use (A := X.args.toArray) rfl hE.2.2.2.2.2.2.2.2.2)
  cases hnm.symm.trans f1
  intro T hT Z
  have hcellT : T.heap[a]? = some (vp_cell (cy 12) (S.n a, .inl (S.I a))) := by rw [hT]; exact hc1
  obtain ⟨-, kA, hkA, comp, hkind⟩ := State.isArrayOf_alike Z.warmed.alike ((hE.1.2 1 _ rfl).1 0 (fun _ => .null))
  obtain ⟨-, kS, hkS, compS, hkindS⟩ := (hE.1.2 1 _ rfl).1 0 (fun _ => .null)
  obtain ⟨vm', X', stp⟩ := Z.cloneArray F.1 F.2.2.2.2.2.1 (hts _ hq1) (hts _ q_660) (hts _ q_661) (hts _ q_662) (hts _ q_663) (a := a) (cell := vp_cell (cy 12) (S.n a, .inl (S.I a))) hcellT (fun k h => by cases h) (fun h => by cases h) hnm f2 f3
    (fun i v hv => by
      have hk' : T.vm.classes[cy 12]? = some kA := hkA
      have hv2 : (arrV (cy 12) (S.n a) (fun j => .int (S.I a j))).slots[i]? = some v := hv
      have hi : i < S.n a := by
        have := (Array.getElem?_eq_some_iff.mp hv2).1
        rwa [arrV_size] at this
      rw [arrV_read _ _ hi] at hv2
      cases hv2
      show T.fitsSlot (cy 12) _ i _ = true
      simp [State.fitsSlot, State.slotType?, hk', hkind, fits])
    (g := F0 m pc ls (.ref a :: st)) rfl (by rw [F.2.2.2.1]; exact hl.1) rfl (by rw [F.2.1]; exact hd) h0 (by show 2 * 0 + _ + 14 ≤ 64 * X.d; omega) h1 (by rw [hsz]; exact h2) (hloader := Vm.clonesLoader_of_array hkS hkindS)
  rw [hcellE, hsz] at X'
  generalize hH1 : H.push (vp_cell (cy 12) (S.n a, .inl (S.I a))) = H1
  have z1 : H1.size = H.size + 1 := by rw [← hH1, Array.size_push]
  have e1 : H1[H.size]? = some (vp_cell (cy 12) (S.n a, .inl (S.I a))) := by rw [← hH1, Array.getElem?_push_size]
  have o1 : ∀ q : Nat, q < H.size → H1[q]? = H[q]? := fun q hq => by rw [← hH1, Array.getElem?_push, if_neg (Nat.ne_of_lt hq)]
  obtain ⟨t, b1, b2⟩ := kk p l e s m below meth c D cy cv H1 locs ls F (P.clone (a := a) F.A0 z1 o1 (by
      rw [hcell_i (k := 12) (by simp [hS.clone, hS.K, va_up]) (by omega)]
      show H1[S.nx]? = some (vp_cell _ _)
      have e2 := e1
      rw [show H.size = S.nx from P.1.1] at e2
      rw [e2]
      simp [hS.clone, hS.n, hS.I, va_up])) hl ((T.setVm vm').pushCell (vp_cell (cy 12) (S.n a, .inl (S.I a)))) (by rw [← hH1, ← hT]; rfl) X'
  refine ⟨t, stp t ?_, b2⟩
  rw [hcellE, hT, show H.size = S.nx from P.1.1]
  exact b1
theorem h_castI {a idx : Nat} (hK : S.K a = 12) (hq1 : Cond.classLink own idx "[I" ∈ hTbl) (hd : decode cc pc = .ok (.checkcast idx, 3)) (kk : HW cc own X kc ks S (pc + 3) lv (.ref a :: st)) : HW cc own X kc ks S pc lv (.ref a :: st) := by
  intro p l e s m below meth c D cy cv H locs ls F P hl
  exact va_castA F.1 F.2.1 F.2.2.2.2.2.1 (F.2.2.2.2.1 _ hq1) (hone (P.i hK (by omega))) 0 rfl (F.2.2.2.2.2.2.2.2.1.1.2 1 _ rfl).2 hd (kk p l e s m below meth c D cy cv H locs ls F P hl)
end HR
/-- Arrays.copyOf of an int row -/
def fcO (a : Nat) (n : Int32) (S : hS) : Option (Nat × hS) :=
  if S.K a = 12 ∧ a ≠ S.nx ∧ ¬ n < 0 ∧ n.toNatClampNeg ≤ 400 ∧ S.n a ≤ 400 then
    (if n = Int32.ofNat (S.n a) then some (S.nx, S.clone a)
     else hbd (cpA (S.new 12 n.toNatClampNeg) a 0 S.nx 0 (if n < Int32.ofNat (S.n a) then n else Int32.ofNat (S.n a))) fun T => some (S.nx, T))
  else none
theorem v_J7_copyOf_59c91 : hSW yJ7_copyOf_59c91 cJ7_copyOf_59c91 3 (some (.array .int)) 2 := ⟨q_657, q_10, q_658, by decide +kernel, by decide⟩
set_option maxRecDepth 100000 in
set_option maxHeartbeats 4000000 in
theorem m_J7_copyOf_59c91 {d : Nat} {cs : Nat → Nat} {a : Nat} {n : Int32} {S : hS} {r : Nat × hS} (hd : 1 ≤ d) (hf : fcO a n S = some r) : HM yJ7_copyOf_59c91 cJ7_copyOf_59c91 3 (some (.array .int)) d 1 400 cs [.ref a, .int n] S (some (.ref r.1)) r.2 := by
  unfold fcO at hf
  split at hf
  case isFalse => cases hf
  case isTrue hc =>
  obtain ⟨hK, hne, h0, hN, hS4⟩ := hc
  have hgn : gN S a = some (Int32.ofNat (S.n a)) := by unfold gN; rw [if_pos (by omega)]
  refine HM.ofHW false (by decide) (fun h => by cases h) (Nat.le_of_ble_eq_true rfl) ?_
  show HW cJ7_copyOf_59c91 RJ7 ((some (.array .int), 3, d, 1, 400, false), (S, [.ref a, .int n], some (.ref r.1), r.2), cs) 0 0 S 0 [(0, .ref a), (1, .int n)] []
  refine h_iload_n dJ7_copyOf_59c91_0 rfl 1 rfl ?_
  refine h_aload_n dJ7_copyOf_59c91_1 rfl 0 rfl ?_
  refine h_alen hgn dJ7_copyOf_59c91_2 ?_
  refine h_icmp_ne (tgt := 14) dJ7_copyOf_59c91_3 (by decide) (fun c => ?_) (fun c => ?_)
  · replace hf := hif_n c hf
    obtain ⟨T, hT, hf⟩ := hbd_s hf
    obtain rfl := Option.some.inj hf
    have hK2 : (S.new 12 n.toNatClampNeg).K a = 12 := by
      have := (cpA_s hT).1.1
      exact this
    have hgn2 : gN (S.new 12 n.toNatClampNeg) a = some (Int32.ofNat ((S.new 12 n.toNatClampNeg).n a)) := by unfold gN; rw [if_pos (by omega)]
    refine h_iload_n dJ7_copyOf_59c91_14 rfl 1 rfl ?_
    refine h_newI rfl rfl h0 rfl (by omega) dJ7_copyOf_59c91_15 (Nat.le_refl _) (by show 0 + n.toNatClampNeg ≤ 400; omega) ?_
    refine h_astore_n (lv2 := [(2, .ref S.nx), (0, .ref a), (1, .int n)]) dJ7_copyOf_59c91_17 rfl (Nat.le_of_ble_eq_true rfl) rfl ?_
    refine h_aload_n dJ7_copyOf_59c91_18 rfl 1 rfl ?_
    refine h_iconst (v := 0) dJ7_copyOf_59c91_19 rfl ?_
    refine h_aload_n dJ7_copyOf_59c91_20 rfl 0 rfl ?_
    refine h_iconst (v := 0) dJ7_copyOf_59c91_21 rfl ?_
    refine h_aload_n dJ7_copyOf_59c91_22 rfl 1 rfl ?_
    refine h_alen hgn2 dJ7_copyOf_59c91_23 ?_
    refine h_iload_n dJ7_copyOf_59c91_24 rfl 2 rfl ?_
    refine h_mmin q_666 q_485 q_15 qm_min (Nat.le_trans (by decide) hd) (Nat.le_of_ble_eq_true rfl) (Nat.le_refl _) (by show 0 + n.toNatClampNeg ≤ 400; omega) dJ7_copyOf_59c91_25 ?_
    have e : (S.new 12 n.toNatClampNeg).n a = S.n a := by simp [hS.new, hS.n, va_up, hne]
    rw [e]
    refine h_acopy hT q_667 (Nat.le_trans (by decide) hd) (Nat.le_of_ble_eq_true rfl) dJ7_copyOf_59c91_28 ?_
    refine h_aload_n dJ7_copyOf_59c91_31 rfl 0 rfl ?_
    exact h_aret (v := some S.nx) rfl (Or.inr ⟨_, rfl⟩) rfl rfl (Nat.le_refl _) (by show 0 + n.toNatClampNeg ≤ 400; omega) dJ7_copyOf_59c91_32
  · replace hf := hif_p c hf
    obtain rfl := Option.some.inj hf
    refine h_aload_n dJ7_copyOf_59c91_6 rfl 0 rfl ?_
    refine h_clone hK q_659 (Nat.le_trans (by decide) hd) (Nat.le_of_ble_eq_true rfl) dJ7_copyOf_59c91_7 (Nat.le_refl _) (by show 0 + S.n a ≤ 400; omega) ?_
    refine h_castI (by simp [hS.clone, hS.K, va_up]) q_665 dJ7_copyOf_59c91_10 ?_
    exact h_aret (v := some S.nx) rfl (Or.inr ⟨_, rfl⟩) rfl rfl (Nat.le_refl _) (by show 0 + S.n a ≤ 400; omega) dJ7_copyOf_59c91_13
