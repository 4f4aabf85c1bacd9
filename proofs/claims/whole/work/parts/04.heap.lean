abbrev hS : Type := Nat × (Nat → Nat) × (Nat → Nat) × (Nat → Nat → Int32) × (Nat → Nat → Int64) × (Nat → Nat → Option Nat)
abbrev hS.nx (S : hS) : Nat := S.1
abbrev hS.K (S : hS) : Nat → Nat := S.2.1
abbrev hS.n (S : hS) : Nat → Nat := S.2.2.1
abbrev hS.I (S : hS) : Nat → Nat → Int32 := S.2.2.2.1
abbrev hS.J (S : hS) : Nat → Nat → Int64 := S.2.2.2.2.1
abbrev hS.R (S : hS) : Nat → Nat → Option Nat := S.2.2.2.2.2
/-- an int slot of a cell told anew -/
def hS.setI (S : hS) (a k : Nat) (v : Int32) : hS := (S.nx, S.K, S.n, va_up S.I a (va_up (S.I a) k v), S.J, S.R)
def hS.setJ (S : hS) (a k : Nat) (v : Int64) : hS := (S.nx, S.K, S.n, S.I, va_up S.J a (va_up (S.J a) k v), S.R)
def hS.setR (S : hS) (a k : Nat) (v : Option Nat) : hS := (S.nx, S.K, S.n, S.I, S.J, va_up S.R a (va_up (S.R a) k v))
/-- a whole row of ints told anew -/
def hS.setRow (S : hS) (a : Nat) (f : Nat → Int32) : hS := (S.nx, S.K, S.n, va_up S.I a f, S.J, S.R)
/-- a new cell of a kind, of a length, all of it 0 -/
def hS.new (S : hS) (kd len : Nat) : hS := (S.nx + 1, va_up S.K S.nx kd, va_up S.n S.nx len, va_up S.I S.nx (fun _ => 0), va_up S.J S.nx (fun _ => 0), va_up S.R S.nx (fun _ => none))
def hT : Nat → List Bool := fun c => match c with
  | 0 => [true, true, true, true, false, false, false, false, false, false, false, true]
  | 1 => [false, false, false, false, false, false, true]
  | 2 => [false, true, true, true, true, true]
  | 3 => [true, true, false]
  | 4 => [true, true, true, true]
  | 5 => [true, true, false, false, true, true]
  | 6 => [false, false, false, false, true, true, true, true, false, true, true, true, false, true, true]
  | 7 => [true, false, false, false]
  | 8 => [true, true, false, true, true, true, true, true, true, true, true]
  | _ => [false, true, true, true, true, true, true, true, true, true, true, true, true, true, true, true, true, true, true, true, true, true, true, false, false, false, false, false, false, false, false, false, false, false, true, true, true, true, true, true, true, true, true, true, true, true, true, true, true, true, false, false, false, false, false, true, false, false, true, true, true, false, false]
def hF (S : hS) (a : Nat) (k : Nat) (b : Bool) : Value := if b then va_rf (S.R a k) else .int (S.I a k)
def hcell (cy : Nat → ClassId) (S : hS) (a : Nat) : va_E :=
  if S.K a < 11 then .inr (S.K a - 1, (hT (S.K a - 1)).mapIdx (hF S a))
  else if S.K a = 13 then .inl (cy 13, S.n a, .inr (.inl (S.J a)))
  else if 15 ≤ S.K a then .inl (cy (S.K a), S.n a, .inr (.inr (.inr (.inr (S.R a)))))
  else .inl (cy (S.K a), S.n a, .inl (S.I a))
theorem hcell_o {cy : Nat → ClassId} {S : hS} {a ci : Nat} (h : S.K a = ci + 1) (hc : ci < 10) : hcell cy S a = .inr (ci, (hT ci).mapIdx (hF S a)) := by
  unfold hcell; rw [h, if_pos (by omega), Nat.add_sub_cancel]
theorem hcell_i {cy : Nat → ClassId} {S : hS} {a k : Nat} (h : S.K a = k) (hk : k = 11 ∨ k = 12 ∨ k = 14) : hcell cy S a = .inl (cy k, S.n a, .inl (S.I a)) := by
  unfold hcell; rw [h, if_neg (by omega), if_neg (by omega), if_neg (by omega)]
theorem hcell_j {cy : Nat → ClassId} {S : hS} {a : Nat} (h : S.K a = 13) : hcell cy S a = .inl (cy 13, S.n a, .inr (.inl (S.J a))) := by
  unfold hcell; rw [h, if_neg (by omega), if_pos rfl]
theorem hcell_r {cy : Nat → ClassId} {S : hS} {a k : Nat} (h : S.K a = k) (hk : 15 ≤ k) : hcell cy S a = .inl (cy k, S.n a, .inr (.inr (.inr (.inr (S.R a))))) := by
  unfold hcell; rw [h, if_neg (by omega), if_neg (by omega), if_pos hk]
theorem hcell_same {cy : Nat → ClassId} {S S' : hS} {b : Nat} (h1 : S'.K b = S.K b) (h2 : S'.n b = S.n b) (h3 : S'.I b = S.I b) (h4 : S'.J b = S.J b) (h5 : S'.R b = S.R b) : hcell cy S' b = hcell cy S b := by
  have e : hF S' b = hF S b := by funext k x; simp only [hF, h3, h5]
  unfold hcell; rw [h1, h2, h3, h4, h5, e]
def htys (cy : Nat → ClassId) : List (ClassId × FieldType) := [(cy 11, .byte), (cy 12, .int), (cy 13, .long), (cy 14, .boolean), (cy 15, .object "DeafSpot$Evening"), (cy 16, .object "DeafSpot$Law")]
/-- what a call may change: the pool, and what is new -/
def hA (S : hS) : Nat → Prop := fun q => S.K q ≠ 0 ∨ S.nx ≤ q
/-- the cells of the pool lie in the heap -/
def hB (D : va_G) (cy : Nat → ClassId) (S : hS) (H : Heap) : Prop := H.size = S.nx ∧ ∀ a, S.K a ≠ 0 → va_at D vwCl (a, hcell cy S a) H
def hPool (D : va_G) (cy : Nat → ClassId) (A : Nat → Prop) (H0 : Heap) (S : hS) (H : Heap) (locs : List Loc) : Prop := hB D cy S H ∧ (∀ a, S.K a ≠ 0 → A a) ∧ va_S A H0 H locs
theorem hB.write {D : va_G} {cy : Nat → ClassId} {S S' : hS} {H H1 : Heap} {a : Nat} (P : hB D cy S H) (e : va_at D vwCl (a, hcell cy S' a) H1) (z : H1.size = H.size) (oq : ∀ q : Nat, q ≠ a → H1[q]? = H[q]?) (h0 : S'.nx = S.nx) (h1 : S'.K = S.K) (h2 : S'.n = S.n) (h3 : ∀ b, b ≠ a → S'.I b = S.I b) (h4 : ∀ b, b ≠ a → S'.J b = S.J b) (h5 : ∀ b, b ≠ a → S'.R b = S.R b) : hB D cy S' H1 := by
  refine ⟨by rw [z, P.1, h0], fun b hb => ?_⟩
  by_cases q : b = a
  · subst q; exact e
  · rw [hcell_same (by rw [h1]) (by rw [h2]) (h3 b q) (h4 b q) (h5 b q)]
    exact (P.2 b (by rw [← h1]; exact hb)).kept (oq b q)
theorem hPool.write {D : va_G} {cy : Nat → ClassId} {A : Nat → Prop} {H0 : Heap} {locs : List Loc} {S S' : hS} {H H1 : Heap} {a j : Nat} (P : hPool D cy A H0 S H locs) (ha : S.K a ≠ 0) (e : va_at D vwCl (a, hcell cy S' a) H1) (z : H1.size = H.size) (oq : ∀ q : Nat, q ≠ a → H1[q]? = H[q]?) (h0 : S'.nx = S.nx) (h1 : S'.K = S.K) (h2 : S'.n = S.n) (h3 : ∀ b, b ≠ a → S'.I b = S.I b) (h4 : ∀ b, b ≠ a → S'.J b = S.J b) (h5 : ∀ b, b ≠ a → S'.R b = S.R b) : hPool D cy A H0 S' H1 (locs ++ [⟨a, j⟩]) :=
  ⟨P.1.write e z oq h0 h1 h2 h3 h4 h5, fun b hb => P.2.1 b (by rw [← h1]; exact hb), P.2.2.put z oq (P.2.1 a ha)⟩
def hNF : List (String × Nat × String × String × String × String) := [(RX8, 284, "DeafSpot$Tape", "length", "I", "DeafSpot"), (RX5, 43, "DeafSpot$Tape", "at", "I", "DeafSpot"), (RX3, 61, "DeafSpot$Tape", "at", "I", "DeafSpot"), (RX8, 92, "DeafSpot$Tape", "fault", "I", "DeafSpot"), (RX1, 35, "DeafSpot$Room", "columns", "I", "DeafSpot"), (RX3, 146, "DeafSpot$Room", "columns", "I", "DeafSpot"), (RX8, 266, "DeafSpot$Room", "columns", "I", "DeafSpot"), (RX1, 40, "DeafSpot$Room", "rows", "I", "DeafSpot"), (RX3, 149, "DeafSpot$Room", "rows", "I", "DeafSpot"), (RX8, 269, "DeafSpot$Room", "rows", "I", "DeafSpot"), (RX1, 47, "DeafSpot$Room", "seats", "I", "DeafSpot"), (RX0, 92, "DeafSpot$Room", "seats", "I", "DeafSpot"), (RX8, 247, "DeafSpot$Room", "seats", "I", "DeafSpot"), (RX3, 49, "DeafSpot$Room", "told", "I", "DeafSpot"), (RX8, 287, "DeafSpot$Room", "told", "I", "DeafSpot"), (RX1, 50, "DeafSpot$Room", "xs", "[I", "DeafSpot"), (RX0, 159, "DeafSpot$Room", "xs", "[I", "DeafSpot"), (RX1, 62, "DeafSpot$Room", "ys", "[I", "DeafSpot"), (RX0, 162, "DeafSpot$Room", "ys", "[I", "DeafSpot"), (RX8, 134, "DeafSpot$Room", "edges", "[I", "DeafSpot"), (RX0, 165, "DeafSpot$Room", "edges", "[I", "DeafSpot"), (RX0, 138, "DeafSpot$Room", "nexts", "[I", "DeafSpot"), (RX3, 102, "DeafSpot$Room", "fans", "I", "DeafSpot"), (RX8, 159, "DeafSpot$Room", "fans", "I", "DeafSpot"), (RX0, 124, "DeafSpot$Room", "fans", "I", "DeafSpot"), (RX8, 162, "DeafSpot$Room", "fanSeats", "[I", "DeafSpot"), (RX0, 127, "DeafSpot$Room", "fanSeats", "[I", "DeafSpot"), (RX8, 165, "DeafSpot$Room", "fanWays", "[I", "DeafSpot"), (RX0, 141, "DeafSpot$Room", "fanWays", "[I", "DeafSpot"), (RX8, 168, "DeafSpot$Room", "fanStrengths", "[I", "DeafSpot"), (RX0, 130, "DeafSpot$Room", "fanStrengths", "[I", "DeafSpot"), (RX3, 105, "DeafSpot$Room", "snows", "I", "DeafSpot"), (RX0, 144, "DeafSpot$Room", "snows", "I", "DeafSpot"), (RX8, 272, "DeafSpot$Room", "snows", "I", "DeafSpot"), (RX0, 147, "DeafSpot$Room", "snowSeats", "[I", "DeafSpot"), (RX0, 150, "DeafSpot$Room", "snowColds", "[I", "DeafSpot"), (RX3, 97, "DeafSpot$Guests", "number", "I", "DeafSpot"), (RX8, 109, "DeafSpot$Guests", "number", "I", "DeafSpot"), (RX0, 116, "DeafSpot$Guests", "number", "I", "DeafSpot"), (RX8, 141, "DeafSpot$Guests", "seats", "[I", "DeafSpot"), (RX0, 119, "DeafSpot$Guests", "seats", "[I", "DeafSpot"), (RX8, 150, "DeafSpot$Guests", "warmth", "[I", "DeafSpot"), (RX0, 121, "DeafSpot$Guests", "warmth", "[I", "DeafSpot"), (RX8, 153, "DeafSpot$Guests", "sorts", "[I", "DeafSpot"), (RX0, 113, "DeafSpot$Guests", "deafness", "[I", "DeafSpot"), (RX8, 156, "DeafSpot$Guests", "deafness", "[I", "DeafSpot"), (RX3, 126, "DeafSpot$Guests", "sitters", "[I", "DeafSpot"), (RX8, 128, "DeafSpot$Guests", "sitters", "[I", "DeafSpot"), (RX0, 110, "DeafSpot$Guests", "sitters", "[I", "DeafSpot"), (RX3, 41, "DeafSpot$Evening", "room", "LDeafSpot$Room;", "DeafSpot"), (RX8, 117, "DeafSpot$Evening", "room", "LDeafSpot$Room;", "DeafSpot"), (RX3, 93, "DeafSpot$Evening", "guests", "LDeafSpot$Guests;", "DeafSpot"), (RX8, 105, "DeafSpot$Evening", "guests", "LDeafSpot$Guests;", "DeafSpot"), (RX8, 125, "DeafSpot$Evening", "heat", "[I", "DeafSpot"), (RX3, 143, "DeafSpot$Evening", "heat", "[I", "DeafSpot"), (RX8, 131, "DeafSpot$Evening", "spot", "I", "DeafSpot"), (RX3, 140, "DeafSpot$Evening", "spot", "I", "DeafSpot"), (RX8, 189, "DeafSpot$Evening", "now", "I", "DeafSpot"), (RX8, 256, "DeafSpot$Evening", "out", "I", "DeafSpot"), (RX8, 278, "DeafSpot$Evening", "melted", "I", "DeafSpot"), (RX8, 281, "DeafSpot$Evening", "given", "I", "DeafSpot"), (RX8, 98, "DeafSpot$Evening", "draws", "I", "DeafSpot")]
def hNM : List (String × Nat × MethodName × String) := [(RX8, 9, yX7_init, "DeafSpot"), (RX8, 28, yX0_init, "DeafSpot"), (RX0, 11, yX6_init, "DeafSpot"), (RX0, 20, yX2_init, "DeafSpot"), (RX8, 63, yX1_init, "DeafSpot")]
def hSL : List (String × Nat × String × Nat) := [(RX3, 55, "hall guest fan snow spot warm", 0), (RX5, 37, "go", 1), (RX5, 122, "heat near guests x y minute way back edge", 2), (RX5, 120, "+-*/%", 3), (RX5, 60, "if", 4), (RX5, 98, "not", 5), (RX5, 112, "<=>", 6), (RX5, 107, "]", 7), (RX5, 87, "and", 8), (RX5, 92, "or", 9), (RX9, 182, "hall", 10), (RX9, 184, "guest", 11), (RX9, 186, "fan", 12), (RX9, 188, "snow", 13), (RX9, 190, "spot", 14), (RX9, 192, "warm", 15), (RX9, 330, "go", 1), (RX9, 165, "heat", 16), (RX9, 166, "near", 17), (RX9, 168, "guests", 18), (RX9, 170, "x", 19), (RX9, 172, "y", 20), (RX9, 174, "minute", 21), (RX9, 176, "way", 22), (RX9, 178, "back", 23), (RX9, 180, "edge", 24), (RX9, 332, "if", 4), (RX9, 273, "not", 5), (RX9, 287, "and", 8), (RX9, 289, "or", 9)]
def hSN : Nat := 25
def hSlen : List Nat := [29, 2, 41, 5, 2, 3, 3, 1, 3, 2, 4, 5, 3, 4, 4, 4, 4, 4, 6, 1, 1, 6, 3, 4, 4]
def hSbyt : List (List Int32) := [[104, 97, 108, 108, 32, 103, 117, 101, 115, 116, 32, 102, 97, 110, 32, 115, 110, 111, 119, 32, 115, 112, 111, 116, 32, 119, 97, 114, 109], [103, 111], [104, 101, 97, 116, 32, 110, 101, 97, 114, 32, 103, 117, 101, 115, 116, 115, 32, 120, 32, 121, 32, 109, 105, 110, 117, 116, 101, 32, 119, 97, 121, 32, 98, 97, 99, 107, 32, 101, 100, 103, 101], [43, 45, 42, 47, 37], [105, 102], [110, 111, 116], [60, 61, 62], [93], [97, 110, 100], [111, 114], [104, 97, 108, 108], [103, 117, 101, 115, 116], [102, 97, 110], [115, 110, 111, 119], [115, 112, 111, 116], [119, 97, 114, 109], [104, 101, 97, 116], [110, 101, 97, 114], [103, 117, 101, 115, 116, 115], [120], [121], [109, 105, 110, 117, 116, 101], [119, 97, 121], [98, 97, 99, 107], [101, 100, 103, 101]]
/-- the texts: each a String of these signs, apart from what is written -/
def hStr (N : Nat) (len : List Nat) (byt : List (List Int32)) (adK adV : Nat → Nat) (A : Nat → Prop) (U : State) (H : Heap) : Prop :=
  ∀ i : Nat, i < N → va_O "java/lang/String" (adK i) A U H ∧ va_OF "java/lang/String" "coder" "B" (.int 0) (adK i) A U H ∧ va_OF "java/lang/String" "value" "[B" (.ref (adV i)) (adK i) A U H ∧ va_T .byte (adV i) (len.getD i 0) (fun j => .int ((byt.getD i []).getD j 0)) A U H
theorem hStr.moved {N : Nat} {len : List Nat} {byt : List (List Int32)} {adK adV : Nat → Nat} {A : Nat → Prop} {u U : State} {H : Heap} (hvm : u.vm.Alike U.vm) (h : hStr N len byt adK adV A u H) : hStr N len byt adK adV A U H :=
  fun i hi => ⟨va_O.moved hvm (h i hi).1, va_OF.moved hvm (h i hi).2.1, va_OF.moved hvm (h i hi).2.2.1, va_T.moved hvm (h i hi).2.2.2⟩
theorem hStr.kept {N : Nat} {len : List Nat} {byt : List (List Int32)} {adK adV : Nat → Nat} {A : Nat → Prop} {U : State} {H H1 : Heap} (h : hStr N len byt adK adV A U H) (hq : ∀ a : Nat, a < H.size → ¬ A a → H1[a]? = H[a]?) : hStr N len byt adK adV A U H1 :=
  fun i hi => ⟨(h i hi).1.kept hq, (h i hi).2.1.kept hq, (h i hi).2.2.1.kept hq, (h i hi).2.2.2.kept hq⟩
theorem hStr.narrow {N : Nat} {len : List Nat} {byt : List (List Int32)} {adK adV : Nat → Nat} {A B : Nat → Prop} {U : State} {H : Heap} (h : hStr N len byt adK adV A U H) (hAB : ∀ q, B q → A q) : hStr N len byt adK adV B U H :=
  fun i hi => ⟨(h i hi).1.narrow hAB, (h i hi).2.1.narrow hAB, (h i hi).2.2.1.narrow hAB, (h i hi).2.2.2.narrow hAB⟩
/-- what holds all along: classes, links of nest mates, the texts -/
def hEnv (D : va_G) (cy : Nat → ClassId) (cs cv : Nat → Nat) (A : Nat → Prop) (U : State) (H : Heap) : Prop :=
  va_K D vwCl (htys cy) U ∧ (∀ q ∈ hNF, va_Nw (.fieldLinkNest q.1 q.2.1 q.2.2.1 q.2.2.2.1 q.2.2.2.2.1 q.2.2.2.2.2) U) ∧ (∀ q ∈ hNM, va_Nw (.methodLinkNest q.1 q.2.1 q.2.2.1 q.2.2.2) U) ∧ (∀ q ∈ hSL, vk_R q.1 q.2.1 q.2.2.1 (cs q.2.2.2) U) ∧ hStr hSN hSlen hSbyt cs (fun j => cs (1000 + j)) A U H ∧ va_Z "java/lang/String" "COMPACT_STRINGS" "Z" (.int 1) A U H ∧ va_AO "DeafSpot$Evening" U ∧ va_AO "DeafSpot$Law" U ∧ va_Zq "jdk/internal/util/Preconditions" "SIOOBE_FORMATTER" "Ljava/util/function/BiFunction;" A U H ∧ va_Nw (.castable "[I" "java/lang/Cloneable") U
theorem hEnv.warm {D : va_G} {cy : Nat → ClassId} {cs cv : Nat → Nat} {A B : Nat → Prop} {s U : State} (h : hEnv D cy cs cv A s s.heap) (hW : s.WarmedH U.vm) (hq : ∀ a : Nat, a < s.heap.size → ¬ A a → U.heap[a]? = s.heap[a]?) (hAB : ∀ q, B q → A q) : hEnv D cy cs cv B U U.heap :=
  ⟨va_K.moved hW.alike h.1, fun q m => va_Nw.warmF hW (h.2.1 q m), fun q m => va_Nw.warmM hW (h.2.2.1 q m), fun q m => vk_R.warm hW (h.2.2.2.1 q m), ((h.2.2.2.2.1.moved hW.alike).kept hq).narrow hAB, ((h.2.2.2.2.2.1.moved hW.alike).kept hq).narrow hAB, h.2.2.2.2.2.2.1.moved hW.alike, h.2.2.2.2.2.2.2.1.moved hW.alike, ((h.2.2.2.2.2.2.2.2.1.moved hW.alike).kept hq).narrow hAB, va_Nw.warmC hW h.2.2.2.2.2.2.2.2.2⟩
theorem hEnv.same {D : va_G} {cy : Nat → ClassId} {cs cv : Nat → Nat} {A : Nat → Prop} {s U : State} (h : hEnv D cy cs cv A s s.heap) (hv : U.vm = s.vm) (hh : U.heap = s.heap) : hEnv D cy cs cv A U U.heap := by
  have al : s.vm.Alike U.vm := by rw [hv]; exact Vm.Alike.refl _
  rw [hh]
  exact ⟨va_K.moved al h.1, fun q m => va_Nw.same rfl hv.symm (h.2.1 q m), fun q m => va_Nw.same rfl hv.symm (h.2.2.1 q m), fun q m => vk_R.same hv (h.2.2.2.1 q m), h.2.2.2.2.1.moved al, h.2.2.2.2.2.1.moved al, h.2.2.2.2.2.2.1.moved al, h.2.2.2.2.2.2.2.1.moved al, h.2.2.2.2.2.2.2.2.1.moved al, va_Nw.same rfl hv.symm h.2.2.2.2.2.2.2.2.2⟩
def hrm (d mc ms : Nat) : Room := { frames := d, cells := mc, slots := ms, locals := 64 * d }
/-- a method's standing: its return type, locals, depth, cells, slots, is it a constructor; the state at its entry, its arguments, its answer, the state at its end; the texts' addresses -/
abbrev hX : Type := (Option FieldType × Nat × Nat × Nat × Nat × Bool) × (hS × List Value × Option Value × hS) × (Nat → Nat)
abbrev hX.ret (X : hX) : Option FieldType := X.1.1
abbrev hX.nL (X : hX) : Nat := X.1.2.1
abbrev hX.d (X : hX) : Nat := X.1.2.2.1
abbrev hX.mc (X : hX) : Nat := X.1.2.2.2.1
abbrev hX.ms (X : hX) : Nat := X.1.2.2.2.2.1
abbrev hX.ini (X : hX) : Bool := X.1.2.2.2.2.2
abbrev hX.S0 (X : hX) : hS := X.2.1.1
abbrev hX.args (X : hX) : List Value := X.2.1.2.1
abbrev hX.rv (X : hX) : Option Value := X.2.1.2.2.1
abbrev hX.T (X : hX) : hS := X.2.1.2.2.2
abbrev hX.cs (X : hX) : Nat → Nat := X.2.2
/-- a call's end -/
def hQ (D : va_G) (cy : Nat → ClassId) (S0 : hS) (rv : Option Value) (T : hS) : Array Value → State → Outcome → State → Prop := fun _ st oc t => (oc = .returned rv ∧ hB D cy T t.heap ∧ ∀ a, T.K a ≠ 0 → hA S0 a) ∧ va_F (hA S0) st t
def hFix (cc : ByteArray) (own : String) (X : hX) (D : va_G) (cy : Nat → ClassId) (cv : Nat → Nat) (p : Program) (s : State) (m : MethodId) (meth : Method) (c : Code) : Prop :=
  p.tables.exec = Jvm.exec ∧ c.code = cc ∧ meth.sig.returnType = X.ret ∧ c.maxLocals = X.nL ∧ (∀ w ∈ hTbl, w.before X.args.toArray s = true) ∧ s.vm.findClass own = some m.cls ∧ meth.locks = false ∧ (X.ini = true → meth.name = "<init>") ∧ hEnv D cy X.cs cv (hA X.S0) s s.heap ∧ s.heap.size = X.S0.nx
/-- THE JUDGEMENT: from this place on the method comes to its end, with the answer and the state that its standing tells -/
def HW (cc : ByteArray) (own : String) (X : hX) (kc ks : Nat) (S : hS) (pc : Nat) (lv : List (Nat × Value)) (st : List Value) : Prop :=
  ∀ (p : Program) (l : Launch) (e : Env) (s : State) (m : MethodId) (below : List Frame) (meth : Method) (c : Code) (D : va_G) (cy : Nat → ClassId) (cv : Nat → Nat) (H : Heap) (locs : List Loc) (ls : Array Slot), hFix cc own X D cy cv p s m meth c → hPool D cy (hA X.S0) s.heap S H locs → lv_has ls X.nL lv →
    W p l e (hrm X.d X.mc X.ms) s m X.args.toArray below meth c H locs kc ks (MQ below (hQ D cy X.S0 X.rv X.T) X.args.toArray s X.mc X.ms (hA X.S0)) (F0 m pc ls st)
def hpre (D : va_G) (cy : Nat → ClassId) (cs cv : Nat → Nat) (S : hS) : State → Prop := fun U => hB D cy S U.heap ∧ hEnv D cy cs cv (hA S) U U.heap
/-- THE CONTRACT -/
def HM (y : MethodName) (cc : ByteArray) (nL : Nat) (ret : Option FieldType) (d mc ms : Nat) (cs : Nat → Nat) (args : List Value) (S : hS) (rv : Option Value) (T : hS) : Prop :=
  ∀ (l : Launch) (D : va_G) (cy : Nat → ClassId) (cv : Nat → Nat), Met l y (Cond.code y cc nL ret :: hTbl) (hrm d mc ms) (va_Pc args (hpre D cy cs cv S)) (hQ D cy S rv T) mc ms (hA S)
theorem HM.ofHW {y : MethodName} {cc : ByteArray} {nL : Nat} {ret : Option FieldType} {d mc ms : Nat} {cs : Nat → Nat} {args : List Value} {S : hS} {rv : Option Value} {T : hS} (ini : Bool) (hy : plainName y.cls = true) (hi : ini = true → y.name = "<init>") (ha : (lg_sl args).length ≤ nL)
    (k : HW cc y.cls ((ret, nL, d, mc, ms, ini), (S, args, rv, T), cs) 0 0 S 0 (lv_args 0 args) []) : HM y cc nL ret d mc ms cs args S rv T := by
  intro l D cy cv
  refine Met.ofW (cc := cc) (maxL := nL) (ret := ret) hy rfl ?_
  intro p e s m ar below meth c s₁ B hml hv
  obtain ⟨rfl, hB0, hE⟩ := hv
  have hts := atoms_spec (ws := Cond.code y cc nL ret :: hTbl) B.pre
  have hown : s.vm.findClass y.cls = some m.cls := findClass_of_methodNamed B.named
  have hin : meth.name = y.name := (name_of_methodNamed B.named B.method).1
  rw [lg_entry_eq]
  exact k p l e s m below meth c D cy cv s.heap [] _ ⟨B.exec, B.bytes, B.returns, hml, fun w h => hts w (List.mem_cons_of_mem _ h), hown, B.notSynchronized, fun h => hin.trans (hi h), hE, hB0.1⟩ ⟨hB0, fun a h => Or.inl h, va_S.rf⟩ (lv_entry args (n := nL) ha)
section HR
variable {cc : ByteArray} {own : String} {X : hX} {kc ks pc : Nat} {S : hS} {lv : List (Nat × Value)} {st : List Value}
theorem h_iadd {x y : Int32} (hd : decode cc pc = .ok (.iadd, 1)) (k : HW cc own X kc ks S (pc + 1) lv (.int (x + y) :: st)) : HW cc own X kc ks S pc lv (.int y :: .int x :: st) := by
  intro p l e s m below meth c D cy cv H locs ls F P hl
  exact lv_iadd F.1 F.2.1 hd (k p l e s m below meth c D cy cv H locs ls F P hl)
theorem h_isub {x y : Int32} (hd : decode cc pc = .ok (.isub, 1)) (k : HW cc own X kc ks S (pc + 1) lv (.int (x - y) :: st)) : HW cc own X kc ks S pc lv (.int y :: .int x :: st) := by
  intro p l e s m below meth c D cy cv H locs ls F P hl
  exact lv_isub F.1 F.2.1 hd (k p l e s m below meth c D cy cv H locs ls F P hl)
theorem h_imul {x y : Int32} (hd : decode cc pc = .ok (.imul, 1)) (k : HW cc own X kc ks S (pc + 1) lv (.int (x * y) :: st)) : HW cc own X kc ks S pc lv (.int y :: .int x :: st) := by
  intro p l e s m below meth c D cy cv H locs ls F P hl
  exact lv_imul F.1 F.2.1 hd (k p l e s m below meth c D cy cv H locs ls F P hl)
theorem h_iand {x y : Int32} (hd : decode cc pc = .ok (.iand, 1)) (k : HW cc own X kc ks S (pc + 1) lv (.int (x &&& y) :: st)) : HW cc own X kc ks S pc lv (.int y :: .int x :: st) := by
  intro p l e s m below meth c D cy cv H locs ls F P hl
  exact lv_iand F.1 F.2.1 hd (k p l e s m below meth c D cy cv H locs ls F P hl)
theorem h_ior {x y : Int32} (hd : decode cc pc = .ok (.ior, 1)) (k : HW cc own X kc ks S (pc + 1) lv (.int (x ||| y) :: st)) : HW cc own X kc ks S pc lv (.int y :: .int x :: st) := by
  intro p l e s m below meth c D cy cv H locs ls F P hl
  exact lv_ior F.1 F.2.1 hd (k p l e s m below meth c D cy cv H locs ls F P hl)
theorem h_ishl {x y : Int32} (hd : decode cc pc = .ok (.ishl, 1)) (k : HW cc own X kc ks S (pc + 1) lv (.int (x <<< (y &&& 31)) :: st)) : HW cc own X kc ks S pc lv (.int y :: .int x :: st) := by
  intro p l e s m below meth c D cy cv H locs ls F P hl
  exact lv_ishl F.1 F.2.1 hd (k p l e s m below meth c D cy cv H locs ls F P hl)
theorem h_ishr {x y : Int32} (hd : decode cc pc = .ok (.ishr, 1)) (k : HW cc own X kc ks S (pc + 1) lv (.int (x >>> (y &&& 31)) :: st)) : HW cc own X kc ks S pc lv (.int y :: .int x :: st) := by
  intro p l e s m below meth c D cy cv H locs ls F P hl
  exact lv_ishr F.1 F.2.1 hd (k p l e s m below meth c D cy cv H locs ls F P hl)
theorem h_ladd {x y : Int64} (hd : decode cc pc = .ok (.ladd, 1)) (k : HW cc own X kc ks S (pc + 1) lv (.long (x + y) :: st)) : HW cc own X kc ks S pc lv (.long y :: .long x :: st) := by
  intro p l e s m below meth c D cy cv H locs ls F P hl
  exact lv_ladd F.1 F.2.1 hd (k p l e s m below meth c D cy cv H locs ls F P hl)
theorem h_lsub {x y : Int64} (hd : decode cc pc = .ok (.lsub, 1)) (k : HW cc own X kc ks S (pc + 1) lv (.long (x - y) :: st)) : HW cc own X kc ks S pc lv (.long y :: .long x :: st) := by
  intro p l e s m below meth c D cy cv H locs ls F P hl
  exact lv_lsub F.1 F.2.1 hd (k p l e s m below meth c D cy cv H locs ls F P hl)
theorem h_lmul {x y : Int64} (hd : decode cc pc = .ok (.lmul, 1)) (k : HW cc own X kc ks S (pc + 1) lv (.long (x * y) :: st)) : HW cc own X kc ks S pc lv (.long y :: .long x :: st) := by
  intro p l e s m below meth c D cy cv H locs ls F P hl
  exact lv_lmul F.1 F.2.1 hd (k p l e s m below meth c D cy cv H locs ls F P hl)
theorem h_land {x y : Int64} (hd : decode cc pc = .ok (.land, 1)) (k : HW cc own X kc ks S (pc + 1) lv (.long (x &&& y) :: st)) : HW cc own X kc ks S pc lv (.long y :: .long x :: st) := by
  intro p l e s m below meth c D cy cv H locs ls F P hl
  exact lv_land F.1 F.2.1 hd (k p l e s m below meth c D cy cv H locs ls F P hl)
theorem h_lor {x y : Int64} (hd : decode cc pc = .ok (.lor, 1)) (k : HW cc own X kc ks S (pc + 1) lv (.long (x ||| y) :: st)) : HW cc own X kc ks S pc lv (.long y :: .long x :: st) := by
  intro p l e s m below meth c D cy cv H locs ls F P hl
  exact lv_lor F.1 F.2.1 hd (k p l e s m below meth c D cy cv H locs ls F P hl)
theorem h_idiv {x y : Int32} (hd : decode cc pc = .ok (.idiv, 1)) (h0 : ¬ y = 0) (k : HW cc own X kc ks S (pc + 1) lv (.int (x / y) :: st)) : HW cc own X kc ks S pc lv (.int y :: .int x :: st) := by
  intro p l e s m below meth c D cy cv H locs ls F P hl
  exact lv_idiv F.1 F.2.1 hd h0 (k p l e s m below meth c D cy cv H locs ls F P hl)
theorem h_irem {x y : Int32} (hd : decode cc pc = .ok (.irem, 1)) (h0 : ¬ y = 0) (k : HW cc own X kc ks S (pc + 1) lv (.int (x - x / y * y) :: st)) : HW cc own X kc ks S pc lv (.int y :: .int x :: st) := by
  intro p l e s m below meth c D cy cv H locs ls F P hl
  exact lv_irem F.1 F.2.1 hd h0 (k p l e s m below meth c D cy cv H locs ls F P hl)
theorem h_ldiv {x y : Int64} (hd : decode cc pc = .ok (.ldiv, 1)) (h0 : ¬ y = 0) (k : HW cc own X kc ks S (pc + 1) lv (.long (x / y) :: st)) : HW cc own X kc ks S pc lv (.long y :: .long x :: st) := by
  intro p l e s m below meth c D cy cv H locs ls F P hl
  exact lv_ldiv F.1 F.2.1 hd h0 (k p l e s m below meth c D cy cv H locs ls F P hl)
theorem h_lrem {x y : Int64} (hd : decode cc pc = .ok (.lrem, 1)) (h0 : ¬ y = 0) (k : HW cc own X kc ks S (pc + 1) lv (.long (x - x / y * y) :: st)) : HW cc own X kc ks S pc lv (.long y :: .long x :: st) := by
  intro p l e s m below meth c D cy cv H locs ls F P hl
  exact lv_lrem F.1 F.2.1 hd h0 (k p l e s m below meth c D cy cv H locs ls F P hl)
theorem h_ineg {x : Int32} (hd : decode cc pc = .ok (.ineg, 1)) (k : HW cc own X kc ks S (pc + 1) lv (.int (-x) :: st)) : HW cc own X kc ks S pc lv (.int x :: st) := by
  intro p l e s m below meth c D cy cv H locs ls F P hl
  exact lv_ineg F.1 F.2.1 hd (k p l e s m below meth c D cy cv H locs ls F P hl)
theorem h_i2l {x : Int32} (hd : decode cc pc = .ok (.i2l, 1)) (k : HW cc own X kc ks S (pc + 1) lv (.long x.toInt64 :: st)) : HW cc own X kc ks S pc lv (.int x :: st) := by
  intro p l e s m below meth c D cy cv H locs ls F P hl
  exact lv_i2l F.1 F.2.1 hd rfl (k p l e s m below meth c D cy cv H locs ls F P hl)
theorem h_l2i {x : Int64} (hd : decode cc pc = .ok (.l2i, 1)) (k : HW cc own X kc ks S (pc + 1) lv (.int x.toInt32 :: st)) : HW cc own X kc ks S pc lv (.long x :: st) := by
  intro p l e s m below meth c D cy cv H locs ls F P hl
  exact lv_l2i F.1 F.2.1 hd rfl (k p l e s m below meth c D cy cv H locs ls F P hl)
theorem h_i2b {x : Int32} (hd : decode cc pc = .ok (.i2b, 1)) (k : HW cc own X kc ks S (pc + 1) lv (.int x.toInt8.toInt32 :: st)) : HW cc own X kc ks S pc lv (.int x :: st) := by
  intro p l e s m below meth c D cy cv H locs ls F P hl
  exact lv_i2b F.1 F.2.1 hd rfl (k p l e s m below meth c D cy cv H locs ls F P hl)
theorem h_iushr {x y : Int32} (hd : decode cc pc = .ok (.iushr, 1)) (k : HW cc own X kc ks S (pc + 1) lv (.int (x.toUInt32 >>> (y.toUInt32 &&& Int32.toUInt32 31)).toInt32 :: st)) : HW cc own X kc ks S pc lv (.int y :: .int x :: st) := by
  intro p l e s m below meth c D cy cv H locs ls F P hl
  exact lv_iushr F.1 F.2.1 hd rfl (k p l e s m below meth c D cy cv H locs ls F P hl)
theorem h_lcmp {x y : Int64} (hd : decode cc pc = .ok (.lcmp, 1)) (k : HW cc own X kc ks S (pc + 1) lv (.int (lg_cmp x y) :: st)) : HW cc own X kc ks S pc lv (.long y :: .long x :: st) := by
  intro p l e s m below meth c D cy cv H locs ls F P hl
  exact W.lcmp F.1 F.2.1 hd (k p l e s m below meth c D cy cv H locs ls F P hl)
theorem h_iconst {n : Int} {v : Int32} (hd : decode cc pc = .ok (.iconst n, 1)) (hv : Int32.ofInt n = v) (k : HW cc own X kc ks S (pc + 1) lv (.int v :: st)) : HW cc own X kc ks S pc lv st := by
  intro p l e s m below meth c D cy cv H locs ls F P hl
  exact lv_iconst F.1 F.2.1 hd hv (k p l e s m below meth c D cy cv H locs ls F P hl)
theorem h_bipush {n : Int} {v : Int32} (hd : decode cc pc = .ok (.bipush n, 2)) (hv : (Int8.ofInt n).toInt32 = v) (k : HW cc own X kc ks S (pc + 2) lv (.int v :: st)) : HW cc own X kc ks S pc lv st := by
  intro p l e s m below meth c D cy cv H locs ls F P hl
  exact lv_bipush F.1 F.2.1 hd hv (k p l e s m below meth c D cy cv H locs ls F P hl)
theorem h_sipush {n : Int} {v : Int32} (hd : decode cc pc = .ok (.sipush n, 3)) (hv : (Int16.ofInt n).toInt32 = v) (k : HW cc own X kc ks S (pc + 3) lv (.int v :: st)) : HW cc own X kc ks S pc lv st := by
  intro p l e s m below meth c D cy cv H locs ls F P hl
  exact lv_sipush F.1 F.2.1 hd hv (k p l e s m below meth c D cy cv H locs ls F P hl)
theorem h_lconst {n : Fin 2} {v : Int64} (hd : decode cc pc = .ok (.lconst n, 1)) (hv : Int64.ofNat (n : Nat) = v) (k : HW cc own X kc ks S (pc + 1) lv (.long v :: st)) : HW cc own X kc ks S pc lv st := by
  intro p l e s m below meth c D cy cv H locs ls F P hl
  exact lv_lconst F.1 F.2.1 hd hv (k p l e s m below meth c D cy cv H locs ls F P hl)
theorem h_null (hd : decode cc pc = .ok (.aconst_null, 1)) (k : HW cc own X kc ks S (pc + 1) lv (.null :: st)) : HW cc own X kc ks S pc lv st := by
  intro p l e s m below meth c D cy cv H locs ls F P hl
  exact lv_null F.1 F.2.1 hd (k p l e s m below meth c D cy cv H locs ls F P hl)
theorem h_dup {v : Value} (hd : decode cc pc = .ok (.dup, 1)) (hv : v.category = 1) (k : HW cc own X kc ks S (pc + 1) lv (v :: v :: st)) : HW cc own X kc ks S pc lv (v :: st) := by
  intro p l e s m below meth c D cy cv H locs ls F P hl
  exact lv_dup F.1 F.2.1 hd hv (k p l e s m below meth c D cy cv H locs ls F P hl)
theorem h_pop {v : Value} (hd : decode cc pc = .ok (.pop, 1)) (hv : v.category = 1) (k : HW cc own X kc ks S (pc + 1) lv st) : HW cc own X kc ks S pc lv (v :: st) := by
  intro p l e s m below meth c D cy cv H locs ls F P hl
  exact lv_pop F.1 F.2.1 hd hv (k p l e s m below meth c D cy cv H locs ls F P hl)
theorem h_dup2 {v u : Value} (hd : decode cc pc = .ok (.dup2, 1)) (hv : v.category = 1) (hu : u.category = 1) (k : HW cc own X kc ks S (pc + 1) lv (v :: u :: v :: u :: st)) : HW cc own X kc ks S pc lv (v :: u :: st) := by
  intro p l e s m below meth c D cy cv H locs ls F P hl
  exact lv_dup2_11 F.1 F.2.1 hd hv hu (k p l e s m below meth c D cy cv H locs ls F P hl)
theorem h_dup_x1 {v u : Value} (hd : decode cc pc = .ok (.dup_x1, 1)) (hv : v.category = 1) (hu : u.category = 1) (k : HW cc own X kc ks S (pc + 1) lv (v :: u :: v :: st)) : HW cc own X kc ks S pc lv (v :: u :: st) := by
  intro p l e s m below meth c D cy cv H locs ls F P hl
  exact lv_dup_x1 F.1 F.2.1 hd hv hu (k p l e s m below meth c D cy cv H locs ls F P hl)
theorem h_ldc {i : Nat} {v : Int32} (hd : decode cc pc = .ok (.ldc i, 2)) (hq : Cond.constant own i v ∈ hTbl) (k : HW cc own X kc ks S (pc + 2) lv (.int v :: st)) : HW cc own X kc ks S pc lv st := by
  intro p l e s m below meth c D cy cv H locs ls F P hl
  exact lv_ldc F.1 F.2.1 F.2.2.2.2.2.1 (F.2.2.2.2.1 _ hq) hd (k p l e s m below meth c D cy cv H locs ls F P hl)
theorem h_ldc2 {i : Nat} {v : Int64} (hd : decode cc pc = .ok (.ldc2_w i, 3)) (hq : Cond.constantLong own i v ∈ hTbl) (k : HW cc own X kc ks S (pc + 3) lv (.long v :: st)) : HW cc own X kc ks S pc lv st := by
  intro p l e s m below meth c D cy cv H locs ls F P hl
  exact lv_ldc2 F.1 F.2.1 F.2.2.2.2.2.1 (F.2.2.2.2.1 _ hq) hd (k p l e s m below meth c D cy cv H locs ls F P hl)
theorem h_iload_n {j : Fin 4} {i : Nat} {x : Int32} (hd : decode cc pc = .ok (.iload_n j, 1)) (hi : (j : Nat) = i) (q : Nat) (hq : lv[q]? = some (i, .int x)) (k : HW cc own X kc ks S (pc + 1) lv (.int x :: st)) : HW cc own X kc ks S pc lv st := by
  intro p l e s m below meth c D cy cv H locs ls F P hl
  exact lv_iload_n F.1 F.2.1 hd hi (lv_at hl q hq) (k p l e s m below meth c D cy cv H locs ls F P hl)
theorem h_iload {i : Nat} {x : Int32} (hd : decode cc pc = .ok (.iload i, 2)) (q : Nat) (hq : lv[q]? = some (i, .int x)) (k : HW cc own X kc ks S (pc + 2) lv (.int x :: st)) : HW cc own X kc ks S pc lv st := by
  intro p l e s m below meth c D cy cv H locs ls F P hl
  exact lv_iload F.1 F.2.1 hd (lv_at hl q hq) (k p l e s m below meth c D cy cv H locs ls F P hl)
theorem h_lload_n {j : Fin 4} {i : Nat} {x : Int64} (hd : decode cc pc = .ok (.lload_n j, 1)) (hi : (j : Nat) = i) (q : Nat) (hq : lv[q]? = some (i, .long x)) (k : HW cc own X kc ks S (pc + 1) lv (.long x :: st)) : HW cc own X kc ks S pc lv st := by
  intro p l e s m below meth c D cy cv H locs ls F P hl
  exact lv_lload_n F.1 F.2.1 hd hi (lv_at hl q hq) (k p l e s m below meth c D cy cv H locs ls F P hl)
theorem h_lload {i : Nat} {x : Int64} (hd : decode cc pc = .ok (.lload i, 2)) (q : Nat) (hq : lv[q]? = some (i, .long x)) (k : HW cc own X kc ks S (pc + 2) lv (.long x :: st)) : HW cc own X kc ks S pc lv st := by
  intro p l e s m below meth c D cy cv H locs ls F P hl
  exact lv_lload F.1 F.2.1 hd (lv_at hl q hq) (k p l e s m below meth c D cy cv H locs ls F P hl)
theorem h_aload_n {j : Fin 4} {i : Nat} {x : Nat} (hd : decode cc pc = .ok (.aload_n j, 1)) (hi : (j : Nat) = i) (q : Nat) (hq : lv[q]? = some (i, .ref x)) (k : HW cc own X kc ks S (pc + 1) lv (.ref x :: st)) : HW cc own X kc ks S pc lv st := by
  intro p l e s m below meth c D cy cv H locs ls F P hl
  exact lv_aload_n F.1 F.2.1 hd hi (lv_at hl q hq) (k p l e s m below meth c D cy cv H locs ls F P hl)
theorem h_aload {i : Nat} {x : Nat} (hd : decode cc pc = .ok (.aload i, 2)) (q : Nat) (hq : lv[q]? = some (i, .ref x)) (k : HW cc own X kc ks S (pc + 2) lv (.ref x :: st)) : HW cc own X kc ks S pc lv st := by
  intro p l e s m below meth c D cy cv H locs ls F P hl
  exact lv_aload F.1 F.2.1 hd (lv_at hl q hq) (k p l e s m below meth c D cy cv H locs ls F P hl)
theorem h_istore_n {j : Fin 4} {i : Nat} {x : Int32} {lv2 : List (Nat × Value)} (hd : decode cc pc = .ok (.istore_n j, 1)) (hi : (j : Nat) = i) (hn : i < X.nL) (h2 : (i, Value.int x) :: lv.filter (fun q => !(q.1 == i) && !(q.1 + 1 == i && q.2.category == 2)) = lv2) (k : HW cc own X kc ks S (pc + 1) lv2 st) : HW cc own X kc ks S pc lv (Value.int x :: st) := by
  intro p l e s m below meth c D cy cv H locs ls F P hl
  exact lv_istore_n F.1 F.2.1 hd hi hl hn h2 (fun ls hl => k p l e s m below meth c D cy cv H locs ls F P hl)
theorem h_istore {i : Nat} {x : Int32} {lv2 : List (Nat × Value)} (hd : decode cc pc = .ok (.istore i, 2)) (hn : i < X.nL) (h2 : (i, Value.int x) :: lv.filter (fun q => !(q.1 == i) && !(q.1 + 1 == i && q.2.category == 2)) = lv2) (k : HW cc own X kc ks S (pc + 2) lv2 st) : HW cc own X kc ks S pc lv (Value.int x :: st) := by
  intro p l e s m below meth c D cy cv H locs ls F P hl
  exact lv_istore F.1 F.2.1 hd hl hn h2 (fun ls hl => k p l e s m below meth c D cy cv H locs ls F P hl)
theorem h_astore_n {j : Fin 4} {i : Nat} {x : Nat} {lv2 : List (Nat × Value)} (hd : decode cc pc = .ok (.astore_n j, 1)) (hi : (j : Nat) = i) (hn : i < X.nL) (h2 : (i, Value.ref x) :: lv.filter (fun q => !(q.1 == i) && !(q.1 + 1 == i && q.2.category == 2)) = lv2) (k : HW cc own X kc ks S (pc + 1) lv2 st) : HW cc own X kc ks S pc lv (Value.ref x :: st) := by
  intro p l e s m below meth c D cy cv H locs ls F P hl
  exact lv_astore_n F.1 F.2.1 hd hi hl hn h2 (fun ls hl => k p l e s m below meth c D cy cv H locs ls F P hl)
theorem h_astore {i : Nat} {x : Nat} {lv2 : List (Nat × Value)} (hd : decode cc pc = .ok (.astore i, 2)) (hn : i < X.nL) (h2 : (i, Value.ref x) :: lv.filter (fun q => !(q.1 == i) && !(q.1 + 1 == i && q.2.category == 2)) = lv2) (k : HW cc own X kc ks S (pc + 2) lv2 st) : HW cc own X kc ks S pc lv (Value.ref x :: st) := by
  intro p l e s m below meth c D cy cv H locs ls F P hl
  exact lv_astore F.1 F.2.1 hd hl hn h2 (fun ls hl => k p l e s m below meth c D cy cv H locs ls F P hl)
theorem h_lstore_n {j : Fin 4} {i : Nat} {x : Int64} {lv2 : List (Nat × Value)} (hd : decode cc pc = .ok (.lstore_n j, 1)) (hi : (j : Nat) = i) (hn : i + 1 < X.nL) (h2 : (i, Value.long x) :: lv.filter (fun q => !(q.1 == i) && (!(q.1 == i + 1) && !(q.1 + 1 == i && q.2.category == 2))) = lv2) (k : HW cc own X kc ks S (pc + 1) lv2 st) : HW cc own X kc ks S pc lv (Value.long x :: st) := by
  intro p l e s m below meth c D cy cv H locs ls F P hl
  exact lv_lstore_n F.1 F.2.1 hd hi hl hn h2 (fun ls hl => k p l e s m below meth c D cy cv H locs ls F P hl)
theorem h_lstore {i : Nat} {x : Int64} {lv2 : List (Nat × Value)} (hd : decode cc pc = .ok (.lstore i, 2)) (hn : i + 1 < X.nL) (h2 : (i, Value.long x) :: lv.filter (fun q => !(q.1 == i) && (!(q.1 == i + 1) && !(q.1 + 1 == i && q.2.category == 2))) = lv2) (k : HW cc own X kc ks S (pc + 2) lv2 st) : HW cc own X kc ks S pc lv (Value.long x :: st) := by
  intro p l e s m below meth c D cy cv H locs ls F P hl
  exact lv_lstore F.1 F.2.1 hd hl hn h2 (fun ls hl => k p l e s m below meth c D cy cv H locs ls F P hl)
theorem h_iinc {i q : Nat} {n : Int} {x v : Int32} {lv2 : List (Nat × Value)} (hd : decode cc pc = .ok (.iinc i n, 3)) (hq : lv[q]? = some (i, .int x)) (hv : x + Int32.ofInt n = v) (hn : i < X.nL) (h2 : (i, Value.int v) :: lv.filter (fun q => !(q.1 == i) && !(q.1 + 1 == i && q.2.category == 2)) = lv2) (k : HW cc own X kc ks S (pc + 3) lv2 st) : HW cc own X kc ks S pc lv st := by
  intro p l e s m below meth c D cy cv H locs ls F P hl
  exact lv_iinc F.1 F.2.1 hd hl hq hv hn h2 (fun ls hl => k p l e s m below meth c D cy cv H locs ls F P hl)
theorem h_sub {lv2 : List (Nat × Value)} (ps : List Nat) (hp : lv_pick lv ps = lv2) (k : HW cc own X kc ks S pc lv2 st) : HW cc own X kc ks S pc lv st := by
  intro p l e s m below meth c D cy cv H locs ls F P hl
  exact k p l e s m below meth c D cy cv H locs ls F P (lv_sub hl ps hp)
theorem h_if_eq {x : Int32} {off : Int} {tgt : Nat} (hd : decode cc pc = .ok (.ifCond .eq off, 3)) (ht : (pc : Int) + off = (tgt : Int)) (kt : x = 0 → HW cc own X kc ks S tgt lv st) (kf : ¬ (x = 0) → HW cc own X kc ks S (pc + 3) lv st) : HW cc own X kc ks S pc lv (.int x :: st) := by
  intro p l e s m below meth c D cy cv H locs ls F P hl
  exact lv_if_eq F.1 F.2.1 hd ht (fun q => kt q p l e s m below meth c D cy cv H locs ls F P hl) (fun q => kf q p l e s m below meth c D cy cv H locs ls F P hl)
theorem h_icmp_eq {x y : Int32} {off : Int} {tgt : Nat} (hd : decode cc pc = .ok (.if_icmp .eq off, 3)) (ht : (pc : Int) + off = (tgt : Int)) (kt : x = y → HW cc own X kc ks S tgt lv st) (kf : ¬ (x = y) → HW cc own X kc ks S (pc + 3) lv st) : HW cc own X kc ks S pc lv (.int y :: .int x :: st) := by
  intro p l e s m below meth c D cy cv H locs ls F P hl
  exact lv_icmp_eq F.1 F.2.1 hd ht (fun q => kt q p l e s m below meth c D cy cv H locs ls F P hl) (fun q => kf q p l e s m below meth c D cy cv H locs ls F P hl)
theorem h_if_ne {x : Int32} {off : Int} {tgt : Nat} (hd : decode cc pc = .ok (.ifCond .ne off, 3)) (ht : (pc : Int) + off = (tgt : Int)) (kt : ¬ x = 0 → HW cc own X kc ks S tgt lv st) (kf : x = 0 → HW cc own X kc ks S (pc + 3) lv st) : HW cc own X kc ks S pc lv (.int x :: st) := by
  intro p l e s m below meth c D cy cv H locs ls F P hl
  exact lv_if_ne F.1 F.2.1 hd ht (fun q => kt q p l e s m below meth c D cy cv H locs ls F P hl) (fun q => kf q p l e s m below meth c D cy cv H locs ls F P hl)
theorem h_icmp_ne {x y : Int32} {off : Int} {tgt : Nat} (hd : decode cc pc = .ok (.if_icmp .ne off, 3)) (ht : (pc : Int) + off = (tgt : Int)) (kt : ¬ x = y → HW cc own X kc ks S tgt lv st) (kf : x = y → HW cc own X kc ks S (pc + 3) lv st) : HW cc own X kc ks S pc lv (.int y :: .int x :: st) := by
  intro p l e s m below meth c D cy cv H locs ls F P hl
  exact lv_icmp_ne F.1 F.2.1 hd ht (fun q => kt q p l e s m below meth c D cy cv H locs ls F P hl) (fun q => kf q p l e s m below meth c D cy cv H locs ls F P hl)
theorem h_if_lt {x : Int32} {off : Int} {tgt : Nat} (hd : decode cc pc = .ok (.ifCond .lt off, 3)) (ht : (pc : Int) + off = (tgt : Int)) (kt : x < 0 → HW cc own X kc ks S tgt lv st) (kf : ¬ (x < 0) → HW cc own X kc ks S (pc + 3) lv st) : HW cc own X kc ks S pc lv (.int x :: st) := by
  intro p l e s m below meth c D cy cv H locs ls F P hl
  exact lv_if_lt F.1 F.2.1 hd ht (fun q => kt q p l e s m below meth c D cy cv H locs ls F P hl) (fun q => kf q p l e s m below meth c D cy cv H locs ls F P hl)
theorem h_icmp_lt {x y : Int32} {off : Int} {tgt : Nat} (hd : decode cc pc = .ok (.if_icmp .lt off, 3)) (ht : (pc : Int) + off = (tgt : Int)) (kt : x < y → HW cc own X kc ks S tgt lv st) (kf : ¬ (x < y) → HW cc own X kc ks S (pc + 3) lv st) : HW cc own X kc ks S pc lv (.int y :: .int x :: st) := by
  intro p l e s m below meth c D cy cv H locs ls F P hl
  exact lv_icmp_lt F.1 F.2.1 hd ht (fun q => kt q p l e s m below meth c D cy cv H locs ls F P hl) (fun q => kf q p l e s m below meth c D cy cv H locs ls F P hl)
theorem h_if_ge {x : Int32} {off : Int} {tgt : Nat} (hd : decode cc pc = .ok (.ifCond .ge off, 3)) (ht : (pc : Int) + off = (tgt : Int)) (kt : 0 ≤ x → HW cc own X kc ks S tgt lv st) (kf : ¬ (0 ≤ x) → HW cc own X kc ks S (pc + 3) lv st) : HW cc own X kc ks S pc lv (.int x :: st) := by
  intro p l e s m below meth c D cy cv H locs ls F P hl
  exact lv_if_ge F.1 F.2.1 hd ht (fun q => kt q p l e s m below meth c D cy cv H locs ls F P hl) (fun q => kf q p l e s m below meth c D cy cv H locs ls F P hl)
theorem h_icmp_ge {x y : Int32} {off : Int} {tgt : Nat} (hd : decode cc pc = .ok (.if_icmp .ge off, 3)) (ht : (pc : Int) + off = (tgt : Int)) (kt : y ≤ x → HW cc own X kc ks S tgt lv st) (kf : ¬ (y ≤ x) → HW cc own X kc ks S (pc + 3) lv st) : HW cc own X kc ks S pc lv (.int y :: .int x :: st) := by
  intro p l e s m below meth c D cy cv H locs ls F P hl
  exact lv_icmp_ge F.1 F.2.1 hd ht (fun q => kt q p l e s m below meth c D cy cv H locs ls F P hl) (fun q => kf q p l e s m below meth c D cy cv H locs ls F P hl)
theorem h_if_gt {x : Int32} {off : Int} {tgt : Nat} (hd : decode cc pc = .ok (.ifCond .gt off, 3)) (ht : (pc : Int) + off = (tgt : Int)) (kt : 0 < x → HW cc own X kc ks S tgt lv st) (kf : ¬ (0 < x) → HW cc own X kc ks S (pc + 3) lv st) : HW cc own X kc ks S pc lv (.int x :: st) := by
  intro p l e s m below meth c D cy cv H locs ls F P hl
  exact lv_if_gt F.1 F.2.1 hd ht (fun q => kt q p l e s m below meth c D cy cv H locs ls F P hl) (fun q => kf q p l e s m below meth c D cy cv H locs ls F P hl)
theorem h_icmp_gt {x y : Int32} {off : Int} {tgt : Nat} (hd : decode cc pc = .ok (.if_icmp .gt off, 3)) (ht : (pc : Int) + off = (tgt : Int)) (kt : y < x → HW cc own X kc ks S tgt lv st) (kf : ¬ (y < x) → HW cc own X kc ks S (pc + 3) lv st) : HW cc own X kc ks S pc lv (.int y :: .int x :: st) := by
  intro p l e s m below meth c D cy cv H locs ls F P hl
  exact lv_icmp_gt F.1 F.2.1 hd ht (fun q => kt q p l e s m below meth c D cy cv H locs ls F P hl) (fun q => kf q p l e s m below meth c D cy cv H locs ls F P hl)
theorem h_if_le {x : Int32} {off : Int} {tgt : Nat} (hd : decode cc pc = .ok (.ifCond .le off, 3)) (ht : (pc : Int) + off = (tgt : Int)) (kt : x ≤ 0 → HW cc own X kc ks S tgt lv st) (kf : ¬ (x ≤ 0) → HW cc own X kc ks S (pc + 3) lv st) : HW cc own X kc ks S pc lv (.int x :: st) := by
  intro p l e s m below meth c D cy cv H locs ls F P hl
  exact lv_if_le F.1 F.2.1 hd ht (fun q => kt q p l e s m below meth c D cy cv H locs ls F P hl) (fun q => kf q p l e s m below meth c D cy cv H locs ls F P hl)
theorem h_icmp_le {x y : Int32} {off : Int} {tgt : Nat} (hd : decode cc pc = .ok (.if_icmp .le off, 3)) (ht : (pc : Int) + off = (tgt : Int)) (kt : x ≤ y → HW cc own X kc ks S tgt lv st) (kf : ¬ (x ≤ y) → HW cc own X kc ks S (pc + 3) lv st) : HW cc own X kc ks S pc lv (.int y :: .int x :: st) := by
  intro p l e s m below meth c D cy cv H locs ls F P hl
  exact lv_icmp_le F.1 F.2.1 hd ht (fun q => kt q p l e s m below meth c D cy cv H locs ls F P hl) (fun q => kf q p l e s m below meth c D cy cv H locs ls F P hl)
theorem h_goto {off : Int} {tgt : Nat} (hd : decode cc pc = .ok (.goto off, 3)) (ht : (pc : Int) + off = (tgt : Int)) (k : HW cc own X kc ks S tgt lv st) : HW cc own X kc ks S pc lv st := by
  intro p l e s m below meth c D cy cv H locs ls F P hl
  exact lv_goto F.1 F.2.1 hd ht (k p l e s m below meth c D cy cv H locs ls F P hl)
end HR
