theorem hin_0 : ∀ w ∈ u_ws RX0 TX0 12, w ∈ hTbl := by
  have e : u_ws RX0 TX0 12 = [Cond.laysFinal "DeafSpot$Evening" "DeafSpot$Evening" "room" "LDeafSpot$Room;", Cond.laysFinal "DeafSpot$Evening" "DeafSpot$Evening" "guests" "LDeafSpot$Guests;", Cond.laysFinal "DeafSpot$Evening" "DeafSpot$Evening" "heat" "[I", Cond.laysFinal "DeafSpot$Evening" "DeafSpot$Evening" "gifts" "[I", Cond.lays "DeafSpot$Evening" "DeafSpot$Evening" "spot" "I", Cond.lays "DeafSpot$Evening" "DeafSpot$Evening" "before" "I", Cond.lays "DeafSpot$Evening" "DeafSpot$Evening" "now" "I", Cond.lays "DeafSpot$Evening" "DeafSpot$Evening" "out" "I", Cond.lays "DeafSpot$Evening" "DeafSpot$Evening" "melted" "I", Cond.lays "DeafSpot$Evening" "DeafSpot$Evening" "given" "I", Cond.lays "DeafSpot$Evening" "DeafSpot$Evening" "draws" "I", Cond.laysFinal "DeafSpot$Evening" "DeafSpot$Evening" "log" "[I"] := by decide +kernel
  rw [e]
  intro w hw
  simp only [List.mem_cons, List.not_mem_nil, or_false] at hw
  rcases hw with rfl | rfl | rfl | rfl | rfl | rfl | rfl | rfl | rfl | rfl | rfl | rfl
  · exact q_205
  · exact q_207
  · exact q_209
  · exact q_211
  · exact q_213
  · exact q_215
  · exact q_217
  · exact q_219
  · exact q_221
  · exact q_223
  · exact q_225
  · exact q_227
theorem hin_1 : ∀ w ∈ u_ws RX1 TX1 7, w ∈ hTbl := by
  have e : u_ws RX1 TX1 7 = [Cond.lays "DeafSpot$Found" "DeafSpot$Found" "kind" "I", Cond.lays "DeafSpot$Found" "DeafSpot$Found" "law" "I", Cond.lays "DeafSpot$Found" "DeafSpot$Found" "minutes" "I", Cond.lays "DeafSpot$Found" "DeafSpot$Found" "first" "I", Cond.lays "DeafSpot$Found" "DeafSpot$Found" "second" "I", Cond.lays "DeafSpot$Found" "DeafSpot$Found" "any" "Z", Cond.laysFinal "DeafSpot$Found" "DeafSpot$Found" "parts" "[I"] := by decide +kernel
  rw [e]
  intro w hw
  simp only [List.mem_cons, List.not_mem_nil, or_false] at hw
  rcases hw with rfl | rfl | rfl | rfl | rfl | rfl | rfl
  · exact q_285
  · exact q_287
  · exact q_289
  · exact q_291
  · exact q_293
  · exact q_295
  · exact q_297
theorem hin_2 : ∀ w ∈ u_ws RX2 TX2 6, w ∈ hTbl := by
  have e : u_ws RX2 TX2 6 = [Cond.lays "DeafSpot$Guests" "DeafSpot$Guests" "number" "I", Cond.laysFinal "DeafSpot$Guests" "DeafSpot$Guests" "seats" "[I", Cond.laysFinal "DeafSpot$Guests" "DeafSpot$Guests" "warmth" "[I", Cond.laysFinal "DeafSpot$Guests" "DeafSpot$Guests" "sorts" "[I", Cond.laysFinal "DeafSpot$Guests" "DeafSpot$Guests" "deafness" "[I", Cond.laysFinal "DeafSpot$Guests" "DeafSpot$Guests" "sitters" "[I"] := by decide +kernel
  rw [e]
  intro w hw
  simp only [List.mem_cons, List.not_mem_nil, or_false] at hw
  rcases hw with rfl | rfl | rfl | rfl | rfl | rfl
  · exact q_167
  · exact q_169
  · exact q_171
  · exact q_173
  · exact q_175
  · exact q_177
theorem hin_3 : ∀ w ∈ u_ws RX3 TX3 3, w ∈ hTbl := by
  have e : u_ws RX3 TX3 3 = [Cond.laysFinal "DeafSpot$HallReader" "DeafSpot$HallReader" "tape" "LDeafSpot$Tape;", Cond.laysFinal "DeafSpot$HallReader" "DeafSpot$HallReader" "draft" "LDeafSpot$Evening;", Cond.lays "DeafSpot$HallReader" "DeafSpot$HallReader" "spotTold" "Z"] := by decide +kernel
  rw [e]
  intro w hw
  simp only [List.mem_cons, List.not_mem_nil, or_false] at hw
  rcases hw with rfl | rfl | rfl
  · exact q_240
  · exact q_242
  · exact q_244
theorem hin_4 : ∀ w ∈ u_ws RX4 TX4 4, w ∈ hTbl := by
  have e : u_ws RX4 TX4 4 = [Cond.laysFinal "DeafSpot$Law" "DeafSpot$Law" "code" "[I", Cond.laysFinal "DeafSpot$Law" "DeafSpot$Law" "tests" "[I", Cond.laysFinal "DeafSpot$Law" "DeafSpot$Law" "ends" "[I", Cond.laysFinal "DeafSpot$Law" "DeafSpot$Law" "stack" "[J"] := by decide +kernel
  rw [e]
  intro w hw
  simp only [List.mem_cons, List.not_mem_nil, or_false] at hw
  rcases hw with rfl | rfl | rfl | rfl
  · exact q_676
  · exact q_678
  · exact q_680
  · exact q_682
theorem hin_5 : ∀ w ∈ u_ws RX5 TX5 6, w ∈ hTbl := by
  have e : u_ws RX5 TX5 6 = [Cond.laysFinal "DeafSpot$LawReader" "DeafSpot$LawReader" "tape" "LDeafSpot$Tape;", Cond.laysFinal "DeafSpot$LawReader" "DeafSpot$LawReader" "code" "[I", Cond.lays "DeafSpot$LawReader" "DeafSpot$LawReader" "size" "I", Cond.lays "DeafSpot$LawReader" "DeafSpot$LawReader" "counted" "I", Cond.laysFinal "DeafSpot$LawReader" "DeafSpot$LawReader" "tests" "[I", Cond.laysFinal "DeafSpot$LawReader" "DeafSpot$LawReader" "ends" "[I"] := by decide +kernel
  rw [e]
  intro w hw
  simp only [List.mem_cons, List.not_mem_nil, or_false] at hw
  rcases hw with rfl | rfl | rfl | rfl | rfl | rfl
  · exact q_259
  · exact q_261
  · exact q_263
  · exact q_265
  · exact q_267
  · exact q_269
theorem hin_6 : ∀ w ∈ u_ws RX6 TX6 15, w ∈ hTbl := by
  have e : u_ws RX6 TX6 15 = [Cond.lays "DeafSpot$Room" "DeafSpot$Room" "columns" "I", Cond.lays "DeafSpot$Room" "DeafSpot$Room" "rows" "I", Cond.lays "DeafSpot$Room" "DeafSpot$Room" "seats" "I", Cond.lays "DeafSpot$Room" "DeafSpot$Room" "told" "I", Cond.laysFinal "DeafSpot$Room" "DeafSpot$Room" "xs" "[I", Cond.laysFinal "DeafSpot$Room" "DeafSpot$Room" "ys" "[I", Cond.laysFinal "DeafSpot$Room" "DeafSpot$Room" "edges" "[I", Cond.laysFinal "DeafSpot$Room" "DeafSpot$Room" "nexts" "[I", Cond.lays "DeafSpot$Room" "DeafSpot$Room" "fans" "I", Cond.laysFinal "DeafSpot$Room" "DeafSpot$Room" "fanSeats" "[I", Cond.laysFinal "DeafSpot$Room" "DeafSpot$Room" "fanWays" "[I", Cond.laysFinal "DeafSpot$Room" "DeafSpot$Room" "fanStrengths" "[I", Cond.lays "DeafSpot$Room" "DeafSpot$Room" "snows" "I", Cond.laysFinal "DeafSpot$Room" "DeafSpot$Room" "snowSeats" "[I", Cond.laysFinal "DeafSpot$Room" "DeafSpot$Room" "snowColds" "[I"] := by decide +kernel
  rw [e]
  intro w hw
  simp only [List.mem_cons, List.not_mem_nil, or_false] at hw
  rcases hw with rfl | rfl | rfl | rfl | rfl | rfl | rfl | rfl | rfl | rfl | rfl | rfl | rfl | rfl | rfl
  · exact q_111
  · exact q_113
  · exact q_115
  · exact q_117
  · exact q_119
  · exact q_121
  · exact q_123
  · exact q_125
  · exact q_127
  · exact q_129
  · exact q_131
  · exact q_133
  · exact q_135
  · exact q_137
  · exact q_139
theorem hin_7 : ∀ w ∈ u_ws RX7 TX7 4, w ∈ hTbl := by
  have e : u_ws RX7 TX7 4 = [Cond.laysFinal "DeafSpot$Tape" "DeafSpot$Tape" "bytes" "[I", Cond.lays "DeafSpot$Tape" "DeafSpot$Tape" "length" "I", Cond.lays "DeafSpot$Tape" "DeafSpot$Tape" "at" "I", Cond.lays "DeafSpot$Tape" "DeafSpot$Tape" "fault" "I"] := by decide +kernel
  rw [e]
  intro w hw
  simp only [List.mem_cons, List.not_mem_nil, or_false] at hw
  rcases hw with rfl | rfl | rfl | rfl
  · exact q_40
  · exact q_42
  · exact q_44
  · exact q_46
theorem hin_8 : ∀ w ∈ u_ws RX8 TX8 11, w ∈ hTbl := by
  have e : u_ws RX8 TX8 11 = [Cond.laysFinal "DeafSpot" "DeafSpot" "tape" "LDeafSpot$Tape;", Cond.laysFinal "DeafSpot" "DeafSpot" "laws" "[LDeafSpot$Law;", Cond.lays "DeafSpot" "DeafSpot" "lawNumber" "I", Cond.laysFinal "DeafSpot" "DeafSpot" "present" "LDeafSpot$Evening;", Cond.laysFinal "DeafSpot" "DeafSpot" "draft" "LDeafSpot$Evening;", Cond.laysFinal "DeafSpot" "DeafSpot" "trial" "LDeafSpot$Evening;", Cond.laysFinal "DeafSpot" "DeafSpot" "images" "[LDeafSpot$Evening;", Cond.laysFinal "DeafSpot" "DeafSpot" "hallReader" "LDeafSpot$HallReader;", Cond.laysFinal "DeafSpot" "DeafSpot" "lawReader" "LDeafSpot$LawReader;", Cond.laysFinal "DeafSpot" "DeafSpot" "found" "LDeafSpot$Found;", Cond.laysFinal "DeafSpot" "DeafSpot" "seen" "[I"] := by decide +kernel
  rw [e]
  intro w hw
  simp only [List.mem_cons, List.not_mem_nil, or_false] at hw
  rcases hw with rfl | rfl | rfl | rfl | rfl | rfl | rfl | rfl | rfl | rfl | rfl
  · exact q_311
  · exact q_313
  · exact q_315
  · exact q_317
  · exact q_319
  · exact q_321
  · exact q_323
  · exact q_325
  · exact q_327
  · exact q_329
  · exact q_331
theorem hin_9 : ∀ w ∈ u_ws RX9 TX9 63, w ∈ hTbl := by
  have e : u_ws RX9 TX9 63 = [Cond.lays "DeafSpotModel" "DeafSpotModel" "thrown" "I", Cond.laysFinal "DeafSpotModel" "DeafSpotModel" "scalar" "[I", Cond.laysFinal "DeafSpotModel" "DeafSpotModel" "heat" "[I", Cond.laysFinal "DeafSpotModel" "DeafSpotModel" "guestAt" "[I", Cond.laysFinal "DeafSpotModel" "DeafSpotModel" "warm" "[I", Cond.laysFinal "DeafSpotModel" "DeafSpotModel" "sortOf" "[I", Cond.laysFinal "DeafSpotModel" "DeafSpotModel" "deafMany" "[I", Cond.laysFinal "DeafSpotModel" "DeafSpotModel" "fanAt" "[I", Cond.laysFinal "DeafSpotModel" "DeafSpotModel" "fanWay" "[I", Cond.laysFinal "DeafSpotModel" "DeafSpotModel" "fanStrength" "[I", Cond.laysFinal "DeafSpotModel" "DeafSpotModel" "snowAt" "[I", Cond.laysFinal "DeafSpotModel" "DeafSpotModel" "cold" "[I", Cond.laysFinal "DeafSpotModel" "DeafSpotModel" "logged" "[I", Cond.laysFinal "DeafSpotModel" "DeafSpotModel" "newScalar" "[I", Cond.laysFinal "DeafSpotModel" "DeafSpotModel" "newHeat" "[I", Cond.laysFinal "DeafSpotModel" "DeafSpotModel" "newGuestAt" "[I", Cond.laysFinal "DeafSpotModel" "DeafSpotModel" "newWarm" "[I", Cond.laysFinal "DeafSpotModel" "DeafSpotModel" "newSort" "[I", Cond.laysFinal "DeafSpotModel" "DeafSpotModel" "newFanAt" "[I", Cond.laysFinal "DeafSpotModel" "DeafSpotModel" "newFanWay" "[I", Cond.laysFinal "DeafSpotModel" "DeafSpotModel" "newFanStrength" "[I", Cond.laysFinal "DeafSpotModel" "DeafSpotModel" "newSnowAt" "[I", Cond.laysFinal "DeafSpotModel" "DeafSpotModel" "newCold" "[I", Cond.lays "DeafSpotModel" "DeafSpotModel" "taped" "I", Cond.lays "DeafSpotModel" "DeafSpotModel" "p" "I", Cond.lays "DeafSpotModel" "DeafSpotModel" "fault" "I", Cond.lays "DeafSpotModel" "DeafSpotModel" "slot" "I", Cond.lays "DeafSpotModel" "DeafSpotModel" "laws" "I", Cond.lays "DeafSpotModel" "DeafSpotModel" "entries" "I", Cond.lays "DeafSpotModel" "DeafSpotModel" "deep" "I", Cond.lays "DeafSpotModel" "DeafSpotModel" "counted" "I", Cond.lays "DeafSpotModel" "DeafSpotModel" "opened" "I", Cond.lays "DeafSpotModel" "DeafSpotModel" "words" "I", Cond.lays "DeafSpotModel" "DeafSpotModel" "isSpotTold" "Z", Cond.laysFinal "DeafSpotModel" "DeafSpotModel" "tape" "[B", Cond.laysFinal "DeafSpotModel" "DeafSpotModel" "sort" "[I", Cond.laysFinal "DeafSpotModel" "DeafSpotModel" "number" "[I", Cond.laysFinal "DeafSpotModel" "DeafSpotModel" "clauses" "[I", Cond.laysFinal "DeafSpotModel" "DeafSpotModel" "sumAt" "[I", Cond.laysFinal "DeafSpotModel" "DeafSpotModel" "testAt" "[I", Cond.laysFinal "DeafSpotModel" "DeafSpotModel" "endAt" "[I", Cond.laysFinal "DeafSpotModel" "DeafSpotModel" "open" "[I", Cond.laysFinal "DeafSpotModel" "DeafSpotModel" "asked" "[J", Cond.laysFinal "DeafSpotModel" "DeafSpotModel" "stack" "[J", Cond.laysFinal "DeafSpotModel" "DeafSpotModel" "ahead" "[I", Cond.laysFinal "DeafSpotModel" "DeafSpotModel" "keptScalar" "[I", Cond.laysFinal "DeafSpotModel" "DeafSpotModel" "keptHeat" "[I", Cond.laysFinal "DeafSpotModel" "DeafSpotModel" "keptDeaf" "[I", Cond.laysFinal "DeafSpotModel" "DeafSpotModel" "keptLog" "[I", Cond.laysFinal "DeafSpotModel" "DeafSpotModel" "deafIn" "[I", Cond.lays "DeafSpotModel" "DeafSpotModel" "seatedGuest" "I", Cond.lays "DeafSpotModel" "DeafSpotModel" "seatedAt" "I", Cond.lays "DeafSpotModel" "DeafSpotModel" "fannedStrength" "I", Cond.lays "DeafSpotModel" "DeafSpotModel" "fannedAt" "I", Cond.lays "DeafSpotModel" "DeafSpotModel" "fannedWay" "I", Cond.laysFinal "DeafSpotModel" "DeafSpotModel" "isMet" "[Z", Cond.lays "DeafSpotModel" "DeafSpotModel" "spyMinute" "I", Cond.lays "DeafSpotModel" "DeafSpotModel" "spyAt" "I", Cond.laysFinal "DeafSpotModel" "DeafSpotModel" "keptWarm" "[I", Cond.laysFinal "DeafSpotModel" "DeafSpotModel" "images" "[I", Cond.laysFinal "DeafSpotModel" "DeafSpotModel" "isMade" "[Z", Cond.lays "DeafSpotModel" "DeafSpotModel" "imageAt" "I", Cond.lays "DeafSpotModel" "DeafSpotModel" "goesBack" "Z"] := by decide +kernel
  rw [e]
  intro w hw
  simp only [List.mem_cons, List.not_mem_nil, or_false] at hw
  rcases hw with rfl | rfl | rfl | rfl | rfl | rfl | rfl | rfl | rfl | rfl | rfl | rfl | rfl | rfl | rfl | rfl | rfl | rfl | rfl | rfl | rfl | rfl | rfl | rfl | rfl | rfl | rfl | rfl | rfl | rfl | rfl | rfl | rfl | rfl | rfl | rfl | rfl | rfl | rfl | rfl | rfl | rfl | rfl | rfl | rfl | rfl | rfl | rfl | rfl | rfl | rfl | rfl | rfl | rfl | rfl | rfl | rfl | rfl | rfl | rfl | rfl | rfl | rfl
  · exact q_1023
  · exact q_1025
  · exact q_1027
  · exact q_1029
  · exact q_1031
  · exact q_1033
  · exact q_1035
  · exact q_1037
  · exact q_1039
  · exact q_1041
  · exact q_1043
  · exact q_1045
  · exact q_1047
  · exact q_1049
  · exact q_1051
  · exact q_1053
  · exact q_1055
  · exact q_1057
  · exact q_1059
  · exact q_1061
  · exact q_1063
  · exact q_1065
  · exact q_1067
  · exact q_1069
  · exact q_1071
  · exact q_1073
  · exact q_1075
  · exact q_1077
  · exact q_1079
  · exact q_1081
  · exact q_1083
  · exact q_1085
  · exact q_1087
  · exact q_1089
  · exact q_1091
  · exact q_1093
  · exact q_1095
  · exact q_1097
  · exact q_1099
  · exact q_1101
  · exact q_1103
  · exact q_1105
  · exact q_1107
  · exact q_1109
  · exact q_1111
  · exact q_1113
  · exact q_1115
  · exact q_1117
  · exact q_1119
  · exact q_1121
  · exact q_1123
  · exact q_1125
  · exact q_1127
  · exact q_1129
  · exact q_1131
  · exact q_1133
  · exact q_1135
  · exact q_1137
  · exact q_1139
  · exact q_1141
  · exact q_1143
  · exact q_1145
  · exact q_1147
theorem hIn : ∀ (ci : Nat) (C : String) (TT : u_T) (N : Nat), vwCl[ci]? = some (C, TT, N) → ci < 10 ∧ (∀ w ∈ u_ws C TT N, w ∈ hTbl) ∧ (∃ ty : Nat → FieldType, ∀ k, k < N → parseFieldDescriptor (TT k).2.2.1 = some (ty k)) ∧ ∀ a, a < N → ∀ b, b < N → a ≠ b → (TT a).2.1 ≠ (TT b).2.1 := by
  intro ci C TT N h
  match ci, h with
  | 0, h => cases h; exact ⟨by omega, hin_0, ⟨tyX0, tyX0_ok⟩, nmX0⟩
  | 1, h => cases h; exact ⟨by omega, hin_1, ⟨tyX1, tyX1_ok⟩, nmX1⟩
  | 2, h => cases h; exact ⟨by omega, hin_2, ⟨tyX2, tyX2_ok⟩, nmX2⟩
  | 3, h => cases h; exact ⟨by omega, hin_3, ⟨tyX3, tyX3_ok⟩, nmX3⟩
  | 4, h => cases h; exact ⟨by omega, hin_4, ⟨tyX4, tyX4_ok⟩, nmX4⟩
  | 5, h => cases h; exact ⟨by omega, hin_5, ⟨tyX5, tyX5_ok⟩, nmX5⟩
  | 6, h => cases h; exact ⟨by omega, hin_6, ⟨tyX6, tyX6_ok⟩, nmX6⟩
  | 7, h => cases h; exact ⟨by omega, hin_7, ⟨tyX7, tyX7_ok⟩, nmX7⟩
  | 8, h => cases h; exact ⟨by omega, hin_8, ⟨tyX8, tyX8_ok⟩, nmX8⟩
  | 9, h => cases h; exact ⟨by omega, hin_9, ⟨tyX9, tyX9_ok⟩, nmX9⟩
  | n + 10, h => simp [vwCl] at h
def hbd {α β : Type} (o : Option α) (k : α → Option β) : Option β := match o with
  | none => none
  | some v => k v
theorem hbd_s {α β : Type} {o : Option α} {k : α → Option β} {r : β} (h : hbd o k = some r) : ∃ v, o = some v ∧ k v = some r := by
  cases o with
  | none => cases h
  | some v => exact ⟨v, rfl, h⟩
def hb2 {α β : Type} (o : Option (α × hS)) (k : α → hS → Option β) : Option β := match o with
  | none => none
  | some q => k q.1 q.2
theorem hb2_s {α β : Type} {o : Option (α × hS)} {k : α → hS → Option β} {r : β} (h : hb2 o k = some r) : ∃ v S, o = some (v, S) ∧ k v S = some r := by
  cases o with
  | none => cases h
  | some q => exact ⟨q.1, q.2, rfl, h⟩
def hck {β : Type} (c : Prop) [Decidable c] (k : Option β) : Option β := if c then k else none
theorem hck_s {β : Type} {c : Prop} [Decidable c] {k : Option β} {r : β} (h : hck c k = some r) : c ∧ k = some r := by
  unfold hck at h
  by_cases q : c
  · rw [if_pos q] at h; exact ⟨q, h⟩
  · rw [if_neg q] at h; cases h
/-- a place where roads join -/
def hj {γ β : Type} (J : γ) (b : γ → Option β) : Option β := b J
theorem hj_s {γ β : Type} {J : γ} {b : γ → Option β} {r : β} {G : Prop} (Pr : γ → Prop) (h : hj J b = some r) (h2 : Pr J) (h1 : ∀ K : γ, Pr K → b K = some r → G) : G := h1 J h2 h
def hfuel : Nat := 1000000
def gI (S : hS) (a ci k : Nat) : Option Int32 := if S.K a = ci + 1 then some (S.I a k) else none
def gR (S : hS) (a ci k : Nat) : Option Nat := if S.K a = ci + 1 then S.R a k else none
def gA (S : hS) (a kd : Nat) (i : Int32) : Option Int32 := if S.K a = kd ∧ 0 ≤ i ∧ i.toNatClampNeg < S.n a then some (S.I a i.toNatClampNeg) else none
def gAJ (S : hS) (a : Nat) (i : Int32) : Option Int64 := if S.K a = 13 ∧ 0 ≤ i ∧ i.toNatClampNeg < S.n a then some (S.J a i.toNatClampNeg) else none
def gAR (S : hS) (a kd : Nat) (i : Int32) : Option (Option Nat) := if S.K a = kd ∧ 0 ≤ i ∧ i.toNatClampNeg < S.n a then some (S.R a i.toNatClampNeg) else none
def gN (S : hS) (a : Nat) : Option Int32 := if 11 ≤ S.K a ∧ S.K a ≤ 16 then some (Int32.ofNat (S.n a)) else none
def sI (S : hS) (a ci k : Nat) (v : Int32) : Option hS := if S.K a = ci + 1 then some (S.setI a k v) else none
def sZ (S : hS) (a ci k : Nat) (v : Int32) : Option hS := if S.K a = ci + 1 ∧ (v = 0 ∨ v = 1) then some (S.setI a k v) else none
def sR (S : hS) (a ci k : Nat) (v : Nat) : Option hS := if S.K a = ci + 1 then some (S.setR a k (some v)) else none
def sA (S : hS) (a : Nat) (i v : Int32) : Option hS := if S.K a = 12 ∧ 0 ≤ i ∧ i.toNatClampNeg < S.n a then some (S.setI a i.toNatClampNeg v) else none
def sAB (S : hS) (a : Nat) (i v : Int32) : Option hS := if S.K a = 11 ∧ 0 ≤ i ∧ i.toNatClampNeg < S.n a then some (S.setI a i.toNatClampNeg (vp_nar .byte v)) else none
def sAZ (S : hS) (a : Nat) (i v : Int32) : Option hS := if S.K a = 14 ∧ 0 ≤ i ∧ i.toNatClampNeg < S.n a then some (S.setI a i.toNatClampNeg (vp_nar .boolean v)) else none
def sAJ (S : hS) (a : Nat) (i : Int32) (v : Int64) : Option hS := if S.K a = 13 ∧ 0 ≤ i ∧ i.toNatClampNeg < S.n a then some (S.setJ a i.toNatClampNeg v) else none
theorem gI_s {S : hS} {a ci k : Nat} {v : Int32} (h : gI S a ci k = some v) : S.K a = ci + 1 ∧ S.I a k = v := by
  unfold gI at h; split at h
  · exact ⟨by assumption, Option.some.inj h⟩
  · cases h
theorem gR_s {S : hS} {a ci k : Nat} {v : Nat} (h : gR S a ci k = some v) : S.K a = ci + 1 ∧ S.R a k = some v := by
  unfold gR at h; split at h
  · exact ⟨by assumption, h⟩
  · cases h
theorem hin_of {i : Int32} {n : Nat} (h : 0 ≤ i ∧ i.toNatClampNeg < n) : vp_in i n := fun q => q.elim (fun q => absurd h.1 (by rw [Int32.le_iff_toInt_le] ; rw [Int32.lt_iff_toInt_lt] at q; omega)) (fun q => by omega)
theorem gA_s {S : hS} {a kd : Nat} {i v : Int32} (h : gA S a kd i = some v) : S.K a = kd ∧ vp_in i (S.n a) ∧ S.I a i.toNatClampNeg = v := by
  unfold gA at h; split at h
  · exact ⟨(by assumption : _ ∧ _).1, hin_of (by assumption : _ ∧ _).2, Option.some.inj h⟩
  · cases h
theorem gAJ_s {S : hS} {a : Nat} {i : Int32} {v : Int64} (h : gAJ S a i = some v) : S.K a = 13 ∧ vp_in i (S.n a) ∧ S.J a i.toNatClampNeg = v := by
  unfold gAJ at h; split at h
  · exact ⟨(by assumption : _ ∧ _).1, hin_of (by assumption : _ ∧ _).2, Option.some.inj h⟩
  · cases h
theorem gAR_s {S : hS} {a kd : Nat} {i : Int32} {v : Option Nat} (h : gAR S a kd i = some v) : S.K a = kd ∧ vp_in i (S.n a) ∧ S.R a i.toNatClampNeg = v := by
  unfold gAR at h; split at h
  · exact ⟨(by assumption : _ ∧ _).1, hin_of (by assumption : _ ∧ _).2, Option.some.inj h⟩
  · cases h
theorem gN_s {S : hS} {a : Nat} {v : Int32} (h : gN S a = some v) : (11 ≤ S.K a ∧ S.K a ≤ 16) ∧ Int32.ofNat (S.n a) = v := by
  unfold gN at h; split at h
  · exact ⟨by assumption, Option.some.inj h⟩
  · cases h
theorem sI_s {S T : hS} {a ci k : Nat} {v : Int32} (h : sI S a ci k v = some T) : S.K a = ci + 1 ∧ T = S.setI a k v := by
  unfold sI at h; split at h
  · exact ⟨by assumption, (Option.some.inj h).symm⟩
  · cases h
theorem sZ_s {S T : hS} {a ci k : Nat} {v : Int32} (h : sZ S a ci k v = some T) : S.K a = ci + 1 ∧ (v = 0 ∨ v = 1) ∧ T = S.setI a k v := by
  unfold sZ at h; split at h
  · exact ⟨(by assumption : _ ∧ _).1, (by assumption : _ ∧ _).2, (Option.some.inj h).symm⟩
  · cases h
theorem sR_s {S T : hS} {a ci k v : Nat} (h : sR S a ci k v = some T) : S.K a = ci + 1 ∧ T = S.setR a k (some v) := by
  unfold sR at h; split at h
  · exact ⟨by assumption, (Option.some.inj h).symm⟩
  · cases h
theorem sA_s {S T : hS} {a : Nat} {i v : Int32} (h : sA S a i v = some T) : S.K a = 12 ∧ vp_in i (S.n a) ∧ T = S.setI a i.toNatClampNeg v := by
  unfold sA at h; split at h
  · exact ⟨(by assumption : _ ∧ _).1, hin_of (by assumption : _ ∧ _).2, (Option.some.inj h).symm⟩
  · cases h
theorem sAB_s {S T : hS} {a : Nat} {i v : Int32} (h : sAB S a i v = some T) : S.K a = 11 ∧ vp_in i (S.n a) ∧ T = S.setI a i.toNatClampNeg (vp_nar .byte v) := by
  unfold sAB at h; split at h
  · exact ⟨(by assumption : _ ∧ _).1, hin_of (by assumption : _ ∧ _).2, (Option.some.inj h).symm⟩
  · cases h
theorem sAZ_s {S T : hS} {a : Nat} {i v : Int32} (h : sAZ S a i v = some T) : S.K a = 14 ∧ vp_in i (S.n a) ∧ T = S.setI a i.toNatClampNeg (vp_nar .boolean v) := by
  unfold sAZ at h; split at h
  · exact ⟨(by assumption : _ ∧ _).1, hin_of (by assumption : _ ∧ _).2, (Option.some.inj h).symm⟩
  · cases h
theorem sAJ_s {S T : hS} {a : Nat} {i : Int32} {v : Int64} (h : sAJ S a i v = some T) : S.K a = 13 ∧ vp_in i (S.n a) ∧ T = S.setJ a i.toNatClampNeg v := by
  unfold sAJ at h; split at h
  · exact ⟨(by assumption : _ ∧ _).1, hin_of (by assumption : _ ∧ _).2, (Option.some.inj h).symm⟩
  · cases h
/-- one cell as a world -/
theorem hone {D : va_G} {H : Heap} {q : Nat × va_E} (h : va_at D vwCl q H) : va_P D vwCl [q] H := fun k x hx => by
  match k, hx with
  | 0, hx => cases hx; exact h
  | n + 1, hx => simp at hx
theorem hPool.o {D : va_G} {cy : Nat → ClassId} {A : Nat → Prop} {H0 : Heap} {S : hS} {H : Heap} {locs : List Loc} (P : hPool D cy A H0 S H locs) {a ci : Nat} (h : S.K a = ci + 1) (hc : ci < 10) : va_at D vwCl (a, .inr (ci, (hT ci).mapIdx (hF S a))) H := by
  have := P.1.2 a (by rw [h]; omega)
  rwa [hcell_o h hc] at this
theorem hPool.i {D : va_G} {cy : Nat → ClassId} {A : Nat → Prop} {H0 : Heap} {S : hS} {H : Heap} {locs : List Loc} (P : hPool D cy A H0 S H locs) {a k : Nat} (h : S.K a = k) (hk : k = 11 ∨ k = 12 ∨ k = 14) : va_at D vwCl (a, .inl (cy k, S.n a, .inl (S.I a))) H := by
  have := P.1.2 a (by rw [h]; omega)
  rwa [hcell_i h hk] at this
theorem hPool.j {D : va_G} {cy : Nat → ClassId} {A : Nat → Prop} {H0 : Heap} {S : hS} {H : Heap} {locs : List Loc} (P : hPool D cy A H0 S H locs) {a : Nat} (h : S.K a = 13) : va_at D vwCl (a, .inl (cy 13, S.n a, .inr (.inl (S.J a)))) H := by
  have := P.1.2 a (by rw [h]; omega)
  rwa [hcell_j h] at this
theorem hPool.r {D : va_G} {cy : Nat → ClassId} {A : Nat → Prop} {H0 : Heap} {S : hS} {H : Heap} {locs : List Loc} (P : hPool D cy A H0 S H locs) {a k : Nat} (h : S.K a = k) (hk : 15 ≤ k) : va_at D vwCl (a, .inl (cy k, S.n a, .inr (.inr (.inr (.inr (S.R a)))))) H := by
  have := P.1.2 a (by rw [h]; omega)
  rwa [hcell_r h hk] at this
theorem hF_set {S S' : hS} {a ci k : Nat} {b : Bool} {v : Value} (hb : (hT ci)[k]? = some b) (h1 : hF S' a k b = v) (h2 : ∀ j x, j ≠ k → hF S' a j x = hF S a j x) : (hT ci).mapIdx (hF S' a) = ((hT ci).mapIdx (hF S a)).set k v := by
  apply List.ext_getElem?
  intro j
  rw [List.getElem?_mapIdx, List.getElem?_set, List.getElem?_mapIdx, List.length_mapIdx]
  have hl : k < (hT ci).length := (List.getElem?_eq_some_iff.mp hb).1
  by_cases q : k = j
  · subst q
    rw [if_pos rfl, if_pos hl, hb]
    exact congrArg some h1
  · rw [if_neg q]
    cases (hT ci)[j]? with
    | none => rfl
    | some x => exact congrArg some (h2 j x (Ne.symm q))
section HR
variable {cc : ByteArray} {own : String} {X : hX} {kc ks pc : Nat} {S : hS} {lv : List (Nat × Value)} {st : List Value}
theorem h_getV {a ci k idx N : Nat} {C ref : String} {TT : u_T} {b : Bool} (hK : S.K a = ci + 1) (hc : vwCl[ci]? = some (C, TT, N)) (hk : k < N) (hb : (hT ci)[k]? = some b) (hq : Cond.fieldLink own idx ref (TT k).2.1 (TT k).2.2.1 ∈ hTbl) (hr : (TT k).1 = ref) (hd : decode cc pc = .ok (.getfield idx, 3)) (kk : HW cc own X kc ks S (pc + 3) lv (hF S a k b :: st)) : HW cc own X kc ks S pc lv (.ref a :: st) := by
  intro p l e s m below meth c D cy cv H locs ls F P hl
  have hi := hIn ci C TT N hc
  exact va_get (D := D) (cl := vwCl) (C := C) (T := TT) (N := N) F.1 F.2.1 F.2.2.2.2.1 hi.2.1 F.2.2.2.2.2.1 F.2.2.2.2.2.2.2.2.1.1 (hone (P.o hK hi.1)) 0 rfl hc k hk (F.2.2.2.2.1 _ hq) (fun x h => by rw [← hr]; exact h) (by rw [List.getElem?_mapIdx, hb]; rfl) hd (kk p l e s m below meth c D cy cv H locs ls F P hl)
theorem h_getVN {a ci k idx N : Nat} {C ref host : String} {TT : u_T} {b : Bool} (hK : S.K a = ci + 1) (hc : vwCl[ci]? = some (C, TT, N)) (hk : k < N) (hb : (hT ci)[k]? = some b) (hq : (own, idx, ref, (TT k).2.1, (TT k).2.2.1, host) ∈ hNF) (hr : (TT k).1 = ref) (hd : decode cc pc = .ok (.getfield idx, 3)) (kk : HW cc own X kc ks S (pc + 3) lv (hF S a k b :: st)) : HW cc own X kc ks S pc lv (.ref a :: st) := by
  intro p l e s m below meth c D cy cv H locs ls F P hl
  have hi := hIn ci C TT N hc
  exact va_getN (D := D) (cl := vwCl) (C := C) (T := TT) (N := N) F.1 F.2.1 F.2.2.2.2.1 hi.2.1 F.2.2.2.2.2.1 F.2.2.2.2.2.2.2.2.1.1 (hone (P.o hK hi.1)) 0 rfl hc k hk (va_Nw.use rfl (F.2.2.2.2.2.2.2.2.1.2.1 _ hq)) (fun x h => by rw [← hr]; exact h) (by rw [List.getElem?_mapIdx, hb]; rfl) hd (kk p l e s m below meth c D cy cv H locs ls F P hl)
theorem h_getI {a ci k idx N : Nat} {C ref : String} {TT : u_T} {v : Int32} (hg : gI S a ci k = some v) (hc : vwCl[ci]? = some (C, TT, N)) (hk : k < N) (hb : (hT ci)[k]? = some false) (hq : Cond.fieldLink own idx ref (TT k).2.1 (TT k).2.2.1 ∈ hTbl) (hr : (TT k).1 = ref) (hd : decode cc pc = .ok (.getfield idx, 3)) (kk : HW cc own X kc ks S (pc + 3) lv (.int v :: st)) : HW cc own X kc ks S pc lv (.ref a :: st) := by
  obtain ⟨h1, rfl⟩ := gI_s hg
  exact h_getV h1 hc hk hb hq hr hd kk
theorem h_getR {a ci k idx N v : Nat} {C ref : String} {TT : u_T} (hg : gR S a ci k = some v) (hc : vwCl[ci]? = some (C, TT, N)) (hk : k < N) (hb : (hT ci)[k]? = some true) (hq : Cond.fieldLink own idx ref (TT k).2.1 (TT k).2.2.1 ∈ hTbl) (hr : (TT k).1 = ref) (hd : decode cc pc = .ok (.getfield idx, 3)) (kk : HW cc own X kc ks S (pc + 3) lv (.ref v :: st)) : HW cc own X kc ks S pc lv (.ref a :: st) := by
  obtain ⟨h1, h2⟩ := gR_s hg
  refine h_getV h1 hc hk hb hq hr hd ?_
  have e : hF S a k true = .ref v := by show va_rf (S.R a k) = _; rw [h2]; rfl
  rw [e]; exact kk
theorem h_getIN {a ci k idx N : Nat} {C ref host : String} {TT : u_T} {v : Int32} (hg : gI S a ci k = some v) (hc : vwCl[ci]? = some (C, TT, N)) (hk : k < N) (hb : (hT ci)[k]? = some false) (hq : (own, idx, ref, (TT k).2.1, (TT k).2.2.1, host) ∈ hNF) (hr : (TT k).1 = ref) (hd : decode cc pc = .ok (.getfield idx, 3)) (kk : HW cc own X kc ks S (pc + 3) lv (.int v :: st)) : HW cc own X kc ks S pc lv (.ref a :: st) := by
  obtain ⟨h1, rfl⟩ := gI_s hg
  exact h_getVN h1 hc hk hb hq hr hd kk
theorem h_getRN {a ci k idx N v : Nat} {C ref host : String} {TT : u_T} (hg : gR S a ci k = some v) (hc : vwCl[ci]? = some (C, TT, N)) (hk : k < N) (hb : (hT ci)[k]? = some true) (hq : (own, idx, ref, (TT k).2.1, (TT k).2.2.1, host) ∈ hNF) (hr : (TT k).1 = ref) (hd : decode cc pc = .ok (.getfield idx, 3)) (kk : HW cc own X kc ks S (pc + 3) lv (.ref v :: st)) : HW cc own X kc ks S pc lv (.ref a :: st) := by
  obtain ⟨h1, h2⟩ := gR_s hg
  refine h_getVN h1 hc hk hb hq hr hd ?_
  have e : hF S a k true = .ref v := by show va_rf (S.R a k) = _; rw [h2]; rfl
  rw [e]; exact kk
/-- what a write of a field leaves, in the machine's cell -/
theorem h_putAt {D : va_G} {cy : Nat → ClassId} {S S' : hS} {H1 : Heap} {a ci k N : Nat} {C : String} {TT : u_T} {b : Bool} {v : Value} (hK : S'.K a = ci + 1) (hci : ci < 10) (hc : vwCl[ci]? = some (C, TT, N)) (hb : (hT ci)[k]? = some b) (h1 : hF S' a k b = v) (h2 : ∀ j x, j ≠ k → hF S' a j x = hF S a j x) (h : t_OB a (D.1 ci) N (D.2 ci) H1 (updV (vp_V ((hT ci).mapIdx (hF S a))) k v)) : va_at D vwCl (a, hcell cy S' a) H1 := by
  rw [hcell_o hK hci, hF_set hb h1 h2]
  have hl : k < ((hT ci).mapIdx (hF S a)).length := by rw [List.length_mapIdx]; exact (List.getElem?_eq_some_iff.mp hb).1
  exact ⟨_, hc, t_OB.to h (fun j _ => vp_updV_set hl v j)⟩
theorem h_putV {S' : hS} {a ci k idx N : Nat} {C ref : String} {TT : u_T} {b : Bool} {v : Value} {ty : FieldType} (hK : S.K a = ci + 1) (hc : vwCl[ci]? = some (C, TT, N)) (hk : k < N) (hb : (hT ci)[k]? = some b) (hq : Cond.fieldLink own idx ref (TT k).2.1 (TT k).2.2.1 ∈ hTbl) (hr : (TT k).1 = ref) (hfin : (TT k).2.2.2 = false) (hds : parseFieldDescriptor (TT k).2.2.1 = some ty) (hn : narrow ty v = v) (hfit : fits ty v = true) (h1 : hF S' a k b = v) (h2 : ∀ j x, j ≠ k → hF S' a j x = hF S a j x)
    (g0 : S'.nx = S.nx) (g1 : S'.K = S.K) (g2 : S'.n = S.n) (g3 : ∀ b, b ≠ a → S'.I b = S.I b) (g4 : ∀ b, b ≠ a → S'.J b = S.J b) (g5 : ∀ b, b ≠ a → S'.R b = S.R b) (hd : decode cc pc = .ok (.putfield idx, 3)) (kk : HW cc own X kc ks S' (pc + 3) lv st) : HW cc own X kc ks S pc lv (v :: .ref a :: st) := by
  intro p l e s m below meth c D cy cv H locs ls F P hl
  have hi := hIn ci C TT N hc
  obtain ⟨ty0, hty⟩ := hi.2.2.1
  have hts := F.2.2.2.2.1
  have hKE := F.2.2.2.2.2.2.2.2.1.1
  have hap := va_apart (own := own) hts hi.2.1 ty0 hty hi.2.2.2 hKE hc
  obtain ⟨r, e1, cell, q1, q2, q3, q4⟩ := P.o hK hi.1
  have hr2 : r = (C, TT, N) := Option.some.inj (e1.symm.trans hc)
  subst hr2
  obtain ⟨hS, hfc, kC, hkC, hkind⟩ := hKE.1 ci _ hc
  obtain ⟨cf, kf, fi, f, hif, hsl⟩ := hS k hk
  have hlay := hts _ (hi.2.1 _ (u_in_lay hk))
  unfold u_lay at hlay
  rw [if_neg (by rw [hfin]; decide)] at hlay
  have hst := (u_facts hfc hkC (u_lays hts hi.2.1 hk) hif).1
  have h6 := u_store hfc hkC hkind hlay hif hds hn hfit
  refine W.putK F.1 F.2.1 (f := f) ⟨F.2.2.2.2.2.1, hts _ hq, ⟨_, _, _, by rw [← hr]; exact hif⟩, hst⟩ (by rw [q2]; exact h6) q1 q3 (by rw [hsl]; exact k2_hasslot (q4 k hk)) rfl rfl hd fun H' e1 e2 e3 => ?_
  rw [hsl] at e1 ⊢
  exact kk p l e s m below meth c D cy cv H' _ ls F (P.write (a := a) (by rw [hK]; omega) (h_putAt (by rw [g1]; exact hK) hi.1 hc hb h1 h2 ⟨_, e1, q2, q3, t_set q4 hap hk v⟩) e2 e3 g0 g1 g2 g3 g4 g5) hl
theorem h_putVN {S' : hS} {a ci k idx N : Nat} {C ref host : String} {TT : u_T} {b : Bool} {v : Value} {ty : FieldType} (hK : S.K a = ci + 1) (hc : vwCl[ci]? = some (C, TT, N)) (hk : k < N) (hb : (hT ci)[k]? = some b) (hq : (own, idx, ref, (TT k).2.1, (TT k).2.2.1, host) ∈ hNF) (hr : (TT k).1 = ref) (hfin : (TT k).2.2.2 = false) (hds : parseFieldDescriptor (TT k).2.2.1 = some ty) (hn : narrow ty v = v) (hfit : fits ty v = true) (h1 : hF S' a k b = v) (h2 : ∀ j x, j ≠ k → hF S' a j x = hF S a j x)
    (g0 : S'.nx = S.nx) (g1 : S'.K = S.K) (g2 : S'.n = S.n) (g3 : ∀ b, b ≠ a → S'.I b = S.I b) (g4 : ∀ b, b ≠ a → S'.J b = S.J b) (g5 : ∀ b, b ≠ a → S'.R b = S.R b) (hd : decode cc pc = .ok (.putfield idx, 3)) (kk : HW cc own X kc ks S' (pc + 3) lv st) : HW cc own X kc ks S pc lv (v :: .ref a :: st) := by
  intro p l e s m below meth c D cy cv H locs ls F P hl
  have hi := hIn ci C TT N hc
  obtain ⟨ty0, hty⟩ := hi.2.2.1
  have hts := F.2.2.2.2.1
  have hKE := F.2.2.2.2.2.2.2.2.1.1
  have hap := va_apart (own := own) hts hi.2.1 ty0 hty hi.2.2.2 hKE hc
  obtain ⟨r, e1, cell, q1, q2, q3, q4⟩ := P.o hK hi.1
  have hr2 : r = (C, TT, N) := Option.some.inj (e1.symm.trans hc)
  subst hr2
  obtain ⟨hS, hfc, kC, hkC, hkind⟩ := hKE.1 ci _ hc
  obtain ⟨cf, kf, fi, f, hif, hsl⟩ := hS k hk
  have hlay := hts _ (hi.2.1 _ (u_in_lay hk))
  unfold u_lay at hlay
  rw [if_neg (by rw [hfin]; decide)] at hlay
  have hst := (u_facts hfc hkC (u_lays hts hi.2.1 hk) hif).1
  have h6 := u_store hfc hkC hkind hlay hif hds hn hfit
  refine va_WputK F.1 F.2.1 (f := f) F.2.2.2.2.2.1 (va_Nw.use rfl (F.2.2.2.2.2.2.2.2.1.2.1 _ hq)) (by rw [← hr]; exact hif) hst (by rw [q2]; exact h6) q1 q3 (by rw [hsl]; exact k2_hasslot (q4 k hk)) rfl rfl hd fun H' e1 e2 e3 => ?_
  rw [hsl] at e1 ⊢
  exact kk p l e s m below meth c D cy cv H' _ ls F (P.write (a := a) (by rw [hK]; omega) (h_putAt (by rw [g1]; exact hK) hi.1 hc hb h1 h2 ⟨_, e1, q2, q3, t_set q4 hap hk v⟩) e2 e3 g0 g1 g2 g3 g4 g5) hl
theorem hF_I1 (S : hS) (a k : Nat) (v : Int32) : hF (S.setI a k v) a k false = .int v := by simp [hF, hS.setI, hS.I, hS.J, hS.R, va_up]
theorem hF_I2 (S : hS) (a k : Nat) (v : Int32) (j : Nat) (x : Bool) (h : j ≠ k) : hF (S.setI a k v) a j x = hF S a j x := by cases x <;> simp [hF, hS.setI, hS.I, hS.J, hS.R, va_up, h]
theorem hb_z {v : Int32} (h : v = 0 ∨ v = 1) : narrow .boolean (.int v) = .int v ∧ fits .boolean (.int v) = true := by rcases h with rfl | rfl <;> exact ⟨rfl, rfl⟩
theorem h_putI {T : hS} {a ci k idx N : Nat} {C ref : String} {TT : u_T} {v : Int32} (hg : sI S a ci k v = some T) (hc : vwCl[ci]? = some (C, TT, N)) (hk : k < N) (hb : (hT ci)[k]? = some false) (hq : Cond.fieldLink own idx ref (TT k).2.1 (TT k).2.2.1 ∈ hTbl) (hr : (TT k).1 = ref) (hfin : (TT k).2.2.2 = false) (hds : parseFieldDescriptor (TT k).2.2.1 = some .int) (hd : decode cc pc = .ok (.putfield idx, 3)) (kk : HW cc own X kc ks T (pc + 3) lv st) : HW cc own X kc ks S pc lv (.int v :: .ref a :: st) := by
  obtain ⟨h1, rfl⟩ := sI_s hg
  exact h_putV h1 hc hk hb hq hr hfin hds rfl rfl (hF_I1 S a k v) (hF_I2 S a k v) rfl rfl rfl (fun b h => by simp [hS.setI, hS.I, hS.J, hS.R, va_up, h]) (fun _ _ => rfl) (fun _ _ => rfl) hd kk
theorem h_putIN {T : hS} {a ci k idx N : Nat} {C ref host : String} {TT : u_T} {v : Int32} (hg : sI S a ci k v = some T) (hc : vwCl[ci]? = some (C, TT, N)) (hk : k < N) (hb : (hT ci)[k]? = some false) (hq : (own, idx, ref, (TT k).2.1, (TT k).2.2.1, host) ∈ hNF) (hr : (TT k).1 = ref) (hfin : (TT k).2.2.2 = false) (hds : parseFieldDescriptor (TT k).2.2.1 = some .int) (hd : decode cc pc = .ok (.putfield idx, 3)) (kk : HW cc own X kc ks T (pc + 3) lv st) : HW cc own X kc ks S pc lv (.int v :: .ref a :: st) := by
  obtain ⟨h1, rfl⟩ := sI_s hg
  exact h_putVN h1 hc hk hb hq hr hfin hds rfl rfl (hF_I1 S a k v) (hF_I2 S a k v) rfl rfl rfl (fun b h => by simp [hS.setI, hS.I, hS.J, hS.R, va_up, h]) (fun _ _ => rfl) (fun _ _ => rfl) hd kk
theorem h_putZ {T : hS} {a ci k idx N : Nat} {C ref : String} {TT : u_T} {v : Int32} (hg : sZ S a ci k v = some T) (hc : vwCl[ci]? = some (C, TT, N)) (hk : k < N) (hb : (hT ci)[k]? = some false) (hq : Cond.fieldLink own idx ref (TT k).2.1 (TT k).2.2.1 ∈ hTbl) (hr : (TT k).1 = ref) (hfin : (TT k).2.2.2 = false) (hds : parseFieldDescriptor (TT k).2.2.1 = some .boolean) (hd : decode cc pc = .ok (.putfield idx, 3)) (kk : HW cc own X kc ks T (pc + 3) lv st) : HW cc own X kc ks S pc lv (.int v :: .ref a :: st) := by
  obtain ⟨h1, h2, rfl⟩ := sZ_s hg
  exact h_putV h1 hc hk hb hq hr hfin hds (hb_z h2).1 (hb_z h2).2 (hF_I1 S a k v) (hF_I2 S a k v) rfl rfl rfl (fun b h => by simp [hS.setI, hS.I, hS.J, hS.R, va_up, h]) (fun _ _ => rfl) (fun _ _ => rfl) hd kk

theorem h_iald {a : Nat} {i v : Int32} (hg : gA S a 12 i = some v) (hd : decode cc pc = .ok (.iaload, 1)) (kk : HW cc own X kc ks S (pc + 1) lv (.int v :: st)) : HW cc own X kc ks S pc lv (.int i :: .ref a :: st) := by
  obtain ⟨h1, h2, rfl⟩ := gA_s hg
  intro p l e s m below meth c D cy cv H locs ls F P hl
  exact va_iald (D := D) (cl := vwCl) (tys := htys cy) F.1 F.2.1 F.2.2.2.2.2.2.2.2.1.1 (hone (P.i h1 (by omega))) 0 1 rfl rfl h2 hd (kk p l e s m below meth c D cy cv H locs ls F P hl)
theorem h_bald {a : Nat} {i v : Int32} (hg : gA S a 11 i = some v) (hd : decode cc pc = .ok (.baload, 1)) (kk : HW cc own X kc ks S (pc + 1) lv (.int v :: st)) : HW cc own X kc ks S pc lv (.int i :: .ref a :: st) := by
  obtain ⟨h1, h2, rfl⟩ := gA_s hg
  intro p l e s m below meth c D cy cv H locs ls F P hl
  exact va_bald (D := D) (cl := vwCl) (tys := htys cy) F.1 F.2.1 F.2.2.2.2.2.2.2.2.1.1 (hone (P.i h1 (by omega))) 0 0 rfl rfl h2 hd (kk p l e s m below meth c D cy cv H locs ls F P hl)
theorem h_zald {a : Nat} {i v : Int32} (hg : gA S a 14 i = some v) (hd : decode cc pc = .ok (.baload, 1)) (kk : HW cc own X kc ks S (pc + 1) lv (.int v :: st)) : HW cc own X kc ks S pc lv (.int i :: .ref a :: st) := by
  obtain ⟨h1, h2, rfl⟩ := gA_s hg
  intro p l e s m below meth c D cy cv H locs ls F P hl
  exact va_zald (D := D) (cl := vwCl) (tys := htys cy) F.1 F.2.1 F.2.2.2.2.2.2.2.2.1.1 (hone (P.i h1 (by omega))) 0 3 rfl rfl h2 hd (kk p l e s m below meth c D cy cv H locs ls F P hl)
theorem h_lald {a : Nat} {i : Int32} {v : Int64} (hg : gAJ S a i = some v) (hd : decode cc pc = .ok (.laload, 1)) (kk : HW cc own X kc ks S (pc + 1) lv (.long v :: st)) : HW cc own X kc ks S pc lv (.int i :: .ref a :: st) := by
  obtain ⟨h1, h2, rfl⟩ := gAJ_s hg
  intro p l e s m below meth c D cy cv H locs ls F P hl
  exact va_lald (D := D) (cl := vwCl) (tys := htys cy) F.1 F.2.1 F.2.2.2.2.2.2.2.2.1.1 (hone (P.j h1)) 0 2 rfl rfl h2 hd (kk p l e s m below meth c D cy cv H locs ls F P hl)
theorem h_aald15 {a : Nat} {i : Int32} {v : Option Nat} (hg : gAR S a 15 i = some v) (hd : decode cc pc = .ok (.aaload, 1)) (kk : HW cc own X kc ks S (pc + 1) lv (va_rf v :: st)) : HW cc own X kc ks S pc lv (.int i :: .ref a :: st) := by
  obtain ⟨h1, h2, rfl⟩ := gAR_s hg
  intro p l e s m below meth c D cy cv H locs ls F P hl
  exact va_aldq (D := D) (cl := vwCl) (tys := htys cy) F.1 F.2.1 F.2.2.2.2.2.2.2.2.1.1 (hone (P.r h1 (by omega))) 0 4 rfl rfl h2 hd (kk p l e s m below meth c D cy cv H locs ls F P hl)
theorem h_aald16 {a : Nat} {i : Int32} {v : Option Nat} (hg : gAR S a 16 i = some v) (hd : decode cc pc = .ok (.aaload, 1)) (kk : HW cc own X kc ks S (pc + 1) lv (va_rf v :: st)) : HW cc own X kc ks S pc lv (.int i :: .ref a :: st) := by
  obtain ⟨h1, h2, rfl⟩ := gAR_s hg
  intro p l e s m below meth c D cy cv H locs ls F P hl
  exact va_aldq (D := D) (cl := vwCl) (tys := htys cy) F.1 F.2.1 F.2.2.2.2.2.2.2.2.1.1 (hone (P.r h1 (by omega))) 0 5 rfl rfl h2 hd (kk p l e s m below meth c D cy cv H locs ls F P hl)
theorem h_alen {a : Nat} {v : Int32} (hg : gN S a = some v) (hd : decode cc pc = .ok (.arraylength, 1)) (kk : HW cc own X kc ks S (pc + 1) lv (.int v :: st)) : HW cc own X kc ks S pc lv (.ref a :: st) := by
  obtain ⟨h1, h2⟩ := gN_s hg
  intro p l e s m below meth c D cy cv H locs ls F P hl
  have hk := kk p l e s m below meth c D cy cv H locs ls F P hl
  have hE := F.2.2.2.2.2.2.2.2.1.1
  have h3 : S.K a = 11 ∨ S.K a = 12 ∨ S.K a = 13 ∨ S.K a = 14 ∨ S.K a = 15 ∨ S.K a = 16 := by omega
  rcases h3 with h | h | h | h | h | h
  · exact va_alen (D := D) (cl := vwCl) (tys := htys cy) F.1 F.2.1 hE (hone (P.i h (by omega))) 0 0 rfl rfl h2 hd hk
  · exact va_alen (D := D) (cl := vwCl) (tys := htys cy) F.1 F.2.1 hE (hone (P.i h (by omega))) 0 1 rfl rfl h2 hd hk
  · exact va_alen (D := D) (cl := vwCl) (tys := htys cy) F.1 F.2.1 hE (hone (P.j h)) 0 2 rfl rfl h2 hd hk
  · exact va_alen (D := D) (cl := vwCl) (tys := htys cy) F.1 F.2.1 hE (hone (P.i h (by omega))) 0 3 rfl rfl h2 hd hk
  · exact va_alen (D := D) (cl := vwCl) (tys := htys cy) F.1 F.2.1 hE (hone (P.r h (by omega))) 0 4 rfl rfl h2 hd hk
  · exact va_alen (D := D) (cl := vwCl) (tys := htys cy) F.1 F.2.1 hE (hone (P.r h (by omega))) 0 5 rfl rfl h2 hd hk
theorem h_iast {T : hS} {a : Nat} {i v : Int32} (hg : sA S a i v = some T) (hd : decode cc pc = .ok (.iastore, 1)) (kk : HW cc own X kc ks T (pc + 1) lv st) : HW cc own X kc ks S pc lv (.int v :: .int i :: .ref a :: st) := by
  obtain ⟨h1, h2, rfl⟩ := sA_s hg
  intro p l e s m below meth c D cy cv H locs ls F P hl
  refine W.iast F.1 F.2.1 (P.i h1 (by omega)) ((F.2.2.2.2.2.2.2.2.1.1.2 1 _ rfl).1 (S.n a) (fun j => .int (S.I a j))) (fun q => by cases q) (by show ¬ (i < 0 ∨ (arrV _ _ _).slots.size ≤ _); rw [arrV_size]; exact h2) rfl rfl hd fun H1 e1 z oq => ?_
  refine kk p l e s m below meth c D cy cv H1 _ ls F (P.write (a := a) (by rw [h1]; omega) ?_ z oq rfl rfl rfl (fun b h => by simp [hS.setI, hS.I, hS.J, hS.R, va_up, h]) (fun _ _ => rfl) (fun _ _ => rfl)) hl
  rw [hcell_i (k := 12) (by exact h1) (by omega)]
  show H1[a]? = some (vp_cell _ _)
  rw [e1]
  show some ((vp_cell _ _).setSlot _ _) = _
  rw [vp_cell_i, vp_cell_i, arrV_store]
  congr 2
  funext q
  by_cases hq : q = i.toNatClampNeg
  · subst hq
    simp [updV, hS.setI, hS.I, hS.J, hS.R, va_up]
    try rfl
  · simp [updV, hS.setI, hS.I, hS.J, hS.R, va_up, hq]
theorem h_bast {T : hS} {a : Nat} {i v : Int32} (hg : sAB S a i v = some T) (hd : decode cc pc = .ok (.bastore, 1)) (kk : HW cc own X kc ks T (pc + 1) lv st) : HW cc own X kc ks S pc lv (.int v :: .int i :: .ref a :: st) := by
  obtain ⟨h1, h2, rfl⟩ := sAB_s hg
  intro p l e s m below meth c D cy cv H locs ls F P hl
  refine W.bast F.1 F.2.1 (P.i h1 (by omega)) ((F.2.2.2.2.2.2.2.2.1.1.2 0 _ rfl).1 (S.n a) (fun j => .int (S.I a j))) (fun q => by cases q) (by show ¬ (i < 0 ∨ (arrV _ _ _).slots.size ≤ _); rw [arrV_size]; exact h2) rfl rfl hd fun H1 e1 z oq => ?_
  refine kk p l e s m below meth c D cy cv H1 _ ls F (P.write (a := a) (by rw [h1]; omega) ?_ z oq rfl rfl rfl (fun b h => by simp [hS.setI, hS.I, hS.J, hS.R, va_up, h]) (fun _ _ => rfl) (fun _ _ => rfl)) hl
  rw [hcell_i (k := 11) (by exact h1) (by omega)]
  show H1[a]? = some (vp_cell _ _)
  rw [e1]
  show some ((vp_cell _ _).setSlot _ _) = _
  rw [vp_cell_i, vp_cell_i, arrV_store]
  congr 2
  funext q
  by_cases hq : q = i.toNatClampNeg
  · subst hq
    simp [updV, hS.setI, hS.I, hS.J, hS.R, va_up, vp_nar]
    try rfl
  · simp [updV, hS.setI, hS.I, hS.J, hS.R, va_up, hq]
theorem h_zast {T : hS} {a : Nat} {i v : Int32} (hg : sAZ S a i v = some T) (hd : decode cc pc = .ok (.bastore, 1)) (kk : HW cc own X kc ks T (pc + 1) lv st) : HW cc own X kc ks S pc lv (.int v :: .int i :: .ref a :: st) := by
  obtain ⟨h1, h2, rfl⟩ := sAZ_s hg
  intro p l e s m below meth c D cy cv H locs ls F P hl
  refine W.zast F.1 F.2.1 (P.i h1 (by omega)) ((F.2.2.2.2.2.2.2.2.1.1.2 3 _ rfl).1 (S.n a) (fun j => .int (S.I a j))) (fun q => by cases q) (by show ¬ (i < 0 ∨ (arrV _ _ _).slots.size ≤ _); rw [arrV_size]; exact h2) rfl rfl hd fun H1 e1 z oq => ?_
  refine kk p l e s m below meth c D cy cv H1 _ ls F (P.write (a := a) (by rw [h1]; omega) ?_ z oq rfl rfl rfl (fun b h => by simp [hS.setI, hS.I, hS.J, hS.R, va_up, h]) (fun _ _ => rfl) (fun _ _ => rfl)) hl
  rw [hcell_i (k := 14) (by exact h1) (by omega)]
  show H1[a]? = some (vp_cell _ _)
  rw [e1]
  show some ((vp_cell _ _).setSlot _ _) = _
  rw [vp_cell_i, vp_cell_i, arrV_store]
  congr 2
  funext q
  by_cases hq : q = i.toNatClampNeg
  · subst hq
    simp [updV, hS.setI, hS.I, hS.J, hS.R, va_up, vp_nar]
    try rfl
  · simp [updV, hS.setI, hS.I, hS.J, hS.R, va_up, hq]
theorem h_last {T : hS} {a : Nat} {i : Int32} {v : Int64} (hg : sAJ S a i v = some T) (hd : decode cc pc = .ok (.lastore, 1)) (kk : HW cc own X kc ks T (pc + 1) lv st) : HW cc own X kc ks S pc lv (.long v :: .int i :: .ref a :: st) := by
  obtain ⟨h1, h2, rfl⟩ := sAJ_s hg
  intro p l e s m below meth c D cy cv H locs ls F P hl
  refine W.last F.1 F.2.1 (P.j h1) ((F.2.2.2.2.2.2.2.2.1.1.2 2 _ rfl).1 (S.n a) (fun j => .long (S.J a j))) (fun q => by cases q) (by show ¬ (i < 0 ∨ (arrV _ _ _).slots.size ≤ _); rw [arrV_size]; exact h2) rfl rfl hd fun H1 e1 z oq => ?_
  refine kk p l e s m below meth c D cy cv H1 _ ls F (P.write (a := a) (by rw [h1]; omega) ?_ z oq rfl rfl rfl (fun _ _ => rfl) (fun b h => by simp [hS.setJ, hS.I, hS.J, hS.R, va_up, h]) (fun _ _ => rfl)) hl
  rw [hcell_j (by exact h1)]
  show H1[a]? = some (vp_cell _ _)
  rw [e1]
  show some ((vp_cell _ _).setSlot _ _) = _
  rw [vp_cell_l, vp_cell_l, arrV_store]
  congr 2
  funext q
  by_cases hq : q = i.toNatClampNeg
  · subst hq
    simp [updV, hS.setJ, hS.I, hS.J, hS.R, va_up]
  · simp [updV, hS.setJ, hS.I, hS.J, hS.R, va_up, hq]
theorem hend {D : va_G} {cy : Nat → ClassId} {A : Nat → Prop} {H0 H : Heap} {locs : List Loc} (P : hPool D cy A H0 S H locs) {t : State} (ht : t.heap = H) : hB D cy S t.heap ∧ ∀ a, S.K a ≠ 0 → A a := ⟨by rw [ht]; exact P.1, P.2.1⟩
theorem h_iret {v : Int32} (hr : X.ret = some .int) (hv : X.rv = some (.int v)) (hT : X.T = S) (h1 : kc ≤ X.mc) (h2 : ks ≤ X.ms) (hd : decode cc pc = .ok (.ireturn, 1)) : HW cc own X kc ks S pc lv [.int v] := by
  intro p l e s m below meth c D cy cv H locs ls F P hl
  refine W.widen h1 h2 ?_
  exact W.iret (v := v) F.1 F.2.1 (F.2.2.1.trans hr) (fun t ht hW => ⟨⟨by rw [hv], by rw [hT]; exact hend P ht⟩, P.2.2.F ht⟩) P.2.2.2.2 hd F.2.2.2.2.2.2.1
theorem h_zret {v : Int32} (hr : X.ret = some .boolean) (hz : v = 0 ∨ v = 1) (hv : X.rv = some (.int v)) (hT : X.T = S) (h1 : kc ≤ X.mc) (h2 : ks ≤ X.ms) (hd : decode cc pc = .ok (.ireturn, 1)) : HW cc own X kc ks S pc lv [.int v] := by
  intro p l e s m below meth c D cy cv H locs ls F P hl
  refine W.widen h1 h2 ?_
  exact W.zret (v := v) F.1 F.2.1 (F.2.2.1.trans hr) (hb_z hz).1 (fun t ht hW => ⟨⟨by rw [hv], by rw [hT]; exact hend P ht⟩, P.2.2.F ht⟩) P.2.2.2.2 hd F.2.2.2.2.2.2.1
theorem h_lret {v : Int64} (hr : X.ret = some .long) (hv : X.rv = some (.long v)) (hT : X.T = S) (h1 : kc ≤ X.mc) (h2 : ks ≤ X.ms) (hd : decode cc pc = .ok (.lreturn, 1)) : HW cc own X kc ks S pc lv [.long v] := by
  intro p l e s m below meth c D cy cv H locs ls F P hl
  refine W.widen h1 h2 ?_
  exact W.lret (v := v) F.1 F.2.1 (F.2.2.1.trans hr) (fun t ht hW => ⟨⟨by rw [hv], by rw [hT]; exact hend P ht⟩, P.2.2.F ht⟩) P.2.2.2.2 hd F.2.2.2.2.2.2.1
theorem h_vret (hr : X.ret = none) (hv : X.rv = none) (hT : X.T = S) (h1 : kc ≤ X.mc) (h2 : ks ≤ X.ms) (hd : decode cc pc = .ok (.return_, 1)) : HW cc own X kc ks S pc lv [] := by
  intro p l e s m below meth c D cy cv H locs ls F P hl
  refine W.widen h1 h2 ?_
  exact W.vret F.1 F.2.1 (F.2.2.1.trans hr) (fun t ht hW => ⟨⟨by rw [hv], by rw [hT]; exact hend P ht⟩, P.2.2.F ht⟩) P.2.2.2.2 hd F.2.2.2.2.2.2.1
end HR
