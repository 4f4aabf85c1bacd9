def hS0 (z : Nat) : hS := (z, fun _ => 0, fun _ => 0, fun _ _ => 0, fun _ _ => 0, fun _ _ => none)
/-- ALL THAT IS LEFT, and it is pure: from the two objects as they are made on, every pair of calls answers alike -/
def Pure : Prop := ∀ z : Nat, ∃ (Sa Sb : hS) (Rel : hS → Prop), f_X8_init z ((hS0 z).new 9 0) = some Sa ∧ f_X9_init Sa.nx (Sa.new 10 0) = some Sb ∧ Rel Sb ∧ steps Rel z Sa.nx
def hFl : List Cond := flatC (Jvm.Cond.and given_1 narrow_1)
theorem ht_1 {w : Cond} {i : Nat} (q : tables_1_1[i]? = some w) : w ∈ tables_1 := (have h := List.mem_of_getElem? q; List.mem_append_left _ h)
theorem ht_2 {w : Cond} {i : Nat} (q : tables_1_2[i]? = some w) : w ∈ tables_1 := (have h := List.mem_of_getElem? q; List.mem_append_right _ (List.mem_append_left _ h))
theorem ht_3 {w : Cond} {i : Nat} (q : tables_1_3[i]? = some w) : w ∈ tables_1 := (have h := List.mem_of_getElem? q; List.mem_append_right _ (List.mem_append_right _ (List.mem_append_left _ h)))
theorem ht_4 {w : Cond} {i : Nat} (q : tables_1_4[i]? = some w) : w ∈ tables_1 := (have h := List.mem_of_getElem? q; List.mem_append_right _ (List.mem_append_right _ (List.mem_append_right _ (List.mem_append_left _ h))))
theorem ht_5 {w : Cond} {i : Nat} (q : tables_1_5[i]? = some w) : w ∈ tables_1 := (have h := List.mem_of_getElem? q; List.mem_append_right _ (List.mem_append_right _ (List.mem_append_right _ (List.mem_append_right _ (List.mem_append_left _ h)))))
theorem ht_6 {w : Cond} {i : Nat} (q : tables_1_6[i]? = some w) : w ∈ tables_1 := (have h := List.mem_of_getElem? q; List.mem_append_right _ (List.mem_append_right _ (List.mem_append_right _ (List.mem_append_right _ (List.mem_append_right _ (List.mem_append_left _ h))))))
theorem ht_7 {w : Cond} {i : Nat} (q : tables_1_7[i]? = some w) : w ∈ tables_1 := (have h := List.mem_of_getElem? q; List.mem_append_right _ (List.mem_append_right _ (List.mem_append_right _ (List.mem_append_right _ (List.mem_append_right _ (List.mem_append_right _ (h)))))))
theorem nm_0 : Cond.methodLinkNest "DeafSpot" 9 ⟨"DeafSpot$Tape", "<init>", "()V"⟩ "DeafSpot" ∈ tables_1 := ht_1 (i := 28) (by decide +kernel)
theorem nf_0 : Cond.fieldLinkNest "DeafSpot" 284 "DeafSpot$Tape" "length" "I" "DeafSpot" ∈ tables_1 := ht_1 (i := 34) (by decide +kernel)
theorem nf_1 : Cond.fieldLinkNest "DeafSpot$LawReader" 43 "DeafSpot$Tape" "at" "I" "DeafSpot" ∈ tables_1 := ht_1 (i := 36) (by decide +kernel)
theorem nf_2 : Cond.fieldLinkNest "DeafSpot$HallReader" 61 "DeafSpot$Tape" "at" "I" "DeafSpot" ∈ tables_1 := ht_1 (i := 37) (by decide +kernel)
theorem nf_3 : Cond.fieldLinkNest "DeafSpot" 92 "DeafSpot$Tape" "fault" "I" "DeafSpot" ∈ tables_1 := ht_1 (i := 39) (by decide +kernel)
theorem ao_L : Cond.arrayOver (.object "DeafSpot$Law") ∈ tables_1 := ht_1 (i := 51) (by decide +kernel)
theorem nm_1 : Cond.methodLinkNest "DeafSpot" 28 ⟨"DeafSpot$Evening", "<init>", "()V"⟩ "DeafSpot" ∈ tables_1 := ht_1 (i := 54) (by decide +kernel)
theorem nm_2 : Cond.methodLinkNest "DeafSpot$Evening" 11 ⟨"DeafSpot$Room", "<init>", "()V"⟩ "DeafSpot" ∈ tables_1 := ht_1 (i := 60) (by decide +kernel)
theorem nf_4 : Cond.fieldLinkNest "DeafSpot$Found" 35 "DeafSpot$Room" "columns" "I" "DeafSpot" ∈ tables_1 := ht_1 (i := 65) (by decide +kernel)
theorem nf_5 : Cond.fieldLinkNest "DeafSpot$HallReader" 146 "DeafSpot$Room" "columns" "I" "DeafSpot" ∈ tables_1 := ht_1 (i := 66) (by decide +kernel)
theorem nf_6 : Cond.fieldLinkNest "DeafSpot" 266 "DeafSpot$Room" "columns" "I" "DeafSpot" ∈ tables_1 := ht_1 (i := 67) (by decide +kernel)
theorem nf_7 : Cond.fieldLinkNest "DeafSpot$Found" 40 "DeafSpot$Room" "rows" "I" "DeafSpot" ∈ tables_1 := ht_1 (i := 69) (by decide +kernel)
theorem nf_8 : Cond.fieldLinkNest "DeafSpot$HallReader" 149 "DeafSpot$Room" "rows" "I" "DeafSpot" ∈ tables_1 := ht_1 (i := 70) (by decide +kernel)
theorem nf_9 : Cond.fieldLinkNest "DeafSpot" 269 "DeafSpot$Room" "rows" "I" "DeafSpot" ∈ tables_1 := ht_1 (i := 71) (by decide +kernel)
theorem nf_10 : Cond.fieldLinkNest "DeafSpot$Found" 47 "DeafSpot$Room" "seats" "I" "DeafSpot" ∈ tables_1 := ht_1 (i := 73) (by decide +kernel)
theorem nf_11 : Cond.fieldLinkNest "DeafSpot$Evening" 92 "DeafSpot$Room" "seats" "I" "DeafSpot" ∈ tables_1 := ht_1 (i := 74) (by decide +kernel)
theorem nf_12 : Cond.fieldLinkNest "DeafSpot" 247 "DeafSpot$Room" "seats" "I" "DeafSpot" ∈ tables_1 := ht_1 (i := 75) (by decide +kernel)
theorem nf_13 : Cond.fieldLinkNest "DeafSpot$HallReader" 49 "DeafSpot$Room" "told" "I" "DeafSpot" ∈ tables_1 := ht_1 (i := 77) (by decide +kernel)
theorem nf_14 : Cond.fieldLinkNest "DeafSpot" 287 "DeafSpot$Room" "told" "I" "DeafSpot" ∈ tables_1 := ht_1 (i := 78) (by decide +kernel)
theorem nf_15 : Cond.fieldLinkNest "DeafSpot$Found" 50 "DeafSpot$Room" "xs" "[I" "DeafSpot" ∈ tables_1 := ht_1 (i := 80) (by decide +kernel)
theorem nf_16 : Cond.fieldLinkNest "DeafSpot$Evening" 159 "DeafSpot$Room" "xs" "[I" "DeafSpot" ∈ tables_1 := ht_1 (i := 81) (by decide +kernel)
theorem nf_17 : Cond.fieldLinkNest "DeafSpot$Found" 62 "DeafSpot$Room" "ys" "[I" "DeafSpot" ∈ tables_1 := ht_1 (i := 83) (by decide +kernel)
theorem nf_18 : Cond.fieldLinkNest "DeafSpot$Evening" 162 "DeafSpot$Room" "ys" "[I" "DeafSpot" ∈ tables_1 := ht_1 (i := 84) (by decide +kernel)
theorem nf_19 : Cond.fieldLinkNest "DeafSpot" 134 "DeafSpot$Room" "edges" "[I" "DeafSpot" ∈ tables_1 := ht_1 (i := 86) (by decide +kernel)
theorem nf_20 : Cond.fieldLinkNest "DeafSpot$Evening" 165 "DeafSpot$Room" "edges" "[I" "DeafSpot" ∈ tables_1 := ht_1 (i := 87) (by decide +kernel)
theorem nf_21 : Cond.fieldLinkNest "DeafSpot$Evening" 138 "DeafSpot$Room" "nexts" "[I" "DeafSpot" ∈ tables_1 := ht_1 (i := 89) (by decide +kernel)
theorem nf_22 : Cond.fieldLinkNest "DeafSpot$HallReader" 102 "DeafSpot$Room" "fans" "I" "DeafSpot" ∈ tables_1 := ht_1 (i := 91) (by decide +kernel)
theorem nf_23 : Cond.fieldLinkNest "DeafSpot" 159 "DeafSpot$Room" "fans" "I" "DeafSpot" ∈ tables_1 := ht_1 (i := 92) (by decide +kernel)
theorem nf_24 : Cond.fieldLinkNest "DeafSpot$Evening" 124 "DeafSpot$Room" "fans" "I" "DeafSpot" ∈ tables_1 := ht_1 (i := 93) (by decide +kernel)
theorem nf_25 : Cond.fieldLinkNest "DeafSpot" 162 "DeafSpot$Room" "fanSeats" "[I" "DeafSpot" ∈ tables_1 := ht_1 (i := 95) (by decide +kernel)
theorem nf_26 : Cond.fieldLinkNest "DeafSpot$Evening" 127 "DeafSpot$Room" "fanSeats" "[I" "DeafSpot" ∈ tables_1 := ht_1 (i := 96) (by decide +kernel)
theorem nf_27 : Cond.fieldLinkNest "DeafSpot" 165 "DeafSpot$Room" "fanWays" "[I" "DeafSpot" ∈ tables_1 := ht_1 (i := 98) (by decide +kernel)
theorem nf_28 : Cond.fieldLinkNest "DeafSpot$Evening" 141 "DeafSpot$Room" "fanWays" "[I" "DeafSpot" ∈ tables_1 := ht_1 (i := 99) (by decide +kernel)
theorem nf_29 : Cond.fieldLinkNest "DeafSpot" 168 "DeafSpot$Room" "fanStrengths" "[I" "DeafSpot" ∈ tables_1 := ht_1 (i := 101) (by decide +kernel)
theorem nf_30 : Cond.fieldLinkNest "DeafSpot$Evening" 130 "DeafSpot$Room" "fanStrengths" "[I" "DeafSpot" ∈ tables_1 := ht_1 (i := 102) (by decide +kernel)
theorem nf_31 : Cond.fieldLinkNest "DeafSpot$HallReader" 105 "DeafSpot$Room" "snows" "I" "DeafSpot" ∈ tables_1 := ht_1 (i := 104) (by decide +kernel)
theorem nf_32 : Cond.fieldLinkNest "DeafSpot$Evening" 144 "DeafSpot$Room" "snows" "I" "DeafSpot" ∈ tables_1 := ht_1 (i := 105) (by decide +kernel)
theorem nf_33 : Cond.fieldLinkNest "DeafSpot" 272 "DeafSpot$Room" "snows" "I" "DeafSpot" ∈ tables_1 := ht_1 (i := 106) (by decide +kernel)
theorem nf_34 : Cond.fieldLinkNest "DeafSpot$Evening" 147 "DeafSpot$Room" "snowSeats" "[I" "DeafSpot" ∈ tables_1 := ht_1 (i := 108) (by decide +kernel)
theorem nf_35 : Cond.fieldLinkNest "DeafSpot$Evening" 150 "DeafSpot$Room" "snowColds" "[I" "DeafSpot" ∈ tables_1 := ht_1 (i := 110) (by decide +kernel)
theorem nm_3 : Cond.methodLinkNest "DeafSpot$Evening" 20 ⟨"DeafSpot$Guests", "<init>", "()V"⟩ "DeafSpot" ∈ tables_1 := ht_1 (i := 144) (by decide +kernel)
theorem nf_36 : Cond.fieldLinkNest "DeafSpot$HallReader" 97 "DeafSpot$Guests" "number" "I" "DeafSpot" ∈ tables_1 := ht_1 (i := 149) (by decide +kernel)
theorem nf_37 : Cond.fieldLinkNest "DeafSpot" 109 "DeafSpot$Guests" "number" "I" "DeafSpot" ∈ tables_1 := ht_1 (i := 150) (by decide +kernel)
theorem nf_38 : Cond.fieldLinkNest "DeafSpot$Evening" 116 "DeafSpot$Guests" "number" "I" "DeafSpot" ∈ tables_1 := ht_1 (i := 151) (by decide +kernel)
theorem nf_39 : Cond.fieldLinkNest "DeafSpot" 141 "DeafSpot$Guests" "seats" "[I" "DeafSpot" ∈ tables_1 := ht_1 (i := 153) (by decide +kernel)
theorem nf_40 : Cond.fieldLinkNest "DeafSpot$Evening" 119 "DeafSpot$Guests" "seats" "[I" "DeafSpot" ∈ tables_1 := ht_1 (i := 154) (by decide +kernel)
theorem nf_41 : Cond.fieldLinkNest "DeafSpot" 150 "DeafSpot$Guests" "warmth" "[I" "DeafSpot" ∈ tables_1 := ht_1 (i := 156) (by decide +kernel)
theorem nf_42 : Cond.fieldLinkNest "DeafSpot$Evening" 121 "DeafSpot$Guests" "warmth" "[I" "DeafSpot" ∈ tables_1 := ht_1 (i := 157) (by decide +kernel)
theorem nf_43 : Cond.fieldLinkNest "DeafSpot" 153 "DeafSpot$Guests" "sorts" "[I" "DeafSpot" ∈ tables_1 := ht_1 (i := 159) (by decide +kernel)
theorem nf_44 : Cond.fieldLinkNest "DeafSpot$Evening" 113 "DeafSpot$Guests" "deafness" "[I" "DeafSpot" ∈ tables_1 := ht_1 (i := 161) (by decide +kernel)
theorem nf_45 : Cond.fieldLinkNest "DeafSpot" 156 "DeafSpot$Guests" "deafness" "[I" "DeafSpot" ∈ tables_1 := ht_1 (i := 162) (by decide +kernel)
theorem nf_46 : Cond.fieldLinkNest "DeafSpot$HallReader" 126 "DeafSpot$Guests" "sitters" "[I" "DeafSpot" ∈ tables_1 := ht_1 (i := 164) (by decide +kernel)
theorem nf_47 : Cond.fieldLinkNest "DeafSpot" 128 "DeafSpot$Guests" "sitters" "[I" "DeafSpot" ∈ tables_1 := ht_1 (i := 165) (by decide +kernel)
theorem nf_48 : Cond.fieldLinkNest "DeafSpot$Evening" 110 "DeafSpot$Guests" "sitters" "[I" "DeafSpot" ∈ tables_1 := ht_1 (i := 166) (by decide +kernel)
theorem nf_49 : Cond.fieldLinkNest "DeafSpot$HallReader" 41 "DeafSpot$Evening" "room" "LDeafSpot$Room;" "DeafSpot" ∈ tables_1 := ht_1 (i := 181) (by decide +kernel)
theorem nf_50 : Cond.fieldLinkNest "DeafSpot" 117 "DeafSpot$Evening" "room" "LDeafSpot$Room;" "DeafSpot" ∈ tables_1 := ht_1 (i := 182) (by decide +kernel)
theorem nf_51 : Cond.fieldLinkNest "DeafSpot$HallReader" 93 "DeafSpot$Evening" "guests" "LDeafSpot$Guests;" "DeafSpot" ∈ tables_1 := ht_1 (i := 184) (by decide +kernel)
theorem nf_52 : Cond.fieldLinkNest "DeafSpot" 105 "DeafSpot$Evening" "guests" "LDeafSpot$Guests;" "DeafSpot" ∈ tables_1 := ht_1 (i := 185) (by decide +kernel)
theorem nf_53 : Cond.fieldLinkNest "DeafSpot" 125 "DeafSpot$Evening" "heat" "[I" "DeafSpot" ∈ tables_1 := ht_1 (i := 187) (by decide +kernel)
theorem nf_54 : Cond.fieldLinkNest "DeafSpot$HallReader" 143 "DeafSpot$Evening" "heat" "[I" "DeafSpot" ∈ tables_1 := ht_1 (i := 188) (by decide +kernel)
theorem nf_55 : Cond.fieldLinkNest "DeafSpot" 131 "DeafSpot$Evening" "spot" "I" "DeafSpot" ∈ tables_1 := ht_1 (i := 191) (by decide +kernel)
theorem nf_56 : Cond.fieldLinkNest "DeafSpot$HallReader" 140 "DeafSpot$Evening" "spot" "I" "DeafSpot" ∈ tables_1 := ht_1 (i := 192) (by decide +kernel)
theorem nf_57 : Cond.fieldLinkNest "DeafSpot" 189 "DeafSpot$Evening" "now" "I" "DeafSpot" ∈ tables_1 := ht_1 (i := 195) (by decide +kernel)
theorem nf_58 : Cond.fieldLinkNest "DeafSpot" 256 "DeafSpot$Evening" "out" "I" "DeafSpot" ∈ tables_1 := ht_1 (i := 197) (by decide +kernel)
theorem nf_59 : Cond.fieldLinkNest "DeafSpot" 278 "DeafSpot$Evening" "melted" "I" "DeafSpot" ∈ tables_1 := ht_1 (i := 199) (by decide +kernel)
theorem nf_60 : Cond.fieldLinkNest "DeafSpot" 281 "DeafSpot$Evening" "given" "I" "DeafSpot" ∈ tables_1 := ht_1 (i := 201) (by decide +kernel)
theorem nf_61 : Cond.fieldLinkNest "DeafSpot" 98 "DeafSpot$Evening" "draws" "I" "DeafSpot" ∈ tables_1 := ht_1 (i := 203) (by decide +kernel)
theorem ao_E : Cond.arrayOver (.object "DeafSpot$Evening") ∈ tables_1 := ht_1 (i := 230) (by decide +kernel)
theorem nm_4 : Cond.methodLinkNest "DeafSpot" 63 ⟨"DeafSpot$Found", "<init>", "()V"⟩ "DeafSpot" ∈ tables_1 := ht_2 (i := 34) (by decide +kernel)
theorem sr_0 : Cond.stringRef "DeafSpot$HallReader" 55 "hall guest fan snow spot warm" ∈ tables_1 := ht_2 (i := 146) (by decide +kernel)
theorem ls_C : Cond.laysStatic "java/lang/String" "COMPACT_STRINGS" "Z" ∈ tables_1 := ht_2 (i := 168) (by decide +kernel)
theorem ls_S : Cond.laysStatic "jdk/internal/util/Preconditions" "SIOOBE_FORMATTER" "Ljava/util/function/BiFunction;" ∈ tables_1 := ht_2 (i := 184) (by decide +kernel)
theorem sr_1 : Cond.stringRef "DeafSpot$LawReader" 37 "go" ∈ tables_1 := ht_3 (i := 118) (by decide +kernel)
theorem sr_2 : Cond.stringRef "DeafSpot$LawReader" 122 "heat near guests x y minute way back edge" ∈ tables_1 := ht_3 (i := 132) (by decide +kernel)
theorem sr_3 : Cond.stringRef "DeafSpot$LawReader" 120 "+-*/%" ∈ tables_1 := ht_3 (i := 143) (by decide +kernel)
theorem sr_4 : Cond.stringRef "DeafSpot$LawReader" 60 "if" ∈ tables_1 := ht_3 (i := 148) (by decide +kernel)
theorem sr_5 : Cond.stringRef "DeafSpot$LawReader" 98 "not" ∈ tables_1 := ht_3 (i := 163) (by decide +kernel)
theorem sr_6 : Cond.stringRef "DeafSpot$LawReader" 112 "<=>" ∈ tables_1 := ht_3 (i := 168) (by decide +kernel)
theorem sr_7 : Cond.stringRef "DeafSpot$LawReader" 107 "]" ∈ tables_1 := ht_3 (i := 170) (by decide +kernel)
theorem sr_8 : Cond.stringRef "DeafSpot$LawReader" 87 "and" ∈ tables_1 := ht_3 (i := 171) (by decide +kernel)
theorem sr_9 : Cond.stringRef "DeafSpot$LawReader" 92 "or" ∈ tables_1 := ht_3 (i := 172) (by decide +kernel)
theorem ca_I : Cond.castable "[I" "java/lang/Cloneable" ∈ tables_1 := ht_3 (i := 184) (by decide +kernel)
theorem sr_10 : Cond.stringRef "DeafSpotModel" 182 "hall" ∈ tables_1 := ht_5 (i := 226) (by decide +kernel)
theorem sr_11 : Cond.stringRef "DeafSpotModel" 184 "guest" ∈ tables_1 := ht_5 (i := 227) (by decide +kernel)
theorem sr_12 : Cond.stringRef "DeafSpotModel" 186 "fan" ∈ tables_1 := ht_5 (i := 228) (by decide +kernel)
theorem sr_13 : Cond.stringRef "DeafSpotModel" 188 "snow" ∈ tables_1 := ht_5 (i := 229) (by decide +kernel)
theorem sr_14 : Cond.stringRef "DeafSpotModel" 190 "spot" ∈ tables_1 := ht_5 (i := 230) (by decide +kernel)
theorem sr_15 : Cond.stringRef "DeafSpotModel" 192 "warm" ∈ tables_1 := ht_5 (i := 231) (by decide +kernel)
theorem sr_16 : Cond.stringRef "DeafSpotModel" 330 "go" ∈ tables_1 := ht_6 (i := 55) (by decide +kernel)
theorem sr_17 : Cond.stringRef "DeafSpotModel" 165 "heat" ∈ tables_1 := ht_6 (i := 79) (by decide +kernel)
theorem sr_18 : Cond.stringRef "DeafSpotModel" 166 "near" ∈ tables_1 := ht_6 (i := 80) (by decide +kernel)
theorem sr_19 : Cond.stringRef "DeafSpotModel" 168 "guests" ∈ tables_1 := ht_6 (i := 81) (by decide +kernel)
theorem sr_20 : Cond.stringRef "DeafSpotModel" 170 "x" ∈ tables_1 := ht_6 (i := 82) (by decide +kernel)
theorem sr_21 : Cond.stringRef "DeafSpotModel" 172 "y" ∈ tables_1 := ht_6 (i := 83) (by decide +kernel)
theorem sr_22 : Cond.stringRef "DeafSpotModel" 174 "minute" ∈ tables_1 := ht_6 (i := 84) (by decide +kernel)
theorem sr_23 : Cond.stringRef "DeafSpotModel" 176 "way" ∈ tables_1 := ht_6 (i := 85) (by decide +kernel)
theorem sr_24 : Cond.stringRef "DeafSpotModel" 178 "back" ∈ tables_1 := ht_6 (i := 86) (by decide +kernel)
theorem sr_25 : Cond.stringRef "DeafSpotModel" 180 "edge" ∈ tables_1 := ht_6 (i := 87) (by decide +kernel)
theorem sr_26 : Cond.stringRef "DeafSpotModel" 332 "if" ∈ tables_1 := ht_6 (i := 88) (by decide +kernel)
theorem sr_27 : Cond.stringRef "DeafSpotModel" 273 "not" ∈ tables_1 := ht_6 (i := 101) (by decide +kernel)
theorem sr_28 : Cond.stringRef "DeafSpotModel" 287 "and" ∈ tables_1 := ht_6 (i := 118) (by decide +kernel)
theorem sr_29 : Cond.stringRef "DeafSpotModel" 289 "or" ∈ tables_1 := ht_6 (i := 119) (by decide +kernel)
def hTm : Nat → Term := fun i => match i with
  | 0 => .string RX3 55
  | 1 => .string RX5 37
  | 2 => .string RX5 122
  | 3 => .string RX5 120
  | 4 => .string RX5 60
  | 5 => .string RX5 98
  | 6 => .string RX5 112
  | 7 => .string RX5 107
  | 8 => .string RX5 87
  | 9 => .string RX5 92
  | 10 => .string RX9 182
  | 11 => .string RX9 184
  | 12 => .string RX9 186
  | 13 => .string RX9 188
  | 14 => .string RX9 190
  | 15 => .string RX9 192
  | 16 => .string RX9 165
  | 17 => .string RX9 166
  | 18 => .string RX9 168
  | 19 => .string RX9 170
  | 20 => .string RX9 172
  | 21 => .string RX9 174
  | 22 => .string RX9 176
  | 23 => .string RX9 178
  | _ => .string RX9 180
theorem hx_0 : (Cond.exactly (hTm 0) "java/lang/String" ∈ hFl ∧ Cond.eq (.field (hTm 0) "java/lang/String" "coder" "B") (.int 0) ∈ hFl ∧ Cond.arrayOf (.field (hTm 0) "java/lang/String" "value" "[B") .byte ∈ hFl ∧ Cond.eq (.length (.field (hTm 0) "java/lang/String" "value" "[B")) (.int (Int32.ofNat (hSlen.getD 0 0))) ∈ hFl) ∧ ∀ j, j < hSlen.getD 0 0 → Cond.eq (.elem (.field (hTm 0) "java/lang/String" "value" "[B") (.int (Int32.ofNat j))) (.int ((hSbyt.getD 0 []).getD j 0)) ∈ hFl := by decide +kernel
theorem hx_1 : (Cond.exactly (hTm 1) "java/lang/String" ∈ hFl ∧ Cond.eq (.field (hTm 1) "java/lang/String" "coder" "B") (.int 0) ∈ hFl ∧ Cond.arrayOf (.field (hTm 1) "java/lang/String" "value" "[B") .byte ∈ hFl ∧ Cond.eq (.length (.field (hTm 1) "java/lang/String" "value" "[B")) (.int (Int32.ofNat (hSlen.getD 1 0))) ∈ hFl) ∧ ∀ j, j < hSlen.getD 1 0 → Cond.eq (.elem (.field (hTm 1) "java/lang/String" "value" "[B") (.int (Int32.ofNat j))) (.int ((hSbyt.getD 1 []).getD j 0)) ∈ hFl := by decide +kernel
theorem hx_2 : (Cond.exactly (hTm 2) "java/lang/String" ∈ hFl ∧ Cond.eq (.field (hTm 2) "java/lang/String" "coder" "B") (.int 0) ∈ hFl ∧ Cond.arrayOf (.field (hTm 2) "java/lang/String" "value" "[B") .byte ∈ hFl ∧ Cond.eq (.length (.field (hTm 2) "java/lang/String" "value" "[B")) (.int (Int32.ofNat (hSlen.getD 2 0))) ∈ hFl) ∧ ∀ j, j < hSlen.getD 2 0 → Cond.eq (.elem (.field (hTm 2) "java/lang/String" "value" "[B") (.int (Int32.ofNat j))) (.int ((hSbyt.getD 2 []).getD j 0)) ∈ hFl := by decide +kernel
theorem hx_3 : (Cond.exactly (hTm 3) "java/lang/String" ∈ hFl ∧ Cond.eq (.field (hTm 3) "java/lang/String" "coder" "B") (.int 0) ∈ hFl ∧ Cond.arrayOf (.field (hTm 3) "java/lang/String" "value" "[B") .byte ∈ hFl ∧ Cond.eq (.length (.field (hTm 3) "java/lang/String" "value" "[B")) (.int (Int32.ofNat (hSlen.getD 3 0))) ∈ hFl) ∧ ∀ j, j < hSlen.getD 3 0 → Cond.eq (.elem (.field (hTm 3) "java/lang/String" "value" "[B") (.int (Int32.ofNat j))) (.int ((hSbyt.getD 3 []).getD j 0)) ∈ hFl := by decide +kernel
theorem hx_4 : (Cond.exactly (hTm 4) "java/lang/String" ∈ hFl ∧ Cond.eq (.field (hTm 4) "java/lang/String" "coder" "B") (.int 0) ∈ hFl ∧ Cond.arrayOf (.field (hTm 4) "java/lang/String" "value" "[B") .byte ∈ hFl ∧ Cond.eq (.length (.field (hTm 4) "java/lang/String" "value" "[B")) (.int (Int32.ofNat (hSlen.getD 4 0))) ∈ hFl) ∧ ∀ j, j < hSlen.getD 4 0 → Cond.eq (.elem (.field (hTm 4) "java/lang/String" "value" "[B") (.int (Int32.ofNat j))) (.int ((hSbyt.getD 4 []).getD j 0)) ∈ hFl := by decide +kernel
theorem hx_5 : (Cond.exactly (hTm 5) "java/lang/String" ∈ hFl ∧ Cond.eq (.field (hTm 5) "java/lang/String" "coder" "B") (.int 0) ∈ hFl ∧ Cond.arrayOf (.field (hTm 5) "java/lang/String" "value" "[B") .byte ∈ hFl ∧ Cond.eq (.length (.field (hTm 5) "java/lang/String" "value" "[B")) (.int (Int32.ofNat (hSlen.getD 5 0))) ∈ hFl) ∧ ∀ j, j < hSlen.getD 5 0 → Cond.eq (.elem (.field (hTm 5) "java/lang/String" "value" "[B") (.int (Int32.ofNat j))) (.int ((hSbyt.getD 5 []).getD j 0)) ∈ hFl := by decide +kernel
theorem hx_6 : (Cond.exactly (hTm 6) "java/lang/String" ∈ hFl ∧ Cond.eq (.field (hTm 6) "java/lang/String" "coder" "B") (.int 0) ∈ hFl ∧ Cond.arrayOf (.field (hTm 6) "java/lang/String" "value" "[B") .byte ∈ hFl ∧ Cond.eq (.length (.field (hTm 6) "java/lang/String" "value" "[B")) (.int (Int32.ofNat (hSlen.getD 6 0))) ∈ hFl) ∧ ∀ j, j < hSlen.getD 6 0 → Cond.eq (.elem (.field (hTm 6) "java/lang/String" "value" "[B") (.int (Int32.ofNat j))) (.int ((hSbyt.getD 6 []).getD j 0)) ∈ hFl := by decide +kernel
theorem hx_7 : (Cond.exactly (hTm 7) "java/lang/String" ∈ hFl ∧ Cond.eq (.field (hTm 7) "java/lang/String" "coder" "B") (.int 0) ∈ hFl ∧ Cond.arrayOf (.field (hTm 7) "java/lang/String" "value" "[B") .byte ∈ hFl ∧ Cond.eq (.length (.field (hTm 7) "java/lang/String" "value" "[B")) (.int (Int32.ofNat (hSlen.getD 7 0))) ∈ hFl) ∧ ∀ j, j < hSlen.getD 7 0 → Cond.eq (.elem (.field (hTm 7) "java/lang/String" "value" "[B") (.int (Int32.ofNat j))) (.int ((hSbyt.getD 7 []).getD j 0)) ∈ hFl := by decide +kernel
theorem hx_8 : (Cond.exactly (hTm 8) "java/lang/String" ∈ hFl ∧ Cond.eq (.field (hTm 8) "java/lang/String" "coder" "B") (.int 0) ∈ hFl ∧ Cond.arrayOf (.field (hTm 8) "java/lang/String" "value" "[B") .byte ∈ hFl ∧ Cond.eq (.length (.field (hTm 8) "java/lang/String" "value" "[B")) (.int (Int32.ofNat (hSlen.getD 8 0))) ∈ hFl) ∧ ∀ j, j < hSlen.getD 8 0 → Cond.eq (.elem (.field (hTm 8) "java/lang/String" "value" "[B") (.int (Int32.ofNat j))) (.int ((hSbyt.getD 8 []).getD j 0)) ∈ hFl := by decide +kernel
theorem hx_9 : (Cond.exactly (hTm 9) "java/lang/String" ∈ hFl ∧ Cond.eq (.field (hTm 9) "java/lang/String" "coder" "B") (.int 0) ∈ hFl ∧ Cond.arrayOf (.field (hTm 9) "java/lang/String" "value" "[B") .byte ∈ hFl ∧ Cond.eq (.length (.field (hTm 9) "java/lang/String" "value" "[B")) (.int (Int32.ofNat (hSlen.getD 9 0))) ∈ hFl) ∧ ∀ j, j < hSlen.getD 9 0 → Cond.eq (.elem (.field (hTm 9) "java/lang/String" "value" "[B") (.int (Int32.ofNat j))) (.int ((hSbyt.getD 9 []).getD j 0)) ∈ hFl := by decide +kernel
theorem hx_10 : (Cond.exactly (hTm 10) "java/lang/String" ∈ hFl ∧ Cond.eq (.field (hTm 10) "java/lang/String" "coder" "B") (.int 0) ∈ hFl ∧ Cond.arrayOf (.field (hTm 10) "java/lang/String" "value" "[B") .byte ∈ hFl ∧ Cond.eq (.length (.field (hTm 10) "java/lang/String" "value" "[B")) (.int (Int32.ofNat (hSlen.getD 10 0))) ∈ hFl) ∧ ∀ j, j < hSlen.getD 10 0 → Cond.eq (.elem (.field (hTm 10) "java/lang/String" "value" "[B") (.int (Int32.ofNat j))) (.int ((hSbyt.getD 10 []).getD j 0)) ∈ hFl := by decide +kernel
theorem hx_11 : (Cond.exactly (hTm 11) "java/lang/String" ∈ hFl ∧ Cond.eq (.field (hTm 11) "java/lang/String" "coder" "B") (.int 0) ∈ hFl ∧ Cond.arrayOf (.field (hTm 11) "java/lang/String" "value" "[B") .byte ∈ hFl ∧ Cond.eq (.length (.field (hTm 11) "java/lang/String" "value" "[B")) (.int (Int32.ofNat (hSlen.getD 11 0))) ∈ hFl) ∧ ∀ j, j < hSlen.getD 11 0 → Cond.eq (.elem (.field (hTm 11) "java/lang/String" "value" "[B") (.int (Int32.ofNat j))) (.int ((hSbyt.getD 11 []).getD j 0)) ∈ hFl := by decide +kernel
theorem hx_12 : (Cond.exactly (hTm 12) "java/lang/String" ∈ hFl ∧ Cond.eq (.field (hTm 12) "java/lang/String" "coder" "B") (.int 0) ∈ hFl ∧ Cond.arrayOf (.field (hTm 12) "java/lang/String" "value" "[B") .byte ∈ hFl ∧ Cond.eq (.length (.field (hTm 12) "java/lang/String" "value" "[B")) (.int (Int32.ofNat (hSlen.getD 12 0))) ∈ hFl) ∧ ∀ j, j < hSlen.getD 12 0 → Cond.eq (.elem (.field (hTm 12) "java/lang/String" "value" "[B") (.int (Int32.ofNat j))) (.int ((hSbyt.getD 12 []).getD j 0)) ∈ hFl := by decide +kernel
theorem hx_13 : (Cond.exactly (hTm 13) "java/lang/String" ∈ hFl ∧ Cond.eq (.field (hTm 13) "java/lang/String" "coder" "B") (.int 0) ∈ hFl ∧ Cond.arrayOf (.field (hTm 13) "java/lang/String" "value" "[B") .byte ∈ hFl ∧ Cond.eq (.length (.field (hTm 13) "java/lang/String" "value" "[B")) (.int (Int32.ofNat (hSlen.getD 13 0))) ∈ hFl) ∧ ∀ j, j < hSlen.getD 13 0 → Cond.eq (.elem (.field (hTm 13) "java/lang/String" "value" "[B") (.int (Int32.ofNat j))) (.int ((hSbyt.getD 13 []).getD j 0)) ∈ hFl := by decide +kernel
theorem hx_14 : (Cond.exactly (hTm 14) "java/lang/String" ∈ hFl ∧ Cond.eq (.field (hTm 14) "java/lang/String" "coder" "B") (.int 0) ∈ hFl ∧ Cond.arrayOf (.field (hTm 14) "java/lang/String" "value" "[B") .byte ∈ hFl ∧ Cond.eq (.length (.field (hTm 14) "java/lang/String" "value" "[B")) (.int (Int32.ofNat (hSlen.getD 14 0))) ∈ hFl) ∧ ∀ j, j < hSlen.getD 14 0 → Cond.eq (.elem (.field (hTm 14) "java/lang/String" "value" "[B") (.int (Int32.ofNat j))) (.int ((hSbyt.getD 14 []).getD j 0)) ∈ hFl := by decide +kernel
theorem hx_15 : (Cond.exactly (hTm 15) "java/lang/String" ∈ hFl ∧ Cond.eq (.field (hTm 15) "java/lang/String" "coder" "B") (.int 0) ∈ hFl ∧ Cond.arrayOf (.field (hTm 15) "java/lang/String" "value" "[B") .byte ∈ hFl ∧ Cond.eq (.length (.field (hTm 15) "java/lang/String" "value" "[B")) (.int (Int32.ofNat (hSlen.getD 15 0))) ∈ hFl) ∧ ∀ j, j < hSlen.getD 15 0 → Cond.eq (.elem (.field (hTm 15) "java/lang/String" "value" "[B") (.int (Int32.ofNat j))) (.int ((hSbyt.getD 15 []).getD j 0)) ∈ hFl := by decide +kernel
theorem hx_16 : (Cond.exactly (hTm 16) "java/lang/String" ∈ hFl ∧ Cond.eq (.field (hTm 16) "java/lang/String" "coder" "B") (.int 0) ∈ hFl ∧ Cond.arrayOf (.field (hTm 16) "java/lang/String" "value" "[B") .byte ∈ hFl ∧ Cond.eq (.length (.field (hTm 16) "java/lang/String" "value" "[B")) (.int (Int32.ofNat (hSlen.getD 16 0))) ∈ hFl) ∧ ∀ j, j < hSlen.getD 16 0 → Cond.eq (.elem (.field (hTm 16) "java/lang/String" "value" "[B") (.int (Int32.ofNat j))) (.int ((hSbyt.getD 16 []).getD j 0)) ∈ hFl := by decide +kernel
theorem hx_17 : (Cond.exactly (hTm 17) "java/lang/String" ∈ hFl ∧ Cond.eq (.field (hTm 17) "java/lang/String" "coder" "B") (.int 0) ∈ hFl ∧ Cond.arrayOf (.field (hTm 17) "java/lang/String" "value" "[B") .byte ∈ hFl ∧ Cond.eq (.length (.field (hTm 17) "java/lang/String" "value" "[B")) (.int (Int32.ofNat (hSlen.getD 17 0))) ∈ hFl) ∧ ∀ j, j < hSlen.getD 17 0 → Cond.eq (.elem (.field (hTm 17) "java/lang/String" "value" "[B") (.int (Int32.ofNat j))) (.int ((hSbyt.getD 17 []).getD j 0)) ∈ hFl := by decide +kernel
theorem hx_18 : (Cond.exactly (hTm 18) "java/lang/String" ∈ hFl ∧ Cond.eq (.field (hTm 18) "java/lang/String" "coder" "B") (.int 0) ∈ hFl ∧ Cond.arrayOf (.field (hTm 18) "java/lang/String" "value" "[B") .byte ∈ hFl ∧ Cond.eq (.length (.field (hTm 18) "java/lang/String" "value" "[B")) (.int (Int32.ofNat (hSlen.getD 18 0))) ∈ hFl) ∧ ∀ j, j < hSlen.getD 18 0 → Cond.eq (.elem (.field (hTm 18) "java/lang/String" "value" "[B") (.int (Int32.ofNat j))) (.int ((hSbyt.getD 18 []).getD j 0)) ∈ hFl := by decide +kernel
theorem hx_19 : (Cond.exactly (hTm 19) "java/lang/String" ∈ hFl ∧ Cond.eq (.field (hTm 19) "java/lang/String" "coder" "B") (.int 0) ∈ hFl ∧ Cond.arrayOf (.field (hTm 19) "java/lang/String" "value" "[B") .byte ∈ hFl ∧ Cond.eq (.length (.field (hTm 19) "java/lang/String" "value" "[B")) (.int (Int32.ofNat (hSlen.getD 19 0))) ∈ hFl) ∧ ∀ j, j < hSlen.getD 19 0 → Cond.eq (.elem (.field (hTm 19) "java/lang/String" "value" "[B") (.int (Int32.ofNat j))) (.int ((hSbyt.getD 19 []).getD j 0)) ∈ hFl := by decide +kernel
theorem hx_20 : (Cond.exactly (hTm 20) "java/lang/String" ∈ hFl ∧ Cond.eq (.field (hTm 20) "java/lang/String" "coder" "B") (.int 0) ∈ hFl ∧ Cond.arrayOf (.field (hTm 20) "java/lang/String" "value" "[B") .byte ∈ hFl ∧ Cond.eq (.length (.field (hTm 20) "java/lang/String" "value" "[B")) (.int (Int32.ofNat (hSlen.getD 20 0))) ∈ hFl) ∧ ∀ j, j < hSlen.getD 20 0 → Cond.eq (.elem (.field (hTm 20) "java/lang/String" "value" "[B") (.int (Int32.ofNat j))) (.int ((hSbyt.getD 20 []).getD j 0)) ∈ hFl := by decide +kernel
theorem hx_21 : (Cond.exactly (hTm 21) "java/lang/String" ∈ hFl ∧ Cond.eq (.field (hTm 21) "java/lang/String" "coder" "B") (.int 0) ∈ hFl ∧ Cond.arrayOf (.field (hTm 21) "java/lang/String" "value" "[B") .byte ∈ hFl ∧ Cond.eq (.length (.field (hTm 21) "java/lang/String" "value" "[B")) (.int (Int32.ofNat (hSlen.getD 21 0))) ∈ hFl) ∧ ∀ j, j < hSlen.getD 21 0 → Cond.eq (.elem (.field (hTm 21) "java/lang/String" "value" "[B") (.int (Int32.ofNat j))) (.int ((hSbyt.getD 21 []).getD j 0)) ∈ hFl := by decide +kernel
theorem hx_22 : (Cond.exactly (hTm 22) "java/lang/String" ∈ hFl ∧ Cond.eq (.field (hTm 22) "java/lang/String" "coder" "B") (.int 0) ∈ hFl ∧ Cond.arrayOf (.field (hTm 22) "java/lang/String" "value" "[B") .byte ∈ hFl ∧ Cond.eq (.length (.field (hTm 22) "java/lang/String" "value" "[B")) (.int (Int32.ofNat (hSlen.getD 22 0))) ∈ hFl) ∧ ∀ j, j < hSlen.getD 22 0 → Cond.eq (.elem (.field (hTm 22) "java/lang/String" "value" "[B") (.int (Int32.ofNat j))) (.int ((hSbyt.getD 22 []).getD j 0)) ∈ hFl := by decide +kernel
theorem hx_23 : (Cond.exactly (hTm 23) "java/lang/String" ∈ hFl ∧ Cond.eq (.field (hTm 23) "java/lang/String" "coder" "B") (.int 0) ∈ hFl ∧ Cond.arrayOf (.field (hTm 23) "java/lang/String" "value" "[B") .byte ∈ hFl ∧ Cond.eq (.length (.field (hTm 23) "java/lang/String" "value" "[B")) (.int (Int32.ofNat (hSlen.getD 23 0))) ∈ hFl) ∧ ∀ j, j < hSlen.getD 23 0 → Cond.eq (.elem (.field (hTm 23) "java/lang/String" "value" "[B") (.int (Int32.ofNat j))) (.int ((hSbyt.getD 23 []).getD j 0)) ∈ hFl := by decide +kernel
theorem hx_24 : (Cond.exactly (hTm 24) "java/lang/String" ∈ hFl ∧ Cond.eq (.field (hTm 24) "java/lang/String" "coder" "B") (.int 0) ∈ hFl ∧ Cond.arrayOf (.field (hTm 24) "java/lang/String" "value" "[B") .byte ∈ hFl ∧ Cond.eq (.length (.field (hTm 24) "java/lang/String" "value" "[B")) (.int (Int32.ofNat (hSlen.getD 24 0))) ∈ hFl) ∧ ∀ j, j < hSlen.getD 24 0 → Cond.eq (.elem (.field (hTm 24) "java/lang/String" "value" "[B") (.int (Int32.ofNat j))) (.int ((hSbyt.getD 24 []).getD j 0)) ∈ hFl := by decide +kernel
theorem hx_all : ∀ i, i < hSN → (Cond.exactly (hTm i) "java/lang/String" ∈ hFl ∧ Cond.eq (.field (hTm i) "java/lang/String" "coder" "B") (.int 0) ∈ hFl ∧ Cond.arrayOf (.field (hTm i) "java/lang/String" "value" "[B") .byte ∈ hFl ∧ Cond.eq (.length (.field (hTm i) "java/lang/String" "value" "[B")) (.int (Int32.ofNat (hSlen.getD i 0))) ∈ hFl) ∧ ∀ j, j < hSlen.getD i 0 → Cond.eq (.elem (.field (hTm i) "java/lang/String" "value" "[B") (.int (Int32.ofNat j))) (.int ((hSbyt.getD i []).getD j 0)) ∈ hFl := by
  intro i hi
  match i, hi with
  | 0, _ => exact hx_0
  | 1, _ => exact hx_1
  | 2, _ => exact hx_2
  | 3, _ => exact hx_3
  | 4, _ => exact hx_4
  | 5, _ => exact hx_5
  | 6, _ => exact hx_6
  | 7, _ => exact hx_7
  | 8, _ => exact hx_8
  | 9, _ => exact hx_9
  | 10, _ => exact hx_10
  | 11, _ => exact hx_11
  | 12, _ => exact hx_12
  | 13, _ => exact hx_13
  | 14, _ => exact hx_14
  | 15, _ => exact hx_15
  | 16, _ => exact hx_16
  | 17, _ => exact hx_17
  | 18, _ => exact hx_18
  | 19, _ => exact hx_19
  | 20, _ => exact hx_20
  | 21, _ => exact hx_21
  | 22, _ => exact hx_22
  | 23, _ => exact hx_23
  | 24, _ => exact hx_24
  | n + 25, h => exact absurd h (by unfold hSN; omega)
theorem hStr_of {args : Array Value} {s : State} {A : Nat → Prop} (hs : ∀ c ∈ hFl, c.before args s = true) (hA : ∀ a : Nat, a < s.heap.size → ¬ A a) : ∃ cs : Nat → Nat, hStr hSN hSlen hSbyt cs (fun j => cs (1000 + j)) A s s.heap ∧ ∀ i, i < hSN → (hTm i).eval args s none [] s = some (.ref (cs i)) := by
  have h0 : ∀ i : Nat, ∃ q : Nat × Nat, i < hSN → (hTm i).eval args s none [] s = some (.ref q.1) ∧ va_O "java/lang/String" q.1 A s s.heap ∧ va_OF "java/lang/String" "coder" "B" (.int 0) q.1 A s s.heap ∧ va_OF "java/lang/String" "value" "[B" (.ref q.2) q.1 A s s.heap ∧ va_T .byte q.2 (hSlen.getD i 0) (fun j => .int ((hSbyt.getD i []).getD j 0)) A s s.heap := by
    intro i
    by_cases hi : i < hSN
    · obtain ⟨⟨g1, g2, g3, g4⟩, g5⟩ := hx_all i hi
      obtain ⟨a, c, cA, kA, q1, q2, q3, q4, q5, q6, -⟩ := Cond.exactly_spec (args := args) (first := s) (o := none) (s := s) (idx := []) (t := hTm i) (cls := "java/lang/String") (hs _ g1)
      obtain ⟨t, ht, hT⟩ := va_Tof (f := fun j => .int ((hSbyt.getD i []).getD j 0)) (A := A) (Nat.lt_trans (hlen_lt i hi) (by decide)) (hs _ g3) (va_eqt (hs _ g4)) (fun j hj => va_eqt (hs _ (g5 j hj))) hA
      exact ⟨(a, t), fun _ => ⟨q1, ⟨cA, q3, q5, by rw [q6]; exact q2, hA a (Array.getElem?_eq_some_iff.mp q3).1⟩, vk_OFof q1 (va_eqt (hs _ g2)) hA, vk_OFof q1 ht hA, hT⟩⟩
    · exact ⟨(0, 0), fun h => absurd h hi⟩
  obtain ⟨ad, had⟩ := Classical.axiomOfChoice h0
  have hN : hSN = 25 := rfl
  refine ⟨fun k => if k < 1000 then (ad k).1 else (ad (k - 1000)).2, fun i hi => ?_, fun i hi => ?_⟩
  · have e1 : (if i < 1000 then (ad i).1 else (ad (i - 1000)).2) = (ad i).1 := if_pos (by omega)
    have e2 : (if 1000 + i < 1000 then (ad (1000 + i)).1 else (ad (1000 + i - 1000)).2) = (ad i).2 := by rw [if_neg (by omega), Nat.add_sub_cancel_left]
    show va_O _ (if i < 1000 then _ else _) _ _ _ ∧ va_OF _ _ _ _ (if i < 1000 then _ else _) _ _ _ ∧ va_OF _ _ _ (.ref (if 1000 + i < 1000 then _ else _)) (if i < 1000 then _ else _) _ _ _ ∧ va_T _ (if 1000 + i < 1000 then _ else _) _ _ _ _ _
    rw [e1, e2]
    exact (had i hi).2
  · show _ = some (Value.ref (if i < 1000 then (ad i).1 else (ad (i - 1000)).2))
    rw [if_pos (by omega)]
    exact (had i hi).1
theorem hK_of {args : Array Value} {s : State} (hts : ∀ w ∈ hTbl, w.before args s = true) (ht1 : ∀ w ∈ tables_1, w.before args s = true) : ∃ (D : va_G) (cy : Nat → ClassId), va_K D vwCl (htys cy) s := by
  obtain ⟨c0, i0, hk0⟩ := u_known (C := RX0) (T := TX0) (N := 12) (n := 12) hts hin_0 (hts _ q_53)
  obtain ⟨c1, i1, hk1⟩ := u_known (C := RX1) (T := TX1) (N := 7) (n := 7) hts hin_1 (hts _ q_273)
  obtain ⟨c2, i2, hk2⟩ := u_known (C := RX2) (T := TX2) (N := 6) (n := 6) hts hin_2 (hts _ q_143)
  obtain ⟨c3, i3, hk3⟩ := u_known (C := RX3) (T := TX3) (N := 3) (n := 3) hts hin_3 (hts _ q_232)
  obtain ⟨c4, i4, hk4⟩ := u_known (C := RX4) (T := TX4) (N := 4) (n := 4) hts hin_4 (hts _ q_655)
  obtain ⟨c5, i5, hk5⟩ := u_known (C := RX5) (T := TX5) (N := 6) (n := 6) hts hin_5 (hts _ q_248)
  obtain ⟨c6, i6, hk6⟩ := u_known (C := RX6) (T := TX6) (N := 15) (n := 15) hts hin_6 (hts _ q_59)
  obtain ⟨c7, i7, hk7⟩ := u_known (C := RX7) (T := TX7) (N := 4) (n := 4) hts hin_7 (hts _ q_27)
  obtain ⟨c8, i8, hk8⟩ := u_known (C := RX8) (T := TX8) (N := 11) (n := 11) hts hin_8 (hts _ q_19)
  obtain ⟨c9, i9, hk9⟩ := u_known (C := RX9) (T := TX9) (N := 63) (n := 63) hts hin_9 (hts _ q_956)
  obtain ⟨aB, kB, mB, eB, fB, gB⟩ := Cond.arrayClass_spec (type := .byte) (hts _ q_588)
  obtain ⟨aI, kI, mI, eI, fI, gI⟩ := Cond.arrayClass_spec (type := .int) (hts _ q_49)
  obtain ⟨aJ, kJ, mJ, eJ, fJ, gJ⟩ := Cond.arrayClass_spec (type := .long) (hts _ q_685)
  obtain ⟨aZ, kZ, mZ, eZ, fZ, gZ⟩ := Cond.arrayClass_spec (type := .boolean) (hts _ q_1150)
  obtain ⟨mE, aE, kE, e1E, -, e3E, e4E, e5E⟩ := Cond.arrayOver_spec (n := "DeafSpot$Evening") (ht1 _ ao_E)
  obtain ⟨mL, aL, kL, e1L, -, e3L, e4L, e5L⟩ := Cond.arrayOver_spec (n := "DeafSpot$Law") (ht1 _ ao_L)
  have ar : ∀ {cA : ClassId} {kA : Class} {comp : ClassId} {ty : FieldType}, s.vm.classes[cA]? = some kA → kA.kind = .array comp ty → ArrOfT s cA ty := fun h1 h2 n z => ⟨fun k h => (by cases h), _, h1, _, h2⟩
  refine ⟨(fun k => match k with | 0 => c0 | 1 => c1 | 2 => c2 | 3 => c3 | 4 => c4 | 5 => c5 | 6 => c6 | 7 => c7 | 8 => c8 | _ => c9, fun k => match k with | 0 => i0 | 1 => i1 | 2 => i2 | 3 => i3 | 4 => i4 | 5 => i5 | 6 => i6 | 7 => i7 | 8 => i8 | _ => i9), fun k => match k with | 11 => aB | 12 => aI | 13 => aJ | 14 => aZ | 15 => aE | _ => aL, ?_, ?_⟩
  · intro k q hq
    match k, hq with
    | 0, hq => cases hq; exact hk0
    | 1, hq => cases hq; exact hk1
    | 2, hq => cases hq; exact hk2
    | 3, hq => cases hq; exact hk3
    | 4, hq => cases hq; exact hk4
    | 5, hq => cases hq; exact hk5
    | 6, hq => cases hq; exact hk6
    | 7, hq => cases hq; exact hk7
    | 8, hq => cases hq; exact hk8
    | 9, hq => cases hq; exact hk9
    | n + 10, hq => simp [vwCl] at hq
  · intro k q hq
    match k, hq with
    | 0, hq => cases hq; exact ⟨ar fB gB, eB⟩
    | 1, hq => cases hq; exact ⟨ar fI gI, eI⟩
    | 2, hq => cases hq; exact ⟨ar fJ gJ, eJ⟩
    | 3, hq => cases hq; exact ⟨ar fZ gZ, eZ⟩
    | 4, hq => cases hq; exact ⟨ar e3E e4E, kE, mE, e3E, e4E, e1E, e5E⟩
    | 5, hq => cases hq; exact ⟨ar e3L e4L, kL, mL, e3L, e4L, e1L, e5L⟩
    | n + 6, hq => simp [htys] at hq
set_option maxRecDepth 100000 in
set_option maxHeartbeats 4000000 in
theorem hNF_of {args : Array Value} {s : State} (ht : ∀ w ∈ tables_1, w.before args s = true) : ∀ q ∈ hNF, va_Nw (.fieldLinkNest q.1 q.2.1 q.2.2.1 q.2.2.2.1 q.2.2.2.2.1 q.2.2.2.2.2) s := by
  intro q hq
  simp only [hNF, List.mem_cons, List.not_mem_nil, or_false] at hq
  rcases hq with rfl | rfl | rfl | rfl | rfl | rfl | rfl | rfl | rfl | rfl | rfl | rfl | rfl | rfl | rfl | rfl | rfl | rfl | rfl | rfl | rfl | rfl | rfl | rfl | rfl | rfl | rfl | rfl | rfl | rfl | rfl | rfl | rfl | rfl | rfl | rfl | rfl | rfl | rfl | rfl | rfl | rfl | rfl | rfl | rfl | rfl | rfl | rfl | rfl | rfl | rfl | rfl | rfl | rfl | rfl | rfl | rfl | rfl | rfl | rfl | rfl | rfl
  · exact va_Nw.of rfl (ht _ nf_0)
  · exact va_Nw.of rfl (ht _ nf_1)
  · exact va_Nw.of rfl (ht _ nf_2)
  · exact va_Nw.of rfl (ht _ nf_3)
  · exact va_Nw.of rfl (ht _ nf_4)
  · exact va_Nw.of rfl (ht _ nf_5)
  · exact va_Nw.of rfl (ht _ nf_6)
  · exact va_Nw.of rfl (ht _ nf_7)
  · exact va_Nw.of rfl (ht _ nf_8)
  · exact va_Nw.of rfl (ht _ nf_9)
  · exact va_Nw.of rfl (ht _ nf_10)
  · exact va_Nw.of rfl (ht _ nf_11)
  · exact va_Nw.of rfl (ht _ nf_12)
  · exact va_Nw.of rfl (ht _ nf_13)
  · exact va_Nw.of rfl (ht _ nf_14)
  · exact va_Nw.of rfl (ht _ nf_15)
  · exact va_Nw.of rfl (ht _ nf_16)
  · exact va_Nw.of rfl (ht _ nf_17)
  · exact va_Nw.of rfl (ht _ nf_18)
  · exact va_Nw.of rfl (ht _ nf_19)
  · exact va_Nw.of rfl (ht _ nf_20)
  · exact va_Nw.of rfl (ht _ nf_21)
  · exact va_Nw.of rfl (ht _ nf_22)
  · exact va_Nw.of rfl (ht _ nf_23)
  · exact va_Nw.of rfl (ht _ nf_24)
  · exact va_Nw.of rfl (ht _ nf_25)
  · exact va_Nw.of rfl (ht _ nf_26)
  · exact va_Nw.of rfl (ht _ nf_27)
  · exact va_Nw.of rfl (ht _ nf_28)
  · exact va_Nw.of rfl (ht _ nf_29)
  · exact va_Nw.of rfl (ht _ nf_30)
  · exact va_Nw.of rfl (ht _ nf_31)
  · exact va_Nw.of rfl (ht _ nf_32)
  · exact va_Nw.of rfl (ht _ nf_33)
  · exact va_Nw.of rfl (ht _ nf_34)
  · exact va_Nw.of rfl (ht _ nf_35)
  · exact va_Nw.of rfl (ht _ nf_36)
  · exact va_Nw.of rfl (ht _ nf_37)
  · exact va_Nw.of rfl (ht _ nf_38)
  · exact va_Nw.of rfl (ht _ nf_39)
  · exact va_Nw.of rfl (ht _ nf_40)
  · exact va_Nw.of rfl (ht _ nf_41)
  · exact va_Nw.of rfl (ht _ nf_42)
  · exact va_Nw.of rfl (ht _ nf_43)
  · exact va_Nw.of rfl (ht _ nf_44)
  · exact va_Nw.of rfl (ht _ nf_45)
  · exact va_Nw.of rfl (ht _ nf_46)
  · exact va_Nw.of rfl (ht _ nf_47)
  · exact va_Nw.of rfl (ht _ nf_48)
  · exact va_Nw.of rfl (ht _ nf_49)
  · exact va_Nw.of rfl (ht _ nf_50)
  · exact va_Nw.of rfl (ht _ nf_51)
  · exact va_Nw.of rfl (ht _ nf_52)
  · exact va_Nw.of rfl (ht _ nf_53)
  · exact va_Nw.of rfl (ht _ nf_54)
  · exact va_Nw.of rfl (ht _ nf_55)
  · exact va_Nw.of rfl (ht _ nf_56)
  · exact va_Nw.of rfl (ht _ nf_57)
  · exact va_Nw.of rfl (ht _ nf_58)
  · exact va_Nw.of rfl (ht _ nf_59)
  · exact va_Nw.of rfl (ht _ nf_60)
  · exact va_Nw.of rfl (ht _ nf_61)
set_option maxRecDepth 100000 in
set_option maxHeartbeats 4000000 in
theorem hNM_of {args : Array Value} {s : State} (ht : ∀ w ∈ tables_1, w.before args s = true) : ∀ q ∈ hNM, va_Nw (.methodLinkNest q.1 q.2.1 q.2.2.1 q.2.2.2) s := by
  intro q hq
  simp only [hNM, List.mem_cons, List.not_mem_nil, or_false] at hq
  rcases hq with rfl | rfl | rfl | rfl | rfl
  · exact va_Nw.of rfl (ht _ nm_0)
  · exact va_Nw.of rfl (ht _ nm_1)
  · exact va_Nw.of rfl (ht _ nm_2)
  · exact va_Nw.of rfl (ht _ nm_3)
  · exact va_Nw.of rfl (ht _ nm_4)
theorem pe_330 : Cond.eq (.string RX5 37) (.string RX9 330) ∈ hFl := by decide +kernel
theorem pe_332 : Cond.eq (.string RX5 60) (.string RX9 332) ∈ hFl := by decide +kernel
theorem pe_287 : Cond.eq (.string RX5 87) (.string RX9 287) ∈ hFl := by decide +kernel
theorem pe_289 : Cond.eq (.string RX5 92) (.string RX9 289) ∈ hFl := by decide +kernel
theorem pe_273 : Cond.eq (.string RX5 98) (.string RX9 273) ∈ hFl := by decide +kernel
set_option maxRecDepth 100000 in
set_option maxHeartbeats 4000000 in
theorem hSL_of {args : Array Value} {s : State} {cs : Nat → Nat} (ht : ∀ w ∈ tables_1, w.before args s = true) (hs : ∀ c ∈ hFl, c.before args s = true) (he : ∀ i, i < hSN → (hTm i).eval args s none [] s = some (.ref (cs i))) : ∀ q ∈ hSL, vk_R q.1 q.2.1 q.2.2.1 (cs q.2.2.2) s := by
  intro q hq
  simp only [hSL, List.mem_cons, List.not_mem_nil, or_false] at hq
  rcases hq with rfl | rfl | rfl | rfl | rfl | rfl | rfl | rfl | rfl | rfl | rfl | rfl | rfl | rfl | rfl | rfl | rfl | rfl | rfl | rfl | rfl | rfl | rfl | rfl | rfl | rfl | rfl | rfl | rfl | rfl
  · exact vk_R.of (ht _ sr_0) (he 0 (by decide))
  · exact vk_R.of (ht _ sr_1) (he 1 (by decide))
  · exact vk_R.of (ht _ sr_2) (he 2 (by decide))
  · exact vk_R.of (ht _ sr_3) (he 3 (by decide))
  · exact vk_R.of (ht _ sr_4) (he 4 (by decide))
  · exact vk_R.of (ht _ sr_5) (he 5 (by decide))
  · exact vk_R.of (ht _ sr_6) (he 6 (by decide))
  · exact vk_R.of (ht _ sr_7) (he 7 (by decide))
  · exact vk_R.of (ht _ sr_8) (he 8 (by decide))
  · exact vk_R.of (ht _ sr_9) (he 9 (by decide))
  · exact vk_R.of (ht _ sr_10) (he 10 (by decide))
  · exact vk_R.of (ht _ sr_11) (he 11 (by decide))
  · exact vk_R.of (ht _ sr_12) (he 12 (by decide))
  · exact vk_R.of (ht _ sr_13) (he 13 (by decide))
  · exact vk_R.of (ht _ sr_14) (he 14 (by decide))
  · exact vk_R.of (ht _ sr_15) (he 15 (by decide))
  · exact vk_R.of (ht _ sr_16) (va_eqR (hs _ pe_330) (he 1 (by decide)))
  · exact vk_R.of (ht _ sr_17) (he 16 (by decide))
  · exact vk_R.of (ht _ sr_18) (he 17 (by decide))
  · exact vk_R.of (ht _ sr_19) (he 18 (by decide))
  · exact vk_R.of (ht _ sr_20) (he 19 (by decide))
  · exact vk_R.of (ht _ sr_21) (he 20 (by decide))
  · exact vk_R.of (ht _ sr_22) (he 21 (by decide))
  · exact vk_R.of (ht _ sr_23) (he 22 (by decide))
  · exact vk_R.of (ht _ sr_24) (he 23 (by decide))
  · exact vk_R.of (ht _ sr_25) (he 24 (by decide))
  · exact vk_R.of (ht _ sr_26) (va_eqR (hs _ pe_332) (he 4 (by decide)))
  · exact vk_R.of (ht _ sr_27) (va_eqR (hs _ pe_273) (he 5 (by decide)))
  · exact vk_R.of (ht _ sr_28) (va_eqR (hs _ pe_287) (he 8 (by decide)))
  · exact vk_R.of (ht _ sr_29) (va_eqR (hs _ pe_289) (he 9 (by decide)))
set_option maxRecDepth 100000 in
set_option maxHeartbeats 4000000 in
theorem whole_of (hp : Pure) {p : Program} {e : Env} {s : State} {m : MethodId} {below : List Frame} {meth : Method} {c : Code} (l : Launch) {b L : Nat} {xs : Nat → Int32} (hL : L ≤ 3072) (C0 : lw_At p s m meth c b L xs) : W p l e room_1 s m #[Value.ref b] below meth c s.heap [] 0 0 (lw_Z below #[Value.ref b] s) (entryFrame m ([Value.ref b] : List Value).toArray 4) := by
  obtain ⟨hx, hb, hr, hml, hown, hts0, hX, hbl, hlocks, hgv⟩ := C0
  have hts : ∀ w ∈ hTbl, w.before #[Value.ref b] s = true := fun w h => hts0 w (List.mem_filter.mp h).1
  have ht1 : ∀ w ∈ tables_1, w.before #[Value.ref b] s = true := fun w h => hts0 w (List.mem_append_right _ h)
  have hs : ∀ c ∈ hFl, c.before #[Value.ref b] s = true := flat_of_before _ hgv
  have hAn : ∀ a : Nat, a < s.heap.size → ¬ hA (hS0 s.heap.size) a := fun a h q => q.elim (fun z => z rfl) (fun z => absurd (Nat.lt_of_lt_of_le h z) (Nat.lt_irrefl _))
  obtain ⟨D, cy, hK⟩ := hK_of hts ht1
  obtain ⟨cs, hst, hev⟩ := hStr_of hs hAn
  obtain ⟨Sa, Sb, Rel, h1, h2, h3, h4⟩ := hp s.heap.size
  have hz : va_Z "java/lang/String" "COMPACT_STRINGS" "Z" (.int 1) (hA (hS0 s.heap.size)) s s.heap := va_Zof (ht1 _ ls_C) (hts _ q_11) (va_eqi (hs _ (by decide +kernel))) hAn
  have hq : va_Zq "jdk/internal/util/Preconditions" "SIOOBE_FORMATTER" "Ljava/util/function/BiFunction;" (hA (hS0 s.heap.size)) s s.heap := va_Zqof (ht1 _ ls_S) (hts _ q_13) (hs _ (by decide +kernel)) hAn
  rw [lg_entry_eq]
  exact law_start (S0 := hS0 s.heap.size) (b := b) (cs := cs) hL h1 h2 h3 h4 p l e s m below meth c D cy (fun _ => 0) s.heap [] _ ⟨hx, hb, hr, hml, hts, hown, hlocks, fun h => (by cases h), ⟨hK, hNF_of ht1, hNM_of ht1, hSL_of ht1 hs hev, hst, hz, va_AO.of (ht1 _ ao_E), va_AO.of (ht1 _ ao_L), hq, va_Nw.of rfl (ht1 _ ca_I)⟩, rfl⟩ ⟨hX, hbl, fun _ => rfl⟩ ⟨⟨rfl, fun a h => absurd rfl h⟩, fun a h => absurd rfl h, va_S.rf⟩ (lv_entry [.ref b] (n := 4) (Nat.le_of_ble_eq_true rfl))
