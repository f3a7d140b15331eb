/-! THE TABLES' WORDS, by their places -/
/-- the words of all methods, and those of links to nest mates' private methods -/
def wAll : List Cond := lw_tbl.filter goodWord
def isNest : Cond → Bool := fun w => match w with
  | .methodLinkNest .. => true
  | _ => false
/-- a field at a place of a class's pool -/
def fOk (own : String) (idx c k : Nat) : Prop := Cond.fieldLink own idx (CN c) (CT c k).2.1 (CT c k).2.2.1 ∈ wAll ∧ c < 10 ∧ k < nF c
theorem inA {w : Cond} (i : Nat) (h : lw_tbl[i]? = some w) (hg : goodWord w = true) : w ∈ wAll := List.mem_filter.mpr ⟨List.mem_of_getElem? h, hg⟩
theorem inN {w : Cond} (i : Nat) (h : lw_tbl[i]? = some w) (hg : isNest w = true) : w ∈ lw_tbl ∧ isNest w = true := ⟨List.mem_of_getElem? h, hg⟩
theorem inL {ws : List Cond} (ps : List Nat) (h : ws = ps.filterMap (fun i => lw_tbl[i]?)) (hg : ws.all goodWord = true) : ∀ w ∈ ws, w ∈ wAll := by
  intro w hw
  have h1 := List.all_eq_true.mp hg w hw
  rw [h] at hw
  obtain ⟨i, -, hi⟩ := List.mem_filterMap.mp hw
  exact List.mem_filter.mpr ⟨List.mem_of_getElem? hi, h1⟩
theorem gi_all {ws : List Cond} (h : ∀ w ∈ ws, w ∈ wAll) : GoodIn wAll ws := fun w hw => ⟨h w hw, good_of_word (List.mem_filter.mp (h w hw)).2⟩
/-- an object's method; a class's; a maker -/
def mOk (y : MethodName) (bytes : ByteArray) (maxL : Nat) (ret : Option FieldType) (n : Nat) : Prop := Cond.code y bytes maxL ret ∈ wAll ∧ Cond.instanceMethod y ∈ wAll ∧ Cond.selects y.cls y y ∈ wAll ∧ Cond.initialized y.cls ∈ wAll ∧ y.cls ≠ "java/lang/invoke/MethodHandle" ∧ y.cls ≠ "java/lang/invoke/VarHandle" ∧ (parseMethodDescriptor y.desc).map (fun d => d.parameters.length) = some n
def sOk (y : MethodName) (bytes : ByteArray) (maxL : Nat) (ret : Option FieldType) (n : Nat) : Prop := Cond.code y bytes maxL ret ∈ wAll ∧ Cond.static y ∈ wAll ∧ Cond.initialized y.cls ∈ wAll ∧ y.cls ≠ "java/lang/invoke/MethodHandle" ∧ y.cls ≠ "java/lang/invoke/VarHandle" ∧ (parseMethodDescriptor y.desc).map (fun d => d.parameters.length) = some n
def iOk (y : MethodName) (bytes : ByteArray) (maxL : Nat) (n : Nat) : Prop := Cond.code y bytes maxL none ∈ wAll ∧ Cond.instanceMethod y ∈ wAll ∧ Cond.initialized y.cls ∈ wAll ∧ y.name = "<init>" ∧ y.cls ≠ "java/lang/invoke/MethodHandle" ∧ y.cls ≠ "java/lang/invoke/VarHandle" ∧ (parseMethodDescriptor y.desc).map (fun d => d.parameters.length) = some n
theorem lay_0 : ∀ w ∈ u_ws (CN 0) (CT 0) (nF 0), w ∈ wAll := inL [332, 334, 336] (by decide +kernel) (by decide +kernel)
theorem lay_1 : ∀ w ∈ u_ws (CN 1) (CT 1) (nF 1), w ∈ wAll := inL [103, 105, 107, 109, 111, 113] (by decide +kernel) (by decide +kernel)
theorem lay_2 : ∀ w ∈ u_ws (CN 2) (CT 2) (nF 2), w ∈ wAll := inL [295, 297, 299, 301, 303] (by decide +kernel) (by decide +kernel)
theorem lay_3 : ∀ w ∈ u_ws (CN 3) (CT 3) (nF 3), w ∈ wAll := inL [149, 151, 153, 155, 157, 159, 161, 163, 165, 167, 169] (by decide +kernel) (by decide +kernel)
theorem lay_4 : ∀ w ∈ u_ws (CN 4) (CT 4) (nF 4), w ∈ wAll := inL [214, 216, 218, 220, 222, 224, 226, 228, 230, 232, 234, 236, 238, 240, 242, 244] (by decide +kernel) (by decide +kernel)
theorem lay_5 : ∀ w ∈ u_ws (CN 5) (CT 5) (nF 5), w ∈ wAll := inL [313] (by decide +kernel) (by decide +kernel)
theorem lay_6 : ∀ w ∈ u_ws (CN 6) (CT 6) (nF 6), w ∈ wAll := inL [267, 269, 271, 273, 275, 277, 279, 281] (by decide +kernel) (by decide +kernel)
theorem lay_7 : ∀ w ∈ u_ws (CN 7) (CT 7) (nF 7), w ∈ wAll := inL [267, 269, 271, 273, 275, 277, 279, 281] (by decide +kernel) (by decide +kernel)
theorem lay_8 : ∀ w ∈ u_ws (CN 8) (CT 8) (nF 8), w ∈ wAll := inL [345, 347, 349, 351, 353, 355] (by decide +kernel) (by decide +kernel)
theorem lay_9 : ∀ w ∈ u_ws (CN 9) (CT 9) (nF 9), w ∈ wAll := inL [988, 990, 992, 994, 996, 998, 1000, 1002, 1004, 1006, 1008, 1010, 1012, 1014, 1016, 1018, 1020, 1022, 1024, 1026, 1028, 1030, 1032, 1034, 1036, 1038, 1040, 1042, 1044] (by decide +kernel) (by decide +kernel)
theorem cl_lay : ∀ c, c < 10 → ∀ w ∈ u_ws (CN c) (CT c) (nF c), w ∈ wAll := by
  intro c hc
  match c, hc with
  | 0, _ => exact lay_0
  | 1, _ => exact lay_1
  | 2, _ => exact lay_2
  | 3, _ => exact lay_3
  | 4, _ => exact lay_4
  | 5, _ => exact lay_5
  | 6, _ => exact lay_6
  | 7, _ => exact lay_7
  | 8, _ => exact lay_8
  | 9, _ => exact lay_9
  | c + 10, h => omega
theorem km_L_9 : Cond.methodLink RL 9 yX8_init ∈ wAll := inA 76 (by decide +kernel) (by decide +kernel)
theorem km_X8_1 : Cond.methodLink RX8 1 objectInit ∈ wAll := inA 79 (by decide +kernel) (by decide +kernel)
theorem km_X8_9 : Cond.methodLink RX8 9 yX4_init ∈ wAll := inA 84 (by decide +kernel) (by decide +kernel)
theorem km_X4_3 : Cond.methodLink RX4 3 objectInit ∈ wAll := inA 87 (by decide +kernel) (by decide +kernel)
theorem kn_X4_32 : Cond.methodLinkNest RX4 32 yX1_init RX8 ∈ lw_tbl ∧ isNest (.methodLinkNest RX4 32 yX1_init RX8) = true := inN 92 (by decide +kernel) rfl
theorem km_X1_3 : Cond.methodLink RX1 3 objectInit ∈ wAll := inA 95 (by decide +kernel) (by decide +kernel)
theorem kf_X1_9 : fOk RX1 9 1 0 := ⟨inA 96 (by decide +kernel) (by decide +kernel), by decide, by decide⟩
theorem kf_X1_15 : fOk RX1 15 1 1 := ⟨inA 97 (by decide +kernel) (by decide +kernel), by decide, by decide⟩
theorem kf_X4_204 : fOk RX4 204 1 1 := ⟨inA 98 (by decide +kernel) (by decide +kernel), by decide, by decide⟩
theorem kf_X1_19 : fOk RX1 19 1 2 := ⟨inA 99 (by decide +kernel) (by decide +kernel), by decide, by decide⟩
theorem kf_X1_22 : fOk RX1 22 1 3 := ⟨inA 100 (by decide +kernel) (by decide +kernel), by decide, by decide⟩
theorem kf_X1_25 : fOk RX1 25 1 4 := ⟨inA 101 (by decide +kernel) (by decide +kernel), by decide, by decide⟩
theorem kf_X1_28 : fOk RX1 28 1 5 := ⟨inA 102 (by decide +kernel) (by decide +kernel), by decide, by decide⟩
theorem kn_X4_37 : Cond.methodLinkNest RX4 37 yX3_init RX8 ∈ lw_tbl ∧ isNest (.methodLinkNest RX4 37 yX3_init RX8) = true := inN 118 (by decide +kernel) rfl
theorem km_X3_3 : Cond.methodLink RX3 3 objectInit ∈ wAll := inA 121 (by decide +kernel) (by decide +kernel)
theorem kf_X3_9 : fOk RX3 9 3 0 := ⟨inA 122 (by decide +kernel) (by decide +kernel), by decide, by decide⟩
theorem kf_X1_52 : fOk RX1 52 3 0 := ⟨inA 123 (by decide +kernel) (by decide +kernel), by decide, by decide⟩
theorem kf_X4_165 : fOk RX4 165 3 0 := ⟨inA 124 (by decide +kernel) (by decide +kernel), by decide, by decide⟩
theorem kf_X8_135 : fOk RX8 135 3 0 := ⟨inA 125 (by decide +kernel) (by decide +kernel), by decide, by decide⟩
theorem kf_X3_15 : fOk RX3 15 3 1 := ⟨inA 126 (by decide +kernel) (by decide +kernel), by decide, by decide⟩
theorem kf_X1_35 : fOk RX1 35 3 1 := ⟨inA 127 (by decide +kernel) (by decide +kernel), by decide, by decide⟩
theorem kf_X4_174 : fOk RX4 174 3 1 := ⟨inA 128 (by decide +kernel) (by decide +kernel), by decide, by decide⟩
theorem kf_X3_18 : fOk RX3 18 3 2 := ⟨inA 129 (by decide +kernel) (by decide +kernel), by decide, by decide⟩
theorem kf_X1_43 : fOk RX1 43 3 2 := ⟨inA 130 (by decide +kernel) (by decide +kernel), by decide, by decide⟩
theorem kf_X4_113 : fOk RX4 113 3 2 := ⟨inA 131 (by decide +kernel) (by decide +kernel), by decide, by decide⟩
theorem kf_X3_21 : fOk RX3 21 3 3 := ⟨inA 132 (by decide +kernel) (by decide +kernel), by decide, by decide⟩
theorem kf_X1_45 : fOk RX1 45 3 3 := ⟨inA 133 (by decide +kernel) (by decide +kernel), by decide, by decide⟩
theorem kf_X4_171 : fOk RX4 171 3 3 := ⟨inA 134 (by decide +kernel) (by decide +kernel), by decide, by decide⟩
theorem kf_X3_24 : fOk RX3 24 3 4 := ⟨inA 135 (by decide +kernel) (by decide +kernel), by decide, by decide⟩
theorem kf_X3_27 : fOk RX3 27 3 5 := ⟨inA 136 (by decide +kernel) (by decide +kernel), by decide, by decide⟩
theorem kf_X1_49 : fOk RX1 49 3 5 := ⟨inA 137 (by decide +kernel) (by decide +kernel), by decide, by decide⟩
theorem kf_X4_168 : fOk RX4 168 3 5 := ⟨inA 138 (by decide +kernel) (by decide +kernel), by decide, by decide⟩
theorem kf_X3_30 : fOk RX3 30 3 6 := ⟨inA 139 (by decide +kernel) (by decide +kernel), by decide, by decide⟩
theorem kf_X1_47 : fOk RX1 47 3 6 := ⟨inA 140 (by decide +kernel) (by decide +kernel), by decide, by decide⟩
theorem kf_X4_162 : fOk RX4 162 3 6 := ⟨inA 141 (by decide +kernel) (by decide +kernel), by decide, by decide⟩
theorem kf_X3_33 : fOk RX3 33 3 7 := ⟨inA 142 (by decide +kernel) (by decide +kernel), by decide, by decide⟩
theorem kf_X3_37 : fOk RX3 37 3 8 := ⟨inA 143 (by decide +kernel) (by decide +kernel), by decide, by decide⟩
theorem kf_X4_180 : fOk RX4 180 3 8 := ⟨inA 144 (by decide +kernel) (by decide +kernel), by decide, by decide⟩
theorem kf_X3_41 : fOk RX3 41 3 9 := ⟨inA 145 (by decide +kernel) (by decide +kernel), by decide, by decide⟩
theorem kf_X4_126 : fOk RX4 126 3 9 := ⟨inA 146 (by decide +kernel) (by decide +kernel), by decide, by decide⟩
theorem kf_X3_44 : fOk RX3 44 3 10 := ⟨inA 147 (by decide +kernel) (by decide +kernel), by decide, by decide⟩
theorem kf_X4_190 : fOk RX4 190 3 10 := ⟨inA 148 (by decide +kernel) (by decide +kernel), by decide, by decide⟩
theorem km_X4_42 : Cond.methodLink RX4 42 yX4_begin ∈ wAll := inA 173 (by decide +kernel) (by decide +kernel)
theorem km_X4_46 : Cond.methodLink RX4 46 yX4_pageAt ∈ wAll := inA 177 (by decide +kernel) (by decide +kernel)
theorem km_X4_50 : Cond.methodLink RX4 50 yX3_clear ∈ wAll := inA 181 (by decide +kernel) (by decide +kernel)
theorem kn_X4_53 : Cond.methodLinkNest RX4 53 yX8_set RX8 ∈ lw_tbl ∧ isNest (.methodLinkNest RX4 53 yX8_set RX8) = true := inN 185 (by decide +kernel) rfl
theorem km_X4_57 : Cond.methodLink RX4 57 yX1_clear ∈ wAll := inA 188 (by decide +kernel) (by decide +kernel)
theorem kf_X4_11 : fOk RX4 11 4 0 := ⟨inA 192 (by decide +kernel) (by decide +kernel), by decide, by decide⟩
theorem kf_X4_17 : fOk RX4 17 4 1 := ⟨inA 193 (by decide +kernel) (by decide +kernel), by decide, by decide⟩
theorem kf_X4_21 : fOk RX4 21 4 2 := ⟨inA 194 (by decide +kernel) (by decide +kernel), by decide, by decide⟩
theorem kf_X4_24 : fOk RX4 24 4 3 := ⟨inA 195 (by decide +kernel) (by decide +kernel), by decide, by decide⟩
theorem kf_X4_27 : fOk RX4 27 4 4 := ⟨inA 196 (by decide +kernel) (by decide +kernel), by decide, by decide⟩
theorem kf_X4_33 : fOk RX4 33 4 5 := ⟨inA 197 (by decide +kernel) (by decide +kernel), by decide, by decide⟩
theorem kf_X8_159 : fOk RX8 159 4 5 := ⟨inA 198 (by decide +kernel) (by decide +kernel), by decide, by decide⟩
theorem kf_X4_38 : fOk RX4 38 4 6 := ⟨inA 199 (by decide +kernel) (by decide +kernel), by decide, by decide⟩
theorem kf_X8_149 : fOk RX8 149 4 6 := ⟨inA 200 (by decide +kernel) (by decide +kernel), by decide, by decide⟩
theorem kf_X4_58 : fOk RX4 58 4 7 := ⟨inA 201 (by decide +kernel) (by decide +kernel), by decide, by decide⟩
theorem kf_X8_153 : fOk RX8 153 4 7 := ⟨inA 202 (by decide +kernel) (by decide +kernel), by decide, by decide⟩
theorem kf_X4_62 : fOk RX4 62 4 8 := ⟨inA 203 (by decide +kernel) (by decide +kernel), by decide, by decide⟩
theorem kf_X8_63 : fOk RX8 63 4 8 := ⟨inA 204 (by decide +kernel) (by decide +kernel), by decide, by decide⟩
theorem kf_X4_65 : fOk RX4 65 4 9 := ⟨inA 205 (by decide +kernel) (by decide +kernel), by decide, by decide⟩
theorem kf_X8_66 : fOk RX8 66 4 9 := ⟨inA 206 (by decide +kernel) (by decide +kernel), by decide, by decide⟩
theorem kf_X4_68 : fOk RX4 68 4 10 := ⟨inA 207 (by decide +kernel) (by decide +kernel), by decide, by decide⟩
theorem kf_X8_104 : fOk RX8 104 4 10 := ⟨inA 208 (by decide +kernel) (by decide +kernel), by decide, by decide⟩
theorem kf_X4_72 : fOk RX4 72 4 11 := ⟨inA 209 (by decide +kernel) (by decide +kernel), by decide, by decide⟩
theorem kf_X4_75 : fOk RX4 75 4 12 := ⟨inA 210 (by decide +kernel) (by decide +kernel), by decide, by decide⟩
theorem kf_X4_78 : fOk RX4 78 4 13 := ⟨inA 211 (by decide +kernel) (by decide +kernel), by decide, by decide⟩
theorem kf_X4_81 : fOk RX4 81 4 14 := ⟨inA 212 (by decide +kernel) (by decide +kernel), by decide, by decide⟩
theorem kf_X4_84 : fOk RX4 84 4 15 := ⟨inA 213 (by decide +kernel) (by decide +kernel), by decide, by decide⟩
theorem kn_X8_21 : Cond.methodLinkNest RX8 21 yX6_init RX8 ∈ lw_tbl ∧ isNest (.methodLinkNest RX8 21 yX6_init RX8) = true := inN 249 (by decide +kernel) rfl
theorem km_X6_3 : Cond.methodLink RX6 3 objectInit ∈ wAll := inA 252 (by decide +kernel) (by decide +kernel)
theorem kf_X6_9 : fOk RX6 9 6 0 := ⟨inA 253 (by decide +kernel) (by decide +kernel), by decide, by decide⟩
theorem kf_X6_29 : fOk RX6 29 6 1 := ⟨inA 254 (by decide +kernel) (by decide +kernel), by decide, by decide⟩
theorem kf_X8_55 : fOk RX8 55 6 1 := ⟨inA 255 (by decide +kernel) (by decide +kernel), by decide, by decide⟩
theorem kf_X6_15 : fOk RX6 15 6 2 := ⟨inA 256 (by decide +kernel) (by decide +kernel), by decide, by decide⟩
theorem kf_X8_76 : fOk RX8 76 6 2 := ⟨inA 257 (by decide +kernel) (by decide +kernel), by decide, by decide⟩
theorem kf_X6_19 : fOk RX6 19 6 3 := ⟨inA 258 (by decide +kernel) (by decide +kernel), by decide, by decide⟩
theorem kf_X8_73 : fOk RX8 73 6 3 := ⟨inA 259 (by decide +kernel) (by decide +kernel), by decide, by decide⟩
theorem kf_X6_22 : fOk RX6 22 6 4 := ⟨inA 260 (by decide +kernel) (by decide +kernel), by decide, by decide⟩
theorem kf_X2_37 : fOk RX2 37 6 4 := ⟨inA 261 (by decide +kernel) (by decide +kernel), by decide, by decide⟩
theorem kf_X2_44 : fOk RX2 44 6 5 := ⟨inA 262 (by decide +kernel) (by decide +kernel), by decide, by decide⟩
theorem kf_X6_60 : fOk RX6 60 6 5 := ⟨inA 263 (by decide +kernel) (by decide +kernel), by decide, by decide⟩
theorem kf_X2_62 : fOk RX2 62 6 6 := ⟨inA 264 (by decide +kernel) (by decide +kernel), by decide, by decide⟩
theorem kf_X6_75 : fOk RX6 75 6 6 := ⟨inA 265 (by decide +kernel) (by decide +kernel), by decide, by decide⟩
theorem kf_X6_46 : fOk RX6 46 6 7 := ⟨inA 266 (by decide +kernel) (by decide +kernel), by decide, by decide⟩
theorem kn_X8_28 : Cond.methodLinkNest RX8 28 yX2_init RX8 ∈ lw_tbl ∧ isNest (.methodLinkNest RX8 28 yX2_init RX8) = true := inN 286 (by decide +kernel) rfl
theorem km_X2_3 : Cond.methodLink RX2 3 objectInit ∈ wAll := inA 289 (by decide +kernel) (by decide +kernel)
theorem kf_X2_9 : fOk RX2 9 2 0 := ⟨inA 290 (by decide +kernel) (by decide +kernel), by decide, by decide⟩
theorem kf_X2_15 : fOk RX2 15 2 1 := ⟨inA 291 (by decide +kernel) (by decide +kernel), by decide, by decide⟩
theorem kf_X2_18 : fOk RX2 18 2 2 := ⟨inA 292 (by decide +kernel) (by decide +kernel), by decide, by decide⟩
theorem kf_X2_21 : fOk RX2 21 2 3 := ⟨inA 293 (by decide +kernel) (by decide +kernel), by decide, by decide⟩
theorem kf_X2_25 : fOk RX2 25 2 4 := ⟨inA 294 (by decide +kernel) (by decide +kernel), by decide, by decide⟩
theorem kn_X8_35 : Cond.methodLinkNest RX8 35 yX5_init RX8 ∈ lw_tbl ∧ isNest (.methodLinkNest RX8 35 yX5_init RX8) = true := inN 308 (by decide +kernel) rfl
theorem km_X5_3 : Cond.methodLink RX5 3 objectInit ∈ wAll := inA 311 (by decide +kernel) (by decide +kernel)
theorem kf_X5_9 : fOk RX5 9 5 0 := ⟨inA 312 (by decide +kernel) (by decide +kernel), by decide, by decide⟩
theorem kn_X8_46 : Cond.methodLinkNest RX8 46 yX0_init RX8 ∈ lw_tbl ∧ isNest (.methodLinkNest RX8 46 yX0_init RX8) = true := inN 319 (by decide +kernel) rfl
theorem km_X0_1 : Cond.methodLink RX0 1 objectInit ∈ wAll := inA 322 (by decide +kernel) (by decide +kernel)
theorem km_X0_9 : Cond.methodLink RX0 9 yX4_init ∈ wAll := inA 324 (by decide +kernel) (by decide +kernel)
theorem kn_X0_18 : Cond.methodLinkNest RX0 18 yX6_init RX8 ∈ lw_tbl ∧ isNest (.methodLinkNest RX0 18 yX6_init RX8) = true := inN 326 (by decide +kernel) rfl
theorem kf_X0_10 : fOk RX0 10 0 0 := ⟨inA 327 (by decide +kernel) (by decide +kernel), by decide, by decide⟩
theorem kf_X8_198 : fOk RX8 198 0 0 := ⟨inA 328 (by decide +kernel) (by decide +kernel), by decide, by decide⟩
theorem kf_X0_19 : fOk RX0 19 0 1 := ⟨inA 329 (by decide +kernel) (by decide +kernel), by decide, by decide⟩
theorem kf_X8_199 : fOk RX8 199 0 1 := ⟨inA 330 (by decide +kernel) (by decide +kernel), by decide, by decide⟩
theorem kf_X8_203 : fOk RX8 203 0 2 := ⟨inA 331 (by decide +kernel) (by decide +kernel), by decide, by decide⟩
theorem kf_X8_10 : fOk RX8 10 8 0 := ⟨inA 339 (by decide +kernel) (by decide +kernel), by decide, by decide⟩
theorem kf_X8_16 : fOk RX8 16 8 1 := ⟨inA 340 (by decide +kernel) (by decide +kernel), by decide, by decide⟩
theorem kf_X8_22 : fOk RX8 22 8 2 := ⟨inA 341 (by decide +kernel) (by decide +kernel), by decide, by decide⟩
theorem kf_X8_29 : fOk RX8 29 8 3 := ⟨inA 342 (by decide +kernel) (by decide +kernel), by decide, by decide⟩
theorem kf_X8_36 : fOk RX8 36 8 4 := ⟨inA 343 (by decide +kernel) (by decide +kernel), by decide, by decide⟩
theorem kf_X8_42 : fOk RX8 42 8 5 := ⟨inA 344 (by decide +kernel) (by decide +kernel), by decide, by decide⟩
theorem km_L_15 : Cond.methodLink RL 15 yX8_tell ∈ wAll := inA 358 (by decide +kernel) (by decide +kernel)
theorem km_X8_47 : Cond.methodLink RX8 47 yX6_append ∈ wAll := inA 362 (by decide +kernel) (by decide +kernel)
theorem km_X6_32 : Cond.methodLink RX6 32 yX6_byteOf ∈ wAll := inA 366 (by decide +kernel) (by decide +kernel)
theorem kc_X6_40 : Cond.constantLong RX6 40 (255) ∈ wAll := inA 370 (by decide +kernel) (by decide +kernel)
theorem kn_X6_36 : Cond.methodLinkNest RX6 36 yX8_set RX8 ∈ lw_tbl ∧ isNest (.methodLinkNest RX6 36 yX8_set RX8) = true := inN 371 (by decide +kernel) rfl
theorem km_L_20 : Cond.methodLink RL 20 yX8_ring ∈ wAll := inA 372 (by decide +kernel) (by decide +kernel)
theorem km_X8_51 : Cond.methodLink RX8 51 yX2_understand ∈ wAll := inA 376 (by decide +kernel) (by decide +kernel)
theorem km_X2_28 : Cond.methodLink RX2 28 yX6_blame ∈ wAll := inA 380 (by decide +kernel) (by decide +kernel)
theorem km_X2_34 : Cond.methodLink RX2 34 yX6_goToFirst ∈ wAll := inA 384 (by decide +kernel) (by decide +kernel)
theorem km_X6_49 : Cond.methodLink RX6 49 yX6_goToNext ∈ wAll := inA 388 (by decide +kernel) (by decide +kernel)
theorem km_X6_52 : Cond.methodLink RX6 52 yX6_byteAt ∈ wAll := inA 392 (by decide +kernel) (by decide +kernel)
theorem kn_X6_42 : Cond.methodLinkNest RX6 42 yX8_at RX8 ∈ lw_tbl ∧ isNest (.methodLinkNest RX6 42 yX8_at RX8) = true := inN 396 (by decide +kernel) rfl
theorem km_X6_56 : Cond.methodLink RX6 56 yX6_isBlank ∈ wAll := inA 399 (by decide +kernel) (by decide +kernel)
theorem km_X6_63 : Cond.methodLink RX6 63 yX6_isLetter ∈ wAll := inA 403 (by decide +kernel) (by decide +kernel)
theorem km_X6_66 : Cond.methodLink RX6 66 yX6_passWord ∈ wAll := inA 407 (by decide +kernel) (by decide +kernel)
theorem km_X6_69 : Cond.methodLink RX6 69 yX6_isDigit ∈ wAll := inA 411 (by decide +kernel) (by decide +kernel)
theorem km_X6_72 : Cond.methodLink RX6 72 yX6_passNumber ∈ wAll := inA 415 (by decide +kernel) (by decide +kernel)
theorem km_X2_40 : Cond.methodLink RX2 40 yX2_passLine ∈ wAll := inA 419 (by decide +kernel) (by decide +kernel)
theorem km_X2_47 : Cond.methodLink RX2 47 yX2_verbHere ∈ wAll := inA 423 (by decide +kernel) (by decide +kernel)
theorem km_X2_69 : Cond.methodLink RX2 69 yX2_wordOf ∈ wAll := inA 427 (by decide +kernel) (by decide +kernel)
theorem km_X2_73 : Cond.methodLink RX2 73 yX6_isThisWord ∈ wAll := inA 445 (by decide +kernel) (by decide +kernel)
theorem km_X6_78 : Cond.methodLink RX6 78 yJ0_length_8abf5 ∈ wAll := inA 449 (by decide +kernel) (by decide +kernel)
theorem km_X6_83 : Cond.methodLink RX6 83 yJ0_charAt_5068e ∈ wAll := inA 459 (by decide +kernel) (by decide +kernel)
theorem kn_X2_51 : Cond.methodLinkNest RX2 51 yX8_set RX8 ∈ lw_tbl ∧ isNest (.methodLinkNest RX2 51 yX8_set RX8) = true := inN 497 (by decide +kernel) rfl
theorem km_X2_55 : Cond.methodLink RX2 55 yX6_goToNext ∈ wAll := inA 498 (by decide +kernel) (by decide +kernel)
theorem km_X2_58 : Cond.methodLink RX2 58 yX2_numbersOf ∈ wAll := inA 499 (by decide +kernel) (by decide +kernel)
theorem km_X2_65 : Cond.methodLink RX2 65 yX2_canBe ∈ wAll := inA 503 (by decide +kernel) (by decide +kernel)
theorem km_X2_105 : Cond.methodLink RX2 105 yX2_isLevel ∈ wAll := inA 507 (by decide +kernel) (by decide +kernel)
theorem km_X8_59 : Cond.methodLink RX8 59 yX2_found ∈ wAll := inA 511 (by decide +kernel) (by decide +kernel)
theorem kn_X2_109 : Cond.methodLinkNest RX2 109 yX8_at RX8 ∈ lw_tbl ∧ isNest (.methodLinkNest RX2 109 yX8_at RX8) = true := inN 515 (by decide +kernel) rfl
theorem km_X2_113 : Cond.methodLink RX2 113 yX4_begin ∈ wAll := inA 516 (by decide +kernel) (by decide +kernel)
theorem km_L_25 : Cond.methodLink RL 25 yX8_script ∈ wAll := inA 518 (by decide +kernel) (by decide +kernel)
theorem km_X8_69 : Cond.methodLink RX8 69 yX2_carryOut ∈ wAll := inA 522 (by decide +kernel) (by decide +kernel)
theorem km_X2_119 : Cond.methodLink RX2 119 yX2_doLine ∈ wAll := inA 526 (by decide +kernel) (by decide +kernel)
theorem km_X2_123 : Cond.methodLink RX2 123 yX4_goOn ∈ wAll := inA 530 (by decide +kernel) (by decide +kernel)
theorem kc_X4_112 : Cond.constant RX4 112 (999999) ∈ wAll := inA 534 (by decide +kernel) (by decide +kernel)
theorem km_X2_126 : Cond.methodLink RX2 126 yX4_takeRoom ∈ wAll := inA 535 (by decide +kernel) (by decide +kernel)
theorem km_X4_133 : Cond.methodLink RX4 133 yX4_wayOf ∈ wAll := inA 539 (by decide +kernel) (by decide +kernel)
theorem km_X4_116 : Cond.methodLink RX4 116 yX4_innermostLevel ∈ wAll := inA 543 (by decide +kernel) (by decide +kernel)
theorem kn_X4_102 : Cond.methodLinkNest RX4 102 yX8_at RX8 ∈ lw_tbl ∧ isNest (.methodLinkNest RX4 102 yX8_at RX8) = true := inN 547 (by decide +kernel) rfl
theorem km_X4_120 : Cond.methodLink RX4 120 yX4_tailPlace ∈ wAll := inA 548 (by decide +kernel) (by decide +kernel)
theorem km_X4_98 : Cond.methodLink RX4 98 yX4_placeOf ∈ wAll := inA 552 (by decide +kernel) (by decide +kernel)
theorem km_X4_123 : Cond.methodLink RX4 123 yX3_sizeFor ∈ wAll := inA 556 (by decide +kernel) (by decide +kernel)
theorem km_X3_51 : Cond.methodLink RX3 51 yX3_deltaAt ∈ wAll := inA 560 (by decide +kernel) (by decide +kernel)
theorem km_X4_129 : Cond.methodLink RX4 129 yX4_isOpenIn ∈ wAll := inA 564 (by decide +kernel) (by decide +kernel)
theorem km_X4_136 : Cond.methodLink RX4 136 yX4_raise ∈ wAll := inA 568 (by decide +kernel) (by decide +kernel)
theorem km_X4_140 : Cond.methodLink RX4 140 yX4_overwriteHead ∈ wAll := inA 572 (by decide +kernel) (by decide +kernel)
theorem km_X4_146 : Cond.methodLink RX4 146 yX3_recordsFrom ∈ wAll := inA 576 (by decide +kernel) (by decide +kernel)
theorem km_X3_63 : Cond.methodLink RX3 63 yX3_isRecord ∈ wAll := inA 580 (by decide +kernel) (by decide +kernel)
theorem km_X4_143 : Cond.methodLink RX4 143 yX4_openBehindTail ∈ wAll := inA 584 (by decide +kernel) (by decide +kernel)
theorem km_X4_149 : Cond.methodLink RX4 149 yX3_deltaAt ∈ wAll := inA 588 (by decide +kernel) (by decide +kernel)
theorem km_X4_152 : Cond.methodLink RX4 152 yX3_layDown ∈ wAll := inA 589 (by decide +kernel) (by decide +kernel)
theorem kn_X3_55 : Cond.methodLinkNest RX3 55 yX8_set RX8 ∈ lw_tbl ∧ isNest (.methodLinkNest RX3 55 yX8_set RX8) = true := inN 593 (by decide +kernel) rfl
theorem km_X4_156 : Cond.methodLink RX4 156 yX4_raiseTo ∈ wAll := inA 594 (by decide +kernel) (by decide +kernel)
theorem km_X4_106 : Cond.methodLink RX4 106 Lib.Math.max.name ∈ wAll := inA 598 (by decide +kernel) (by decide +kernel)
theorem km_X2_130 : Cond.methodLink RX2 130 yX4_putData ∈ wAll := inA 601 (by decide +kernel) (by decide +kernel)
theorem km_X4_159 : Cond.methodLink RX4 159 yX4_isInnermost ∈ wAll := inA 605 (by decide +kernel) (by decide +kernel)
theorem km_X2_133 : Cond.methodLink RX2 133 yX4_endInnermost ∈ wAll := inA 609 (by decide +kernel) (by decide +kernel)
theorem km_X4_177 : Cond.methodLink RX4 177 yX4_closeInnermost ∈ wAll := inA 613 (by decide +kernel) (by decide +kernel)
theorem km_X2_136 : Cond.methodLink RX2 136 yX4_dropInnermost ∈ wAll := inA 617 (by decide +kernel) (by decide +kernel)
theorem km_X4_183 : Cond.methodLink RX4 183 yX3_takeBack ∈ wAll := inA 621 (by decide +kernel) (by decide +kernel)
theorem kn_X3_59 : Cond.methodLinkNest RX3 59 yX8_at RX8 ∈ lw_tbl ∧ isNest (.methodLinkNest RX3 59 yX8_at RX8) = true := inN 625 (by decide +kernel) rfl
theorem km_X4_186 : Cond.methodLink RX4 186 yX3_leaveGap ∈ wAll := inA 626 (by decide +kernel) (by decide +kernel)
theorem km_X2_139 : Cond.methodLink RX2 139 yX4_swapHead ∈ wAll := inA 630 (by decide +kernel) (by decide +kernel)
theorem km_X4_193 : Cond.methodLink RX4 193 yX4_canHeadBeHad ∈ wAll := inA 634 (by decide +kernel) (by decide +kernel)
theorem km_X2_143 : Cond.methodLink RX2 143 yX4_readSome ∈ wAll := inA 638 (by decide +kernel) (by decide +kernel)
theorem km_X4_206 : Cond.methodLink RX4 206 yX4_readNext ∈ wAll := inA 642 (by decide +kernel) (by decide +kernel)
theorem km_X4_197 : Cond.methodLink RX4 197 yX3_isRecord ∈ wAll := inA 646 (by decide +kernel) (by decide +kernel)
theorem km_X4_200 : Cond.methodLink RX4 200 yX1_note ∈ wAll := inA 647 (by decide +kernel) (by decide +kernel)
theorem kn_X1_39 : Cond.methodLinkNest RX1 39 yX8_at RX8 ∈ lw_tbl ∧ isNest (.methodLinkNest RX1 39 yX8_at RX8) = true := inN 651 (by decide +kernel) rfl
theorem kn_X1_55 : Cond.methodLinkNest RX1 55 yX8_set RX8 ∈ lw_tbl ∧ isNest (.methodLinkNest RX1 55 yX8_set RX8) = true := inN 652 (by decide +kernel) rfl
theorem km_X2_146 : Cond.methodLink RX2 146 yX4_maskBy ∈ wAll := inA 653 (by decide +kernel) (by decide +kernel)
theorem km_X2_149 : Cond.methodLink RX2 149 yX4_changePages ∈ wAll := inA 657 (by decide +kernel) (by decide +kernel)
theorem km_X4_209 : Cond.methodLink RX4 209 yX4_turnByOne ∈ wAll := inA 661 (by decide +kernel) (by decide +kernel)
theorem km_L_29 : Cond.methodLink RL 29 yX8_fault ∈ wAll := inA 665 (by decide +kernel) (by decide +kernel)
theorem km_L_34 : Cond.methodLink RL 34 yX8_tick ∈ wAll := inA 669 (by decide +kernel) (by decide +kernel)
theorem km_X8_79 : Cond.methodLink RX8 79 yX4_goOn ∈ wAll := inA 673 (by decide +kernel) (by decide +kernel)
theorem km_L_39 : Cond.methodLink RL 39 yX8_take ∈ wAll := inA 674 (by decide +kernel) (by decide +kernel)
theorem km_X8_83 : Cond.methodLink RX8 83 yX4_takeRoom ∈ wAll := inA 678 (by decide +kernel) (by decide +kernel)
theorem km_L_44 : Cond.methodLink RL 44 yX8_put ∈ wAll := inA 679 (by decide +kernel) (by decide +kernel)
theorem km_X8_87 : Cond.methodLink RX8 87 yX4_putData ∈ wAll := inA 683 (by decide +kernel) (by decide +kernel)
theorem km_L_48 : Cond.methodLink RL 48 yX8_end ∈ wAll := inA 684 (by decide +kernel) (by decide +kernel)
theorem km_X8_90 : Cond.methodLink RX8 90 yX4_endInnermost ∈ wAll := inA 688 (by decide +kernel) (by decide +kernel)
theorem km_L_52 : Cond.methodLink RL 52 yX8_drop ∈ wAll := inA 689 (by decide +kernel) (by decide +kernel)
theorem km_X8_93 : Cond.methodLink RX8 93 yX4_dropInnermost ∈ wAll := inA 693 (by decide +kernel) (by decide +kernel)
theorem km_L_56 : Cond.methodLink RL 56 yX8_swap ∈ wAll := inA 694 (by decide +kernel) (by decide +kernel)
theorem km_X8_96 : Cond.methodLink RX8 96 yX4_swapHead ∈ wAll := inA 698 (by decide +kernel) (by decide +kernel)
theorem km_L_60 : Cond.methodLink RL 60 yX8_read ∈ wAll := inA 699 (by decide +kernel) (by decide +kernel)
theorem km_X8_100 : Cond.methodLink RX8 100 yX4_readNext ∈ wAll := inA 703 (by decide +kernel) (by decide +kernel)
theorem km_L_64 : Cond.methodLink RL 64 yX8_mode ∈ wAll := inA 704 (by decide +kernel) (by decide +kernel)
theorem km_L_69 : Cond.methodLink RL 69 yX8_mask ∈ wAll := inA 708 (by decide +kernel) (by decide +kernel)
theorem km_X8_108 : Cond.methodLink RX8 108 yX4_maskBy ∈ wAll := inA 712 (by decide +kernel) (by decide +kernel)
theorem km_L_74 : Cond.methodLink RL 74 yX8_resize ∈ wAll := inA 713 (by decide +kernel) (by decide +kernel)
theorem km_X8_112 : Cond.methodLink RX8 112 yX4_changePages ∈ wAll := inA 717 (by decide +kernel) (by decide +kernel)
theorem km_L_78 : Cond.methodLink RL 78 yX8_storm ∈ wAll := inA 718 (by decide +kernel) (by decide +kernel)
theorem km_X8_115 : Cond.methodLink RX8 115 yX8_isStorm ∈ wAll := inA 722 (by decide +kernel) (by decide +kernel)
theorem km_X8_118 : Cond.methodLink RX8 118 yX4_figure ∈ wAll := inA 725 (by decide +kernel) (by decide +kernel)
theorem km_X4_212 : Cond.methodLink RX4 212 yX4_readyRecords ∈ wAll := inA 729 (by decide +kernel) (by decide +kernel)
theorem km_X4_218 : Cond.methodLink RX4 218 yX3_readyRecords ∈ wAll := inA 733 (by decide +kernel) (by decide +kernel)
theorem km_X3_67 : Cond.methodLink RX3 67 yX3_isReady ∈ wAll := inA 737 (by decide +kernel) (by decide +kernel)
theorem km_X4_215 : Cond.methodLink RX4 215 yX4_isTallied ∈ wAll := inA 741 (by decide +kernel) (by decide +kernel)
theorem km_X8_121 : Cond.methodLink RX8 121 yX5_blow ∈ wAll := inA 745 (by decide +kernel) (by decide +kernel)
theorem km_X5_15 : Cond.methodLink RX5 15 yX5_draw ∈ wAll := inA 749 (by decide +kernel) (by decide +kernel)
theorem kc_X5_49 : Cond.constant RX5 49 (1103515245) ∈ wAll := inA 753 (by decide +kernel) (by decide +kernel)
theorem km_X5_19 : Cond.methodLink RX5 19 yX4_goOn ∈ wAll := inA 754 (by decide +kernel) (by decide +kernel)
theorem km_X5_24 : Cond.methodLink RX5 24 yX5_takeOrEnd ∈ wAll := inA 755 (by decide +kernel) (by decide +kernel)
theorem km_X5_28 : Cond.methodLink RX5 28 yX4_innermostLevel ∈ wAll := inA 759 (by decide +kernel) (by decide +kernel)
theorem km_X5_36 : Cond.methodLink RX5 36 yX4_endInnermost ∈ wAll := inA 760 (by decide +kernel) (by decide +kernel)
theorem km_X5_50 : Cond.methodLink RX5 50 yX4_takeRoom ∈ wAll := inA 761 (by decide +kernel) (by decide +kernel)
theorem km_X5_32 : Cond.methodLink RX5 32 yX4_putData ∈ wAll := inA 762 (by decide +kernel) (by decide +kernel)
theorem km_X5_39 : Cond.methodLink RX5 39 yX4_dropInnermost ∈ wAll := inA 763 (by decide +kernel) (by decide +kernel)
theorem km_X5_42 : Cond.methodLink RX5 42 yX4_swapHead ∈ wAll := inA 764 (by decide +kernel) (by decide +kernel)
theorem km_X5_46 : Cond.methodLink RX5 46 yX4_readNext ∈ wAll := inA 765 (by decide +kernel) (by decide +kernel)
theorem km_L_82 : Cond.methodLink RL 82 yX8_count ∈ wAll := inA 766 (by decide +kernel) (by decide +kernel)
theorem km_L_86 : Cond.methodLink RL 86 yX8_page ∈ wAll := inA 770 (by decide +kernel) (by decide +kernel)
theorem km_X8_125 : Cond.methodLink RX8 125 yX4_pageOf ∈ wAll := inA 774 (by decide +kernel) (by decide +kernel)
theorem km_X8_129 : Cond.methodLink RX8 129 yX4_placeOf ∈ wAll := inA 778 (by decide +kernel) (by decide +kernel)
theorem km_X8_132 : Cond.methodLink RX8 132 yX3_figure ∈ wAll := inA 779 (by decide +kernel) (by decide +kernel)
theorem km_X3_70 : Cond.methodLink RX3 70 yX3_recordsFrom ∈ wAll := inA 783 (by decide +kernel) (by decide +kernel)
theorem km_L_90 : Cond.methodLink RL 90 yX8_cell ∈ wAll := inA 784 (by decide +kernel) (by decide +kernel)
theorem km_X8_139 : Cond.methodLink RX8 139 yX8_at ∈ wAll := inA 788 (by decide +kernel) (by decide +kernel)
theorem km_L_94 : Cond.methodLink RL 94 yX8_open ∈ wAll := inA 789 (by decide +kernel) (by decide +kernel)
theorem km_X8_143 : Cond.methodLink RX8 143 yX4_openFigure ∈ wAll := inA 793 (by decide +kernel) (by decide +kernel)
theorem km_X4_219 : Cond.methodLink RX4 219 yX3_itemFigure ∈ wAll := inA 797 (by decide +kernel) (by decide +kernel)
theorem km_L_98 : Cond.methodLink RL 98 yX8_record ∈ wAll := inA 801 (by decide +kernel) (by decide +kernel)
theorem km_X8_146 : Cond.methodLink RX8 146 yX4_readyFigure ∈ wAll := inA 805 (by decide +kernel) (by decide +kernel)
theorem km_X4_222 : Cond.methodLink RX4 222 yX3_itemOfRecord ∈ wAll := inA 809 (by decide +kernel) (by decide +kernel)
theorem km_X4_225 : Cond.methodLink RX4 225 yX3_dataOf ∈ wAll := inA 813 (by decide +kernel) (by decide +kernel)
theorem km_L_102 : Cond.methodLink RL 102 yX8_latest ∈ wAll := inA 817 (by decide +kernel) (by decide +kernel)
theorem km_X8_156 : Cond.methodLink RX8 156 yX3_recordsFrom ∈ wAll := inA 821 (by decide +kernel) (by decide +kernel)
theorem km_X8_163 : Cond.methodLink RX8 163 yX1_figure ∈ wAll := inA 822 (by decide +kernel) (by decide +kernel)
theorem km_L_106 : Cond.methodLink RL 106 yX8_parsed ∈ wAll := inA 826 (by decide +kernel) (by decide +kernel)
theorem km_X8_166 : Cond.methodLink RX8 166 yX3_howManyLie ∈ wAll := inA 830 (by decide +kernel) (by decide +kernel)
theorem km_X3_79 : Cond.methodLink RX3 79 yX3_sizeAt ∈ wAll := inA 834 (by decide +kernel) (by decide +kernel)
theorem km_X3_73 : Cond.methodLink RX3 73 yX3_kindAt ∈ wAll := inA 838 (by decide +kernel) (by decide +kernel)
theorem km_X3_76 : Cond.methodLink RX3 76 yX3_dataAt ∈ wAll := inA 842 (by decide +kernel) (by decide +kernel)
theorem km_X8_169 : Cond.methodLink RX8 169 yX3_parse ∈ wAll := inA 846 (by decide +kernel) (by decide +kernel)
theorem km_X3_82 : Cond.methodLink RX3 82 yX3_deltaToldAt ∈ wAll := inA 850 (by decide +kernel) (by decide +kernel)
theorem km_L_111 : Cond.methodLink RL 111 yX8_between ∈ wAll := inA 854 (by decide +kernel) (by decide +kernel)
theorem km_X8_172 : Cond.methodLink RX8 172 yX4_firstWithin ∈ wAll := inA 858 (by decide +kernel) (by decide +kernel)
theorem km_X4_228 : Cond.methodLink RX4 228 yX3_isReady ∈ wAll := inA 862 (by decide +kernel) (by decide +kernel)
theorem km_X4_231 : Cond.methodLink RX4 231 yX4_isWithin ∈ wAll := inA 863 (by decide +kernel) (by decide +kernel)
theorem km_X8_175 : Cond.methodLink RX8 175 yX4_howManyWithin ∈ wAll := inA 867 (by decide +kernel) (by decide +kernel)
theorem km_L_116 : Cond.methodLink RL 116 yX8_sum ∈ wAll := inA 871 (by decide +kernel) (by decide +kernel)
theorem km_X8_178 : Cond.methodLink RX8 178 yX3_sumOf ∈ wAll := inA 875 (by decide +kernel) (by decide +kernel)
theorem km_L_120 : Cond.methodLink RL 120 yX8_would ∈ wAll := inA 879 (by decide +kernel) (by decide +kernel)
theorem km_X8_181 : Cond.methodLink RX8 181 yX4_wayOf ∈ wAll := inA 883 (by decide +kernel) (by decide +kernel)
theorem km_L_124 : Cond.methodLink RL 124 yX8_room ∈ wAll := inA 884 (by decide +kernel) (by decide +kernel)
theorem km_X8_184 : Cond.methodLink RX8 184 yX4_roomFor ∈ wAll := inA 888 (by decide +kernel) (by decide +kernel)
theorem km_L_128 : Cond.methodLink RL 128 yX8_after ∈ wAll := inA 892 (by decide +kernel) (by decide +kernel)
theorem km_X8_187 : Cond.methodLink RX8 187 yX4_copyFrom ∈ wAll := inA 896 (by decide +kernel) (by decide +kernel)
theorem km_X4_87 : Cond.methodLink RX4 87 yX3_copyFrom ∈ wAll := inA 900 (by decide +kernel) (by decide +kernel)
theorem kn_X3_47 : Cond.methodLinkNest RX3 47 yX8_copyRow RX8 ∈ lw_tbl ∧ isNest (.methodLinkNest RX3 47 yX8_copyRow RX8) = true := inN 904 (by decide +kernel) rfl
theorem km_X8_206 : Cond.methodLink RX8 206 Lib.Math.min.name ∈ wAll := inA 907 (by decide +kernel) (by decide +kernel)
theorem km_X8_211 : Cond.methodLink RX8 211 arraycopyName ∈ wAll := inA 910 (by decide +kernel) (by decide +kernel)
theorem km_X4_91 : Cond.methodLink RX4 91 yX1_copyFrom ∈ wAll := inA 913 (by decide +kernel) (by decide +kernel)
theorem kn_X1_31 : Cond.methodLinkNest RX1 31 yX8_copyRow RX8 ∈ lw_tbl ∧ isNest (.methodLinkNest RX1 31 yX8_copyRow RX8) = true := inN 917 (by decide +kernel) rfl
theorem kn_X4_94 : Cond.methodLinkNest RX4 94 yX8_copyRow RX8 ∈ lw_tbl ∧ isNest (.methodLinkNest RX4 94 yX8_copyRow RX8) = true := inN 918 (by decide +kernel) rfl
theorem km_L_132 : Cond.methodLink RL 132 yX8_fewest ∈ wAll := inA 919 (by decide +kernel) (by decide +kernel)
theorem km_X8_190 : Cond.methodLink RX8 190 yX4_begin ∈ wAll := inA 923 (by decide +kernel) (by decide +kernel)
theorem km_L_136 : Cond.methodLink RL 136 yX8_image ∈ wAll := inA 924 (by decide +kernel) (by decide +kernel)
theorem km_X8_194 : Cond.methodLink RX8 194 yX8_imageOf ∈ wAll := inA 928 (by decide +kernel) (by decide +kernel)
theorem km_X8_200 : Cond.methodLink RX8 200 yX6_copyFrom ∈ wAll := inA 932 (by decide +kernel) (by decide +kernel)
theorem kn_X6_25 : Cond.methodLinkNest RX6 25 yX8_copyRow RX8 ∈ lw_tbl ∧ isNest (.methodLinkNest RX6 25 yX8_copyRow RX8) = true := inN 936 (by decide +kernel) rfl
theorem km_L_140 : Cond.methodLink RL 140 yX8_again ∈ wAll := inA 937 (by decide +kernel) (by decide +kernel)
theorem km_L_12 : Cond.methodLink RL 12 yX9_init ∈ wAll := inA 943 (by decide +kernel) (by decide +kernel)
theorem km_X9_1 : Cond.methodLink RX9 1 objectInit ∈ wAll := inA 946 (by decide +kernel) (by decide +kernel)
theorem km_X9_34 : Cond.methodLink RX9 34 yX9_atFirst ∈ wAll := inA 947 (by decide +kernel) (by decide +kernel)
theorem km_X9_47 : Cond.methodLink RX9 47 yX9_begins ∈ wAll := inA 951 (by decide +kernel) (by decide +kernel)
theorem km_X9_141 : Cond.methodLink RX9 141 yX9_lay ∈ wAll := inA 955 (by decide +kernel) (by decide +kernel)
theorem kf_X9_51 : fOk RX9 51 9 0 := ⟨inA 959 (by decide +kernel) (by decide +kernel), by decide, by decide⟩
theorem kf_X9_7 : fOk RX9 7 9 1 := ⟨inA 960 (by decide +kernel) (by decide +kernel), by decide, by decide⟩
theorem kf_X9_13 : fOk RX9 13 9 2 := ⟨inA 961 (by decide +kernel) (by decide +kernel), by decide, by decide⟩
theorem kf_X9_17 : fOk RX9 17 9 3 := ⟨inA 962 (by decide +kernel) (by decide +kernel), by decide, by decide⟩
theorem kf_X9_56 : fOk RX9 56 9 4 := ⟨inA 963 (by decide +kernel) (by decide +kernel), by decide, by decide⟩
theorem kf_X9_59 : fOk RX9 59 9 5 := ⟨inA 964 (by decide +kernel) (by decide +kernel), by decide, by decide⟩
theorem kf_X9_66 : fOk RX9 66 9 6 := ⟨inA 965 (by decide +kernel) (by decide +kernel), by decide, by decide⟩
theorem kf_X9_73 : fOk RX9 73 9 7 := ⟨inA 966 (by decide +kernel) (by decide +kernel), by decide, by decide⟩
theorem kf_X9_80 : fOk RX9 80 9 8 := ⟨inA 967 (by decide +kernel) (by decide +kernel), by decide, by decide⟩
theorem kf_X9_69 : fOk RX9 69 9 9 := ⟨inA 968 (by decide +kernel) (by decide +kernel), by decide, by decide⟩
theorem kf_X9_83 : fOk RX9 83 9 10 := ⟨inA 969 (by decide +kernel) (by decide +kernel), by decide, by decide⟩
theorem kf_X9_90 : fOk RX9 90 9 11 := ⟨inA 970 (by decide +kernel) (by decide +kernel), by decide, by decide⟩
theorem kf_X9_21 : fOk RX9 21 9 12 := ⟨inA 971 (by decide +kernel) (by decide +kernel), by decide, by decide⟩
theorem kf_X9_37 : fOk RX9 37 9 13 := ⟨inA 972 (by decide +kernel) (by decide +kernel), by decide, by decide⟩
theorem kf_X9_41 : fOk RX9 41 9 14 := ⟨inA 973 (by decide +kernel) (by decide +kernel), by decide, by decide⟩
theorem kf_X9_44 : fOk RX9 44 9 15 := ⟨inA 974 (by decide +kernel) (by decide +kernel), by decide, by decide⟩
theorem kf_X9_24 : fOk RX9 24 9 16 := ⟨inA 975 (by decide +kernel) (by decide +kernel), by decide, by decide⟩
theorem kf_X9_28 : fOk RX9 28 9 17 := ⟨inA 976 (by decide +kernel) (by decide +kernel), by decide, by decide⟩
theorem kf_X9_127 : fOk RX9 127 9 18 := ⟨inA 977 (by decide +kernel) (by decide +kernel), by decide, by decide⟩
theorem kf_X9_31 : fOk RX9 31 9 19 := ⟨inA 978 (by decide +kernel) (by decide +kernel), by decide, by decide⟩
theorem kf_X9_252 : fOk RX9 252 9 20 := ⟨inA 979 (by decide +kernel) (by decide +kernel), by decide, by decide⟩
theorem kf_X9_286 : fOk RX9 286 9 21 := ⟨inA 980 (by decide +kernel) (by decide +kernel), by decide, by decide⟩
theorem kf_X9_289 : fOk RX9 289 9 22 := ⟨inA 981 (by decide +kernel) (by decide +kernel), by decide, by decide⟩
theorem kf_X9_298 : fOk RX9 298 9 23 := ⟨inA 982 (by decide +kernel) (by decide +kernel), by decide, by decide⟩
theorem kf_X9_304 : fOk RX9 304 9 24 := ⟨inA 983 (by decide +kernel) (by decide +kernel), by decide, by decide⟩
theorem kf_X9_301 : fOk RX9 301 9 25 := ⟨inA 984 (by decide +kernel) (by decide +kernel), by decide, by decide⟩
theorem kf_X9_307 : fOk RX9 307 9 26 := ⟨inA 985 (by decide +kernel) (by decide +kernel), by decide, by decide⟩
theorem kf_X9_310 : fOk RX9 310 9 27 := ⟨inA 986 (by decide +kernel) (by decide +kernel), by decide, by decide⟩
theorem kf_X9_313 : fOk RX9 313 9 28 := ⟨inA 987 (by decide +kernel) (by decide +kernel), by decide, by decide⟩
theorem km_L_19 : Cond.methodLink RL 19 yX9_tell ∈ wAll := inA 1048 (by decide +kernel) (by decide +kernel)
theorem kc_X9_54 : Cond.constantLong RX9 54 (255) ∈ wAll := inA 1052 (by decide +kernel) (by decide +kernel)
theorem km_L_24 : Cond.methodLink RL 24 yX9_ring ∈ wAll := inA 1053 (by decide +kernel) (by decide +kernel)
theorem km_X9_137 : Cond.methodLink RX9 137 yX9_readsAll ∈ wAll := inA 1057 (by decide +kernel) (by decide +kernel)
theorem km_X9_93 : Cond.methodLink RX9 93 yX9_token ∈ wAll := inA 1061 (by decide +kernel) (by decide +kernel)
theorem km_X9_62 : Cond.methodLink RX9 62 yX9_see ∈ wAll := inA 1065 (by decide +kernel) (by decide +kernel)
theorem km_X9_76 : Cond.methodLink RX9 76 yX9_in ∈ wAll := inA 1069 (by decide +kernel) (by decide +kernel)
theorem km_X9_130 : Cond.methodLink RX9 130 yX9_ringLine ∈ wAll := inA 1072 (by decide +kernel) (by decide +kernel)
theorem kc_X9_96 : Cond.constantLong RX9 96 (1870030194) ∈ wAll := inA 1076 (by decide +kernel) (by decide +kernel)
theorem kc_X9_98 : Cond.constantLong RX9 98 (125779836236645) ∈ wAll := inA 1077 (by decide +kernel) (by decide +kernel)
theorem kc_X9_100 : Cond.constantLong RX9 100 (482670503283) ∈ wAll := inA 1078 (by decide +kernel) (by decide +kernel)
theorem kc_X9_102 : Cond.constantLong RX9 102 (426903366771) ∈ wAll := inA 1079 (by decide +kernel) (by decide +kernel)
theorem km_X9_86 : Cond.methodLink RX9 86 yX9_fails ∈ wAll := inA 1080 (by decide +kernel) (by decide +kernel)
theorem km_X9_104 : Cond.methodLink RX9 104 yX9_takes ∈ wAll := inA 1084 (by decide +kernel) (by decide +kernel)
theorem km_X9_134 : Cond.methodLink RX9 134 yX9_scriptLine ∈ wAll := inA 1088 (by decide +kernel) (by decide +kernel)
theorem kc_X9_107 : Cond.constantLong RX9 107 (1937203568) ∈ wAll := inA 1092 (by decide +kernel) (by decide +kernel)
theorem kc_X9_109 : Cond.constantLong RX9 109 (439956431717) ∈ wAll := inA 1093 (by decide +kernel) (by decide +kernel)
theorem kc_X9_111 : Cond.constantLong RX9 111 (1952541541) ∈ wAll := inA 1094 (by decide +kernel) (by decide +kernel)
theorem kc_X9_113 : Cond.constantLong RX9 113 (7370100) ∈ wAll := inA 1095 (by decide +kernel) (by decide +kernel)
theorem kc_X9_115 : Cond.constantLong RX9 115 (1953063787) ∈ wAll := inA 1096 (by decide +kernel) (by decide +kernel)
theorem kc_X9_117 : Cond.constantLong RX9 117 (6647396) ∈ wAll := inA 1097 (by decide +kernel) (by decide +kernel)
theorem kc_X9_119 : Cond.constantLong RX9 119 (1685221232) ∈ wAll := inA 1098 (by decide +kernel) (by decide +kernel)
theorem kc_X9_121 : Cond.constantLong RX9 121 (1919246692) ∈ wAll := inA 1099 (by decide +kernel) (by decide +kernel)
theorem kc_X9_123 : Cond.constantLong RX9 123 (1835103083) ∈ wAll := inA 1100 (by decide +kernel) (by decide +kernel)
theorem kc_X9_125 : Cond.constantLong RX9 125 (125780053555813) ∈ wAll := inA 1101 (by decide +kernel) (by decide +kernel)
theorem km_L_33 : Cond.methodLink RL 33 yX9_fault ∈ wAll := inA 1102 (by decide +kernel) (by decide +kernel)
theorem km_L_28 : Cond.methodLink RL 28 yX9_script ∈ wAll := inA 1106 (by decide +kernel) (by decide +kernel)
theorem km_X9_248 : Cond.methodLink RX9 248 yX9_isDone ∈ wAll := inA 1110 (by decide +kernel) (by decide +kernel)
theorem km_X9_220 : Cond.methodLink RX9 220 yX9_ticked ∈ wAll := inA 1114 (by decide +kernel) (by decide +kernel)
theorem kc_X9_216 : Cond.constant RX9 216 (999999) ∈ wAll := inA 1118 (by decide +kernel) (by decide +kernel)
theorem km_X9_223 : Cond.methodLink RX9 223 yX9_taken ∈ wAll := inA 1119 (by decide +kernel) (by decide +kernel)
theorem km_X9_198 : Cond.methodLink RX9 198 yX9_comes ∈ wAll := inA 1123 (by decide +kernel) (by decide +kernel)
theorem km_X9_177 : Cond.methodLink RX9 177 yX9_innermost ∈ wAll := inA 1127 (by decide +kernel) (by decide +kernel)
theorem km_X9_162 : Cond.methodLink RX9 162 yX9_openPage ∈ wAll := inA 1131 (by decide +kernel) (by decide +kernel)
theorem km_X9_165 : Cond.methodLink RX9 165 yX9_openItem ∈ wAll := inA 1135 (by decide +kernel) (by decide +kernel)
theorem km_X9_155 : Cond.methodLink RX9 155 yX9_item ∈ wAll := inA 1139 (by decide +kernel) (by decide +kernel)
theorem km_X9_144 : Cond.methodLink RX9 144 yX9_of ∈ wAll := inA 1143 (by decide +kernel) (by decide +kernel)
theorem km_X9_151 : Cond.methodLink RX9 151 yX9_pageAt ∈ wAll := inA 1147 (by decide +kernel) (by decide +kernel)
theorem km_X9_180 : Cond.methodLink RX9 180 yX9_fits ∈ wAll := inA 1151 (by decide +kernel) (by decide +kernel)
theorem km_X9_168 : Cond.methodLink RX9 168 yX9_deltaIn ∈ wAll := inA 1155 (by decide +kernel) (by decide +kernel)
theorem km_X9_184 : Cond.methodLink RX9 184 yX9_behind ∈ wAll := inA 1159 (by decide +kernel) (by decide +kernel)
theorem km_X9_187 : Cond.methodLink RX9 187 yX9_isOpenIn ∈ wAll := inA 1163 (by decide +kernel) (by decide +kernel)
theorem km_X9_201 : Cond.methodLink RX9 201 yX9_overwrites ∈ wAll := inA 1167 (by decide +kernel) (by decide +kernel)
theorem km_X9_191 : Cond.methodLink RX9 191 yX9_recordsIn ∈ wAll := inA 1171 (by decide +kernel) (by decide +kernel)
theorem km_X9_194 : Cond.methodLink RX9 194 yX9_empties ∈ wAll := inA 1175 (by decide +kernel) (by decide +kernel)
theorem km_X9_204 : Cond.methodLink RX9 204 yX9_lays ∈ wAll := inA 1179 (by decide +kernel) (by decide +kernel)
theorem km_X9_171 : Cond.methodLink RX9 171 yX9_cellIs ∈ wAll := inA 1183 (by decide +kernel) (by decide +kernel)
theorem km_X9_174 : Cond.methodLink RX9 174 yX9_greater ∈ wAll := inA 1187 (by decide +kernel) (by decide +kernel)
theorem km_X9_226 : Cond.methodLink RX9 226 yX9_puts ∈ wAll := inA 1190 (by decide +kernel) (by decide +kernel)
theorem km_X9_229 : Cond.methodLink RX9 229 yX9_ended ∈ wAll := inA 1194 (by decide +kernel) (by decide +kernel)
theorem km_X9_207 : Cond.methodLink RX9 207 yX9_closes ∈ wAll := inA 1198 (by decide +kernel) (by decide +kernel)
theorem km_X9_232 : Cond.methodLink RX9 232 yX9_dropped ∈ wAll := inA 1202 (by decide +kernel) (by decide +kernel)
theorem km_X9_210 : Cond.methodLink RX9 210 yX9_startOf ∈ wAll := inA 1206 (by decide +kernel) (by decide +kernel)
theorem km_X9_159 : Cond.methodLink RX9 159 yX9_endOf ∈ wAll := inA 1210 (by decide +kernel) (by decide +kernel)
theorem km_X9_235 : Cond.methodLink RX9 235 yX9_swapped ∈ wAll := inA 1214 (by decide +kernel) (by decide +kernel)
theorem km_X9_239 : Cond.methodLink RX9 239 yX9_readMany ∈ wAll := inA 1218 (by decide +kernel) (by decide +kernel)
theorem km_X9_217 : Cond.methodLink RX9 217 yX9_readOne ∈ wAll := inA 1222 (by decide +kernel) (by decide +kernel)
theorem km_X9_242 : Cond.methodLink RX9 242 yX9_masked ∈ wAll := inA 1226 (by decide +kernel) (by decide +kernel)
theorem km_X9_245 : Cond.methodLink RX9 245 yX9_resized ∈ wAll := inA 1230 (by decide +kernel) (by decide +kernel)
theorem km_X9_148 : Cond.methodLink RX9 148 yX9_live ∈ wAll := inA 1234 (by decide +kernel) (by decide +kernel)
theorem km_X9_213 : Cond.methodLink RX9 213 yX9_livePage ∈ wAll := inA 1238 (by decide +kernel) (by decide +kernel)
theorem km_L_38 : Cond.methodLink RL 38 yX9_tick ∈ wAll := inA 1242 (by decide +kernel) (by decide +kernel)
theorem km_L_43 : Cond.methodLink RL 43 yX9_take ∈ wAll := inA 1246 (by decide +kernel) (by decide +kernel)
theorem km_X9_262 : Cond.methodLink RX9 262 yX9_isTake ∈ wAll := inA 1250 (by decide +kernel) (by decide +kernel)
theorem km_L_47 : Cond.methodLink RL 47 yX9_put ∈ wAll := inA 1253 (by decide +kernel) (by decide +kernel)
theorem km_L_51 : Cond.methodLink RL 51 yX9_end ∈ wAll := inA 1257 (by decide +kernel) (by decide +kernel)
theorem km_L_55 : Cond.methodLink RL 55 yX9_drop ∈ wAll := inA 1261 (by decide +kernel) (by decide +kernel)
theorem km_L_59 : Cond.methodLink RL 59 yX9_swap ∈ wAll := inA 1265 (by decide +kernel) (by decide +kernel)
theorem km_L_63 : Cond.methodLink RL 63 yX9_read ∈ wAll := inA 1269 (by decide +kernel) (by decide +kernel)
theorem km_L_68 : Cond.methodLink RL 68 yX9_mode ∈ wAll := inA 1273 (by decide +kernel) (by decide +kernel)
theorem km_L_73 : Cond.methodLink RL 73 yX9_mask ∈ wAll := inA 1277 (by decide +kernel) (by decide +kernel)
theorem km_L_77 : Cond.methodLink RL 77 yX9_resize ∈ wAll := inA 1281 (by decide +kernel) (by decide +kernel)
theorem km_L_81 : Cond.methodLink RL 81 yX9_storm ∈ wAll := inA 1285 (by decide +kernel) (by decide +kernel)
theorem km_X9_265 : Cond.methodLink RX9 265 yX9_storms ∈ wAll := inA 1289 (by decide +kernel) (by decide +kernel)
theorem km_X9_259 : Cond.methodLink RX9 259 yX9_blows ∈ wAll := inA 1293 (by decide +kernel) (by decide +kernel)
theorem km_X9_256 : Cond.methodLink RX9 256 yX9_drawn ∈ wAll := inA 1297 (by decide +kernel) (by decide +kernel)
theorem kc_X9_255 : Cond.constant RX9 255 (1103515245) ∈ wAll := inA 1301 (by decide +kernel) (by decide +kernel)
theorem km_L_85 : Cond.methodLink RL 85 yX9_count ∈ wAll := inA 1302 (by decide +kernel) (by decide +kernel)
theorem km_X9_274 : Cond.methodLink RX9 274 yX9_isCount ∈ wAll := inA 1306 (by decide +kernel) (by decide +kernel)
theorem km_X9_277 : Cond.methodLink RX9 277 yX9_told ∈ wAll := inA 1310 (by decide +kernel) (by decide +kernel)
theorem km_X9_271 : Cond.methodLink RX9 271 yX9_readyMany ∈ wAll := inA 1314 (by decide +kernel) (by decide +kernel)
theorem km_X9_268 : Cond.methodLink RX9 268 yX9_isReady ∈ wAll := inA 1318 (by decide +kernel) (by decide +kernel)
theorem km_L_89 : Cond.methodLink RL 89 yX9_page ∈ wAll := inA 1322 (by decide +kernel) (by decide +kernel)
theorem km_X9_280 : Cond.methodLink RX9 280 yX9_placeOf ∈ wAll := inA 1326 (by decide +kernel) (by decide +kernel)
theorem km_L_93 : Cond.methodLink RL 93 yX9_cell ∈ wAll := inA 1330 (by decide +kernel) (by decide +kernel)
theorem km_L_97 : Cond.methodLink RL 97 yX9_open ∈ wAll := inA 1334 (by decide +kernel) (by decide +kernel)
theorem km_X9_283 : Cond.methodLink RX9 283 yX9_liveOf ∈ wAll := inA 1338 (by decide +kernel) (by decide +kernel)
theorem km_L_101 : Cond.methodLink RL 101 yX9_record ∈ wAll := inA 1342 (by decide +kernel) (by decide +kernel)
theorem km_X9_292 : Cond.methodLink RX9 292 yX9_finds ∈ wAll := inA 1346 (by decide +kernel) (by decide +kernel)
theorem km_L_105 : Cond.methodLink RL 105 yX9_latest ∈ wAll := inA 1350 (by decide +kernel) (by decide +kernel)
theorem km_X9_295 : Cond.methodLink RX9 295 yX9_notRead ∈ wAll := inA 1354 (by decide +kernel) (by decide +kernel)
theorem km_L_110 : Cond.methodLink RL 110 yX9_parsed ∈ wAll := inA 1358 (by decide +kernel) (by decide +kernel)
theorem km_X9_316 : Cond.methodLink RX9 316 yX9_parses ∈ wAll := inA 1362 (by decide +kernel) (by decide +kernel)
theorem km_L_115 : Cond.methodLink RL 115 yX9_between ∈ wAll := inA 1366 (by decide +kernel) (by decide +kernel)
theorem km_L_119 : Cond.methodLink RL 119 yX9_sum ∈ wAll := inA 1370 (by decide +kernel) (by decide +kernel)
theorem km_L_123 : Cond.methodLink RL 123 yX9_would ∈ wAll := inA 1374 (by decide +kernel) (by decide +kernel)
theorem km_L_127 : Cond.methodLink RL 127 yX9_room ∈ wAll := inA 1378 (by decide +kernel) (by decide +kernel)
theorem km_X9_320 : Cond.methodLink RX9 320 yX9_copies ∈ wAll := inA 1382 (by decide +kernel) (by decide +kernel)
theorem km_X9_323 : Cond.methodLink RX9 323 yX9_back ∈ wAll := inA 1386 (by decide +kernel) (by decide +kernel)
theorem km_L_131 : Cond.methodLink RL 131 yX9_after ∈ wAll := inA 1390 (by decide +kernel) (by decide +kernel)
theorem km_L_135 : Cond.methodLink RL 135 yX9_fewest ∈ wAll := inA 1394 (by decide +kernel) (by decide +kernel)
theorem km_L_139 : Cond.methodLink RL 139 yX9_image ∈ wAll := inA 1398 (by decide +kernel) (by decide +kernel)
theorem km_X9_326 : Cond.methodLink RX9 326 yX9_copiesText ∈ wAll := inA 1402 (by decide +kernel) (by decide +kernel)
theorem km_L_143 : Cond.methodLink RL 143 yX9_again ∈ wAll := inA 1406 (by decide +kernel) (by decide +kernel)
theorem kc_L_13 : Cond.constantLong RL 13 (4294967295) ∈ wAll := inA 1410 (by decide +kernel) (by decide +kernel)
theorem ki_X8_init : iOk yX8_init cX8_init 2 0 := ⟨inA 78 (by decide +kernel) (by decide +kernel), inA 77 (by decide +kernel) (by decide +kernel), inA 59 (by decide +kernel) (by decide +kernel), rfl, by decide +kernel, by decide +kernel, by decide +kernel⟩
theorem ki_X4_init : iOk yX4_init cX4_init 2 0 := ⟨inA 86 (by decide +kernel) (by decide +kernel), inA 85 (by decide +kernel) (by decide +kernel), inA 60 (by decide +kernel) (by decide +kernel), rfl, by decide +kernel, by decide +kernel, by decide +kernel⟩
theorem ki_X1_init : iOk yX1_init cX1_init 1 0 := ⟨inA 94 (by decide +kernel) (by decide +kernel), inA 93 (by decide +kernel) (by decide +kernel), inA 61 (by decide +kernel) (by decide +kernel), rfl, by decide +kernel, by decide +kernel, by decide +kernel⟩
theorem ki_X3_init : iOk yX3_init cX3_init 1 0 := ⟨inA 120 (by decide +kernel) (by decide +kernel), inA 119 (by decide +kernel) (by decide +kernel), inA 62 (by decide +kernel) (by decide +kernel), rfl, by decide +kernel, by decide +kernel, by decide +kernel⟩
theorem ky_X4_begin : mOk yX4_begin cX4_begin 5 none 3 := ⟨inA 176 (by decide +kernel) (by decide +kernel), inA 174 (by decide +kernel) (by decide +kernel), inA 175 (by decide +kernel) (by decide +kernel), inA 60 (by decide +kernel) (by decide +kernel), by decide +kernel, by decide +kernel, by decide +kernel⟩
theorem ky_X4_pageAt : mOk yX4_pageAt cX4_pageAt 2 (some (.object "TraceRing$Page")) 1 := ⟨inA 180 (by decide +kernel) (by decide +kernel), inA 178 (by decide +kernel) (by decide +kernel), inA 179 (by decide +kernel) (by decide +kernel), inA 60 (by decide +kernel) (by decide +kernel), by decide +kernel, by decide +kernel, by decide +kernel⟩
theorem ky_X3_clear : mOk yX3_clear cX3_clear 2 none 0 := ⟨inA 184 (by decide +kernel) (by decide +kernel), inA 182 (by decide +kernel) (by decide +kernel), inA 183 (by decide +kernel) (by decide +kernel), inA 62 (by decide +kernel) (by decide +kernel), by decide +kernel, by decide +kernel, by decide +kernel⟩
theorem ks_X8_set : sOk yX8_set cX8_set 3 none 3 := ⟨inA 187 (by decide +kernel) (by decide +kernel), inA 186 (by decide +kernel) (by decide +kernel), inA 59 (by decide +kernel) (by decide +kernel), by decide +kernel, by decide +kernel, by decide +kernel⟩
theorem ky_X1_clear : mOk yX1_clear cX1_clear 1 none 0 := ⟨inA 191 (by decide +kernel) (by decide +kernel), inA 189 (by decide +kernel) (by decide +kernel), inA 190 (by decide +kernel) (by decide +kernel), inA 61 (by decide +kernel) (by decide +kernel), by decide +kernel, by decide +kernel, by decide +kernel⟩
theorem ki_X6_init : iOk yX6_init cX6_init 1 0 := ⟨inA 251 (by decide +kernel) (by decide +kernel), inA 250 (by decide +kernel) (by decide +kernel), inA 63 (by decide +kernel) (by decide +kernel), rfl, by decide +kernel, by decide +kernel, by decide +kernel⟩
theorem ki_X2_init : iOk yX2_init cX2_init 1 0 := ⟨inA 288 (by decide +kernel) (by decide +kernel), inA 287 (by decide +kernel) (by decide +kernel), inA 64 (by decide +kernel) (by decide +kernel), rfl, by decide +kernel, by decide +kernel, by decide +kernel⟩
theorem ki_X5_init : iOk yX5_init cX5_init 1 0 := ⟨inA 310 (by decide +kernel) (by decide +kernel), inA 309 (by decide +kernel) (by decide +kernel), inA 65 (by decide +kernel) (by decide +kernel), rfl, by decide +kernel, by decide +kernel, by decide +kernel⟩
theorem ki_X0_init : iOk yX0_init cX0_init 1 0 := ⟨inA 321 (by decide +kernel) (by decide +kernel), inA 320 (by decide +kernel) (by decide +kernel), inA 66 (by decide +kernel) (by decide +kernel), rfl, by decide +kernel, by decide +kernel, by decide +kernel⟩
theorem ky_X8_tell : mOk yX8_tell cX8_tell 3 (some (.int)) 1 := ⟨inA 361 (by decide +kernel) (by decide +kernel), inA 359 (by decide +kernel) (by decide +kernel), inA 360 (by decide +kernel) (by decide +kernel), inA 59 (by decide +kernel) (by decide +kernel), by decide +kernel, by decide +kernel, by decide +kernel⟩
theorem ky_X6_append : mOk yX6_append cX6_append 5 (some (.int)) 1 := ⟨inA 365 (by decide +kernel) (by decide +kernel), inA 363 (by decide +kernel) (by decide +kernel), inA 364 (by decide +kernel) (by decide +kernel), inA 63 (by decide +kernel) (by decide +kernel), by decide +kernel, by decide +kernel, by decide +kernel⟩
theorem ky_X6_byteOf : mOk yX6_byteOf cX6_byteOf 4 (some (.int)) 2 := ⟨inA 369 (by decide +kernel) (by decide +kernel), inA 367 (by decide +kernel) (by decide +kernel), inA 368 (by decide +kernel) (by decide +kernel), inA 63 (by decide +kernel) (by decide +kernel), by decide +kernel, by decide +kernel, by decide +kernel⟩
theorem ky_X8_ring : mOk yX8_ring cX8_ring 2 (some (.int)) 0 := ⟨inA 375 (by decide +kernel) (by decide +kernel), inA 373 (by decide +kernel) (by decide +kernel), inA 374 (by decide +kernel) (by decide +kernel), inA 59 (by decide +kernel) (by decide +kernel), by decide +kernel, by decide +kernel, by decide +kernel⟩
theorem ky_X2_understand : mOk yX2_understand cX2_understand 4 (some (.boolean)) 3 := ⟨inA 379 (by decide +kernel) (by decide +kernel), inA 377 (by decide +kernel) (by decide +kernel), inA 378 (by decide +kernel) (by decide +kernel), inA 64 (by decide +kernel) (by decide +kernel), by decide +kernel, by decide +kernel, by decide +kernel⟩
theorem ky_X6_blame : mOk yX6_blame cX6_blame 3 none 2 := ⟨inA 383 (by decide +kernel) (by decide +kernel), inA 381 (by decide +kernel) (by decide +kernel), inA 382 (by decide +kernel) (by decide +kernel), inA 63 (by decide +kernel) (by decide +kernel), by decide +kernel, by decide +kernel, by decide +kernel⟩
theorem ky_X6_goToFirst : mOk yX6_goToFirst cX6_goToFirst 1 none 0 := ⟨inA 387 (by decide +kernel) (by decide +kernel), inA 385 (by decide +kernel) (by decide +kernel), inA 386 (by decide +kernel) (by decide +kernel), inA 63 (by decide +kernel) (by decide +kernel), by decide +kernel, by decide +kernel, by decide +kernel⟩
theorem ky_X6_goToNext : mOk yX6_goToNext cX6_goToNext 2 none 0 := ⟨inA 391 (by decide +kernel) (by decide +kernel), inA 389 (by decide +kernel) (by decide +kernel), inA 390 (by decide +kernel) (by decide +kernel), inA 63 (by decide +kernel) (by decide +kernel), by decide +kernel, by decide +kernel, by decide +kernel⟩
theorem ky_X6_byteAt : mOk yX6_byteAt cX6_byteAt 2 (some (.int)) 1 := ⟨inA 395 (by decide +kernel) (by decide +kernel), inA 393 (by decide +kernel) (by decide +kernel), inA 394 (by decide +kernel) (by decide +kernel), inA 63 (by decide +kernel) (by decide +kernel), by decide +kernel, by decide +kernel, by decide +kernel⟩
theorem ks_X8_at : sOk yX8_at cX8_at 2 (some (.int)) 2 := ⟨inA 398 (by decide +kernel) (by decide +kernel), inA 397 (by decide +kernel) (by decide +kernel), inA 59 (by decide +kernel) (by decide +kernel), by decide +kernel, by decide +kernel, by decide +kernel⟩
theorem ky_X6_isBlank : mOk yX6_isBlank cX6_isBlank 2 (some (.boolean)) 1 := ⟨inA 402 (by decide +kernel) (by decide +kernel), inA 400 (by decide +kernel) (by decide +kernel), inA 401 (by decide +kernel) (by decide +kernel), inA 63 (by decide +kernel) (by decide +kernel), by decide +kernel, by decide +kernel, by decide +kernel⟩
theorem ky_X6_isLetter : mOk yX6_isLetter cX6_isLetter 2 (some (.boolean)) 1 := ⟨inA 406 (by decide +kernel) (by decide +kernel), inA 404 (by decide +kernel) (by decide +kernel), inA 405 (by decide +kernel) (by decide +kernel), inA 63 (by decide +kernel) (by decide +kernel), by decide +kernel, by decide +kernel, by decide +kernel⟩
theorem ky_X6_passWord : mOk yX6_passWord cX6_passWord 1 none 0 := ⟨inA 410 (by decide +kernel) (by decide +kernel), inA 408 (by decide +kernel) (by decide +kernel), inA 409 (by decide +kernel) (by decide +kernel), inA 63 (by decide +kernel) (by decide +kernel), by decide +kernel, by decide +kernel, by decide +kernel⟩
theorem ky_X6_isDigit : mOk yX6_isDigit cX6_isDigit 2 (some (.boolean)) 1 := ⟨inA 414 (by decide +kernel) (by decide +kernel), inA 412 (by decide +kernel) (by decide +kernel), inA 413 (by decide +kernel) (by decide +kernel), inA 63 (by decide +kernel) (by decide +kernel), by decide +kernel, by decide +kernel, by decide +kernel⟩
theorem ky_X6_passNumber : mOk yX6_passNumber cX6_passNumber 1 none 0 := ⟨inA 418 (by decide +kernel) (by decide +kernel), inA 416 (by decide +kernel) (by decide +kernel), inA 417 (by decide +kernel) (by decide +kernel), inA 63 (by decide +kernel) (by decide +kernel), by decide +kernel, by decide +kernel, by decide +kernel⟩
theorem ky_X2_passLine : mOk yX2_passLine cX2_passLine 6 (some (.boolean)) 3 := ⟨inA 422 (by decide +kernel) (by decide +kernel), inA 420 (by decide +kernel) (by decide +kernel), inA 421 (by decide +kernel) (by decide +kernel), inA 64 (by decide +kernel) (by decide +kernel), by decide +kernel, by decide +kernel, by decide +kernel⟩
theorem ky_X2_verbHere : mOk yX2_verbHere cX2_verbHere 5 (some (.int)) 3 := ⟨inA 426 (by decide +kernel) (by decide +kernel), inA 424 (by decide +kernel) (by decide +kernel), inA 425 (by decide +kernel) (by decide +kernel), inA 64 (by decide +kernel) (by decide +kernel), by decide +kernel, by decide +kernel, by decide +kernel⟩
theorem ky_X2_wordOf : mOk yX2_wordOf cX2_wordOf 2 (some (.object "java/lang/String")) 1 := ⟨inA 430 (by decide +kernel) (by decide +kernel), inA 428 (by decide +kernel) (by decide +kernel), inA 429 (by decide +kernel) (by decide +kernel), inA 64 (by decide +kernel) (by decide +kernel), by decide +kernel, by decide +kernel, by decide +kernel⟩
theorem ky_X6_isThisWord : mOk yX6_isThisWord cX6_isThisWord 3 (some (.boolean)) 1 := ⟨inA 448 (by decide +kernel) (by decide +kernel), inA 446 (by decide +kernel) (by decide +kernel), inA 447 (by decide +kernel) (by decide +kernel), inA 63 (by decide +kernel) (by decide +kernel), by decide +kernel, by decide +kernel, by decide +kernel⟩
theorem ky_X2_numbersOf : mOk yX2_numbersOf cX2_numbersOf 2 (some (.int)) 1 := ⟨inA 502 (by decide +kernel) (by decide +kernel), inA 500 (by decide +kernel) (by decide +kernel), inA 501 (by decide +kernel) (by decide +kernel), inA 64 (by decide +kernel) (by decide +kernel), by decide +kernel, by decide +kernel, by decide +kernel⟩
theorem ky_X2_canBe : mOk yX2_canBe cX2_canBe 4 (some (.boolean)) 3 := ⟨inA 506 (by decide +kernel) (by decide +kernel), inA 504 (by decide +kernel) (by decide +kernel), inA 505 (by decide +kernel) (by decide +kernel), inA 64 (by decide +kernel) (by decide +kernel), by decide +kernel, by decide +kernel, by decide +kernel⟩
theorem ky_X2_isLevel : mOk yX2_isLevel cX2_isLevel 2 (some (.boolean)) 1 := ⟨inA 510 (by decide +kernel) (by decide +kernel), inA 508 (by decide +kernel) (by decide +kernel), inA 509 (by decide +kernel) (by decide +kernel), inA 64 (by decide +kernel) (by decide +kernel), by decide +kernel, by decide +kernel, by decide +kernel⟩
theorem ky_X2_found : mOk yX2_found cX2_found 7 none 1 := ⟨inA 514 (by decide +kernel) (by decide +kernel), inA 512 (by decide +kernel) (by decide +kernel), inA 513 (by decide +kernel) (by decide +kernel), inA 64 (by decide +kernel) (by decide +kernel), by decide +kernel, by decide +kernel, by decide +kernel⟩
theorem ky_X8_script : mOk yX8_script cX8_script 2 (some (.int)) 0 := ⟨inA 521 (by decide +kernel) (by decide +kernel), inA 519 (by decide +kernel) (by decide +kernel), inA 520 (by decide +kernel) (by decide +kernel), inA 59 (by decide +kernel) (by decide +kernel), by decide +kernel, by decide +kernel, by decide +kernel⟩
theorem ky_X2_carryOut : mOk yX2_carryOut cX2_carryOut 3 (some (.int)) 1 := ⟨inA 525 (by decide +kernel) (by decide +kernel), inA 523 (by decide +kernel) (by decide +kernel), inA 524 (by decide +kernel) (by decide +kernel), inA 64 (by decide +kernel) (by decide +kernel), by decide +kernel, by decide +kernel, by decide +kernel⟩
theorem ky_X2_doLine : mOk yX2_doLine cX2_doLine 5 (some (.boolean)) 2 := ⟨inA 529 (by decide +kernel) (by decide +kernel), inA 527 (by decide +kernel) (by decide +kernel), inA 528 (by decide +kernel) (by decide +kernel), inA 64 (by decide +kernel) (by decide +kernel), by decide +kernel, by decide +kernel, by decide +kernel⟩
theorem ky_X4_goOn : mOk yX4_goOn cX4_goOn 2 (some (.int)) 1 := ⟨inA 533 (by decide +kernel) (by decide +kernel), inA 531 (by decide +kernel) (by decide +kernel), inA 532 (by decide +kernel) (by decide +kernel), inA 60 (by decide +kernel) (by decide +kernel), by decide +kernel, by decide +kernel, by decide +kernel⟩
theorem ky_X4_takeRoom : mOk yX4_takeRoom cX4_takeRoom 4 (some (.int)) 2 := ⟨inA 538 (by decide +kernel) (by decide +kernel), inA 536 (by decide +kernel) (by decide +kernel), inA 537 (by decide +kernel) (by decide +kernel), inA 60 (by decide +kernel) (by decide +kernel), by decide +kernel, by decide +kernel, by decide +kernel⟩
theorem ky_X4_wayOf : mOk yX4_wayOf cX4_wayOf 4 (some (.int)) 2 := ⟨inA 542 (by decide +kernel) (by decide +kernel), inA 540 (by decide +kernel) (by decide +kernel), inA 541 (by decide +kernel) (by decide +kernel), inA 60 (by decide +kernel) (by decide +kernel), by decide +kernel, by decide +kernel, by decide +kernel⟩
theorem ky_X4_innermostLevel : mOk yX4_innermostLevel cX4_innermostLevel 2 (some (.int)) 0 := ⟨inA 546 (by decide +kernel) (by decide +kernel), inA 544 (by decide +kernel) (by decide +kernel), inA 545 (by decide +kernel) (by decide +kernel), inA 60 (by decide +kernel) (by decide +kernel), by decide +kernel, by decide +kernel, by decide +kernel⟩
theorem ky_X4_tailPlace : mOk yX4_tailPlace cX4_tailPlace 1 (some (.int)) 0 := ⟨inA 551 (by decide +kernel) (by decide +kernel), inA 549 (by decide +kernel) (by decide +kernel), inA 550 (by decide +kernel) (by decide +kernel), inA 60 (by decide +kernel) (by decide +kernel), by decide +kernel, by decide +kernel, by decide +kernel⟩
theorem ky_X4_placeOf : mOk yX4_placeOf cX4_placeOf 3 (some (.int)) 1 := ⟨inA 555 (by decide +kernel) (by decide +kernel), inA 553 (by decide +kernel) (by decide +kernel), inA 554 (by decide +kernel) (by decide +kernel), inA 60 (by decide +kernel) (by decide +kernel), by decide +kernel, by decide +kernel, by decide +kernel⟩
theorem ky_X3_sizeFor : mOk yX3_sizeFor cX3_sizeFor 3 (some (.int)) 2 := ⟨inA 559 (by decide +kernel) (by decide +kernel), inA 557 (by decide +kernel) (by decide +kernel), inA 558 (by decide +kernel) (by decide +kernel), inA 62 (by decide +kernel) (by decide +kernel), by decide +kernel, by decide +kernel, by decide +kernel⟩
theorem ky_X3_deltaAt : mOk yX3_deltaAt cX3_deltaAt 3 (some (.int)) 1 := ⟨inA 563 (by decide +kernel) (by decide +kernel), inA 561 (by decide +kernel) (by decide +kernel), inA 562 (by decide +kernel) (by decide +kernel), inA 62 (by decide +kernel) (by decide +kernel), by decide +kernel, by decide +kernel, by decide +kernel⟩
theorem ky_X4_isOpenIn : mOk yX4_isOpenIn cX4_isOpenIn 3 (some (.boolean)) 1 := ⟨inA 567 (by decide +kernel) (by decide +kernel), inA 565 (by decide +kernel) (by decide +kernel), inA 566 (by decide +kernel) (by decide +kernel), inA 60 (by decide +kernel) (by decide +kernel), by decide +kernel, by decide +kernel, by decide +kernel⟩
theorem ky_X4_raise : mOk yX4_raise cX4_raise 3 none 2 := ⟨inA 571 (by decide +kernel) (by decide +kernel), inA 569 (by decide +kernel) (by decide +kernel), inA 570 (by decide +kernel) (by decide +kernel), inA 60 (by decide +kernel) (by decide +kernel), by decide +kernel, by decide +kernel, by decide +kernel⟩
theorem ky_X4_overwriteHead : mOk yX4_overwriteHead cX4_overwriteHead 3 (some (.int)) 0 := ⟨inA 575 (by decide +kernel) (by decide +kernel), inA 573 (by decide +kernel) (by decide +kernel), inA 574 (by decide +kernel) (by decide +kernel), inA 60 (by decide +kernel) (by decide +kernel), by decide +kernel, by decide +kernel, by decide +kernel⟩
theorem ky_X3_recordsFrom : mOk yX3_recordsFrom cX3_recordsFrom 4 (some (.int)) 1 := ⟨inA 579 (by decide +kernel) (by decide +kernel), inA 577 (by decide +kernel) (by decide +kernel), inA 578 (by decide +kernel) (by decide +kernel), inA 62 (by decide +kernel) (by decide +kernel), by decide +kernel, by decide +kernel, by decide +kernel⟩
theorem ky_X3_isRecord : mOk yX3_isRecord cX3_isRecord 2 (some (.boolean)) 1 := ⟨inA 583 (by decide +kernel) (by decide +kernel), inA 581 (by decide +kernel) (by decide +kernel), inA 582 (by decide +kernel) (by decide +kernel), inA 62 (by decide +kernel) (by decide +kernel), by decide +kernel, by decide +kernel, by decide +kernel⟩
theorem ky_X4_openBehindTail : mOk yX4_openBehindTail cX4_openBehindTail 5 none 2 := ⟨inA 587 (by decide +kernel) (by decide +kernel), inA 585 (by decide +kernel) (by decide +kernel), inA 586 (by decide +kernel) (by decide +kernel), inA 60 (by decide +kernel) (by decide +kernel), by decide +kernel, by decide +kernel, by decide +kernel⟩
theorem ky_X3_layDown : mOk yX3_layDown cX3_layDown 9 (some (.int)) 4 := ⟨inA 592 (by decide +kernel) (by decide +kernel), inA 590 (by decide +kernel) (by decide +kernel), inA 591 (by decide +kernel) (by decide +kernel), inA 62 (by decide +kernel) (by decide +kernel), by decide +kernel, by decide +kernel, by decide +kernel⟩
theorem ky_X4_raiseTo : mOk yX4_raiseTo cX4_raiseTo 3 none 2 := ⟨inA 597 (by decide +kernel) (by decide +kernel), inA 595 (by decide +kernel) (by decide +kernel), inA 596 (by decide +kernel) (by decide +kernel), inA 60 (by decide +kernel) (by decide +kernel), by decide +kernel, by decide +kernel, by decide +kernel⟩
theorem ky_X4_putData : mOk yX4_putData cX4_putData 8 (some (.int)) 2 := ⟨inA 604 (by decide +kernel) (by decide +kernel), inA 602 (by decide +kernel) (by decide +kernel), inA 603 (by decide +kernel) (by decide +kernel), inA 60 (by decide +kernel) (by decide +kernel), by decide +kernel, by decide +kernel, by decide +kernel⟩
theorem ky_X4_isInnermost : mOk yX4_isInnermost cX4_isInnermost 2 (some (.boolean)) 1 := ⟨inA 608 (by decide +kernel) (by decide +kernel), inA 606 (by decide +kernel) (by decide +kernel), inA 607 (by decide +kernel) (by decide +kernel), inA 60 (by decide +kernel) (by decide +kernel), by decide +kernel, by decide +kernel, by decide +kernel⟩
theorem ky_X4_endInnermost : mOk yX4_endInnermost cX4_endInnermost 6 (some (.int)) 1 := ⟨inA 612 (by decide +kernel) (by decide +kernel), inA 610 (by decide +kernel) (by decide +kernel), inA 611 (by decide +kernel) (by decide +kernel), inA 60 (by decide +kernel) (by decide +kernel), by decide +kernel, by decide +kernel, by decide +kernel⟩
theorem ky_X4_closeInnermost : mOk yX4_closeInnermost cX4_closeInnermost 3 none 0 := ⟨inA 616 (by decide +kernel) (by decide +kernel), inA 614 (by decide +kernel) (by decide +kernel), inA 615 (by decide +kernel) (by decide +kernel), inA 60 (by decide +kernel) (by decide +kernel), by decide +kernel, by decide +kernel, by decide +kernel⟩
theorem ky_X4_dropInnermost : mOk yX4_dropInnermost cX4_dropInnermost 7 (some (.int)) 1 := ⟨inA 620 (by decide +kernel) (by decide +kernel), inA 618 (by decide +kernel) (by decide +kernel), inA 619 (by decide +kernel) (by decide +kernel), inA 60 (by decide +kernel) (by decide +kernel), by decide +kernel, by decide +kernel, by decide +kernel⟩
theorem ky_X3_takeBack : mOk yX3_takeBack cX3_takeBack 3 none 0 := ⟨inA 624 (by decide +kernel) (by decide +kernel), inA 622 (by decide +kernel) (by decide +kernel), inA 623 (by decide +kernel) (by decide +kernel), inA 62 (by decide +kernel) (by decide +kernel), by decide +kernel, by decide +kernel, by decide +kernel⟩
theorem ky_X3_leaveGap : mOk yX3_leaveGap cX3_leaveGap 5 none 1 := ⟨inA 629 (by decide +kernel) (by decide +kernel), inA 627 (by decide +kernel) (by decide +kernel), inA 628 (by decide +kernel) (by decide +kernel), inA 62 (by decide +kernel) (by decide +kernel), by decide +kernel, by decide +kernel, by decide +kernel⟩
theorem ky_X4_swapHead : mOk yX4_swapHead cX4_swapHead 3 (some (.int)) 1 := ⟨inA 633 (by decide +kernel) (by decide +kernel), inA 631 (by decide +kernel) (by decide +kernel), inA 632 (by decide +kernel) (by decide +kernel), inA 60 (by decide +kernel) (by decide +kernel), by decide +kernel, by decide +kernel, by decide +kernel⟩
theorem ky_X4_canHeadBeHad : mOk yX4_canHeadBeHad cX4_canHeadBeHad 2 (some (.boolean)) 1 := ⟨inA 637 (by decide +kernel) (by decide +kernel), inA 635 (by decide +kernel) (by decide +kernel), inA 636 (by decide +kernel) (by decide +kernel), inA 60 (by decide +kernel) (by decide +kernel), by decide +kernel, by decide +kernel, by decide +kernel⟩
theorem ky_X4_readSome : mOk yX4_readSome cX4_readSome 3 (some (.boolean)) 1 := ⟨inA 641 (by decide +kernel) (by decide +kernel), inA 639 (by decide +kernel) (by decide +kernel), inA 640 (by decide +kernel) (by decide +kernel), inA 60 (by decide +kernel) (by decide +kernel), by decide +kernel, by decide +kernel, by decide +kernel⟩
theorem ky_X4_readNext : mOk yX4_readNext cX4_readNext 2 (some (.int)) 0 := ⟨inA 645 (by decide +kernel) (by decide +kernel), inA 643 (by decide +kernel) (by decide +kernel), inA 644 (by decide +kernel) (by decide +kernel), inA 60 (by decide +kernel) (by decide +kernel), by decide +kernel, by decide +kernel, by decide +kernel⟩
theorem ky_X1_note : mOk yX1_note cX1_note 6 none 2 := ⟨inA 650 (by decide +kernel) (by decide +kernel), inA 648 (by decide +kernel) (by decide +kernel), inA 649 (by decide +kernel) (by decide +kernel), inA 61 (by decide +kernel) (by decide +kernel), by decide +kernel, by decide +kernel, by decide +kernel⟩
theorem ky_X4_maskBy : mOk yX4_maskBy cX4_maskBy 2 (some (.boolean)) 1 := ⟨inA 656 (by decide +kernel) (by decide +kernel), inA 654 (by decide +kernel) (by decide +kernel), inA 655 (by decide +kernel) (by decide +kernel), inA 60 (by decide +kernel) (by decide +kernel), by decide +kernel, by decide +kernel, by decide +kernel⟩
theorem ky_X4_changePages : mOk yX4_changePages cX4_changePages 4 (some (.int)) 1 := ⟨inA 660 (by decide +kernel) (by decide +kernel), inA 658 (by decide +kernel) (by decide +kernel), inA 659 (by decide +kernel) (by decide +kernel), inA 60 (by decide +kernel) (by decide +kernel), by decide +kernel, by decide +kernel, by decide +kernel⟩
theorem ky_X4_turnByOne : mOk yX4_turnByOne cX4_turnByOne 3 none 0 := ⟨inA 664 (by decide +kernel) (by decide +kernel), inA 662 (by decide +kernel) (by decide +kernel), inA 663 (by decide +kernel) (by decide +kernel), inA 60 (by decide +kernel) (by decide +kernel), by decide +kernel, by decide +kernel, by decide +kernel⟩
theorem ky_X8_fault : mOk yX8_fault cX8_fault 2 (some (.int)) 1 := ⟨inA 668 (by decide +kernel) (by decide +kernel), inA 666 (by decide +kernel) (by decide +kernel), inA 667 (by decide +kernel) (by decide +kernel), inA 59 (by decide +kernel) (by decide +kernel), by decide +kernel, by decide +kernel, by decide +kernel⟩
theorem ky_X8_tick : mOk yX8_tick cX8_tick 2 (some (.int)) 1 := ⟨inA 672 (by decide +kernel) (by decide +kernel), inA 670 (by decide +kernel) (by decide +kernel), inA 671 (by decide +kernel) (by decide +kernel), inA 59 (by decide +kernel) (by decide +kernel), by decide +kernel, by decide +kernel, by decide +kernel⟩
theorem ky_X8_take : mOk yX8_take cX8_take 3 (some (.int)) 2 := ⟨inA 677 (by decide +kernel) (by decide +kernel), inA 675 (by decide +kernel) (by decide +kernel), inA 676 (by decide +kernel) (by decide +kernel), inA 59 (by decide +kernel) (by decide +kernel), by decide +kernel, by decide +kernel, by decide +kernel⟩
theorem ky_X8_put : mOk yX8_put cX8_put 3 (some (.int)) 2 := ⟨inA 682 (by decide +kernel) (by decide +kernel), inA 680 (by decide +kernel) (by decide +kernel), inA 681 (by decide +kernel) (by decide +kernel), inA 59 (by decide +kernel) (by decide +kernel), by decide +kernel, by decide +kernel, by decide +kernel⟩
theorem ky_X8_end : mOk yX8_end cX8_end 2 (some (.int)) 1 := ⟨inA 687 (by decide +kernel) (by decide +kernel), inA 685 (by decide +kernel) (by decide +kernel), inA 686 (by decide +kernel) (by decide +kernel), inA 59 (by decide +kernel) (by decide +kernel), by decide +kernel, by decide +kernel, by decide +kernel⟩
theorem ky_X8_drop : mOk yX8_drop cX8_drop 2 (some (.int)) 1 := ⟨inA 692 (by decide +kernel) (by decide +kernel), inA 690 (by decide +kernel) (by decide +kernel), inA 691 (by decide +kernel) (by decide +kernel), inA 59 (by decide +kernel) (by decide +kernel), by decide +kernel, by decide +kernel, by decide +kernel⟩
theorem ky_X8_swap : mOk yX8_swap cX8_swap 2 (some (.int)) 1 := ⟨inA 697 (by decide +kernel) (by decide +kernel), inA 695 (by decide +kernel) (by decide +kernel), inA 696 (by decide +kernel) (by decide +kernel), inA 59 (by decide +kernel) (by decide +kernel), by decide +kernel, by decide +kernel, by decide +kernel⟩
theorem ky_X8_read : mOk yX8_read cX8_read 1 (some (.int)) 0 := ⟨inA 702 (by decide +kernel) (by decide +kernel), inA 700 (by decide +kernel) (by decide +kernel), inA 701 (by decide +kernel) (by decide +kernel), inA 59 (by decide +kernel) (by decide +kernel), by decide +kernel, by decide +kernel, by decide +kernel⟩
theorem ky_X8_mode : mOk yX8_mode cX8_mode 3 (some (.boolean)) 1 := ⟨inA 707 (by decide +kernel) (by decide +kernel), inA 705 (by decide +kernel) (by decide +kernel), inA 706 (by decide +kernel) (by decide +kernel), inA 59 (by decide +kernel) (by decide +kernel), by decide +kernel, by decide +kernel, by decide +kernel⟩
theorem ky_X8_mask : mOk yX8_mask cX8_mask 2 (some (.boolean)) 1 := ⟨inA 711 (by decide +kernel) (by decide +kernel), inA 709 (by decide +kernel) (by decide +kernel), inA 710 (by decide +kernel) (by decide +kernel), inA 59 (by decide +kernel) (by decide +kernel), by decide +kernel, by decide +kernel, by decide +kernel⟩
theorem ky_X8_resize : mOk yX8_resize cX8_resize 2 (some (.int)) 1 := ⟨inA 716 (by decide +kernel) (by decide +kernel), inA 714 (by decide +kernel) (by decide +kernel), inA 715 (by decide +kernel) (by decide +kernel), inA 59 (by decide +kernel) (by decide +kernel), by decide +kernel, by decide +kernel, by decide +kernel⟩
theorem ky_X8_storm : mOk yX8_storm cX8_storm 4 (some (.int)) 2 := ⟨inA 721 (by decide +kernel) (by decide +kernel), inA 719 (by decide +kernel) (by decide +kernel), inA 720 (by decide +kernel) (by decide +kernel), inA 59 (by decide +kernel) (by decide +kernel), by decide +kernel, by decide +kernel, by decide +kernel⟩
theorem ks_X8_isStorm : sOk yX8_isStorm cX8_isStorm 1 (some (.boolean)) 1 := ⟨inA 724 (by decide +kernel) (by decide +kernel), inA 723 (by decide +kernel) (by decide +kernel), inA 59 (by decide +kernel) (by decide +kernel), by decide +kernel, by decide +kernel, by decide +kernel⟩
theorem ky_X4_figure : mOk yX4_figure cX4_figure 2 (some (.int)) 1 := ⟨inA 728 (by decide +kernel) (by decide +kernel), inA 726 (by decide +kernel) (by decide +kernel), inA 727 (by decide +kernel) (by decide +kernel), inA 60 (by decide +kernel) (by decide +kernel), by decide +kernel, by decide +kernel, by decide +kernel⟩
theorem ky_X4_readyRecords : mOk yX4_readyRecords cX4_readyRecords 3 (some (.int)) 0 := ⟨inA 732 (by decide +kernel) (by decide +kernel), inA 730 (by decide +kernel) (by decide +kernel), inA 731 (by decide +kernel) (by decide +kernel), inA 60 (by decide +kernel) (by decide +kernel), by decide +kernel, by decide +kernel, by decide +kernel⟩
theorem ky_X3_readyRecords : mOk yX3_readyRecords cX3_readyRecords 3 (some (.int)) 0 := ⟨inA 736 (by decide +kernel) (by decide +kernel), inA 734 (by decide +kernel) (by decide +kernel), inA 735 (by decide +kernel) (by decide +kernel), inA 62 (by decide +kernel) (by decide +kernel), by decide +kernel, by decide +kernel, by decide +kernel⟩
theorem ky_X3_isReady : mOk yX3_isReady cX3_isReady 2 (some (.boolean)) 1 := ⟨inA 740 (by decide +kernel) (by decide +kernel), inA 738 (by decide +kernel) (by decide +kernel), inA 739 (by decide +kernel) (by decide +kernel), inA 62 (by decide +kernel) (by decide +kernel), by decide +kernel, by decide +kernel, by decide +kernel⟩
theorem ky_X4_isTallied : mOk yX4_isTallied cX4_isTallied 3 (some (.boolean)) 1 := ⟨inA 744 (by decide +kernel) (by decide +kernel), inA 742 (by decide +kernel) (by decide +kernel), inA 743 (by decide +kernel) (by decide +kernel), inA 60 (by decide +kernel) (by decide +kernel), by decide +kernel, by decide +kernel, by decide +kernel⟩
theorem ky_X5_blow : mOk yX5_blow cX5_blow 5 none 3 := ⟨inA 748 (by decide +kernel) (by decide +kernel), inA 746 (by decide +kernel) (by decide +kernel), inA 747 (by decide +kernel) (by decide +kernel), inA 65 (by decide +kernel) (by decide +kernel), by decide +kernel, by decide +kernel, by decide +kernel⟩
theorem ky_X5_draw : mOk yX5_draw cX5_draw 2 (some (.int)) 1 := ⟨inA 752 (by decide +kernel) (by decide +kernel), inA 750 (by decide +kernel) (by decide +kernel), inA 751 (by decide +kernel) (by decide +kernel), inA 65 (by decide +kernel) (by decide +kernel), by decide +kernel, by decide +kernel, by decide +kernel⟩
theorem ky_X5_takeOrEnd : mOk yX5_takeOrEnd cX5_takeOrEnd 3 none 1 := ⟨inA 758 (by decide +kernel) (by decide +kernel), inA 756 (by decide +kernel) (by decide +kernel), inA 757 (by decide +kernel) (by decide +kernel), inA 65 (by decide +kernel) (by decide +kernel), by decide +kernel, by decide +kernel, by decide +kernel⟩
theorem ky_X8_count : mOk yX8_count cX8_count 2 (some (.int)) 1 := ⟨inA 769 (by decide +kernel) (by decide +kernel), inA 767 (by decide +kernel) (by decide +kernel), inA 768 (by decide +kernel) (by decide +kernel), inA 59 (by decide +kernel) (by decide +kernel), by decide +kernel, by decide +kernel, by decide +kernel⟩
theorem ky_X8_page : mOk yX8_page cX8_page 4 (some (.int)) 2 := ⟨inA 773 (by decide +kernel) (by decide +kernel), inA 771 (by decide +kernel) (by decide +kernel), inA 772 (by decide +kernel) (by decide +kernel), inA 59 (by decide +kernel) (by decide +kernel), by decide +kernel, by decide +kernel, by decide +kernel⟩
theorem ky_X4_pageOf : mOk yX4_pageOf cX4_pageOf 2 (some (.object "TraceRing$Page")) 1 := ⟨inA 777 (by decide +kernel) (by decide +kernel), inA 775 (by decide +kernel) (by decide +kernel), inA 776 (by decide +kernel) (by decide +kernel), inA 60 (by decide +kernel) (by decide +kernel), by decide +kernel, by decide +kernel, by decide +kernel⟩
theorem ky_X3_figure : mOk yX3_figure cX3_figure 3 (some (.int)) 1 := ⟨inA 782 (by decide +kernel) (by decide +kernel), inA 780 (by decide +kernel) (by decide +kernel), inA 781 (by decide +kernel) (by decide +kernel), inA 62 (by decide +kernel) (by decide +kernel), by decide +kernel, by decide +kernel, by decide +kernel⟩
theorem ky_X8_cell : mOk yX8_cell cX8_cell 4 (some (.int)) 2 := ⟨inA 787 (by decide +kernel) (by decide +kernel), inA 785 (by decide +kernel) (by decide +kernel), inA 786 (by decide +kernel) (by decide +kernel), inA 59 (by decide +kernel) (by decide +kernel), by decide +kernel, by decide +kernel, by decide +kernel⟩
theorem ky_X8_open : mOk yX8_open cX8_open 3 (some (.int)) 2 := ⟨inA 792 (by decide +kernel) (by decide +kernel), inA 790 (by decide +kernel) (by decide +kernel), inA 791 (by decide +kernel) (by decide +kernel), inA 59 (by decide +kernel) (by decide +kernel), by decide +kernel, by decide +kernel, by decide +kernel⟩
theorem ky_X4_openFigure : mOk yX4_openFigure cX4_openFigure 5 (some (.int)) 2 := ⟨inA 796 (by decide +kernel) (by decide +kernel), inA 794 (by decide +kernel) (by decide +kernel), inA 795 (by decide +kernel) (by decide +kernel), inA 60 (by decide +kernel) (by decide +kernel), by decide +kernel, by decide +kernel, by decide +kernel⟩
theorem ky_X3_itemFigure : mOk yX3_itemFigure cX3_itemFigure 3 (some (.int)) 2 := ⟨inA 800 (by decide +kernel) (by decide +kernel), inA 798 (by decide +kernel) (by decide +kernel), inA 799 (by decide +kernel) (by decide +kernel), inA 62 (by decide +kernel) (by decide +kernel), by decide +kernel, by decide +kernel, by decide +kernel⟩
theorem ky_X8_record : mOk yX8_record cX8_record 3 (some (.int)) 2 := ⟨inA 804 (by decide +kernel) (by decide +kernel), inA 802 (by decide +kernel) (by decide +kernel), inA 803 (by decide +kernel) (by decide +kernel), inA 59 (by decide +kernel) (by decide +kernel), by decide +kernel, by decide +kernel, by decide +kernel⟩
theorem ky_X4_readyFigure : mOk yX4_readyFigure cX4_readyFigure 9 (some (.int)) 2 := ⟨inA 808 (by decide +kernel) (by decide +kernel), inA 806 (by decide +kernel) (by decide +kernel), inA 807 (by decide +kernel) (by decide +kernel), inA 60 (by decide +kernel) (by decide +kernel), by decide +kernel, by decide +kernel, by decide +kernel⟩
theorem ky_X3_itemOfRecord : mOk yX3_itemOfRecord cX3_itemOfRecord 4 (some (.int)) 1 := ⟨inA 812 (by decide +kernel) (by decide +kernel), inA 810 (by decide +kernel) (by decide +kernel), inA 811 (by decide +kernel) (by decide +kernel), inA 62 (by decide +kernel) (by decide +kernel), by decide +kernel, by decide +kernel, by decide +kernel⟩
theorem ky_X3_dataOf : mOk yX3_dataOf cX3_dataOf 3 (some (.int)) 2 := ⟨inA 816 (by decide +kernel) (by decide +kernel), inA 814 (by decide +kernel) (by decide +kernel), inA 815 (by decide +kernel) (by decide +kernel), inA 62 (by decide +kernel) (by decide +kernel), by decide +kernel, by decide +kernel, by decide +kernel⟩
theorem ky_X8_latest : mOk yX8_latest cX8_latest 2 (some (.int)) 1 := ⟨inA 820 (by decide +kernel) (by decide +kernel), inA 818 (by decide +kernel) (by decide +kernel), inA 819 (by decide +kernel) (by decide +kernel), inA 59 (by decide +kernel) (by decide +kernel), by decide +kernel, by decide +kernel, by decide +kernel⟩
theorem ky_X1_figure : mOk yX1_figure cX1_figure 2 (some (.int)) 1 := ⟨inA 825 (by decide +kernel) (by decide +kernel), inA 823 (by decide +kernel) (by decide +kernel), inA 824 (by decide +kernel) (by decide +kernel), inA 61 (by decide +kernel) (by decide +kernel), by decide +kernel, by decide +kernel, by decide +kernel⟩
theorem ky_X8_parsed : mOk yX8_parsed cX8_parsed 5 (some (.int)) 3 := ⟨inA 829 (by decide +kernel) (by decide +kernel), inA 827 (by decide +kernel) (by decide +kernel), inA 828 (by decide +kernel) (by decide +kernel), inA 59 (by decide +kernel) (by decide +kernel), by decide +kernel, by decide +kernel, by decide +kernel⟩
theorem ky_X3_howManyLie : mOk yX3_howManyLie cX3_howManyLie 4 (some (.int)) 0 := ⟨inA 833 (by decide +kernel) (by decide +kernel), inA 831 (by decide +kernel) (by decide +kernel), inA 832 (by decide +kernel) (by decide +kernel), inA 62 (by decide +kernel) (by decide +kernel), by decide +kernel, by decide +kernel, by decide +kernel⟩
theorem ky_X3_sizeAt : mOk yX3_sizeAt cX3_sizeAt 2 (some (.int)) 1 := ⟨inA 837 (by decide +kernel) (by decide +kernel), inA 835 (by decide +kernel) (by decide +kernel), inA 836 (by decide +kernel) (by decide +kernel), inA 62 (by decide +kernel) (by decide +kernel), by decide +kernel, by decide +kernel, by decide +kernel⟩
theorem ky_X3_kindAt : mOk yX3_kindAt cX3_kindAt 3 (some (.int)) 1 := ⟨inA 841 (by decide +kernel) (by decide +kernel), inA 839 (by decide +kernel) (by decide +kernel), inA 840 (by decide +kernel) (by decide +kernel), inA 62 (by decide +kernel) (by decide +kernel), by decide +kernel, by decide +kernel, by decide +kernel⟩
theorem ky_X3_dataAt : mOk yX3_dataAt cX3_dataAt 2 (some (.int)) 1 := ⟨inA 845 (by decide +kernel) (by decide +kernel), inA 843 (by decide +kernel) (by decide +kernel), inA 844 (by decide +kernel) (by decide +kernel), inA 62 (by decide +kernel) (by decide +kernel), by decide +kernel, by decide +kernel, by decide +kernel⟩
theorem ky_X3_parse : mOk yX3_parse cX3_parse 6 (some (.int)) 2 := ⟨inA 849 (by decide +kernel) (by decide +kernel), inA 847 (by decide +kernel) (by decide +kernel), inA 848 (by decide +kernel) (by decide +kernel), inA 62 (by decide +kernel) (by decide +kernel), by decide +kernel, by decide +kernel, by decide +kernel⟩
theorem ky_X3_deltaToldAt : mOk yX3_deltaToldAt cX3_deltaToldAt 3 (some (.int)) 1 := ⟨inA 853 (by decide +kernel) (by decide +kernel), inA 851 (by decide +kernel) (by decide +kernel), inA 852 (by decide +kernel) (by decide +kernel), inA 62 (by decide +kernel) (by decide +kernel), by decide +kernel, by decide +kernel, by decide +kernel⟩
theorem ky_X8_between : mOk yX8_between cX8_between 4 (some (.int)) 3 := ⟨inA 857 (by decide +kernel) (by decide +kernel), inA 855 (by decide +kernel) (by decide +kernel), inA 856 (by decide +kernel) (by decide +kernel), inA 59 (by decide +kernel) (by decide +kernel), by decide +kernel, by decide +kernel, by decide +kernel⟩
theorem ky_X4_firstWithin : mOk yX4_firstWithin cX4_firstWithin 7 (some (.int)) 2 := ⟨inA 861 (by decide +kernel) (by decide +kernel), inA 859 (by decide +kernel) (by decide +kernel), inA 860 (by decide +kernel) (by decide +kernel), inA 60 (by decide +kernel) (by decide +kernel), by decide +kernel, by decide +kernel, by decide +kernel⟩
theorem ky_X4_isWithin : mOk yX4_isWithin cX4_isWithin 6 (some (.boolean)) 4 := ⟨inA 866 (by decide +kernel) (by decide +kernel), inA 864 (by decide +kernel) (by decide +kernel), inA 865 (by decide +kernel) (by decide +kernel), inA 60 (by decide +kernel) (by decide +kernel), by decide +kernel, by decide +kernel, by decide +kernel⟩
theorem ky_X4_howManyWithin : mOk yX4_howManyWithin cX4_howManyWithin 7 (some (.int)) 2 := ⟨inA 870 (by decide +kernel) (by decide +kernel), inA 868 (by decide +kernel) (by decide +kernel), inA 869 (by decide +kernel) (by decide +kernel), inA 60 (by decide +kernel) (by decide +kernel), by decide +kernel, by decide +kernel, by decide +kernel⟩
theorem ky_X8_sum : mOk yX8_sum cX8_sum 5 (some (.int)) 3 := ⟨inA 874 (by decide +kernel) (by decide +kernel), inA 872 (by decide +kernel) (by decide +kernel), inA 873 (by decide +kernel) (by decide +kernel), inA 59 (by decide +kernel) (by decide +kernel), by decide +kernel, by decide +kernel, by decide +kernel⟩
theorem ky_X3_sumOf : mOk yX3_sumOf cX3_sumOf 5 (some (.int)) 2 := ⟨inA 878 (by decide +kernel) (by decide +kernel), inA 876 (by decide +kernel) (by decide +kernel), inA 877 (by decide +kernel) (by decide +kernel), inA 62 (by decide +kernel) (by decide +kernel), by decide +kernel, by decide +kernel, by decide +kernel⟩
theorem ky_X8_would : mOk yX8_would cX8_would 3 (some (.int)) 2 := ⟨inA 882 (by decide +kernel) (by decide +kernel), inA 880 (by decide +kernel) (by decide +kernel), inA 881 (by decide +kernel) (by decide +kernel), inA 59 (by decide +kernel) (by decide +kernel), by decide +kernel, by decide +kernel, by decide +kernel⟩
theorem ky_X8_room : mOk yX8_room cX8_room 2 (some (.int)) 1 := ⟨inA 887 (by decide +kernel) (by decide +kernel), inA 885 (by decide +kernel) (by decide +kernel), inA 886 (by decide +kernel) (by decide +kernel), inA 59 (by decide +kernel) (by decide +kernel), by decide +kernel, by decide +kernel, by decide +kernel⟩
theorem ky_X4_roomFor : mOk yX4_roomFor cX4_roomFor 6 (some (.int)) 1 := ⟨inA 891 (by decide +kernel) (by decide +kernel), inA 889 (by decide +kernel) (by decide +kernel), inA 890 (by decide +kernel) (by decide +kernel), inA 60 (by decide +kernel) (by decide +kernel), by decide +kernel, by decide +kernel, by decide +kernel⟩
theorem ky_X8_after : mOk yX8_after cX8_after 4 (some (.int)) 3 := ⟨inA 895 (by decide +kernel) (by decide +kernel), inA 893 (by decide +kernel) (by decide +kernel), inA 894 (by decide +kernel) (by decide +kernel), inA 59 (by decide +kernel) (by decide +kernel), by decide +kernel, by decide +kernel, by decide +kernel⟩
theorem ky_X4_copyFrom : mOk yX4_copyFrom cX4_copyFrom 3 none 1 := ⟨inA 899 (by decide +kernel) (by decide +kernel), inA 897 (by decide +kernel) (by decide +kernel), inA 898 (by decide +kernel) (by decide +kernel), inA 60 (by decide +kernel) (by decide +kernel), by decide +kernel, by decide +kernel, by decide +kernel⟩
theorem ky_X3_copyFrom : mOk yX3_copyFrom cX3_copyFrom 3 none 1 := ⟨inA 903 (by decide +kernel) (by decide +kernel), inA 901 (by decide +kernel) (by decide +kernel), inA 902 (by decide +kernel) (by decide +kernel), inA 62 (by decide +kernel) (by decide +kernel), by decide +kernel, by decide +kernel, by decide +kernel⟩
theorem ks_X8_copyRow : sOk yX8_copyRow cX8_copyRow 2 none 2 := ⟨inA 906 (by decide +kernel) (by decide +kernel), inA 905 (by decide +kernel) (by decide +kernel), inA 59 (by decide +kernel) (by decide +kernel), by decide +kernel, by decide +kernel, by decide +kernel⟩
theorem ky_X1_copyFrom : mOk yX1_copyFrom cX1_copyFrom 2 none 1 := ⟨inA 916 (by decide +kernel) (by decide +kernel), inA 914 (by decide +kernel) (by decide +kernel), inA 915 (by decide +kernel) (by decide +kernel), inA 61 (by decide +kernel) (by decide +kernel), by decide +kernel, by decide +kernel, by decide +kernel⟩
theorem ky_X8_fewest : mOk yX8_fewest cX8_fewest 4 (some (.int)) 2 := ⟨inA 922 (by decide +kernel) (by decide +kernel), inA 920 (by decide +kernel) (by decide +kernel), inA 921 (by decide +kernel) (by decide +kernel), inA 59 (by decide +kernel) (by decide +kernel), by decide +kernel, by decide +kernel, by decide +kernel⟩
theorem ky_X8_image : mOk yX8_image cX8_image 3 (some (.boolean)) 1 := ⟨inA 927 (by decide +kernel) (by decide +kernel), inA 925 (by decide +kernel) (by decide +kernel), inA 926 (by decide +kernel) (by decide +kernel), inA 59 (by decide +kernel) (by decide +kernel), by decide +kernel, by decide +kernel, by decide +kernel⟩
theorem ky_X8_imageOf : mOk yX8_imageOf cX8_imageOf 2 (some (.object "TraceRing$Image")) 1 := ⟨inA 931 (by decide +kernel) (by decide +kernel), inA 930 (by decide +kernel) (by decide +kernel), inA 0 (by decide +kernel) (by decide +kernel), inA 59 (by decide +kernel) (by decide +kernel), by decide +kernel, by decide +kernel, by decide +kernel⟩
theorem ky_X6_copyFrom : mOk yX6_copyFrom cX6_copyFrom 2 none 1 := ⟨inA 935 (by decide +kernel) (by decide +kernel), inA 933 (by decide +kernel) (by decide +kernel), inA 934 (by decide +kernel) (by decide +kernel), inA 63 (by decide +kernel) (by decide +kernel), by decide +kernel, by decide +kernel, by decide +kernel⟩
theorem ky_X8_again : mOk yX8_again cX8_again 3 (some (.boolean)) 1 := ⟨inA 940 (by decide +kernel) (by decide +kernel), inA 938 (by decide +kernel) (by decide +kernel), inA 939 (by decide +kernel) (by decide +kernel), inA 59 (by decide +kernel) (by decide +kernel), by decide +kernel, by decide +kernel, by decide +kernel⟩
theorem ki_X9_init : iOk yX9_init cX9_init 1 0 := ⟨inA 945 (by decide +kernel) (by decide +kernel), inA 944 (by decide +kernel) (by decide +kernel), inA 67 (by decide +kernel) (by decide +kernel), rfl, by decide +kernel, by decide +kernel, by decide +kernel⟩
theorem ky_X9_atFirst : mOk yX9_atFirst cX9_atFirst 1 none 0 := ⟨inA 950 (by decide +kernel) (by decide +kernel), inA 949 (by decide +kernel) (by decide +kernel), inA 1 (by decide +kernel) (by decide +kernel), inA 67 (by decide +kernel) (by decide +kernel), by decide +kernel, by decide +kernel, by decide +kernel⟩
theorem ky_X9_begins : mOk yX9_begins cX9_begins 5 none 3 := ⟨inA 954 (by decide +kernel) (by decide +kernel), inA 953 (by decide +kernel) (by decide +kernel), inA 2 (by decide +kernel) (by decide +kernel), inA 67 (by decide +kernel) (by decide +kernel), by decide +kernel, by decide +kernel, by decide +kernel⟩
theorem ky_X9_lay : mOk yX9_lay cX9_lay 4 none 3 := ⟨inA 958 (by decide +kernel) (by decide +kernel), inA 957 (by decide +kernel) (by decide +kernel), inA 3 (by decide +kernel) (by decide +kernel), inA 67 (by decide +kernel) (by decide +kernel), by decide +kernel, by decide +kernel, by decide +kernel⟩
theorem ky_X9_tell : mOk yX9_tell cX9_tell 5 (some (.int)) 1 := ⟨inA 1051 (by decide +kernel) (by decide +kernel), inA 1049 (by decide +kernel) (by decide +kernel), inA 1050 (by decide +kernel) (by decide +kernel), inA 67 (by decide +kernel) (by decide +kernel), by decide +kernel, by decide +kernel, by decide +kernel⟩
theorem ky_X9_ring : mOk yX9_ring cX9_ring 1 (some (.int)) 0 := ⟨inA 1056 (by decide +kernel) (by decide +kernel), inA 1054 (by decide +kernel) (by decide +kernel), inA 1055 (by decide +kernel) (by decide +kernel), inA 67 (by decide +kernel) (by decide +kernel), by decide +kernel, by decide +kernel, by decide +kernel⟩
theorem ky_X9_readsAll : mOk yX9_readsAll cX9_readsAll 5 none 1 := ⟨inA 1060 (by decide +kernel) (by decide +kernel), inA 1059 (by decide +kernel) (by decide +kernel), inA 4 (by decide +kernel) (by decide +kernel), inA 67 (by decide +kernel) (by decide +kernel), by decide +kernel, by decide +kernel, by decide +kernel⟩
theorem ky_X9_token : mOk yX9_token cX9_token 3 none 0 := ⟨inA 1064 (by decide +kernel) (by decide +kernel), inA 1063 (by decide +kernel) (by decide +kernel), inA 5 (by decide +kernel) (by decide +kernel), inA 67 (by decide +kernel) (by decide +kernel), by decide +kernel, by decide +kernel, by decide +kernel⟩
theorem ky_X9_see : mOk yX9_see cX9_see 1 (some (.int)) 0 := ⟨inA 1068 (by decide +kernel) (by decide +kernel), inA 1067 (by decide +kernel) (by decide +kernel), inA 6 (by decide +kernel) (by decide +kernel), inA 67 (by decide +kernel) (by decide +kernel), by decide +kernel, by decide +kernel, by decide +kernel⟩
theorem ks_X9_in : sOk yX9_in cX9_in 3 (some (.boolean)) 3 := ⟨inA 1071 (by decide +kernel) (by decide +kernel), inA 1070 (by decide +kernel) (by decide +kernel), inA 67 (by decide +kernel) (by decide +kernel), by decide +kernel, by decide +kernel, by decide +kernel⟩
theorem ky_X9_ringLine : mOk yX9_ringLine cX9_ringLine 4 (some (.boolean)) 1 := ⟨inA 1075 (by decide +kernel) (by decide +kernel), inA 1074 (by decide +kernel) (by decide +kernel), inA 7 (by decide +kernel) (by decide +kernel), inA 67 (by decide +kernel) (by decide +kernel), by decide +kernel, by decide +kernel, by decide +kernel⟩
theorem ky_X9_fails : mOk yX9_fails cX9_fails 1 (some (.boolean)) 0 := ⟨inA 1083 (by decide +kernel) (by decide +kernel), inA 1082 (by decide +kernel) (by decide +kernel), inA 8 (by decide +kernel) (by decide +kernel), inA 67 (by decide +kernel) (by decide +kernel), by decide +kernel, by decide +kernel, by decide +kernel⟩
theorem ky_X9_takes : mOk yX9_takes cX9_takes 4 (some (.boolean)) 3 := ⟨inA 1087 (by decide +kernel) (by decide +kernel), inA 1086 (by decide +kernel) (by decide +kernel), inA 9 (by decide +kernel) (by decide +kernel), inA 67 (by decide +kernel) (by decide +kernel), by decide +kernel, by decide +kernel, by decide +kernel⟩
theorem ky_X9_scriptLine : mOk yX9_scriptLine cX9_scriptLine 6 (some (.boolean)) 1 := ⟨inA 1091 (by decide +kernel) (by decide +kernel), inA 1090 (by decide +kernel) (by decide +kernel), inA 10 (by decide +kernel) (by decide +kernel), inA 67 (by decide +kernel) (by decide +kernel), by decide +kernel, by decide +kernel, by decide +kernel⟩
theorem ky_X9_fault : mOk yX9_fault cX9_fault 2 (some (.int)) 1 := ⟨inA 1105 (by decide +kernel) (by decide +kernel), inA 1103 (by decide +kernel) (by decide +kernel), inA 1104 (by decide +kernel) (by decide +kernel), inA 67 (by decide +kernel) (by decide +kernel), by decide +kernel, by decide +kernel, by decide +kernel⟩
theorem ky_X9_script : mOk yX9_script cX9_script 2 (some (.int)) 0 := ⟨inA 1109 (by decide +kernel) (by decide +kernel), inA 1107 (by decide +kernel) (by decide +kernel), inA 1108 (by decide +kernel) (by decide +kernel), inA 67 (by decide +kernel) (by decide +kernel), by decide +kernel, by decide +kernel, by decide +kernel⟩
theorem ky_X9_isDone : mOk yX9_isDone cX9_isDone 5 (some (.boolean)) 3 := ⟨inA 1113 (by decide +kernel) (by decide +kernel), inA 1112 (by decide +kernel) (by decide +kernel), inA 11 (by decide +kernel) (by decide +kernel), inA 67 (by decide +kernel) (by decide +kernel), by decide +kernel, by decide +kernel, by decide +kernel⟩
theorem ky_X9_ticked : mOk yX9_ticked cX9_ticked 2 (some (.int)) 1 := ⟨inA 1117 (by decide +kernel) (by decide +kernel), inA 1116 (by decide +kernel) (by decide +kernel), inA 12 (by decide +kernel) (by decide +kernel), inA 67 (by decide +kernel) (by decide +kernel), by decide +kernel, by decide +kernel, by decide +kernel⟩
theorem ky_X9_taken : mOk yX9_taken cX9_taken 4 (some (.int)) 2 := ⟨inA 1122 (by decide +kernel) (by decide +kernel), inA 1121 (by decide +kernel) (by decide +kernel), inA 13 (by decide +kernel) (by decide +kernel), inA 67 (by decide +kernel) (by decide +kernel), by decide +kernel, by decide +kernel, by decide +kernel⟩
theorem ky_X9_comes : mOk yX9_comes cX9_comes 4 (some (.int)) 2 := ⟨inA 1126 (by decide +kernel) (by decide +kernel), inA 1125 (by decide +kernel) (by decide +kernel), inA 14 (by decide +kernel) (by decide +kernel), inA 67 (by decide +kernel) (by decide +kernel), by decide +kernel, by decide +kernel, by decide +kernel⟩
theorem ky_X9_innermost : mOk yX9_innermost cX9_innermost 2 (some (.int)) 0 := ⟨inA 1130 (by decide +kernel) (by decide +kernel), inA 1129 (by decide +kernel) (by decide +kernel), inA 15 (by decide +kernel) (by decide +kernel), inA 67 (by decide +kernel) (by decide +kernel), by decide +kernel, by decide +kernel, by decide +kernel⟩
theorem ky_X9_openPage : mOk yX9_openPage cX9_openPage 2 (some (.int)) 1 := ⟨inA 1134 (by decide +kernel) (by decide +kernel), inA 1133 (by decide +kernel) (by decide +kernel), inA 16 (by decide +kernel) (by decide +kernel), inA 67 (by decide +kernel) (by decide +kernel), by decide +kernel, by decide +kernel, by decide +kernel⟩
theorem ky_X9_openItem : mOk yX9_openItem cX9_openItem 2 (some (.int)) 1 := ⟨inA 1138 (by decide +kernel) (by decide +kernel), inA 1137 (by decide +kernel) (by decide +kernel), inA 17 (by decide +kernel) (by decide +kernel), inA 67 (by decide +kernel) (by decide +kernel), by decide +kernel, by decide +kernel, by decide +kernel⟩
theorem ky_X9_item : mOk yX9_item cX9_item 4 (some (.int)) 3 := ⟨inA 1142 (by decide +kernel) (by decide +kernel), inA 1141 (by decide +kernel) (by decide +kernel), inA 18 (by decide +kernel) (by decide +kernel), inA 67 (by decide +kernel) (by decide +kernel), by decide +kernel, by decide +kernel, by decide +kernel⟩
theorem ky_X9_of : mOk yX9_of cX9_of 3 (some (.int)) 2 := ⟨inA 1146 (by decide +kernel) (by decide +kernel), inA 1145 (by decide +kernel) (by decide +kernel), inA 19 (by decide +kernel) (by decide +kernel), inA 67 (by decide +kernel) (by decide +kernel), by decide +kernel, by decide +kernel, by decide +kernel⟩
theorem ky_X9_pageAt : mOk yX9_pageAt cX9_pageAt 2 (some (.int)) 1 := ⟨inA 1150 (by decide +kernel) (by decide +kernel), inA 1149 (by decide +kernel) (by decide +kernel), inA 20 (by decide +kernel) (by decide +kernel), inA 67 (by decide +kernel) (by decide +kernel), by decide +kernel, by decide +kernel, by decide +kernel⟩
theorem ky_X9_fits : mOk yX9_fits cX9_fits 3 (some (.boolean)) 2 := ⟨inA 1154 (by decide +kernel) (by decide +kernel), inA 1153 (by decide +kernel) (by decide +kernel), inA 21 (by decide +kernel) (by decide +kernel), inA 67 (by decide +kernel) (by decide +kernel), by decide +kernel, by decide +kernel, by decide +kernel⟩
theorem ky_X9_deltaIn : mOk yX9_deltaIn cX9_deltaIn 2 (some (.int)) 1 := ⟨inA 1158 (by decide +kernel) (by decide +kernel), inA 1157 (by decide +kernel) (by decide +kernel), inA 22 (by decide +kernel) (by decide +kernel), inA 67 (by decide +kernel) (by decide +kernel), by decide +kernel, by decide +kernel, by decide +kernel⟩
theorem ky_X9_behind : mOk yX9_behind cX9_behind 2 (some (.int)) 1 := ⟨inA 1162 (by decide +kernel) (by decide +kernel), inA 1161 (by decide +kernel) (by decide +kernel), inA 23 (by decide +kernel) (by decide +kernel), inA 67 (by decide +kernel) (by decide +kernel), by decide +kernel, by decide +kernel, by decide +kernel⟩
theorem ky_X9_isOpenIn : mOk yX9_isOpenIn cX9_isOpenIn 3 (some (.boolean)) 1 := ⟨inA 1166 (by decide +kernel) (by decide +kernel), inA 1165 (by decide +kernel) (by decide +kernel), inA 24 (by decide +kernel) (by decide +kernel), inA 67 (by decide +kernel) (by decide +kernel), by decide +kernel, by decide +kernel, by decide +kernel⟩
theorem ky_X9_overwrites : mOk yX9_overwrites cX9_overwrites 2 none 0 := ⟨inA 1170 (by decide +kernel) (by decide +kernel), inA 1169 (by decide +kernel) (by decide +kernel), inA 25 (by decide +kernel) (by decide +kernel), inA 67 (by decide +kernel) (by decide +kernel), by decide +kernel, by decide +kernel, by decide +kernel⟩
theorem ky_X9_recordsIn : mOk yX9_recordsIn cX9_recordsIn 5 (some (.int)) 2 := ⟨inA 1174 (by decide +kernel) (by decide +kernel), inA 1173 (by decide +kernel) (by decide +kernel), inA 26 (by decide +kernel) (by decide +kernel), inA 67 (by decide +kernel) (by decide +kernel), by decide +kernel, by decide +kernel, by decide +kernel⟩
theorem ky_X9_empties : mOk yX9_empties cX9_empties 3 none 1 := ⟨inA 1178 (by decide +kernel) (by decide +kernel), inA 1177 (by decide +kernel) (by decide +kernel), inA 27 (by decide +kernel) (by decide +kernel), inA 67 (by decide +kernel) (by decide +kernel), by decide +kernel, by decide +kernel, by decide +kernel⟩
theorem ky_X9_lays : mOk yX9_lays cX9_lays 9 none 3 := ⟨inA 1182 (by decide +kernel) (by decide +kernel), inA 1181 (by decide +kernel) (by decide +kernel), inA 28 (by decide +kernel) (by decide +kernel), inA 67 (by decide +kernel) (by decide +kernel), by decide +kernel, by decide +kernel, by decide +kernel⟩
theorem ky_X9_cellIs : mOk yX9_cellIs cX9_cellIs 4 none 3 := ⟨inA 1186 (by decide +kernel) (by decide +kernel), inA 1185 (by decide +kernel) (by decide +kernel), inA 29 (by decide +kernel) (by decide +kernel), inA 67 (by decide +kernel) (by decide +kernel), by decide +kernel, by decide +kernel, by decide +kernel⟩
theorem ks_X9_greater : sOk yX9_greater cX9_greater 2 (some (.int)) 2 := ⟨inA 1189 (by decide +kernel) (by decide +kernel), inA 1188 (by decide +kernel) (by decide +kernel), inA 67 (by decide +kernel) (by decide +kernel), by decide +kernel, by decide +kernel, by decide +kernel⟩
theorem ky_X9_puts : mOk yX9_puts cX9_puts 7 (some (.int)) 2 := ⟨inA 1193 (by decide +kernel) (by decide +kernel), inA 1192 (by decide +kernel) (by decide +kernel), inA 30 (by decide +kernel) (by decide +kernel), inA 67 (by decide +kernel) (by decide +kernel), by decide +kernel, by decide +kernel, by decide +kernel⟩
theorem ky_X9_ended : mOk yX9_ended cX9_ended 4 (some (.int)) 1 := ⟨inA 1197 (by decide +kernel) (by decide +kernel), inA 1196 (by decide +kernel) (by decide +kernel), inA 31 (by decide +kernel) (by decide +kernel), inA 67 (by decide +kernel) (by decide +kernel), by decide +kernel, by decide +kernel, by decide +kernel⟩
theorem ky_X9_closes : mOk yX9_closes cX9_closes 2 none 0 := ⟨inA 1201 (by decide +kernel) (by decide +kernel), inA 1200 (by decide +kernel) (by decide +kernel), inA 32 (by decide +kernel) (by decide +kernel), inA 67 (by decide +kernel) (by decide +kernel), by decide +kernel, by decide +kernel, by decide +kernel⟩
theorem ky_X9_dropped : mOk yX9_dropped cX9_dropped 9 (some (.int)) 1 := ⟨inA 1205 (by decide +kernel) (by decide +kernel), inA 1204 (by decide +kernel) (by decide +kernel), inA 33 (by decide +kernel) (by decide +kernel), inA 67 (by decide +kernel) (by decide +kernel), by decide +kernel, by decide +kernel, by decide +kernel⟩
theorem ky_X9_startOf : mOk yX9_startOf cX9_startOf 3 (some (.int)) 2 := ⟨inA 1209 (by decide +kernel) (by decide +kernel), inA 1208 (by decide +kernel) (by decide +kernel), inA 34 (by decide +kernel) (by decide +kernel), inA 67 (by decide +kernel) (by decide +kernel), by decide +kernel, by decide +kernel, by decide +kernel⟩
theorem ky_X9_endOf : mOk yX9_endOf cX9_endOf 3 (some (.int)) 2 := ⟨inA 1213 (by decide +kernel) (by decide +kernel), inA 1212 (by decide +kernel) (by decide +kernel), inA 35 (by decide +kernel) (by decide +kernel), inA 67 (by decide +kernel) (by decide +kernel), by decide +kernel, by decide +kernel, by decide +kernel⟩
theorem ky_X9_swapped : mOk yX9_swapped cX9_swapped 6 (some (.int)) 1 := ⟨inA 1217 (by decide +kernel) (by decide +kernel), inA 1216 (by decide +kernel) (by decide +kernel), inA 36 (by decide +kernel) (by decide +kernel), inA 67 (by decide +kernel) (by decide +kernel), by decide +kernel, by decide +kernel, by decide +kernel⟩
theorem ky_X9_readMany : mOk yX9_readMany cX9_readMany 3 (some (.boolean)) 1 := ⟨inA 1221 (by decide +kernel) (by decide +kernel), inA 1220 (by decide +kernel) (by decide +kernel), inA 37 (by decide +kernel) (by decide +kernel), inA 67 (by decide +kernel) (by decide +kernel), by decide +kernel, by decide +kernel, by decide +kernel⟩
theorem ky_X9_readOne : mOk yX9_readOne cX9_readOne 6 (some (.int)) 0 := ⟨inA 1225 (by decide +kernel) (by decide +kernel), inA 1224 (by decide +kernel) (by decide +kernel), inA 38 (by decide +kernel) (by decide +kernel), inA 67 (by decide +kernel) (by decide +kernel), by decide +kernel, by decide +kernel, by decide +kernel⟩
theorem ky_X9_masked : mOk yX9_masked cX9_masked 2 (some (.boolean)) 1 := ⟨inA 1229 (by decide +kernel) (by decide +kernel), inA 1228 (by decide +kernel) (by decide +kernel), inA 39 (by decide +kernel) (by decide +kernel), inA 67 (by decide +kernel) (by decide +kernel), by decide +kernel, by decide +kernel, by decide +kernel⟩
theorem ky_X9_resized : mOk yX9_resized cX9_resized 7 (some (.int)) 1 := ⟨inA 1233 (by decide +kernel) (by decide +kernel), inA 1232 (by decide +kernel) (by decide +kernel), inA 40 (by decide +kernel) (by decide +kernel), inA 67 (by decide +kernel) (by decide +kernel), by decide +kernel, by decide +kernel, by decide +kernel⟩
theorem ky_X9_live : mOk yX9_live cX9_live 2 (some (.int)) 0 := ⟨inA 1237 (by decide +kernel) (by decide +kernel), inA 1236 (by decide +kernel) (by decide +kernel), inA 41 (by decide +kernel) (by decide +kernel), inA 67 (by decide +kernel) (by decide +kernel), by decide +kernel, by decide +kernel, by decide +kernel⟩
theorem ky_X9_livePage : mOk yX9_livePage cX9_livePage 2 (some (.int)) 1 := ⟨inA 1241 (by decide +kernel) (by decide +kernel), inA 1240 (by decide +kernel) (by decide +kernel), inA 42 (by decide +kernel) (by decide +kernel), inA 67 (by decide +kernel) (by decide +kernel), by decide +kernel, by decide +kernel, by decide +kernel⟩
theorem ky_X9_tick : mOk yX9_tick cX9_tick 2 (some (.int)) 1 := ⟨inA 1245 (by decide +kernel) (by decide +kernel), inA 1243 (by decide +kernel) (by decide +kernel), inA 1244 (by decide +kernel) (by decide +kernel), inA 67 (by decide +kernel) (by decide +kernel), by decide +kernel, by decide +kernel, by decide +kernel⟩
theorem ky_X9_take : mOk yX9_take cX9_take 3 (some (.int)) 2 := ⟨inA 1249 (by decide +kernel) (by decide +kernel), inA 1247 (by decide +kernel) (by decide +kernel), inA 1248 (by decide +kernel) (by decide +kernel), inA 67 (by decide +kernel) (by decide +kernel), by decide +kernel, by decide +kernel, by decide +kernel⟩
theorem ks_X9_isTake : sOk yX9_isTake cX9_isTake 2 (some (.boolean)) 2 := ⟨inA 1252 (by decide +kernel) (by decide +kernel), inA 1251 (by decide +kernel) (by decide +kernel), inA 67 (by decide +kernel) (by decide +kernel), by decide +kernel, by decide +kernel, by decide +kernel⟩
theorem ky_X9_put : mOk yX9_put cX9_put 3 (some (.int)) 2 := ⟨inA 1256 (by decide +kernel) (by decide +kernel), inA 1254 (by decide +kernel) (by decide +kernel), inA 1255 (by decide +kernel) (by decide +kernel), inA 67 (by decide +kernel) (by decide +kernel), by decide +kernel, by decide +kernel, by decide +kernel⟩
theorem ky_X9_end : mOk yX9_end cX9_end 2 (some (.int)) 1 := ⟨inA 1260 (by decide +kernel) (by decide +kernel), inA 1258 (by decide +kernel) (by decide +kernel), inA 1259 (by decide +kernel) (by decide +kernel), inA 67 (by decide +kernel) (by decide +kernel), by decide +kernel, by decide +kernel, by decide +kernel⟩
theorem ky_X9_drop : mOk yX9_drop cX9_drop 2 (some (.int)) 1 := ⟨inA 1264 (by decide +kernel) (by decide +kernel), inA 1262 (by decide +kernel) (by decide +kernel), inA 1263 (by decide +kernel) (by decide +kernel), inA 67 (by decide +kernel) (by decide +kernel), by decide +kernel, by decide +kernel, by decide +kernel⟩
theorem ky_X9_swap : mOk yX9_swap cX9_swap 2 (some (.int)) 1 := ⟨inA 1268 (by decide +kernel) (by decide +kernel), inA 1266 (by decide +kernel) (by decide +kernel), inA 1267 (by decide +kernel) (by decide +kernel), inA 67 (by decide +kernel) (by decide +kernel), by decide +kernel, by decide +kernel, by decide +kernel⟩
theorem ky_X9_read : mOk yX9_read cX9_read 1 (some (.int)) 0 := ⟨inA 1272 (by decide +kernel) (by decide +kernel), inA 1270 (by decide +kernel) (by decide +kernel), inA 1271 (by decide +kernel) (by decide +kernel), inA 67 (by decide +kernel) (by decide +kernel), by decide +kernel, by decide +kernel, by decide +kernel⟩
theorem ky_X9_mode : mOk yX9_mode cX9_mode 4 (some (.boolean)) 1 := ⟨inA 1276 (by decide +kernel) (by decide +kernel), inA 1274 (by decide +kernel) (by decide +kernel), inA 1275 (by decide +kernel) (by decide +kernel), inA 67 (by decide +kernel) (by decide +kernel), by decide +kernel, by decide +kernel, by decide +kernel⟩
theorem ky_X9_mask : mOk yX9_mask cX9_mask 2 (some (.boolean)) 1 := ⟨inA 1280 (by decide +kernel) (by decide +kernel), inA 1278 (by decide +kernel) (by decide +kernel), inA 1279 (by decide +kernel) (by decide +kernel), inA 67 (by decide +kernel) (by decide +kernel), by decide +kernel, by decide +kernel, by decide +kernel⟩
theorem ky_X9_resize : mOk yX9_resize cX9_resize 2 (some (.int)) 1 := ⟨inA 1284 (by decide +kernel) (by decide +kernel), inA 1282 (by decide +kernel) (by decide +kernel), inA 1283 (by decide +kernel) (by decide +kernel), inA 67 (by decide +kernel) (by decide +kernel), by decide +kernel, by decide +kernel, by decide +kernel⟩
theorem ky_X9_storm : mOk yX9_storm cX9_storm 3 (some (.int)) 2 := ⟨inA 1288 (by decide +kernel) (by decide +kernel), inA 1286 (by decide +kernel) (by decide +kernel), inA 1287 (by decide +kernel) (by decide +kernel), inA 67 (by decide +kernel) (by decide +kernel), by decide +kernel, by decide +kernel, by decide +kernel⟩
theorem ky_X9_storms : mOk yX9_storms cX9_storms 5 (some (.int)) 2 := ⟨inA 1292 (by decide +kernel) (by decide +kernel), inA 1291 (by decide +kernel) (by decide +kernel), inA 43 (by decide +kernel) (by decide +kernel), inA 67 (by decide +kernel) (by decide +kernel), by decide +kernel, by decide +kernel, by decide +kernel⟩
theorem ky_X9_blows : mOk yX9_blows cX9_blows 5 none 0 := ⟨inA 1296 (by decide +kernel) (by decide +kernel), inA 1295 (by decide +kernel) (by decide +kernel), inA 44 (by decide +kernel) (by decide +kernel), inA 67 (by decide +kernel) (by decide +kernel), by decide +kernel, by decide +kernel, by decide +kernel⟩
theorem ky_X9_drawn : mOk yX9_drawn cX9_drawn 2 (some (.int)) 1 := ⟨inA 1300 (by decide +kernel) (by decide +kernel), inA 1299 (by decide +kernel) (by decide +kernel), inA 45 (by decide +kernel) (by decide +kernel), inA 67 (by decide +kernel) (by decide +kernel), by decide +kernel, by decide +kernel, by decide +kernel⟩
theorem ky_X9_count : mOk yX9_count cX9_count 2 (some (.int)) 1 := ⟨inA 1305 (by decide +kernel) (by decide +kernel), inA 1303 (by decide +kernel) (by decide +kernel), inA 1304 (by decide +kernel) (by decide +kernel), inA 67 (by decide +kernel) (by decide +kernel), by decide +kernel, by decide +kernel, by decide +kernel⟩
theorem ky_X9_isCount : mOk yX9_isCount cX9_isCount 2 (some (.boolean)) 1 := ⟨inA 1309 (by decide +kernel) (by decide +kernel), inA 1308 (by decide +kernel) (by decide +kernel), inA 46 (by decide +kernel) (by decide +kernel), inA 67 (by decide +kernel) (by decide +kernel), by decide +kernel, by decide +kernel, by decide +kernel⟩
theorem ky_X9_told : mOk yX9_told cX9_told 2 (some (.int)) 1 := ⟨inA 1313 (by decide +kernel) (by decide +kernel), inA 1312 (by decide +kernel) (by decide +kernel), inA 47 (by decide +kernel) (by decide +kernel), inA 67 (by decide +kernel) (by decide +kernel), by decide +kernel, by decide +kernel, by decide +kernel⟩
theorem ky_X9_readyMany : mOk yX9_readyMany cX9_readyMany 5 (some (.int)) 0 := ⟨inA 1317 (by decide +kernel) (by decide +kernel), inA 1316 (by decide +kernel) (by decide +kernel), inA 48 (by decide +kernel) (by decide +kernel), inA 67 (by decide +kernel) (by decide +kernel), by decide +kernel, by decide +kernel, by decide +kernel⟩
theorem ky_X9_isReady : mOk yX9_isReady cX9_isReady 3 (some (.boolean)) 2 := ⟨inA 1321 (by decide +kernel) (by decide +kernel), inA 1320 (by decide +kernel) (by decide +kernel), inA 49 (by decide +kernel) (by decide +kernel), inA 67 (by decide +kernel) (by decide +kernel), by decide +kernel, by decide +kernel, by decide +kernel⟩
theorem ky_X9_page : mOk yX9_page cX9_page 4 (some (.int)) 2 := ⟨inA 1325 (by decide +kernel) (by decide +kernel), inA 1323 (by decide +kernel) (by decide +kernel), inA 1324 (by decide +kernel) (by decide +kernel), inA 67 (by decide +kernel) (by decide +kernel), by decide +kernel, by decide +kernel, by decide +kernel⟩
theorem ky_X9_placeOf : mOk yX9_placeOf cX9_placeOf 3 (some (.int)) 1 := ⟨inA 1329 (by decide +kernel) (by decide +kernel), inA 1328 (by decide +kernel) (by decide +kernel), inA 50 (by decide +kernel) (by decide +kernel), inA 67 (by decide +kernel) (by decide +kernel), by decide +kernel, by decide +kernel, by decide +kernel⟩
theorem ky_X9_cell : mOk yX9_cell cX9_cell 4 (some (.int)) 2 := ⟨inA 1333 (by decide +kernel) (by decide +kernel), inA 1331 (by decide +kernel) (by decide +kernel), inA 1332 (by decide +kernel) (by decide +kernel), inA 67 (by decide +kernel) (by decide +kernel), by decide +kernel, by decide +kernel, by decide +kernel⟩
theorem ky_X9_open : mOk yX9_open cX9_open 5 (some (.int)) 2 := ⟨inA 1337 (by decide +kernel) (by decide +kernel), inA 1335 (by decide +kernel) (by decide +kernel), inA 1336 (by decide +kernel) (by decide +kernel), inA 67 (by decide +kernel) (by decide +kernel), by decide +kernel, by decide +kernel, by decide +kernel⟩
theorem ky_X9_liveOf : mOk yX9_liveOf cX9_liveOf 3 (some (.int)) 1 := ⟨inA 1341 (by decide +kernel) (by decide +kernel), inA 1340 (by decide +kernel) (by decide +kernel), inA 51 (by decide +kernel) (by decide +kernel), inA 67 (by decide +kernel) (by decide +kernel), by decide +kernel, by decide +kernel, by decide +kernel⟩
theorem ky_X9_record : mOk yX9_record cX9_record 4 (some (.int)) 2 := ⟨inA 1345 (by decide +kernel) (by decide +kernel), inA 1343 (by decide +kernel) (by decide +kernel), inA 1344 (by decide +kernel) (by decide +kernel), inA 67 (by decide +kernel) (by decide +kernel), by decide +kernel, by decide +kernel, by decide +kernel⟩
theorem ky_X9_finds : mOk yX9_finds cX9_finds 5 (some (.boolean)) 1 := ⟨inA 1349 (by decide +kernel) (by decide +kernel), inA 1348 (by decide +kernel) (by decide +kernel), inA 52 (by decide +kernel) (by decide +kernel), inA 67 (by decide +kernel) (by decide +kernel), by decide +kernel, by decide +kernel, by decide +kernel⟩
theorem ky_X9_latest : mOk yX9_latest cX9_latest 2 (some (.int)) 1 := ⟨inA 1353 (by decide +kernel) (by decide +kernel), inA 1351 (by decide +kernel) (by decide +kernel), inA 1352 (by decide +kernel) (by decide +kernel), inA 67 (by decide +kernel) (by decide +kernel), by decide +kernel, by decide +kernel, by decide +kernel⟩
theorem ky_X9_notRead : mOk yX9_notRead cX9_notRead 3 (some (.int)) 0 := ⟨inA 1357 (by decide +kernel) (by decide +kernel), inA 1356 (by decide +kernel) (by decide +kernel), inA 53 (by decide +kernel) (by decide +kernel), inA 67 (by decide +kernel) (by decide +kernel), by decide +kernel, by decide +kernel, by decide +kernel⟩
theorem ky_X9_parsed : mOk yX9_parsed cX9_parsed 5 (some (.int)) 3 := ⟨inA 1361 (by decide +kernel) (by decide +kernel), inA 1359 (by decide +kernel) (by decide +kernel), inA 1360 (by decide +kernel) (by decide +kernel), inA 67 (by decide +kernel) (by decide +kernel), by decide +kernel, by decide +kernel, by decide +kernel⟩
theorem ky_X9_parses : mOk yX9_parses cX9_parses 7 none 2 := ⟨inA 1365 (by decide +kernel) (by decide +kernel), inA 1364 (by decide +kernel) (by decide +kernel), inA 54 (by decide +kernel) (by decide +kernel), inA 67 (by decide +kernel) (by decide +kernel), by decide +kernel, by decide +kernel, by decide +kernel⟩
theorem ky_X9_between : mOk yX9_between cX9_between 6 (some (.int)) 3 := ⟨inA 1369 (by decide +kernel) (by decide +kernel), inA 1367 (by decide +kernel) (by decide +kernel), inA 1368 (by decide +kernel) (by decide +kernel), inA 67 (by decide +kernel) (by decide +kernel), by decide +kernel, by decide +kernel, by decide +kernel⟩
theorem ky_X9_sum : mOk yX9_sum cX9_sum 7 (some (.int)) 3 := ⟨inA 1373 (by decide +kernel) (by decide +kernel), inA 1371 (by decide +kernel) (by decide +kernel), inA 1372 (by decide +kernel) (by decide +kernel), inA 67 (by decide +kernel) (by decide +kernel), by decide +kernel, by decide +kernel, by decide +kernel⟩
theorem ky_X9_would : mOk yX9_would cX9_would 3 (some (.int)) 2 := ⟨inA 1377 (by decide +kernel) (by decide +kernel), inA 1375 (by decide +kernel) (by decide +kernel), inA 1376 (by decide +kernel) (by decide +kernel), inA 67 (by decide +kernel) (by decide +kernel), by decide +kernel, by decide +kernel, by decide +kernel⟩
theorem ky_X9_room : mOk yX9_room cX9_room 6 (some (.int)) 1 := ⟨inA 1381 (by decide +kernel) (by decide +kernel), inA 1379 (by decide +kernel) (by decide +kernel), inA 1380 (by decide +kernel) (by decide +kernel), inA 67 (by decide +kernel) (by decide +kernel), by decide +kernel, by decide +kernel, by decide +kernel⟩
theorem ky_X9_copies : mOk yX9_copies cX9_copies 4 none 2 := ⟨inA 1385 (by decide +kernel) (by decide +kernel), inA 1384 (by decide +kernel) (by decide +kernel), inA 55 (by decide +kernel) (by decide +kernel), inA 67 (by decide +kernel) (by decide +kernel), by decide +kernel, by decide +kernel, by decide +kernel⟩
theorem ky_X9_back : mOk yX9_back cX9_back 2 (some (.int)) 1 := ⟨inA 1389 (by decide +kernel) (by decide +kernel), inA 1388 (by decide +kernel) (by decide +kernel), inA 56 (by decide +kernel) (by decide +kernel), inA 67 (by decide +kernel) (by decide +kernel), by decide +kernel, by decide +kernel, by decide +kernel⟩
theorem ky_X9_after : mOk yX9_after cX9_after 5 (some (.int)) 3 := ⟨inA 1393 (by decide +kernel) (by decide +kernel), inA 1391 (by decide +kernel) (by decide +kernel), inA 1392 (by decide +kernel) (by decide +kernel), inA 67 (by decide +kernel) (by decide +kernel), by decide +kernel, by decide +kernel, by decide +kernel⟩
theorem ky_X9_fewest : mOk yX9_fewest cX9_fewest 6 (some (.int)) 2 := ⟨inA 1397 (by decide +kernel) (by decide +kernel), inA 1395 (by decide +kernel) (by decide +kernel), inA 1396 (by decide +kernel) (by decide +kernel), inA 67 (by decide +kernel) (by decide +kernel), by decide +kernel, by decide +kernel, by decide +kernel⟩
theorem ky_X9_image : mOk yX9_image cX9_image 2 (some (.boolean)) 1 := ⟨inA 1401 (by decide +kernel) (by decide +kernel), inA 1399 (by decide +kernel) (by decide +kernel), inA 1400 (by decide +kernel) (by decide +kernel), inA 67 (by decide +kernel) (by decide +kernel), by decide +kernel, by decide +kernel, by decide +kernel⟩
theorem ky_X9_copiesText : mOk yX9_copiesText cX9_copiesText 4 none 2 := ⟨inA 1405 (by decide +kernel) (by decide +kernel), inA 1404 (by decide +kernel) (by decide +kernel), inA 57 (by decide +kernel) (by decide +kernel), inA 67 (by decide +kernel) (by decide +kernel), by decide +kernel, by decide +kernel, by decide +kernel⟩
theorem ky_X9_again : mOk yX9_again cX9_again 2 (some (.boolean)) 1 := ⟨inA 1409 (by decide +kernel) (by decide +kernel), inA 1407 (by decide +kernel) (by decide +kernel), inA 1408 (by decide +kernel) (by decide +kernel), inA 67 (by decide +kernel) (by decide +kernel), by decide +kernel, by decide +kernel, by decide +kernel⟩
theorem fg_0_0 : sk 0 0 = 2 := by decide +kernel
theorem fp_0_0 : sk 0 0 = 2 ∧ (CT 0 0).2.2.2 = true := by decide +kernel
theorem fg_0_1 : sk 0 1 = 2 := by decide +kernel
theorem fp_0_1 : sk 0 1 = 2 ∧ (CT 0 1).2.2.2 = true := by decide +kernel
theorem fg_0_2 : sk 0 2 ≠ 1 ∧ sk 0 2 ≠ 2 := by decide +kernel
theorem fp_0_2 : sk 0 2 = 3 ∧ (CT 0 2).2.2.2 = false := by decide +kernel
theorem fg_1_0 : sk 1 0 = 2 := by decide +kernel
theorem fp_1_0 : sk 1 0 = 2 ∧ (CT 1 0).2.2.2 = true := by decide +kernel
theorem fg_1_1 : sk 1 1 ≠ 1 ∧ sk 1 1 ≠ 2 := by decide +kernel
theorem fp_1_1 : sk 1 1 = 0 ∧ (CT 1 1).2.2.2 = false := by decide +kernel
theorem fg_1_2 : sk 1 2 ≠ 1 ∧ sk 1 2 ≠ 2 := by decide +kernel
theorem fp_1_2 : sk 1 2 = 0 ∧ (CT 1 2).2.2.2 = false := by decide +kernel
theorem fg_1_3 : sk 1 3 ≠ 1 ∧ sk 1 3 ≠ 2 := by decide +kernel
theorem fp_1_3 : sk 1 3 = 0 ∧ (CT 1 3).2.2.2 = false := by decide +kernel
theorem fg_1_4 : sk 1 4 ≠ 1 ∧ sk 1 4 ≠ 2 := by decide +kernel
theorem fp_1_4 : sk 1 4 = 0 ∧ (CT 1 4).2.2.2 = false := by decide +kernel
theorem fg_1_5 : sk 1 5 ≠ 1 ∧ sk 1 5 ≠ 2 := by decide +kernel
theorem fp_1_5 : sk 1 5 = 0 ∧ (CT 1 5).2.2.2 = false := by decide +kernel
theorem fg_2_0 : sk 2 0 = 2 := by decide +kernel
theorem fp_2_0 : sk 2 0 = 2 ∧ (CT 2 0).2.2.2 = true := by decide +kernel
theorem fg_2_1 : sk 2 1 = 2 := by decide +kernel
theorem fp_2_1 : sk 2 1 = 2 ∧ (CT 2 1).2.2.2 = true := by decide +kernel
theorem fg_2_2 : sk 2 2 = 2 := by decide +kernel
theorem fp_2_2 : sk 2 2 = 2 ∧ (CT 2 2).2.2.2 = true := by decide +kernel
theorem fg_2_3 : sk 2 3 ≠ 1 ∧ sk 2 3 ≠ 2 := by decide +kernel
theorem fp_2_3 : sk 2 3 = 0 ∧ (CT 2 3).2.2.2 = false := by decide +kernel
theorem fg_2_4 : sk 2 4 ≠ 1 ∧ sk 2 4 ≠ 2 := by decide +kernel
theorem fp_2_4 : sk 2 4 = 0 ∧ (CT 2 4).2.2.2 = false := by decide +kernel
theorem fg_3_0 : sk 3 0 = 2 := by decide +kernel
theorem fp_3_0 : sk 3 0 = 2 ∧ (CT 3 0).2.2.2 = true := by decide +kernel
theorem fg_3_1 : sk 3 1 = 2 := by decide +kernel
theorem fp_3_1 : sk 3 1 = 2 ∧ (CT 3 1).2.2.2 = true := by decide +kernel
theorem fg_3_2 : sk 3 2 = 2 := by decide +kernel
theorem fp_3_2 : sk 3 2 = 2 ∧ (CT 3 2).2.2.2 = true := by decide +kernel
theorem fg_3_3 : sk 3 3 = 2 := by decide +kernel
theorem fp_3_3 : sk 3 3 = 2 ∧ (CT 3 3).2.2.2 = true := by decide +kernel
theorem fg_3_4 : sk 3 4 = 2 := by decide +kernel
theorem fp_3_4 : sk 3 4 = 2 ∧ (CT 3 4).2.2.2 = true := by decide +kernel
theorem fg_3_5 : sk 3 5 = 2 := by decide +kernel
theorem fp_3_5 : sk 3 5 = 2 ∧ (CT 3 5).2.2.2 = true := by decide +kernel
theorem fg_3_6 : sk 3 6 = 2 := by decide +kernel
theorem fp_3_6 : sk 3 6 = 2 ∧ (CT 3 6).2.2.2 = true := by decide +kernel
theorem fg_3_7 : sk 3 7 = 2 := by decide +kernel
theorem fp_3_7 : sk 3 7 = 2 ∧ (CT 3 7).2.2.2 = true := by decide +kernel
theorem fg_3_8 : sk 3 8 ≠ 1 ∧ sk 3 8 ≠ 2 := by decide +kernel
theorem fp_3_8 : sk 3 8 = 0 ∧ (CT 3 8).2.2.2 = false := by decide +kernel
theorem fg_3_9 : sk 3 9 ≠ 1 ∧ sk 3 9 ≠ 2 := by decide +kernel
theorem fp_3_9 : sk 3 9 = 0 ∧ (CT 3 9).2.2.2 = false := by decide +kernel
theorem fg_3_10 : sk 3 10 ≠ 1 ∧ sk 3 10 ≠ 2 := by decide +kernel
theorem fp_3_10 : sk 3 10 = 0 ∧ (CT 3 10).2.2.2 = false := by decide +kernel
theorem fg_4_0 : sk 4 0 = 2 := by decide +kernel
theorem fp_4_0 : sk 4 0 = 2 ∧ (CT 4 0).2.2.2 = true := by decide +kernel
theorem fg_4_1 : sk 4 1 = 2 := by decide +kernel
theorem fp_4_1 : sk 4 1 = 2 ∧ (CT 4 1).2.2.2 = true := by decide +kernel
theorem fg_4_2 : sk 4 2 = 2 := by decide +kernel
theorem fp_4_2 : sk 4 2 = 2 ∧ (CT 4 2).2.2.2 = true := by decide +kernel
theorem fg_4_3 : sk 4 3 = 2 := by decide +kernel
theorem fp_4_3 : sk 4 3 = 2 ∧ (CT 4 3).2.2.2 = true := by decide +kernel
theorem fg_4_4 : sk 4 4 = 2 := by decide +kernel
theorem fp_4_4 : sk 4 4 = 2 ∧ (CT 4 4).2.2.2 = true := by decide +kernel
theorem fg_4_5 : sk 4 5 = 2 := by decide +kernel
theorem fp_4_5 : sk 4 5 = 2 ∧ (CT 4 5).2.2.2 = true := by decide +kernel
theorem fg_4_6 : sk 4 6 = 2 := by decide +kernel
theorem fp_4_6 : sk 4 6 = 2 ∧ (CT 4 6).2.2.2 = false := by decide +kernel
theorem fg_4_7 : sk 4 7 ≠ 1 ∧ sk 4 7 ≠ 2 := by decide +kernel
theorem fp_4_7 : sk 4 7 = 0 ∧ (CT 4 7).2.2.2 = false := by decide +kernel
theorem fg_4_8 : sk 4 8 ≠ 1 ∧ sk 4 8 ≠ 2 := by decide +kernel
theorem fp_4_8 : sk 4 8 = 0 ∧ (CT 4 8).2.2.2 = false := by decide +kernel
theorem fg_4_9 : sk 4 9 ≠ 1 ∧ sk 4 9 ≠ 2 := by decide +kernel
theorem fp_4_9 : sk 4 9 = 0 ∧ (CT 4 9).2.2.2 = false := by decide +kernel
theorem fg_4_10 : sk 4 10 ≠ 1 ∧ sk 4 10 ≠ 2 := by decide +kernel
theorem fp_4_10 : sk 4 10 = 3 ∧ (CT 4 10).2.2.2 = false := by decide +kernel
theorem fg_4_11 : sk 4 11 ≠ 1 ∧ sk 4 11 ≠ 2 := by decide +kernel
theorem fp_4_11 : sk 4 11 = 0 ∧ (CT 4 11).2.2.2 = false := by decide +kernel
theorem fg_4_12 : sk 4 12 ≠ 1 ∧ sk 4 12 ≠ 2 := by decide +kernel
theorem fp_4_12 : sk 4 12 = 0 ∧ (CT 4 12).2.2.2 = false := by decide +kernel
theorem fg_4_13 : sk 4 13 ≠ 1 ∧ sk 4 13 ≠ 2 := by decide +kernel
theorem fp_4_13 : sk 4 13 = 0 ∧ (CT 4 13).2.2.2 = false := by decide +kernel
theorem fg_4_14 : sk 4 14 ≠ 1 ∧ sk 4 14 ≠ 2 := by decide +kernel
theorem fp_4_14 : sk 4 14 = 0 ∧ (CT 4 14).2.2.2 = false := by decide +kernel
theorem fg_4_15 : sk 4 15 ≠ 1 ∧ sk 4 15 ≠ 2 := by decide +kernel
theorem fp_4_15 : sk 4 15 = 0 ∧ (CT 4 15).2.2.2 = false := by decide +kernel
theorem fg_5_0 : sk 5 0 ≠ 1 ∧ sk 5 0 ≠ 2 := by decide +kernel
theorem fp_5_0 : sk 5 0 = 0 ∧ (CT 5 0).2.2.2 = false := by decide +kernel
theorem fg_6_0 : sk 6 0 = 2 := by decide +kernel
theorem fp_6_0 : sk 6 0 = 2 ∧ (CT 6 0).2.2.2 = true := by decide +kernel
theorem fg_6_1 : sk 6 1 ≠ 1 ∧ sk 6 1 ≠ 2 := by decide +kernel
theorem fp_6_1 : sk 6 1 = 0 ∧ (CT 6 1).2.2.2 = false := by decide +kernel
theorem fg_6_2 : sk 6 2 ≠ 1 ∧ sk 6 2 ≠ 2 := by decide +kernel
theorem fp_6_2 : sk 6 2 = 0 ∧ (CT 6 2).2.2.2 = false := by decide +kernel
theorem fg_6_3 : sk 6 3 ≠ 1 ∧ sk 6 3 ≠ 2 := by decide +kernel
theorem fp_6_3 : sk 6 3 = 0 ∧ (CT 6 3).2.2.2 = false := by decide +kernel
theorem fg_6_4 : sk 6 4 ≠ 1 ∧ sk 6 4 ≠ 2 := by decide +kernel
theorem fp_6_4 : sk 6 4 = 0 ∧ (CT 6 4).2.2.2 = false := by decide +kernel
theorem fg_6_5 : sk 6 5 ≠ 1 ∧ sk 6 5 ≠ 2 := by decide +kernel
theorem fp_6_5 : sk 6 5 = 0 ∧ (CT 6 5).2.2.2 = false := by decide +kernel
theorem fg_6_6 : sk 6 6 ≠ 1 ∧ sk 6 6 ≠ 2 := by decide +kernel
theorem fp_6_6 : sk 6 6 = 0 ∧ (CT 6 6).2.2.2 = false := by decide +kernel
theorem fg_6_7 : sk 6 7 ≠ 1 ∧ sk 6 7 ≠ 2 := by decide +kernel
theorem fp_6_7 : sk 6 7 = 0 ∧ (CT 6 7).2.2.2 = false := by decide +kernel
theorem fg_7_0 : sk 7 0 = 2 := by decide +kernel
theorem fp_7_0 : sk 7 0 = 2 ∧ (CT 7 0).2.2.2 = true := by decide +kernel
theorem fg_7_1 : sk 7 1 ≠ 1 ∧ sk 7 1 ≠ 2 := by decide +kernel
theorem fp_7_1 : sk 7 1 = 0 ∧ (CT 7 1).2.2.2 = false := by decide +kernel
theorem fg_7_2 : sk 7 2 ≠ 1 ∧ sk 7 2 ≠ 2 := by decide +kernel
theorem fp_7_2 : sk 7 2 = 0 ∧ (CT 7 2).2.2.2 = false := by decide +kernel
theorem fg_7_3 : sk 7 3 ≠ 1 ∧ sk 7 3 ≠ 2 := by decide +kernel
theorem fp_7_3 : sk 7 3 = 0 ∧ (CT 7 3).2.2.2 = false := by decide +kernel
theorem fg_7_4 : sk 7 4 ≠ 1 ∧ sk 7 4 ≠ 2 := by decide +kernel
theorem fp_7_4 : sk 7 4 = 0 ∧ (CT 7 4).2.2.2 = false := by decide +kernel
theorem fg_7_5 : sk 7 5 ≠ 1 ∧ sk 7 5 ≠ 2 := by decide +kernel
theorem fp_7_5 : sk 7 5 = 0 ∧ (CT 7 5).2.2.2 = false := by decide +kernel
theorem fg_7_6 : sk 7 6 ≠ 1 ∧ sk 7 6 ≠ 2 := by decide +kernel
theorem fp_7_6 : sk 7 6 = 0 ∧ (CT 7 6).2.2.2 = false := by decide +kernel
theorem fg_7_7 : sk 7 7 ≠ 1 ∧ sk 7 7 ≠ 2 := by decide +kernel
theorem fp_7_7 : sk 7 7 = 0 ∧ (CT 7 7).2.2.2 = false := by decide +kernel
theorem fg_8_0 : sk 8 0 = 2 := by decide +kernel
theorem fp_8_0 : sk 8 0 = 2 ∧ (CT 8 0).2.2.2 = true := by decide +kernel
theorem fg_8_1 : sk 8 1 = 2 := by decide +kernel
theorem fp_8_1 : sk 8 1 = 2 ∧ (CT 8 1).2.2.2 = true := by decide +kernel
theorem fg_8_2 : sk 8 2 = 2 := by decide +kernel
theorem fp_8_2 : sk 8 2 = 2 ∧ (CT 8 2).2.2.2 = true := by decide +kernel
theorem fg_8_3 : sk 8 3 = 2 := by decide +kernel
theorem fp_8_3 : sk 8 3 = 2 ∧ (CT 8 3).2.2.2 = true := by decide +kernel
theorem fg_8_4 : sk 8 4 = 2 := by decide +kernel
theorem fp_8_4 : sk 8 4 = 2 ∧ (CT 8 4).2.2.2 = true := by decide +kernel
theorem fg_8_5 : sk 8 5 = 2 := by decide +kernel
theorem fp_8_5 : sk 8 5 = 2 ∧ (CT 8 5).2.2.2 = true := by decide +kernel
theorem fg_9_0 : sk 9 0 ≠ 1 ∧ sk 9 0 ≠ 2 := by decide +kernel
theorem fp_9_0 : sk 9 0 = 0 ∧ (CT 9 0).2.2.2 = false := by decide +kernel
theorem fg_9_1 : sk 9 1 = 2 := by decide +kernel
theorem fp_9_1 : sk 9 1 = 2 ∧ (CT 9 1).2.2.2 = true := by decide +kernel
theorem fg_9_2 : sk 9 2 = 2 := by decide +kernel
theorem fp_9_2 : sk 9 2 = 2 ∧ (CT 9 2).2.2.2 = true := by decide +kernel
theorem fg_9_3 : sk 9 3 = 2 := by decide +kernel
theorem fp_9_3 : sk 9 3 = 2 ∧ (CT 9 3).2.2.2 = true := by decide +kernel
theorem fg_9_4 : sk 9 4 ≠ 1 ∧ sk 9 4 ≠ 2 := by decide +kernel
theorem fp_9_4 : sk 9 4 = 0 ∧ (CT 9 4).2.2.2 = false := by decide +kernel
theorem fg_9_5 : sk 9 5 ≠ 1 ∧ sk 9 5 ≠ 2 := by decide +kernel
theorem fp_9_5 : sk 9 5 = 0 ∧ (CT 9 5).2.2.2 = false := by decide +kernel
theorem fg_9_6 : sk 9 6 ≠ 1 ∧ sk 9 6 ≠ 2 := by decide +kernel
theorem fp_9_6 : sk 9 6 = 0 ∧ (CT 9 6).2.2.2 = false := by decide +kernel
theorem fg_9_7 : sk 9 7 ≠ 1 ∧ sk 9 7 ≠ 2 := by decide +kernel
theorem fp_9_7 : sk 9 7 = 0 ∧ (CT 9 7).2.2.2 = false := by decide +kernel
theorem fg_9_8 : sk 9 8 ≠ 1 ∧ sk 9 8 ≠ 2 := by decide +kernel
theorem fp_9_8 : sk 9 8 = 0 ∧ (CT 9 8).2.2.2 = false := by decide +kernel
theorem fg_9_9 : sk 9 9 = 1 := by decide +kernel
theorem fp_9_9 : sk 9 9 = 1 ∧ (CT 9 9).2.2.2 = false := by decide +kernel
theorem fg_9_10 : sk 9 10 ≠ 1 ∧ sk 9 10 ≠ 2 := by decide +kernel
theorem fp_9_10 : sk 9 10 = 0 ∧ (CT 9 10).2.2.2 = false := by decide +kernel
theorem fg_9_11 : sk 9 11 ≠ 1 ∧ sk 9 11 ≠ 2 := by decide +kernel
theorem fp_9_11 : sk 9 11 = 0 ∧ (CT 9 11).2.2.2 = false := by decide +kernel
theorem fg_9_12 : sk 9 12 = 2 := by decide +kernel
theorem fp_9_12 : sk 9 12 = 2 ∧ (CT 9 12).2.2.2 = true := by decide +kernel
theorem fg_9_13 : sk 9 13 ≠ 1 ∧ sk 9 13 ≠ 2 := by decide +kernel
theorem fp_9_13 : sk 9 13 = 0 ∧ (CT 9 13).2.2.2 = false := by decide +kernel
theorem fg_9_14 : sk 9 14 ≠ 1 ∧ sk 9 14 ≠ 2 := by decide +kernel
theorem fp_9_14 : sk 9 14 = 0 ∧ (CT 9 14).2.2.2 = false := by decide +kernel
theorem fg_9_15 : sk 9 15 ≠ 1 ∧ sk 9 15 ≠ 2 := by decide +kernel
theorem fp_9_15 : sk 9 15 = 0 ∧ (CT 9 15).2.2.2 = false := by decide +kernel
theorem fg_9_16 : sk 9 16 = 2 := by decide +kernel
theorem fp_9_16 : sk 9 16 = 2 ∧ (CT 9 16).2.2.2 = true := by decide +kernel
theorem fg_9_17 : sk 9 17 = 2 := by decide +kernel
theorem fp_9_17 : sk 9 17 = 2 ∧ (CT 9 17).2.2.2 = true := by decide +kernel
theorem fg_9_18 : sk 9 18 ≠ 1 ∧ sk 9 18 ≠ 2 := by decide +kernel
theorem fp_9_18 : sk 9 18 = 0 ∧ (CT 9 18).2.2.2 = false := by decide +kernel
theorem fg_9_19 : sk 9 19 = 2 := by decide +kernel
theorem fp_9_19 : sk 9 19 = 2 ∧ (CT 9 19).2.2.2 = true := by decide +kernel
theorem fg_9_20 : sk 9 20 ≠ 1 ∧ sk 9 20 ≠ 2 := by decide +kernel
theorem fp_9_20 : sk 9 20 = 0 ∧ (CT 9 20).2.2.2 = false := by decide +kernel
theorem fg_9_21 : sk 9 21 ≠ 1 ∧ sk 9 21 ≠ 2 := by decide +kernel
theorem fp_9_21 : sk 9 21 = 0 ∧ (CT 9 21).2.2.2 = false := by decide +kernel
theorem fg_9_22 : sk 9 22 ≠ 1 ∧ sk 9 22 ≠ 2 := by decide +kernel
theorem fp_9_22 : sk 9 22 = 0 ∧ (CT 9 22).2.2.2 = false := by decide +kernel
theorem fg_9_23 : sk 9 23 ≠ 1 ∧ sk 9 23 ≠ 2 := by decide +kernel
theorem fp_9_23 : sk 9 23 = 0 ∧ (CT 9 23).2.2.2 = false := by decide +kernel
theorem fg_9_24 : sk 9 24 ≠ 1 ∧ sk 9 24 ≠ 2 := by decide +kernel
theorem fp_9_24 : sk 9 24 = 0 ∧ (CT 9 24).2.2.2 = false := by decide +kernel
theorem fg_9_25 : sk 9 25 ≠ 1 ∧ sk 9 25 ≠ 2 := by decide +kernel
theorem fp_9_25 : sk 9 25 = 0 ∧ (CT 9 25).2.2.2 = false := by decide +kernel
theorem fg_9_26 : sk 9 26 ≠ 1 ∧ sk 9 26 ≠ 2 := by decide +kernel
theorem fp_9_26 : sk 9 26 = 0 ∧ (CT 9 26).2.2.2 = false := by decide +kernel
theorem fg_9_27 : sk 9 27 ≠ 1 ∧ sk 9 27 ≠ 2 := by decide +kernel
theorem fp_9_27 : sk 9 27 = 0 ∧ (CT 9 27).2.2.2 = false := by decide +kernel
theorem fg_9_28 : sk 9 28 ≠ 1 ∧ sk 9 28 ≠ 2 := by decide +kernel
theorem fp_9_28 : sk 9 28 = 0 ∧ (CT 9 28).2.2.2 = false := by decide +kernel
