/-! What the Statement gives at the law's entry, in the words of the soundness parts. -/
def strX : List (Int × String) := [(99, "loses"), (101, "yields"), (103, "bars"), (105, "pour"), (107, "rack"), (109, "bottle"), (111, "pass"), (81, "from"), (83, "in"), (177, "["), (179, "]"), (191, "cask"), (193, "tier"), (195, "size"), (196, "full"), (198, "mean"), (200, "year"), (202, "mood"), (204, "done"), (206, "latest"), (208, "bottled"), (210, "room"), (171, "*"), (173, "/"), (175, "%"), (164, "+"), (166, "-"), (113, "times"), (94, "if"), (140, "not"), (142, "("), (147, ")"), (155, "<"), (157, ">"), (159, "="), (138, "and"), (124, "or"), (54, ";")]
def strN (a : Int) : String := match strX.find? (fun q => q.1 == a) with
  | some q => q.2
  | none => ""
def strW (q : Int × List Int) : List Jvm.Cond := [.exactly (.string RX2 q.1.toNat) "java/lang/String", .eq (.field (.string RX2 q.1.toNat) "java/lang/String" "coder" "B") (.int 0), .arrayOf (.field (.string RX2 q.1.toNat) "java/lang/String" "value" "[B") .byte, .eq (.length (.field (.string RX2 q.1.toNat) "java/lang/String" "value" "[B")) (.int (Int32.ofNat q.2.length))] ++ (List.range q.2.length).map (fun j => Jvm.Cond.eq (.elem (.field (.string RX2 q.1.toNat) "java/lang/String" "value" "[B") (.int (Int32.ofNat j))) (.int (Int32.ofInt (q.2.getD j 0))))
set_option maxRecDepth 100000 in
theorem sw_99 : ∀ w ∈ strW (99, [108, 111, 115, 101, 115]), w ∈ flatC (Jvm.Cond.and given_1 narrow_1) := goodIn_r _ [39, 40, 41, 42, 43, 44, 45, 46, 47] (by decide +kernel)
set_option maxRecDepth 100000 in
theorem sr_99 : Jvm.Cond.stringRef RX2 (99 : Int).toNat (strN 99) ∈ lw_tbl := goodIn_r [Jvm.Cond.stringRef RX2 (99 : Int).toNat (strN 99)] [651] (by decide +kernel) _ (List.mem_singleton.mpr rfl)
set_option maxRecDepth 100000 in
theorem sw_101 : ∀ w ∈ strW (101, [121, 105, 101, 108, 100, 115]), w ∈ flatC (Jvm.Cond.and given_1 narrow_1) := goodIn_r _ [48, 49, 50, 51, 52, 53, 54, 55, 56, 57] (by decide +kernel)
set_option maxRecDepth 100000 in
theorem sr_101 : Jvm.Cond.stringRef RX2 (101 : Int).toNat (strN 101) ∈ lw_tbl := goodIn_r [Jvm.Cond.stringRef RX2 (101 : Int).toNat (strN 101)] [704] (by decide +kernel) _ (List.mem_singleton.mpr rfl)
set_option maxRecDepth 100000 in
theorem sw_103 : ∀ w ∈ strW (103, [98, 97, 114, 115]), w ∈ flatC (Jvm.Cond.and given_1 narrow_1) := goodIn_r _ [58, 59, 60, 61, 62, 63, 64, 65] (by decide +kernel)
set_option maxRecDepth 100000 in
theorem sr_103 : Jvm.Cond.stringRef RX2 (103 : Int).toNat (strN 103) ∈ lw_tbl := goodIn_r [Jvm.Cond.stringRef RX2 (103 : Int).toNat (strN 103)] [705] (by decide +kernel) _ (List.mem_singleton.mpr rfl)
set_option maxRecDepth 100000 in
theorem sw_105 : ∀ w ∈ strW (105, [112, 111, 117, 114]), w ∈ flatC (Jvm.Cond.and given_1 narrow_1) := goodIn_r _ [66, 67, 68, 69, 70, 71, 72, 73] (by decide +kernel)
set_option maxRecDepth 100000 in
theorem sr_105 : Jvm.Cond.stringRef RX2 (105 : Int).toNat (strN 105) ∈ lw_tbl := goodIn_r [Jvm.Cond.stringRef RX2 (105 : Int).toNat (strN 105)] [710] (by decide +kernel) _ (List.mem_singleton.mpr rfl)
set_option maxRecDepth 100000 in
theorem sw_107 : ∀ w ∈ strW (107, [114, 97, 99, 107]), w ∈ flatC (Jvm.Cond.and given_1 narrow_1) := goodIn_r _ [74, 75, 76, 77, 78, 79, 80, 81] (by decide +kernel)
set_option maxRecDepth 100000 in
theorem sr_107 : Jvm.Cond.stringRef RX2 (107 : Int).toNat (strN 107) ∈ lw_tbl := goodIn_r [Jvm.Cond.stringRef RX2 (107 : Int).toNat (strN 107)] [711] (by decide +kernel) _ (List.mem_singleton.mpr rfl)
set_option maxRecDepth 100000 in
theorem sw_109 : ∀ w ∈ strW (109, [98, 111, 116, 116, 108, 101]), w ∈ flatC (Jvm.Cond.and given_1 narrow_1) := goodIn_r _ [82, 83, 84, 85, 86, 87, 88, 89, 90, 91] (by decide +kernel)
set_option maxRecDepth 100000 in
theorem sr_109 : Jvm.Cond.stringRef RX2 (109 : Int).toNat (strN 109) ∈ lw_tbl := goodIn_r [Jvm.Cond.stringRef RX2 (109 : Int).toNat (strN 109)] [712] (by decide +kernel) _ (List.mem_singleton.mpr rfl)
set_option maxRecDepth 100000 in
theorem sw_111 : ∀ w ∈ strW (111, [112, 97, 115, 115]), w ∈ flatC (Jvm.Cond.and given_1 narrow_1) := goodIn_r _ [92, 93, 94, 95, 96, 97, 98, 99] (by decide +kernel)
set_option maxRecDepth 100000 in
theorem sr_111 : Jvm.Cond.stringRef RX2 (111 : Int).toNat (strN 111) ∈ lw_tbl := goodIn_r [Jvm.Cond.stringRef RX2 (111 : Int).toNat (strN 111)] [713] (by decide +kernel) _ (List.mem_singleton.mpr rfl)
set_option maxRecDepth 100000 in
theorem sw_81 : ∀ w ∈ strW (81, [102, 114, 111, 109]), w ∈ flatC (Jvm.Cond.and given_1 narrow_1) := goodIn_r _ [100, 101, 102, 103, 104, 105, 106, 107] (by decide +kernel)
set_option maxRecDepth 100000 in
theorem sr_81 : Jvm.Cond.stringRef RX2 (81 : Int).toNat (strN 81) ∈ lw_tbl := goodIn_r [Jvm.Cond.stringRef RX2 (81 : Int).toNat (strN 81)] [729] (by decide +kernel) _ (List.mem_singleton.mpr rfl)
set_option maxRecDepth 100000 in
theorem sw_83 : ∀ w ∈ strW (83, [105, 110]), w ∈ flatC (Jvm.Cond.and given_1 narrow_1) := goodIn_r _ [108, 109, 110, 111, 112, 113] (by decide +kernel)
set_option maxRecDepth 100000 in
theorem sr_83 : Jvm.Cond.stringRef RX2 (83 : Int).toNat (strN 83) ∈ lw_tbl := goodIn_r [Jvm.Cond.stringRef RX2 (83 : Int).toNat (strN 83)] [730] (by decide +kernel) _ (List.mem_singleton.mpr rfl)
set_option maxRecDepth 100000 in
theorem sw_177 : ∀ w ∈ strW (177, [91]), w ∈ flatC (Jvm.Cond.and given_1 narrow_1) := goodIn_r _ [114, 115, 116, 117, 118] (by decide +kernel)
set_option maxRecDepth 100000 in
theorem sr_177 : Jvm.Cond.stringRef RX2 (177 : Int).toNat (strN 177) ∈ lw_tbl := goodIn_r [Jvm.Cond.stringRef RX2 (177 : Int).toNat (strN 177)] [743] (by decide +kernel) _ (List.mem_singleton.mpr rfl)
set_option maxRecDepth 100000 in
theorem sw_179 : ∀ w ∈ strW (179, [93]), w ∈ flatC (Jvm.Cond.and given_1 narrow_1) := goodIn_r _ [119, 120, 121, 122, 123] (by decide +kernel)
set_option maxRecDepth 100000 in
theorem sr_179 : Jvm.Cond.stringRef RX2 (179 : Int).toNat (strN 179) ∈ lw_tbl := goodIn_r [Jvm.Cond.stringRef RX2 (179 : Int).toNat (strN 179)] [748] (by decide +kernel) _ (List.mem_singleton.mpr rfl)
set_option maxRecDepth 100000 in
theorem sw_191 : ∀ w ∈ strW (191, [99, 97, 115, 107]), w ∈ flatC (Jvm.Cond.and given_1 narrow_1) := goodIn_r _ [124, 125, 126, 127, 128, 129, 130, 131] (by decide +kernel)
set_option maxRecDepth 100000 in
theorem sr_191 : Jvm.Cond.stringRef RX2 (191 : Int).toNat (strN 191) ∈ lw_tbl := goodIn_r [Jvm.Cond.stringRef RX2 (191 : Int).toNat (strN 191)] [757] (by decide +kernel) _ (List.mem_singleton.mpr rfl)
set_option maxRecDepth 100000 in
theorem sw_193 : ∀ w ∈ strW (193, [116, 105, 101, 114]), w ∈ flatC (Jvm.Cond.and given_1 narrow_1) := goodIn_r _ [132, 133, 134, 135, 136, 137, 138, 139] (by decide +kernel)
set_option maxRecDepth 100000 in
theorem sr_193 : Jvm.Cond.stringRef RX2 (193 : Int).toNat (strN 193) ∈ lw_tbl := goodIn_r [Jvm.Cond.stringRef RX2 (193 : Int).toNat (strN 193)] [758] (by decide +kernel) _ (List.mem_singleton.mpr rfl)
set_option maxRecDepth 100000 in
theorem sw_195 : ∀ w ∈ strW (195, [115, 105, 122, 101]), w ∈ flatC (Jvm.Cond.and given_1 narrow_1) := goodIn_r _ [140, 141, 142, 143, 144, 145, 146, 147] (by decide +kernel)
set_option maxRecDepth 100000 in
theorem sr_195 : Jvm.Cond.stringRef RX2 (195 : Int).toNat (strN 195) ∈ lw_tbl := goodIn_r [Jvm.Cond.stringRef RX2 (195 : Int).toNat (strN 195)] [759] (by decide +kernel) _ (List.mem_singleton.mpr rfl)
set_option maxRecDepth 100000 in
theorem sw_196 : ∀ w ∈ strW (196, [102, 117, 108, 108]), w ∈ flatC (Jvm.Cond.and given_1 narrow_1) := goodIn_r _ [148, 149, 150, 151, 152, 153, 154, 155] (by decide +kernel)
set_option maxRecDepth 100000 in
theorem sr_196 : Jvm.Cond.stringRef RX2 (196 : Int).toNat (strN 196) ∈ lw_tbl := goodIn_r [Jvm.Cond.stringRef RX2 (196 : Int).toNat (strN 196)] [760] (by decide +kernel) _ (List.mem_singleton.mpr rfl)
set_option maxRecDepth 100000 in
theorem sw_198 : ∀ w ∈ strW (198, [109, 101, 97, 110]), w ∈ flatC (Jvm.Cond.and given_1 narrow_1) := goodIn_r _ [156, 157, 158, 159, 160, 161, 162, 163] (by decide +kernel)
set_option maxRecDepth 100000 in
theorem sr_198 : Jvm.Cond.stringRef RX2 (198 : Int).toNat (strN 198) ∈ lw_tbl := goodIn_r [Jvm.Cond.stringRef RX2 (198 : Int).toNat (strN 198)] [761] (by decide +kernel) _ (List.mem_singleton.mpr rfl)
set_option maxRecDepth 100000 in
theorem sw_200 : ∀ w ∈ strW (200, [121, 101, 97, 114]), w ∈ flatC (Jvm.Cond.and given_1 narrow_1) := goodIn_r _ [164, 165, 166, 167, 168, 169, 170, 171] (by decide +kernel)
set_option maxRecDepth 100000 in
theorem sr_200 : Jvm.Cond.stringRef RX2 (200 : Int).toNat (strN 200) ∈ lw_tbl := goodIn_r [Jvm.Cond.stringRef RX2 (200 : Int).toNat (strN 200)] [762] (by decide +kernel) _ (List.mem_singleton.mpr rfl)
set_option maxRecDepth 100000 in
theorem sw_202 : ∀ w ∈ strW (202, [109, 111, 111, 100]), w ∈ flatC (Jvm.Cond.and given_1 narrow_1) := goodIn_r _ [172, 173, 174, 175, 176, 177, 178, 179] (by decide +kernel)
set_option maxRecDepth 100000 in
theorem sr_202 : Jvm.Cond.stringRef RX2 (202 : Int).toNat (strN 202) ∈ lw_tbl := goodIn_r [Jvm.Cond.stringRef RX2 (202 : Int).toNat (strN 202)] [763] (by decide +kernel) _ (List.mem_singleton.mpr rfl)
set_option maxRecDepth 100000 in
theorem sw_204 : ∀ w ∈ strW (204, [100, 111, 110, 101]), w ∈ flatC (Jvm.Cond.and given_1 narrow_1) := goodIn_r _ [180, 181, 182, 183, 184, 185, 186, 187] (by decide +kernel)
set_option maxRecDepth 100000 in
theorem sr_204 : Jvm.Cond.stringRef RX2 (204 : Int).toNat (strN 204) ∈ lw_tbl := goodIn_r [Jvm.Cond.stringRef RX2 (204 : Int).toNat (strN 204)] [768] (by decide +kernel) _ (List.mem_singleton.mpr rfl)
set_option maxRecDepth 100000 in
theorem sw_206 : ∀ w ∈ strW (206, [108, 97, 116, 101, 115, 116]), w ∈ flatC (Jvm.Cond.and given_1 narrow_1) := goodIn_r _ [188, 189, 190, 191, 192, 193, 194, 195, 196, 197] (by decide +kernel)
set_option maxRecDepth 100000 in
theorem sr_206 : Jvm.Cond.stringRef RX2 (206 : Int).toNat (strN 206) ∈ lw_tbl := goodIn_r [Jvm.Cond.stringRef RX2 (206 : Int).toNat (strN 206)] [769] (by decide +kernel) _ (List.mem_singleton.mpr rfl)
set_option maxRecDepth 100000 in
theorem sw_208 : ∀ w ∈ strW (208, [98, 111, 116, 116, 108, 101, 100]), w ∈ flatC (Jvm.Cond.and given_1 narrow_1) := goodIn_r _ [198, 199, 200, 201, 202, 203, 204, 205, 206, 207, 208] (by decide +kernel)
set_option maxRecDepth 100000 in
theorem sr_208 : Jvm.Cond.stringRef RX2 (208 : Int).toNat (strN 208) ∈ lw_tbl := goodIn_r [Jvm.Cond.stringRef RX2 (208 : Int).toNat (strN 208)] [770] (by decide +kernel) _ (List.mem_singleton.mpr rfl)
set_option maxRecDepth 100000 in
theorem sw_210 : ∀ w ∈ strW (210, [114, 111, 111, 109]), w ∈ flatC (Jvm.Cond.and given_1 narrow_1) := goodIn_r _ [209, 210, 211, 212, 213, 214, 215, 216] (by decide +kernel)
set_option maxRecDepth 100000 in
theorem sr_210 : Jvm.Cond.stringRef RX2 (210 : Int).toNat (strN 210) ∈ lw_tbl := goodIn_r [Jvm.Cond.stringRef RX2 (210 : Int).toNat (strN 210)] [771] (by decide +kernel) _ (List.mem_singleton.mpr rfl)
set_option maxRecDepth 100000 in
theorem sw_171 : ∀ w ∈ strW (171, [42]), w ∈ flatC (Jvm.Cond.and given_1 narrow_1) := goodIn_r _ [217, 218, 219, 220, 221] (by decide +kernel)
set_option maxRecDepth 100000 in
theorem sr_171 : Jvm.Cond.stringRef RX2 (171 : Int).toNat (strN 171) ∈ lw_tbl := goodIn_r [Jvm.Cond.stringRef RX2 (171 : Int).toNat (strN 171)] [780] (by decide +kernel) _ (List.mem_singleton.mpr rfl)
set_option maxRecDepth 100000 in
theorem sw_173 : ∀ w ∈ strW (173, [47]), w ∈ flatC (Jvm.Cond.and given_1 narrow_1) := goodIn_r _ [222, 223, 224, 225, 226] (by decide +kernel)
set_option maxRecDepth 100000 in
theorem sr_173 : Jvm.Cond.stringRef RX2 (173 : Int).toNat (strN 173) ∈ lw_tbl := goodIn_r [Jvm.Cond.stringRef RX2 (173 : Int).toNat (strN 173)] [781] (by decide +kernel) _ (List.mem_singleton.mpr rfl)
set_option maxRecDepth 100000 in
theorem sw_175 : ∀ w ∈ strW (175, [37]), w ∈ flatC (Jvm.Cond.and given_1 narrow_1) := goodIn_r _ [227, 228, 229, 230, 231] (by decide +kernel)
set_option maxRecDepth 100000 in
theorem sr_175 : Jvm.Cond.stringRef RX2 (175 : Int).toNat (strN 175) ∈ lw_tbl := goodIn_r [Jvm.Cond.stringRef RX2 (175 : Int).toNat (strN 175)] [782] (by decide +kernel) _ (List.mem_singleton.mpr rfl)
set_option maxRecDepth 100000 in
theorem sw_164 : ∀ w ∈ strW (164, [43]), w ∈ flatC (Jvm.Cond.and given_1 narrow_1) := goodIn_r _ [232, 233, 234, 235, 236] (by decide +kernel)
set_option maxRecDepth 100000 in
theorem sr_164 : Jvm.Cond.stringRef RX2 (164 : Int).toNat (strN 164) ∈ lw_tbl := goodIn_r [Jvm.Cond.stringRef RX2 (164 : Int).toNat (strN 164)] [783] (by decide +kernel) _ (List.mem_singleton.mpr rfl)
set_option maxRecDepth 100000 in
theorem sw_166 : ∀ w ∈ strW (166, [45]), w ∈ flatC (Jvm.Cond.and given_1 narrow_1) := goodIn_r _ [237, 238, 239, 240, 241] (by decide +kernel)
set_option maxRecDepth 100000 in
theorem sr_166 : Jvm.Cond.stringRef RX2 (166 : Int).toNat (strN 166) ∈ lw_tbl := goodIn_r [Jvm.Cond.stringRef RX2 (166 : Int).toNat (strN 166)] [784] (by decide +kernel) _ (List.mem_singleton.mpr rfl)
set_option maxRecDepth 100000 in
theorem sw_113 : ∀ w ∈ strW (113, [116, 105, 109, 101, 115]), w ∈ flatC (Jvm.Cond.and given_1 narrow_1) := goodIn_r _ [242, 243, 244, 245, 246, 247, 248, 249, 250] (by decide +kernel)
set_option maxRecDepth 100000 in
theorem sr_113 : Jvm.Cond.stringRef RX2 (113 : Int).toNat (strN 113) ∈ lw_tbl := goodIn_r [Jvm.Cond.stringRef RX2 (113 : Int).toNat (strN 113)] [790] (by decide +kernel) _ (List.mem_singleton.mpr rfl)
set_option maxRecDepth 100000 in
theorem sw_94 : ∀ w ∈ strW (94, [105, 102]), w ∈ flatC (Jvm.Cond.and given_1 narrow_1) := goodIn_r _ [251, 252, 253, 254, 255, 256] (by decide +kernel)
set_option maxRecDepth 100000 in
theorem sr_94 : Jvm.Cond.stringRef RX2 (94 : Int).toNat (strN 94) ∈ lw_tbl := goodIn_r [Jvm.Cond.stringRef RX2 (94 : Int).toNat (strN 94)] [795] (by decide +kernel) _ (List.mem_singleton.mpr rfl)
set_option maxRecDepth 100000 in
theorem sw_140 : ∀ w ∈ strW (140, [110, 111, 116]), w ∈ flatC (Jvm.Cond.and given_1 narrow_1) := goodIn_r _ [257, 258, 259, 260, 261, 262, 263] (by decide +kernel)
set_option maxRecDepth 100000 in
theorem sr_140 : Jvm.Cond.stringRef RX2 (140 : Int).toNat (strN 140) ∈ lw_tbl := goodIn_r [Jvm.Cond.stringRef RX2 (140 : Int).toNat (strN 140)] [808] (by decide +kernel) _ (List.mem_singleton.mpr rfl)
set_option maxRecDepth 100000 in
theorem sw_142 : ∀ w ∈ strW (142, [40]), w ∈ flatC (Jvm.Cond.and given_1 narrow_1) := goodIn_r _ [264, 265, 266, 267, 268] (by decide +kernel)
set_option maxRecDepth 100000 in
theorem sr_142 : Jvm.Cond.stringRef RX2 (142 : Int).toNat (strN 142) ∈ lw_tbl := goodIn_r [Jvm.Cond.stringRef RX2 (142 : Int).toNat (strN 142)] [809] (by decide +kernel) _ (List.mem_singleton.mpr rfl)
set_option maxRecDepth 100000 in
theorem sw_147 : ∀ w ∈ strW (147, [41]), w ∈ flatC (Jvm.Cond.and given_1 narrow_1) := goodIn_r _ [269, 270, 271, 272, 273] (by decide +kernel)
set_option maxRecDepth 100000 in
theorem sr_147 : Jvm.Cond.stringRef RX2 (147 : Int).toNat (strN 147) ∈ lw_tbl := goodIn_r [Jvm.Cond.stringRef RX2 (147 : Int).toNat (strN 147)] [810] (by decide +kernel) _ (List.mem_singleton.mpr rfl)
set_option maxRecDepth 100000 in
theorem sw_155 : ∀ w ∈ strW (155, [60]), w ∈ flatC (Jvm.Cond.and given_1 narrow_1) := goodIn_r _ [274, 275, 276, 277, 278] (by decide +kernel)
set_option maxRecDepth 100000 in
theorem sr_155 : Jvm.Cond.stringRef RX2 (155 : Int).toNat (strN 155) ∈ lw_tbl := goodIn_r [Jvm.Cond.stringRef RX2 (155 : Int).toNat (strN 155)] [815] (by decide +kernel) _ (List.mem_singleton.mpr rfl)
set_option maxRecDepth 100000 in
theorem sw_157 : ∀ w ∈ strW (157, [62]), w ∈ flatC (Jvm.Cond.and given_1 narrow_1) := goodIn_r _ [279, 280, 281, 282, 283] (by decide +kernel)
set_option maxRecDepth 100000 in
theorem sr_157 : Jvm.Cond.stringRef RX2 (157 : Int).toNat (strN 157) ∈ lw_tbl := goodIn_r [Jvm.Cond.stringRef RX2 (157 : Int).toNat (strN 157)] [816] (by decide +kernel) _ (List.mem_singleton.mpr rfl)
set_option maxRecDepth 100000 in
theorem sw_159 : ∀ w ∈ strW (159, [61]), w ∈ flatC (Jvm.Cond.and given_1 narrow_1) := goodIn_r _ [284, 285, 286, 287, 288] (by decide +kernel)
set_option maxRecDepth 100000 in
theorem sr_159 : Jvm.Cond.stringRef RX2 (159 : Int).toNat (strN 159) ∈ lw_tbl := goodIn_r [Jvm.Cond.stringRef RX2 (159 : Int).toNat (strN 159)] [817] (by decide +kernel) _ (List.mem_singleton.mpr rfl)
set_option maxRecDepth 100000 in
theorem sw_138 : ∀ w ∈ strW (138, [97, 110, 100]), w ∈ flatC (Jvm.Cond.and given_1 narrow_1) := goodIn_r _ [289, 290, 291, 292, 293, 294, 295] (by decide +kernel)
set_option maxRecDepth 100000 in
theorem sr_138 : Jvm.Cond.stringRef RX2 (138 : Int).toNat (strN 138) ∈ lw_tbl := goodIn_r [Jvm.Cond.stringRef RX2 (138 : Int).toNat (strN 138)] [818] (by decide +kernel) _ (List.mem_singleton.mpr rfl)
set_option maxRecDepth 100000 in
theorem sw_124 : ∀ w ∈ strW (124, [111, 114]), w ∈ flatC (Jvm.Cond.and given_1 narrow_1) := goodIn_r _ [296, 297, 298, 299, 300, 301] (by decide +kernel)
set_option maxRecDepth 100000 in
theorem sr_124 : Jvm.Cond.stringRef RX2 (124 : Int).toNat (strN 124) ∈ lw_tbl := goodIn_r [Jvm.Cond.stringRef RX2 (124 : Int).toNat (strN 124)] [823] (by decide +kernel) _ (List.mem_singleton.mpr rfl)
set_option maxRecDepth 100000 in
theorem sw_54 : ∀ w ∈ strW (54, [59]), w ∈ flatC (Jvm.Cond.and given_1 narrow_1) := goodIn_r _ [302, 303, 304, 305, 306] (by decide +kernel)
set_option maxRecDepth 100000 in
theorem sr_54 : Jvm.Cond.stringRef RX2 (54 : Int).toNat (strN 54) ∈ lw_tbl := goodIn_r [Jvm.Cond.stringRef RX2 (54 : Int).toNat (strN 54)] [824] (by decide +kernel) _ (List.mem_singleton.mpr rfl)
set_option maxRecDepth 100000 in
theorem strW_in : ∀ q ∈ strT, ∀ w ∈ strW q, w ∈ flatC (Jvm.Cond.and given_1 narrow_1) := (List.forall_mem_cons.mpr ⟨sw_99, (List.forall_mem_cons.mpr ⟨sw_101, (List.forall_mem_cons.mpr ⟨sw_103, (List.forall_mem_cons.mpr ⟨sw_105, (List.forall_mem_cons.mpr ⟨sw_107, (List.forall_mem_cons.mpr ⟨sw_109, (List.forall_mem_cons.mpr ⟨sw_111, (List.forall_mem_cons.mpr ⟨sw_81, (List.forall_mem_cons.mpr ⟨sw_83, (List.forall_mem_cons.mpr ⟨sw_177, (List.forall_mem_cons.mpr ⟨sw_179, (List.forall_mem_cons.mpr ⟨sw_191, (List.forall_mem_cons.mpr ⟨sw_193, (List.forall_mem_cons.mpr ⟨sw_195, (List.forall_mem_cons.mpr ⟨sw_196, (List.forall_mem_cons.mpr ⟨sw_198, (List.forall_mem_cons.mpr ⟨sw_200, (List.forall_mem_cons.mpr ⟨sw_202, (List.forall_mem_cons.mpr ⟨sw_204, (List.forall_mem_cons.mpr ⟨sw_206, (List.forall_mem_cons.mpr ⟨sw_208, (List.forall_mem_cons.mpr ⟨sw_210, (List.forall_mem_cons.mpr ⟨sw_171, (List.forall_mem_cons.mpr ⟨sw_173, (List.forall_mem_cons.mpr ⟨sw_175, (List.forall_mem_cons.mpr ⟨sw_164, (List.forall_mem_cons.mpr ⟨sw_166, (List.forall_mem_cons.mpr ⟨sw_113, (List.forall_mem_cons.mpr ⟨sw_94, (List.forall_mem_cons.mpr ⟨sw_140, (List.forall_mem_cons.mpr ⟨sw_142, (List.forall_mem_cons.mpr ⟨sw_147, (List.forall_mem_cons.mpr ⟨sw_155, (List.forall_mem_cons.mpr ⟨sw_157, (List.forall_mem_cons.mpr ⟨sw_159, (List.forall_mem_cons.mpr ⟨sw_138, (List.forall_mem_cons.mpr ⟨sw_124, (List.forall_mem_cons.mpr ⟨sw_54, (List.forall_mem_nil _)⟩)⟩)⟩)⟩)⟩)⟩)⟩)⟩)⟩)⟩)⟩)⟩)⟩)⟩)⟩)⟩)⟩)⟩)⟩)⟩)⟩)⟩)⟩)⟩)⟩)⟩)⟩)⟩)⟩)⟩)⟩)⟩)⟩)⟩)⟩)⟩)⟩)⟩)
set_option maxRecDepth 100000 in
theorem strR_in : ∀ q ∈ strT, Jvm.Cond.stringRef RX2 q.1.toNat (strN q.1) ∈ lw_tbl := (List.forall_mem_cons.mpr ⟨sr_99, (List.forall_mem_cons.mpr ⟨sr_101, (List.forall_mem_cons.mpr ⟨sr_103, (List.forall_mem_cons.mpr ⟨sr_105, (List.forall_mem_cons.mpr ⟨sr_107, (List.forall_mem_cons.mpr ⟨sr_109, (List.forall_mem_cons.mpr ⟨sr_111, (List.forall_mem_cons.mpr ⟨sr_81, (List.forall_mem_cons.mpr ⟨sr_83, (List.forall_mem_cons.mpr ⟨sr_177, (List.forall_mem_cons.mpr ⟨sr_179, (List.forall_mem_cons.mpr ⟨sr_191, (List.forall_mem_cons.mpr ⟨sr_193, (List.forall_mem_cons.mpr ⟨sr_195, (List.forall_mem_cons.mpr ⟨sr_196, (List.forall_mem_cons.mpr ⟨sr_198, (List.forall_mem_cons.mpr ⟨sr_200, (List.forall_mem_cons.mpr ⟨sr_202, (List.forall_mem_cons.mpr ⟨sr_204, (List.forall_mem_cons.mpr ⟨sr_206, (List.forall_mem_cons.mpr ⟨sr_208, (List.forall_mem_cons.mpr ⟨sr_210, (List.forall_mem_cons.mpr ⟨sr_171, (List.forall_mem_cons.mpr ⟨sr_173, (List.forall_mem_cons.mpr ⟨sr_175, (List.forall_mem_cons.mpr ⟨sr_164, (List.forall_mem_cons.mpr ⟨sr_166, (List.forall_mem_cons.mpr ⟨sr_113, (List.forall_mem_cons.mpr ⟨sr_94, (List.forall_mem_cons.mpr ⟨sr_140, (List.forall_mem_cons.mpr ⟨sr_142, (List.forall_mem_cons.mpr ⟨sr_147, (List.forall_mem_cons.mpr ⟨sr_155, (List.forall_mem_cons.mpr ⟨sr_157, (List.forall_mem_cons.mpr ⟨sr_159, (List.forall_mem_cons.mpr ⟨sr_138, (List.forall_mem_cons.mpr ⟨sr_124, (List.forall_mem_cons.mpr ⟨sr_54, (List.forall_mem_nil _)⟩)⟩)⟩)⟩)⟩)⟩)⟩)⟩)⟩)⟩)⟩)⟩)⟩)⟩)⟩)⟩)⟩)⟩)⟩)⟩)⟩)⟩)⟩)⟩)⟩)⟩)⟩)⟩)⟩)⟩)⟩)⟩)⟩)⟩)⟩)⟩)⟩)⟩)
theorem strT_uq : ∀ q ∈ strT, ∀ r ∈ strT, q.1.toNat = r.1.toNat → q = r := by decide +kernel
theorem strT_big : ∀ q ∈ strT, q.1.toNat ≠ 1 := by decide +kernel
theorem arr_prim {s : State} {args : Array Value} {ty : FieldType} (h : (Cond.arrayClass ty).before args s = true) (hty : ty = .int ∨ ty = .long ∨ ty = .boolean) : ∃ cA : ClassId, ArrOfT s cA ty ∧ va_RA s cA ty := by
  obtain ⟨cA, kA, comp, h1, h2, h3⟩ := Cond.arrayClass_spec h
  have hA : ArrOfT s cA ty := fun n z => ⟨(fun k h => by cases h), kA, h2, comp, h3⟩
  refine ⟨cA, hA, ?_⟩
  rcases hty with rfl | rfl | rfl <;> exact h1
theorem arr_obj {s : State} {C : String} (h : va_AO C s) : ∃ cA : ClassId, ArrOfT s cA (.object C) ∧ va_RA s cA (.object C) := by
  obtain ⟨comp, c, k, h1, h2, h3, h4, h5⟩ := Cond.arrayOver_spec h
  have hA : ArrOfT s c (.object C) := fun n z => ⟨(fun k h => by cases h), k, h3, comp, h4⟩
  exact ⟨c, hA, k, comp, h3, h4, h1, h5⟩
theorem str_start {s : State} {args : Array Value} {n0 : Nat} (hA : ∀ a : Nat, a < s.heap.size → ¬ n0 ≤ a) (hf : ∀ w ∈ flatC (Jvm.Cond.and given_1 narrow_1), w.before args s = true) (hts : ∀ w ∈ lw_tbl, w.before args s = true) (b : Nat) :
    ∃ ak av : Nat → Nat, ak 1 = b ∧ ∀ q ∈ strT, stOne n0 ak av s s.heap q := by
  have h0 : ∀ i : Nat, ∃ z : Nat × Nat, ∀ q ∈ strT, q.1.toNat = i → (Term.string RX2 q.1.toNat).eval args s none [] s = some (.ref z.1) ∧ va_O "java/lang/String" z.1 (fun z => n0 ≤ z) s s.heap ∧ va_OF "java/lang/String" "coder" "B" (.int 0) z.1 (fun z => n0 ≤ z) s s.heap ∧ va_OF "java/lang/String" "value" "[B" (.ref z.2) z.1 (fun z => n0 ≤ z) s s.heap ∧ va_T .byte z.2 q.2.length (fun j => .int (Int32.ofInt (q.2.getD j 0))) (fun z => n0 ≤ z) s s.heap := by
    intro i
    by_cases hex : ∃ q ∈ strT, q.1.toNat = i
    · obtain ⟨q, hq, hi⟩ := hex
      have hw : ∀ w ∈ strW q, w.before args s = true := fun w h => hf w (strW_in q hq w h)
      have w0 := hw _ (List.mem_append_left _ (List.mem_of_getElem? (i := 0) rfl))
      have w1 := hw _ (List.mem_append_left _ (List.mem_of_getElem? (i := 1) rfl))
      have w2 := hw _ (List.mem_append_left _ (List.mem_of_getElem? (i := 2) rfl))
      have w3 := hw _ (List.mem_append_left _ (List.mem_of_getElem? (i := 3) rfl))
      have w4 : ∀ j : Nat, j < q.2.length → (Cond.eq (.elem (.field (.string RX2 q.1.toNat) "java/lang/String" "value" "[B") (.int (Int32.ofNat j))) (.int (Int32.ofInt (q.2.getD j 0)))).before args s = true := fun j hj => hw _ (List.mem_append_right _ (List.mem_map.mpr ⟨j, List.mem_range.mpr hj, rfl⟩))
      obtain ⟨a, c, cA, kA, q1, q2, q3, q4, q5, q6, -⟩ := Cond.exactly_spec (args := args) (first := s) (o := none) (s := s) (idx := []) (t := Term.string RX2 q.1.toNat) (cls := "java/lang/String") w0
      have hlen := (strT_ok q hq).2.1
      obtain ⟨t, ht, hT⟩ := va_Tof (N := q.2.length) (f := fun j => .int (Int32.ofInt (q.2.getD j 0))) (A := fun z => n0 ≤ z) (by omega) w2 (va_eqt w3) (fun j hj => va_eqt (w4 j hj)) hA
      refine ⟨(a, t), fun r hr hri => ?_⟩
      have er : r = q := strT_uq r hr q hq (by omega)
      subst er
      exact ⟨q1, ⟨cA, q3, q5, by rw [q6]; exact q2, hA a (Array.getElem?_eq_some_iff.mp q3).1⟩, vk_OFof q1 (va_eqt w1) hA, vk_OFof q1 ht hA, hT⟩
    · exact ⟨(0, 0), fun q hq hi => absurd ⟨q, hq, hi⟩ hex⟩
  obtain ⟨ad, had⟩ := Classical.axiomOfChoice h0
  refine ⟨fun i => if i = 1 then b else (ad i).1, fun i => (ad i).2, if_pos rfl, fun q hq => ?_⟩
  have e1 : (if q.1.toNat = 1 then b else (ad q.1.toNat).1) = (ad q.1.toNat).1 := if_neg (strT_big q hq)
  obtain ⟨g1, g2, g3, g4, g5⟩ := had q.1.toNat q hq rfl
  unfold stOne
  dsimp only
  rw [e1]
  exact ⟨g2, g3, g4, g5, strN q.1, vk_R.of (hts _ (strR_in q hq)) g1⟩
