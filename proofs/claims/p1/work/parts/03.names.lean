/-- what of the tables' words a contract may carry on -/
def zT : List Cond := lw_tbl.filter goodWord
theorem zin {w : Cond} (i : Nat) (h : lw_tbl[i]? = some w) (hg : goodWord w = true) : w ∈ zT := List.mem_filter.mpr ⟨List.mem_of_getElem? h, hg⟩
theorem zT_tbl {w : Cond} (h : w ∈ zT) : w ∈ lw_tbl := (List.mem_filter.mp h).1
theorem mk_good {c c2 : Cond} (h : c2 ∈ zT) : GoodIn (c :: zT) (c2 :: zT) := fun w hw => (List.mem_cons.mp hw).elim (fun e => ⟨List.mem_cons_of_mem _ (e ▸ h), good_of_word (List.mem_filter.mp (e ▸ h)).2⟩) (fun h => ⟨List.mem_cons_of_mem _ h, good_of_word (List.mem_filter.mp h).2⟩)
theorem mk_cons {c w : Cond} {ws : List Cond} (h : w ∈ zT) (hg : GoodIn (c :: zT) ws) : GoodIn (c :: zT) (w :: ws) := fun v hv => (List.mem_cons.mp hv).elim (fun e => ⟨List.mem_cons_of_mem _ (e ▸ h), good_of_word (List.mem_filter.mp (e ▸ h)).2⟩) (hg v)
theorem mk_goodL {c2 : Cond} (h : c2 ∈ zT) : GoodIn lw_tbl (c2 :: zT) := fun w hw => (List.mem_cons.mp hw).elim (fun e => ⟨zT_tbl (e ▸ h), good_of_word (List.mem_filter.mp (e ▸ h)).2⟩) (fun h => ⟨zT_tbl h, good_of_word (List.mem_filter.mp h).2⟩)
def kR_C : String := "TreeCounts"
def kF_C : u_T := fun k => match k with
  | 0 => ("TreeCounts", "net", "LTreeCounts$Net;", true)
  | 1 => ("TreeCounts", "sums", "LTreeCounts$Trees;", true)
  | 2 => ("TreeCounts", "rings", "LTreeCounts$Rings;", true)
  | 3 => ("TreeCounts", "rounds", "LTreeCounts$Group;", true)
  | 4 => ("TreeCounts", "piles", "LTreeCounts$Piles;", true)
  | _ => ("TreeCounts", "sets", "LTreeCounts$Sets;", true)
def kT_C : Nat → FieldType := fun k => match k with
  | 0 => .object "TreeCounts$Net"
  | 1 => .object "TreeCounts$Trees"
  | 2 => .object "TreeCounts$Rings"
  | 3 => .object "TreeCounts$Group"
  | 4 => .object "TreeCounts$Piles"
  | _ => .object "TreeCounts$Sets"
theorem kn_C : ∀ a, a < 6 → ∀ b, b < 6 → a ≠ b → (kF_C a).2.1 ≠ (kF_C b).2.1 := by decide +kernel
theorem kt_C : ∀ k, k < 6 → parseFieldDescriptor (kF_C k).2.2.1 = some (kT_C k) := by decide +kernel
set_option maxRecDepth 100000 in
theorem ki_C : ∀ w ∈ u_ws kR_C kF_C 6, w ∈ zT := by
  have h : ∀ j, j < 6 → u_lay kR_C kF_C j ∈ zT := by
    intro j hj
    match j, hj with
    | 0, _ => exact (zin 305 rfl rfl)
    | 1, _ => exact (zin 307 rfl rfl)
    | 2, _ => exact (zin 309 rfl rfl)
    | 3, _ => exact (zin 311 rfl rfl)
    | 4, _ => exact (zin 313 rfl rfl)
    | 5, _ => exact (zin 315 rfl rfl)
    | j + 6, h => omega
  intro w hw
  obtain ⟨j, hj, rfl⟩ := List.mem_map.mp hw
  exact h j (List.mem_range.mp hj)
def kR_N : String := "TreeCounts$Net"
def kF_N : u_T := fun k => match k with
  | 0 => ("TreeCounts$Net", "nodes", "I", false)
  | 1 => ("TreeCounts$Net", "arcs", "I", false)
  | 2 => ("TreeCounts$Net", "from", "[I", true)
  | 3 => ("TreeCounts$Net", "to", "[I", true)
  | _ => ("TreeCounts$Net", "weight", "[I", true)
def kT_N : Nat → FieldType := fun k => match k with
  | 0 => .int
  | 1 => .int
  | 2 => .array .int
  | 3 => .array .int
  | _ => .array .int
theorem kn_N : ∀ a, a < 5 → ∀ b, b < 5 → a ≠ b → (kF_N a).2.1 ≠ (kF_N b).2.1 := by decide +kernel
theorem kt_N : ∀ k, k < 5 → parseFieldDescriptor (kF_N k).2.2.1 = some (kT_N k) := by decide +kernel
set_option maxRecDepth 100000 in
theorem ki_N : ∀ w ∈ u_ws kR_N kF_N 5, w ∈ zT := by
  have h : ∀ j, j < 5 → u_lay kR_N kF_N j ∈ zT := by
    intro j hj
    match j, hj with
    | 0, _ => exact (zin 111 rfl rfl)
    | 1, _ => exact (zin 113 rfl rfl)
    | 2, _ => exact (zin 115 rfl rfl)
    | 3, _ => exact (zin 117 rfl rfl)
    | 4, _ => exact (zin 119 rfl rfl)
    | j + 5, h => omega
  intro w hw
  obtain ⟨j, hj, rfl⟩ := List.mem_map.mp hw
  exact h j (List.mem_range.mp hj)
def kR_P : String := "TreeCounts$Parts"
def kF_P : u_T := fun k => match k with
  | 0 => ("TreeCounts$Parts", "size", "I", false)
  | 1 => ("TreeCounts$Parts", "count", "I", false)
  | _ => ("TreeCounts$Parts", "part", "[I", true)
def kT_P : Nat → FieldType := fun k => match k with
  | 0 => .int
  | 1 => .int
  | _ => .array .int
theorem kn_P : ∀ a, a < 3 → ∀ b, b < 3 → a ≠ b → (kF_P a).2.1 ≠ (kF_P b).2.1 := by decide +kernel
theorem kt_P : ∀ k, k < 3 → parseFieldDescriptor (kF_P k).2.2.1 = some (kT_P k) := by decide +kernel
set_option maxRecDepth 100000 in
theorem ki_P : ∀ w ∈ u_ws kR_P kF_P 3, w ∈ zT := by
  have h : ∀ j, j < 3 → u_lay kR_P kF_P j ∈ zT := by
    intro j hj
    match j, hj with
    | 0, _ => exact (zin 136 rfl rfl)
    | 1, _ => exact (zin 138 rfl rfl)
    | 2, _ => exact (zin 140 rfl rfl)
    | j + 3, h => omega
  intro w hw
  obtain ⟨j, hj, rfl⟩ := List.mem_map.mp hw
  exact h j (List.mem_range.mp hj)
def kR_G : String := "TreeCounts$Grid"
def kF_G : u_T := fun k => match k with
  | 0 => ("TreeCounts$Grid", "size", "I", false)
  | _ => ("TreeCounts$Grid", "cell", "[[J", true)
def kT_G : Nat → FieldType := fun k => match k with
  | 0 => .int
  | _ => .array (.array .long)
theorem kn_G : ∀ a, a < 2 → ∀ b, b < 2 → a ≠ b → (kF_G a).2.1 ≠ (kF_G b).2.1 := by decide +kernel
theorem kt_G : ∀ k, k < 2 → parseFieldDescriptor (kF_G k).2.2.1 = some (kT_G k) := by decide +kernel
set_option maxRecDepth 100000 in
theorem ki_G : ∀ w ∈ u_ws kR_G kF_G 2, w ∈ zT := by
  have h : ∀ j, j < 2 → u_lay kR_G kF_G j ∈ zT := by
    intro j hj
    match j, hj with
    | 0, _ => exact (zin 157 rfl rfl)
    | 1, _ => exact (zin 159 rfl rfl)
    | j + 2, h => omega
  intro w hw
  obtain ⟨j, hj, rfl⟩ := List.mem_map.mp hw
  exact h j (List.mem_range.mp hj)
def kR_T : String := "TreeCounts$Trees"
def kF_T : u_T := fun k => match k with
  | 0 => ("TreeCounts$Trees", "net", "LTreeCounts$Net;", true)
  | 1 => ("TreeCounts$Trees", "parts", "LTreeCounts$Parts;", true)
  | 2 => ("TreeCounts$Trees", "grid", "LTreeCounts$Grid;", true)
  | 3 => ("TreeCounts$Trees", "chosenSum", "J", false)
  | _ => ("TreeCounts$Trees", "chosenProduct", "J", false)
def kT_T : Nat → FieldType := fun k => match k with
  | 0 => .object "TreeCounts$Net"
  | 1 => .object "TreeCounts$Parts"
  | 2 => .object "TreeCounts$Grid"
  | 3 => .long
  | _ => .long
theorem kn_T : ∀ a, a < 5 → ∀ b, b < 5 → a ≠ b → (kF_T a).2.1 ≠ (kF_T b).2.1 := by decide +kernel
theorem kt_T : ∀ k, k < 5 → parseFieldDescriptor (kF_T k).2.2.1 = some (kT_T k) := by decide +kernel
set_option maxRecDepth 100000 in
theorem ki_T : ∀ w ∈ u_ws kR_T kF_T 5, w ∈ zT := by
  have h : ∀ j, j < 5 → u_lay kR_T kF_T j ∈ zT := by
    intro j hj
    match j, hj with
    | 0, _ => exact (zin 174 rfl rfl)
    | 1, _ => exact (zin 176 rfl rfl)
    | 2, _ => exact (zin 178 rfl rfl)
    | 3, _ => exact (zin 180 rfl rfl)
    | 4, _ => exact (zin 182 rfl rfl)
    | j + 5, h => omega
  intro w hw
  obtain ⟨j, hj, rfl⟩ := List.mem_map.mp hw
  exact h j (List.mem_range.mp hj)
def kR_R : String := "TreeCounts$Rings"
def kF_R : u_T := fun k => match k with
  | 0 => ("TreeCounts$Rings", "length", "I", false)
  | 1 => ("TreeCounts$Rings", "row", "[I", true)
  | 2 => ("TreeCounts$Rings", "back", "[I", true)
  | 3 => ("TreeCounts$Rings", "net", "LTreeCounts$Net;", true)
  | _ => ("TreeCounts$Rings", "parts", "LTreeCounts$Parts;", true)
def kT_R : Nat → FieldType := fun k => match k with
  | 0 => .int
  | 1 => .array .int
  | 2 => .array .int
  | 3 => .object "TreeCounts$Net"
  | _ => .object "TreeCounts$Parts"
theorem kn_R : ∀ a, a < 5 → ∀ b, b < 5 → a ≠ b → (kF_R a).2.1 ≠ (kF_R b).2.1 := by decide +kernel
theorem kt_R : ∀ k, k < 5 → parseFieldDescriptor (kF_R k).2.2.1 = some (kT_R k) := by decide +kernel
set_option maxRecDepth 100000 in
theorem ki_R : ∀ w ∈ u_ws kR_R kF_R 5, w ∈ zT := by
  have h : ∀ j, j < 5 → u_lay kR_R kF_R j ∈ zT := by
    intro j hj
    match j, hj with
    | 0, _ => exact (zin 198 rfl rfl)
    | 1, _ => exact (zin 200 rfl rfl)
    | 2, _ => exact (zin 202 rfl rfl)
    | 3, _ => exact (zin 204 rfl rfl)
    | 4, _ => exact (zin 206 rfl rfl)
    | j + 5, h => omega
  intro w hw
  obtain ⟨j, hj, rfl⟩ := List.mem_map.mp hw
  exact h j (List.mem_range.mp hj)
def kR_U : String := "TreeCounts$Group"
def kF_U : u_T := fun k => match k with
  | 0 => ("TreeCounts$Group", "count", "I", false)
  | 1 => ("TreeCounts$Group", "rounds", "[J", true)
  | 2 => ("TreeCounts$Group", "net", "LTreeCounts$Net;", true)
  | 3 => ("TreeCounts$Group", "sums", "LTreeCounts$Trees;", true)
  | 4 => ("TreeCounts$Group", "grid", "LTreeCounts$Grid;", true)
  | 5 => ("TreeCounts$Group", "order", "J", false)
  | 6 => ("TreeCounts$Group", "common", "J", false)
  | 7 => ("TreeCounts$Group", "timesPivot", "J", false)
  | _ => ("TreeCounts$Group", "timesOther", "J", false)
def kT_U : Nat → FieldType := fun k => match k with
  | 0 => .int
  | 1 => .array .long
  | 2 => .object "TreeCounts$Net"
  | 3 => .object "TreeCounts$Trees"
  | 4 => .object "TreeCounts$Grid"
  | 5 => .long
  | 6 => .long
  | 7 => .long
  | _ => .long
theorem kn_U : ∀ a, a < 9 → ∀ b, b < 9 → a ≠ b → (kF_U a).2.1 ≠ (kF_U b).2.1 := by decide +kernel
theorem kt_U : ∀ k, k < 9 → parseFieldDescriptor (kF_U k).2.2.1 = some (kT_U k) := by decide +kernel
set_option maxRecDepth 100000 in
theorem ki_U : ∀ w ∈ u_ws kR_U kF_U 9, w ∈ zT := by
  have h : ∀ j, j < 9 → u_lay kR_U kF_U j ∈ zT := by
    intro j hj
    match j, hj with
    | 0, _ => exact (zin 225 rfl rfl)
    | 1, _ => exact (zin 227 rfl rfl)
    | 2, _ => exact (zin 229 rfl rfl)
    | 3, _ => exact (zin 231 rfl rfl)
    | 4, _ => exact (zin 233 rfl rfl)
    | 5, _ => exact (zin 235 rfl rfl)
    | 6, _ => exact (zin 237 rfl rfl)
    | 7, _ => exact (zin 239 rfl rfl)
    | 8, _ => exact (zin 241 rfl rfl)
    | j + 9, h => omega
  intro w hw
  obtain ⟨j, hj, rfl⟩ := List.mem_map.mp hw
  exact h j (List.mem_range.mp hj)
def kR_L : String := "TreeCounts$Piles"
def kF_L : u_T := fun k => match k with
  | 0 => ("TreeCounts$Piles", "held", "[J", true)
  | 1 => ("TreeCounts$Piles", "firings", "[J", true)
  | 2 => ("TreeCounts$Piles", "trialHeld", "[J", true)
  | 3 => ("TreeCounts$Piles", "trialFirings", "[J", true)
  | 4 => ("TreeCounts$Piles", "net", "LTreeCounts$Net;", true)
  | _ => ("TreeCounts$Piles", "grid", "LTreeCounts$Grid;", true)
def kT_L : Nat → FieldType := fun k => match k with
  | 0 => .array .long
  | 1 => .array .long
  | 2 => .array .long
  | 3 => .array .long
  | 4 => .object "TreeCounts$Net"
  | _ => .object "TreeCounts$Grid"
theorem kn_L : ∀ a, a < 6 → ∀ b, b < 6 → a ≠ b → (kF_L a).2.1 ≠ (kF_L b).2.1 := by decide +kernel
theorem kt_L : ∀ k, k < 6 → parseFieldDescriptor (kF_L k).2.2.1 = some (kT_L k) := by decide +kernel
set_option maxRecDepth 100000 in
theorem ki_L : ∀ w ∈ u_ws kR_L kF_L 6, w ∈ zT := by
  have h : ∀ j, j < 6 → u_lay kR_L kF_L j ∈ zT := by
    intro j hj
    match j, hj with
    | 0, _ => exact (zin 258 rfl rfl)
    | 1, _ => exact (zin 260 rfl rfl)
    | 2, _ => exact (zin 262 rfl rfl)
    | 3, _ => exact (zin 264 rfl rfl)
    | 4, _ => exact (zin 266 rfl rfl)
    | 5, _ => exact (zin 268 rfl rfl)
    | j + 6, h => omega
  intro w hw
  obtain ⟨j, hj, rfl⟩ := List.mem_map.mp hw
  exact h j (List.mem_range.mp hj)
def kR_S : String := "TreeCounts$Sets"
def kF_S : u_T := fun k => match k with
  | 0 => ("TreeCounts$Sets", "net", "LTreeCounts$Net;", true)
  | 1 => ("TreeCounts$Sets", "parts", "LTreeCounts$Parts;", true)
  | 2 => ("TreeCounts$Sets", "joined", "[LTreeCounts$Parts;", true)
  | 3 => ("TreeCounts$Sets", "lifts", "[J", true)
  | 4 => ("TreeCounts$Sets", "turns", "[J", true)
  | _ => ("TreeCounts$Sets", "fewestParts", "I", false)
def kT_S : Nat → FieldType := fun k => match k with
  | 0 => .object "TreeCounts$Net"
  | 1 => .object "TreeCounts$Parts"
  | 2 => .array (.object "TreeCounts$Parts")
  | 3 => .array .long
  | 4 => .array .long
  | _ => .int
theorem kn_S : ∀ a, a < 6 → ∀ b, b < 6 → a ≠ b → (kF_S a).2.1 ≠ (kF_S b).2.1 := by decide +kernel
theorem kt_S : ∀ k, k < 6 → parseFieldDescriptor (kF_S k).2.2.1 = some (kT_S k) := by decide +kernel
set_option maxRecDepth 100000 in
theorem ki_S : ∀ w ∈ u_ws kR_S kF_S 6, w ∈ zT := by
  have h : ∀ j, j < 6 → u_lay kR_S kF_S j ∈ zT := by
    intro j hj
    match j, hj with
    | 0, _ => exact (zin 286 rfl rfl)
    | 1, _ => exact (zin 288 rfl rfl)
    | 2, _ => exact (zin 290 rfl rfl)
    | 3, _ => exact (zin 292 rfl rfl)
    | 4, _ => exact (zin 294 rfl rfl)
    | 5, _ => exact (zin 296 rfl rfl)
    | j + 6, h => omega
  intro w hw
  obtain ⟨j, hj, rfl⟩ := List.mem_map.mp hw
  exact h j (List.mem_range.mp hj)
def kR_M : String := "TreeCountsModel"
def kF_M : u_T := fun k => match k with
  | 0 => ("TreeCountsModel", "thrown", "I", false)
  | 1 => ("TreeCountsModel", "nodes", "I", false)
  | 2 => ("TreeCountsModel", "arcs", "I", false)
  | 3 => ("TreeCountsModel", "from", "[I", true)
  | 4 => ("TreeCountsModel", "to", "[I", true)
  | 5 => ("TreeCountsModel", "weight", "[I", true)
  | 6 => ("TreeCountsModel", "chip", "[J", true)
  | 7 => ("TreeCountsModel", "fire", "[J", true)
  | 8 => ("TreeCountsModel", "a", "[J", true)
  | 9 => ("TreeCountsModel", "work", "[J", true)
  | 10 => ("TreeCountsModel", "part", "[I", true)
  | 11 => ("TreeCountsModel", "isOut", "[Z", true)
  | 12 => ("TreeCountsModel", "index", "[I", true)
  | 13 => ("TreeCountsModel", "kept", "[I", true)
  | 14 => ("TreeCountsModel", "factor", "J", false)
  | 15 => ("TreeCountsModel", "isTaken", "[Z", true)
  | 16 => ("TreeCountsModel", "line", "[I", true)
  | 17 => ("TreeCountsModel", "lineSize", "I", false)
  | 18 => ("TreeCountsModel", "by", "[I", true)
  | 19 => ("TreeCountsModel", "seen", "[Z", true)
  | 20 => ("TreeCountsModel", "queue", "[I", true)
  | 21 => ("TreeCountsModel", "rounds", "[J", true)
  | 22 => ("TreeCountsModel", "roundMany", "I", false)
  | 23 => ("TreeCountsModel", "pile", "[J", true)
  | _ => ("TreeCountsModel", "fires", "[J", true)
def kT_M : Nat → FieldType := fun k => match k with
  | 0 => .int
  | 1 => .int
  | 2 => .int
  | 3 => .array .int
  | 4 => .array .int
  | 5 => .array .int
  | 6 => .array .long
  | 7 => .array .long
  | 8 => .array .long
  | 9 => .array .long
  | 10 => .array .int
  | 11 => .array .boolean
  | 12 => .array .int
  | 13 => .array .int
  | 14 => .long
  | 15 => .array .boolean
  | 16 => .array .int
  | 17 => .int
  | 18 => .array .int
  | 19 => .array .boolean
  | 20 => .array .int
  | 21 => .array .long
  | 22 => .int
  | 23 => .array .long
  | _ => .array .long
theorem kn_M : ∀ a, a < 25 → ∀ b, b < 25 → a ≠ b → (kF_M a).2.1 ≠ (kF_M b).2.1 := by decide +kernel
theorem kt_M : ∀ k, k < 25 → parseFieldDescriptor (kF_M k).2.2.1 = some (kT_M k) := by decide +kernel
set_option maxRecDepth 100000 in
theorem ki_M : ∀ w ∈ u_ws kR_M kF_M 25, w ∈ zT := by
  have h : ∀ j, j < 25 → u_lay kR_M kF_M j ∈ zT := by
    intro j hj
    match j, hj with
    | 0, _ => exact (zin 787 rfl rfl)
    | 1, _ => exact (zin 789 rfl rfl)
    | 2, _ => exact (zin 791 rfl rfl)
    | 3, _ => exact (zin 793 rfl rfl)
    | 4, _ => exact (zin 795 rfl rfl)
    | 5, _ => exact (zin 797 rfl rfl)
    | 6, _ => exact (zin 799 rfl rfl)
    | 7, _ => exact (zin 801 rfl rfl)
    | 8, _ => exact (zin 803 rfl rfl)
    | 9, _ => exact (zin 805 rfl rfl)
    | 10, _ => exact (zin 807 rfl rfl)
    | 11, _ => exact (zin 809 rfl rfl)
    | 12, _ => exact (zin 811 rfl rfl)
    | 13, _ => exact (zin 813 rfl rfl)
    | 14, _ => exact (zin 815 rfl rfl)
    | 15, _ => exact (zin 817 rfl rfl)
    | 16, _ => exact (zin 819 rfl rfl)
    | 17, _ => exact (zin 821 rfl rfl)
    | 18, _ => exact (zin 823 rfl rfl)
    | 19, _ => exact (zin 825 rfl rfl)
    | 20, _ => exact (zin 827 rfl rfl)
    | 21, _ => exact (zin 829 rfl rfl)
    | 22, _ => exact (zin 831 rfl rfl)
    | 23, _ => exact (zin 833 rfl rfl)
    | 24, _ => exact (zin 835 rfl rfl)
    | j + 25, h => omega
  intro w hw
  obtain ⟨j, hj, rfl⟩ := List.mem_map.mp hw
  exact h j (List.mem_range.mp hj)
abbrev kCl : List vw_C := [(kR_C, kF_C, 6), (kR_N, kF_N, 5), (kR_P, kF_P, 3), (kR_G, kF_G, 2), (kR_T, kF_T, 5), (kR_R, kF_R, 5), (kR_U, kF_U, 9), (kR_L, kF_L, 6), (kR_S, kF_S, 6), (kR_M, kF_M, 25)]
abbrev kA_C : Nat := 0
theorem kc_C : kCl[0]? = some (kR_C, kF_C, 6) := rfl
abbrev kA_N : Nat := 1
theorem kc_N : kCl[1]? = some (kR_N, kF_N, 5) := rfl
abbrev kA_P : Nat := 2
theorem kc_P : kCl[2]? = some (kR_P, kF_P, 3) := rfl
abbrev kA_G : Nat := 3
theorem kc_G : kCl[3]? = some (kR_G, kF_G, 2) := rfl
abbrev kA_T : Nat := 4
theorem kc_T : kCl[4]? = some (kR_T, kF_T, 5) := rfl
abbrev kA_R : Nat := 5
theorem kc_R : kCl[5]? = some (kR_R, kF_R, 5) := rfl
abbrev kA_U : Nat := 6
theorem kc_U : kCl[6]? = some (kR_U, kF_U, 9) := rfl
abbrev kA_L : Nat := 7
theorem kc_L : kCl[7]? = some (kR_L, kF_L, 6) := rfl
abbrev kA_S : Nat := 8
theorem kc_S : kCl[8]? = some (kR_S, kF_S, 6) := rfl
abbrev kA_M : Nat := 9
theorem kc_M : kCl[9]? = some (kR_M, kF_M, 25) := rfl
abbrev kb_C_init : ByteArray := prog_1_method_1_code
abbrev ky_C_init : MethodName := ⟨"TreeCounts", "<init>", "()V"⟩
abbrev kh_C_init : Cond := .code ky_C_init kb_C_init 3 none
set_option maxRecDepth 100000 in
theorem kz_C_init : kh_C_init ∈ zT := zin 71 rfl rfl
abbrev kb_C_node : ByteArray := prog_1_method_2_code
abbrev ky_C_node : MethodName := ⟨"TreeCounts", "node", "()I"⟩
abbrev kh_C_node : Cond := .code ky_C_node kb_C_node 1 (some FieldType.int)
set_option maxRecDepth 100000 in
theorem kz_C_node : kh_C_node ∈ zT := zin 321 rfl rfl
abbrev kb_C_arc : ByteArray := prog_1_method_3_code
abbrev ky_C_arc : MethodName := ⟨"TreeCounts", "arc", "(III)I"⟩
abbrev kh_C_arc : Cond := .code ky_C_arc kb_C_arc 4 (some FieldType.int)
set_option maxRecDepth 100000 in
theorem kz_C_arc : kh_C_arc ∈ zT := zin 325 rfl rfl
abbrev kb_C_weigh : ByteArray := prog_1_method_4_code
abbrev ky_C_weigh : MethodName := ⟨"TreeCounts", "weigh", "(II)I"⟩
abbrev kh_C_weigh : Cond := .code ky_C_weigh kb_C_weigh 4 (some FieldType.int)
set_option maxRecDepth 100000 in
theorem kz_C_weigh : kh_C_weigh ∈ zT := zin 336 rfl rfl
abbrev kb_C_drop : ByteArray := prog_1_method_5_code
abbrev ky_C_drop : MethodName := ⟨"TreeCounts", "drop", "()Z"⟩
abbrev kh_C_drop : Cond := .code ky_C_drop kb_C_drop 1 (some FieldType.boolean)
set_option maxRecDepth 100000 in
theorem kz_C_drop : kh_C_drop ∈ zT := zin 344 rfl rfl
abbrev kb_C_trees : ByteArray := prog_1_method_6_code
abbrev ky_C_trees : MethodName := ⟨"TreeCounts", "trees", "()J"⟩
abbrev kh_C_trees : Cond := .code ky_C_trees kb_C_trees 1 (some FieldType.long)
set_option maxRecDepth 100000 in
theorem kz_C_trees : kh_C_trees ∈ zT := zin 348 rfl rfl
abbrev kb_C_through : ByteArray := prog_1_method_7_code
abbrev ky_C_through : MethodName := ⟨"TreeCounts", "through", "(I)J"⟩
abbrev kh_C_through : Cond := .code ky_C_through kb_C_through 2 (some FieldType.long)
set_option maxRecDepth 100000 in
theorem kz_C_through : kh_C_through ∈ zT := zin 403 rfl rfl
abbrev kb_C_rooted : ByteArray := prog_1_method_8_code
abbrev ky_C_rooted : MethodName := ⟨"TreeCounts", "rooted", "(I)J"⟩
abbrev kh_C_rooted : Cond := .code ky_C_rooted kb_C_rooted 2 (some FieldType.long)
set_option maxRecDepth 100000 in
theorem kz_C_rooted : kh_C_rooted ∈ zT := zin 422 rfl rfl
abbrev kb_C_forests : ByteArray := prog_1_method_9_code
abbrev ky_C_forests : MethodName := ⟨"TreeCounts", "forests", "()J"⟩
abbrev kh_C_forests : Cond := .code ky_C_forests kb_C_forests 1 (some FieldType.long)
set_option maxRecDepth 100000 in
theorem kz_C_forests : kh_C_forests ∈ zT := zin 435 rfl rfl
abbrev kb_C_apart : ByteArray := prog_1_method_10_code
abbrev ky_C_apart : MethodName := ⟨"TreeCounts", "apart", "(II)J"⟩
abbrev kh_C_apart : Cond := .code ky_C_apart kb_C_apart 3 (some FieldType.long)
set_option maxRecDepth 100000 in
theorem kz_C_apart : kh_C_apart ∈ zT := zin 448 rfl rfl
abbrev kb_C_resistance : ByteArray := prog_1_method_11_code
abbrev ky_C_resistance : MethodName := ⟨"TreeCounts", "resistance", "(III)J"⟩
abbrev kh_C_resistance : Cond := .code ky_C_resistance kb_C_resistance 10 (some FieldType.long)
set_option maxRecDepth 100000 in
theorem kz_C_resistance : kh_C_resistance ∈ zT := zin 456 rfl rfl
abbrev kb_C_tours : ByteArray := prog_1_method_12_code
abbrev ky_C_tours : MethodName := ⟨"TreeCounts", "tours", "()J"⟩
abbrev kh_C_tours : Cond := .code ky_C_tours kb_C_tours 1 (some FieldType.long)
set_option maxRecDepth 100000 in
theorem kz_C_tours : kh_C_tours ∈ zT := zin 464 rfl rfl
abbrev kb_C_drawn : ByteArray := prog_1_method_13_code
abbrev ky_C_drawn : MethodName := ⟨"TreeCounts", "drawn", "(J)I"⟩
abbrev kh_C_drawn : Cond := .code ky_C_drawn kb_C_drawn 3 (some FieldType.int)
set_option maxRecDepth 100000 in
theorem kz_C_drawn : kh_C_drawn ∈ zT := zin 483 rfl rfl
abbrev kb_C_place : ByteArray := prog_1_method_14_code
abbrev ky_C_place : MethodName := ⟨"TreeCounts", "place", "(I)J"⟩
abbrev kh_C_place : Cond := .code ky_C_place kb_C_place 2 (some FieldType.long)
set_option maxRecDepth 100000 in
theorem kz_C_place : kh_C_place ∈ zT := zin 507 rfl rfl
abbrev kb_C_ring : ByteArray := prog_1_method_15_code
abbrev ky_C_ring : MethodName := ⟨"TreeCounts", "ring", "(II)I"⟩
abbrev kh_C_ring : Cond := .code ky_C_ring kb_C_ring 3 (some FieldType.int)
set_option maxRecDepth 100000 in
theorem kz_C_ring : kh_C_ring ∈ zT := zin 519 rfl rfl
abbrev kb_C_group : ByteArray := prog_1_method_16_code
abbrev ky_C_group : MethodName := ⟨"TreeCounts", "group", "(I)J"⟩
abbrev kh_C_group : Cond := .code ky_C_group kb_C_group 2 (some FieldType.long)
set_option maxRecDepth 100000 in
theorem kz_C_group : kh_C_group ∈ zT := zin 545 rfl rfl
abbrev kb_C_chips : ByteArray := prog_1_method_17_code
abbrev ky_C_chips : MethodName := ⟨"TreeCounts", "chips", "(II)J"⟩
abbrev kh_C_chips : Cond := .code ky_C_chips kb_C_chips 5 (some FieldType.long)
set_option maxRecDepth 100000 in
theorem kz_C_chips : kh_C_chips ∈ zT := zin 600 rfl rfl
abbrev kb_C_level : ByteArray := prog_1_method_18_code
abbrev ky_C_level : MethodName := ⟨"TreeCounts", "level", "(I)J"⟩
abbrev kh_C_level : Cond := .code ky_C_level kb_C_level 2 (some FieldType.long)
set_option maxRecDepth 100000 in
theorem kz_C_level : kh_C_level ∈ zT := zin 604 rfl rfl
abbrev kb_C_settle : ByteArray := prog_1_method_19_code
abbrev ky_C_settle : MethodName := ⟨"TreeCounts", "settle", "(I)J"⟩
abbrev kh_C_settle : Cond := .code ky_C_settle kb_C_settle 2 (some FieldType.long)
set_option maxRecDepth 100000 in
theorem kz_C_settle : kh_C_settle ∈ zT := zin 608 rfl rfl
abbrev kb_C_fired : ByteArray := prog_1_method_20_code
abbrev ky_C_fired : MethodName := ⟨"TreeCounts", "fired", "(I)J"⟩
abbrev kh_C_fired : Cond := .code ky_C_fired kb_C_fired 2 (some FieldType.long)
set_option maxRecDepth 100000 in
theorem kz_C_fired : kh_C_fired ∈ zT := zin 630 rfl rfl
abbrev kb_C_recurrent : ByteArray := prog_1_method_21_code
abbrev ky_C_recurrent : MethodName := ⟨"TreeCounts", "recurrent", "(I)I"⟩
abbrev kh_C_recurrent : Cond := .code ky_C_recurrent kb_C_recurrent 2 (some FieldType.int)
set_option maxRecDepth 100000 in
theorem kz_C_recurrent : kh_C_recurrent ∈ zT := zin 634 rfl rfl
abbrev kb_C_point : ByteArray := prog_1_method_22_code
abbrev ky_C_point : MethodName := ⟨"TreeCounts", "point", "(JJ)J"⟩
abbrev kh_C_point : Cond := .code ky_C_point kb_C_point 5 (some FieldType.long)
set_option maxRecDepth 100000 in
theorem kz_C_point : kh_C_point ∈ zT := zin 668 rfl rfl
abbrev kb_C_told : ByteArray := prog_1_method_23_code
abbrev ky_C_told : MethodName := ⟨"TreeCounts", "told", "(I)I"⟩
abbrev kh_C_told : Cond := .code ky_C_told kb_C_told 2 (some FieldType.int)
set_option maxRecDepth 100000 in
theorem kz_C_told : kh_C_told ∈ zT := zin 642 rfl rfl
abbrev kb_C_clear : ByteArray := prog_1_method_24_code
abbrev ky_C_clear : MethodName := ⟨"TreeCounts", "clear", "()V"⟩
abbrev kh_C_clear : Cond := .code ky_C_clear kb_C_clear 1 none
set_option maxRecDepth 100000 in
theorem kz_C_clear : kh_C_clear ∈ zT := zin 656 rfl rfl
abbrev kb_C_isWeight : ByteArray := prog_1_method_25_code
abbrev ky_C_isWeight : MethodName := ⟨"TreeCounts", "isWeight", "(I)Z"⟩
abbrev kh_C_isWeight : Cond := .code ky_C_isWeight kb_C_isWeight 1 (some FieldType.boolean)
set_option maxRecDepth 100000 in
theorem kz_C_isWeight : kh_C_isWeight ∈ zT := zin 332 rfl rfl
abbrev kb_C_commonDivisor : ByteArray := prog_1_method_26_code
abbrev ky_C_commonDivisor : MethodName := ⟨"TreeCounts", "commonDivisor", "(JJ)J"⟩
abbrev kh_C_commonDivisor : Cond := .code ky_C_commonDivisor kb_C_commonDivisor 11 (some FieldType.long)
set_option maxRecDepth 100000 in
theorem kz_C_commonDivisor : kh_C_commonDivisor ∈ zT := zin 460 rfl rfl
abbrev kb_N_init : ByteArray := prog_4_method_1_code
abbrev ky_N_init : MethodName := ⟨"TreeCounts$Net", "<init>", "()V"⟩
abbrev kh_N_init : Cond := .code ky_N_init kb_N_init 1 none
set_option maxRecDepth 100000 in
theorem kz_N_init : kh_N_init ∈ zT := zin 79 rfl rfl
abbrev kb_N_hasNode : ByteArray := prog_4_method_2_code
abbrev ky_N_hasNode : MethodName := ⟨"TreeCounts$Net", "hasNode", "(I)Z"⟩
abbrev kh_N_hasNode : Cond := .code ky_N_hasNode kb_N_hasNode 2 (some FieldType.boolean)
set_option maxRecDepth 100000 in
theorem kz_N_hasNode : kh_N_hasNode ∈ zT := zin 329 rfl rfl
abbrev kb_N_hasArc : ByteArray := prog_4_method_3_code
abbrev ky_N_hasArc : MethodName := ⟨"TreeCounts$Net", "hasArc", "(I)Z"⟩
abbrev kh_N_hasArc : Cond := .code ky_N_hasArc kb_N_hasArc 2 (some FieldType.boolean)
set_option maxRecDepth 100000 in
theorem kz_N_hasArc : kh_N_hasArc ∈ zT := zin 340 rfl rfl
abbrev kb_N_weightOutOf : ByteArray := prog_4_method_4_code
abbrev ky_N_weightOutOf : MethodName := ⟨"TreeCounts$Net", "weightOutOf", "(I)I"⟩
abbrev kh_N_weightOutOf : Cond := .code ky_N_weightOutOf kb_N_weightOutOf 4 (some FieldType.int)
set_option maxRecDepth 100000 in
theorem kz_N_weightOutOf : kh_N_weightOutOf ∈ zT := zin 472 rfl rfl
abbrev kb_N_weightInto : ByteArray := prog_4_method_5_code
abbrev ky_N_weightInto : MethodName := ⟨"TreeCounts$Net", "weightInto", "(I)I"⟩
abbrev kh_N_weightInto : Cond := .code ky_N_weightInto kb_N_weightInto 4 (some FieldType.int)
set_option maxRecDepth 100000 in
theorem kz_N_weightInto : kh_N_weightInto ∈ zT := zin 476 rfl rfl
abbrev kb_N_firstTrees : ByteArray := prog_4_method_6_code
abbrev ky_N_firstTrees : MethodName := ⟨"TreeCounts$Net", "firstTrees", "(LTreeCounts$Parts;)I"⟩
abbrev kh_N_firstTrees : Cond := .code ky_N_firstTrees kb_N_firstTrees 4 (some FieldType.int)
set_option maxRecDepth 100000 in
theorem kz_N_firstTrees : kh_N_firstTrees ∈ zT := zin 527 rfl rfl
abbrev kb_P_init : ByteArray := prog_5_method_1_code
abbrev ky_P_init : MethodName := ⟨"TreeCounts$Parts", "<init>", "()V"⟩
abbrev kh_P_init : Cond := .code ky_P_init kb_P_init 1 none
set_option maxRecDepth 100000 in
theorem kz_P_init : kh_P_init ∈ zT := zin 127 rfl rfl
abbrev kb_P_split : ByteArray := prog_5_method_2_code
abbrev ky_P_split : MethodName := ⟨"TreeCounts$Parts", "split", "(I)V"⟩
abbrev kh_P_split : Cond := .code ky_P_split kb_P_split 3 none
set_option maxRecDepth 100000 in
theorem kz_P_split : kh_P_split ∈ zT := zin 356 rfl rfl
abbrev kb_P_become : ByteArray := prog_5_method_3_code
abbrev ky_P_become : MethodName := ⟨"TreeCounts$Parts", "become", "(LTreeCounts$Parts;)V"⟩
abbrev kh_P_become : Cond := .code ky_P_become kb_P_become 2 none
set_option maxRecDepth 100000 in
theorem kz_P_become : kh_P_become ∈ zT := zin 751 rfl rfl
abbrev kb_P_areOne : ByteArray := prog_5_method_4_code
abbrev ky_P_areOne : MethodName := ⟨"TreeCounts$Parts", "areOne", "(II)Z"⟩
abbrev kh_P_areOne : Cond := .code ky_P_areOne kb_P_areOne 3 (some FieldType.boolean)
set_option maxRecDepth 100000 in
theorem kz_P_areOne : kh_P_areOne ∈ zT := zin 499 rfl rfl
abbrev kb_P_unite : ByteArray := prog_5_method_5_code
abbrev ky_P_unite : MethodName := ⟨"TreeCounts$Parts", "unite", "(II)Z"⟩
abbrev kh_P_unite : Cond := .code ky_P_unite kb_P_unite 6 (some FieldType.boolean)
set_option maxRecDepth 100000 in
theorem kz_P_unite : kh_P_unite ∈ zT := zin 411 rfl rfl
abbrev kb_G_init : ByteArray := prog_2_method_1_code
abbrev ky_G_init : MethodName := ⟨"TreeCounts$Grid", "<init>", "()V"⟩
abbrev kh_G_init : Cond := .code ky_G_init kb_G_init 1 none
set_option maxRecDepth 100000 in
theorem kz_G_init : kh_G_init ∈ zT := zin 147 rfl rfl
abbrev kb_G_blank : ByteArray := prog_2_method_2_code
abbrev ky_G_blank : MethodName := ⟨"TreeCounts$Grid", "blank", "(I)V"⟩
abbrev kh_G_blank : Cond := .code ky_G_blank kb_G_blank 4 none
set_option maxRecDepth 100000 in
theorem kz_G_blank : kh_G_blank ∈ zT := zin 364 rfl rfl
abbrev kb_G_addOneWay : ByteArray := prog_2_method_3_code
abbrev ky_G_addOneWay : MethodName := ⟨"TreeCounts$Grid", "addOneWay", "(III)V"⟩
abbrev kh_G_addOneWay : Cond := .code ky_G_addOneWay kb_G_addOneWay 4 none
set_option maxRecDepth 100000 in
theorem kz_G_addOneWay : kh_G_addOneWay ∈ zT := zin 372 rfl rfl
abbrev kb_G_addBothWays : ByteArray := prog_2_method_4_code
abbrev ky_G_addBothWays : MethodName := ⟨"TreeCounts$Grid", "addBothWays", "(III)V"⟩
abbrev kh_G_addBothWays : Cond := .code ky_G_addBothWays kb_G_addBothWays 4 none
set_option maxRecDepth 100000 in
theorem kz_G_addBothWays : kh_G_addBothWays ∈ zT := zin 368 rfl rfl
abbrev kb_G_fillBothWays : ByteArray := prog_2_method_5_code
abbrev ky_G_fillBothWays : MethodName := ⟨"TreeCounts$Grid", "fillBothWays", "(LTreeCounts$Net;)V"⟩
abbrev kh_G_fillBothWays : Cond := .code ky_G_fillBothWays kb_G_fillBothWays 3 none
set_option maxRecDepth 100000 in
theorem kz_G_fillBothWays : kh_G_fillBothWays ∈ zT := zin 443 rfl rfl
abbrev kb_G_fillOneWay : ByteArray := prog_2_method_6_code
abbrev ky_G_fillOneWay : MethodName := ⟨"TreeCounts$Grid", "fillOneWay", "(LTreeCounts$Net;)V"⟩
abbrev kh_G_fillOneWay : Cond := .code ky_G_fillOneWay kb_G_fillOneWay 3 none
set_option maxRecDepth 100000 in
theorem kz_G_fillOneWay : kh_G_fillOneWay ∈ zT := zin 430 rfl rfl
abbrev kb_G_strike : ByteArray := prog_2_method_7_code
abbrev ky_G_strike : MethodName := ⟨"TreeCounts$Grid", "strike", "(I)V"⟩
abbrev kh_G_strike : Cond := .code ky_G_strike kb_G_strike 3 none
set_option maxRecDepth 100000 in
theorem kz_G_strike : kh_G_strike ∈ zT := zin 376 rfl rfl
abbrev kb_G_swapRows : ByteArray := prog_2_method_8_code
abbrev ky_G_swapRows : MethodName := ⟨"TreeCounts$Grid", "swapRows", "(II)V"⟩
abbrev kh_G_swapRows : Cond := .code ky_G_swapRows kb_G_swapRows 4 none
set_option maxRecDepth 100000 in
theorem kz_G_swapRows : kh_G_swapRows ∈ zT := zin 391 rfl rfl
abbrev kb_G_determinant : ByteArray := prog_2_method_9_code
abbrev ky_G_determinant : MethodName := ⟨"TreeCounts$Grid", "determinant", "()J"⟩
abbrev kh_G_determinant : Cond := .code ky_G_determinant kb_G_determinant 5 (some FieldType.long)
set_option maxRecDepth 100000 in
theorem kz_G_determinant : kh_G_determinant ∈ zT := zin 380 rfl rfl
abbrev kb_G_rowWithLowestBit : ByteArray := prog_2_method_10_code
abbrev ky_G_rowWithLowestBit : MethodName := ⟨"TreeCounts$Grid", "rowWithLowestBit", "(I)I"⟩
abbrev kh_G_rowWithLowestBit : Cond := .code ky_G_rowWithLowestBit kb_G_rowWithLowestBit 6 (some FieldType.int)
set_option maxRecDepth 100000 in
theorem kz_G_rowWithLowestBit : kh_G_rowWithLowestBit ∈ zT := zin 384 rfl rfl
abbrev kb_G_clearBelow : ByteArray := prog_2_method_11_code
abbrev ky_G_clearBelow : MethodName := ⟨"TreeCounts$Grid", "clearBelow", "(I)V"⟩
abbrev kh_G_clearBelow : Cond := .code ky_G_clearBelow kb_G_clearBelow 9 none
set_option maxRecDepth 100000 in
theorem kz_G_clearBelow : kh_G_clearBelow ∈ zT := zin 395 rfl rfl
abbrev kb_G_twos : ByteArray := prog_2_method_12_code
abbrev ky_G_twos : MethodName := ⟨"TreeCounts$Grid", "twos", "(J)I"⟩
abbrev kh_G_twos : Cond := .code ky_G_twos kb_G_twos 3 (some FieldType.int)
set_option maxRecDepth 100000 in
theorem kz_G_twos : kh_G_twos ∈ zT := zin 387 rfl rfl
abbrev kb_G_inverseOfOdd : ByteArray := prog_2_method_13_code
abbrev ky_G_inverseOfOdd : MethodName := ⟨"TreeCounts$Grid", "inverseOfOdd", "(J)J"⟩
abbrev kh_G_inverseOfOdd : Cond := .code ky_G_inverseOfOdd kb_G_inverseOfOdd 5 (some FieldType.long)
set_option maxRecDepth 100000 in
theorem kz_G_inverseOfOdd : kh_G_inverseOfOdd ∈ zT := zin 398 rfl rfl
abbrev kb_T_init : ByteArray := prog_9_method_1_code
abbrev ky_T_init : MethodName := ⟨"TreeCounts$Trees", "<init>", "(LTreeCounts$Net;LTreeCounts$Parts;LTreeCounts$Grid;)V"⟩
abbrev kh_T_init : Cond := .code ky_T_init kb_T_init 4 none
set_option maxRecDepth 100000 in
theorem kz_T_init : kh_T_init ∈ zT := zin 167 rfl rfl
abbrev kb_T_sumOfAll : ByteArray := prog_9_method_2_code
abbrev ky_T_sumOfAll : MethodName := ⟨"TreeCounts$Trees", "sumOfAll", "()J"⟩
abbrev kh_T_sumOfAll : Cond := .code ky_T_sumOfAll kb_T_sumOfAll 1 (some FieldType.long)
set_option maxRecDepth 100000 in
theorem kz_T_sumOfAll : kh_T_sumOfAll ∈ zT := zin 352 rfl rfl
abbrev kb_T_sumOverParts : ByteArray := prog_9_method_3_code
abbrev ky_T_sumOverParts : MethodName := ⟨"TreeCounts$Trees", "sumOverParts", "(I)J"⟩
abbrev kh_T_sumOverParts : Cond := .code ky_T_sumOverParts kb_T_sumOverParts 3 (some FieldType.long)
set_option maxRecDepth 100000 in
theorem kz_T_sumOverParts : kh_T_sumOverParts ∈ zT := zin 360 rfl rfl
abbrev kb_T_sumWith : ByteArray := prog_9_method_4_code
abbrev ky_T_sumWith : MethodName := ⟨"TreeCounts$Trees", "sumWith", "(I)J"⟩
abbrev kh_T_sumWith : Cond := .code ky_T_sumWith kb_T_sumWith 2 (some FieldType.long)
set_option maxRecDepth 100000 in
theorem kz_T_sumWith : kh_T_sumWith ∈ zT := zin 407 rfl rfl
abbrev kb_T_sumTowards : ByteArray := prog_9_method_5_code
abbrev ky_T_sumTowards : MethodName := ⟨"TreeCounts$Trees", "sumTowards", "(I)J"⟩
abbrev kh_T_sumTowards : Cond := .code ky_T_sumTowards kb_T_sumTowards 2 (some FieldType.long)
set_option maxRecDepth 100000 in
theorem kz_T_sumTowards : kh_T_sumTowards ∈ zT := zin 426 rfl rfl
abbrev kb_T_sumOfMarked : ByteArray := prog_9_method_6_code
abbrev ky_T_sumOfMarked : MethodName := ⟨"TreeCounts$Trees", "sumOfMarked", "()J"⟩
abbrev kh_T_sumOfMarked : Cond := .code ky_T_sumOfMarked kb_T_sumOfMarked 2 (some FieldType.long)
set_option maxRecDepth 100000 in
theorem kz_T_sumOfMarked : kh_T_sumOfMarked ∈ zT := zin 439 rfl rfl
abbrev kb_T_sumOfPairs : ByteArray := prog_9_method_7_code
abbrev ky_T_sumOfPairs : MethodName := ⟨"TreeCounts$Trees", "sumOfPairs", "(II)J"⟩
abbrev kh_T_sumOfPairs : Cond := .code ky_T_sumOfPairs kb_T_sumOfPairs 3 (some FieldType.long)
set_option maxRecDepth 100000 in
theorem kz_T_sumOfPairs : kh_T_sumOfPairs ∈ zT := zin 452 rfl rfl
abbrev kb_T_toursAlongAll : ByteArray := prog_9_method_8_code
abbrev ky_T_toursAlongAll : MethodName := ⟨"TreeCounts$Trees", "toursAlongAll", "()J"⟩
abbrev kh_T_toursAlongAll : Cond := .code ky_T_toursAlongAll kb_T_toursAlongAll 5 (some FieldType.long)
set_option maxRecDepth 100000 in
theorem kz_T_toursAlongAll : kh_T_toursAlongAll ∈ zT := zin 468 rfl rfl
abbrev kb_T_factorial : ByteArray := prog_9_method_9_code
abbrev ky_T_factorial : MethodName := ⟨"TreeCounts$Trees", "factorial", "(I)J"⟩
abbrev kh_T_factorial : Cond := .code ky_T_factorial kb_T_factorial 4 (some FieldType.long)
set_option maxRecDepth 100000 in
theorem kz_T_factorial : kh_T_factorial ∈ zT := zin 479 rfl rfl
abbrev kb_T_treeAt : ByteArray := prog_9_method_10_code
abbrev ky_T_treeAt : MethodName := ⟨"TreeCounts$Trees", "treeAt", "(J)I"⟩
abbrev kh_T_treeAt : Cond := .code ky_T_treeAt kb_T_treeAt 9 (some FieldType.int)
set_option maxRecDepth 100000 in
theorem kz_T_treeAt : kh_T_treeAt ∈ zT := zin 487 rfl rfl
abbrev kb_T_sumBefore : ByteArray := prog_9_method_11_code
abbrev ky_T_sumBefore : MethodName := ⟨"TreeCounts$Trees", "sumBefore", "(I)J"⟩
abbrev kh_T_sumBefore : Cond := .code ky_T_sumBefore kb_T_sumBefore 7 (some FieldType.long)
set_option maxRecDepth 100000 in
theorem kz_T_sumBefore : kh_T_sumBefore ∈ zT := zin 515 rfl rfl
abbrev kb_T_beginChoice : ByteArray := prog_9_method_12_code
abbrev ky_T_beginChoice : MethodName := ⟨"TreeCounts$Trees", "beginChoice", "()V"⟩
abbrev kh_T_beginChoice : Cond := .code ky_T_beginChoice kb_T_beginChoice 1 none
set_option maxRecDepth 100000 in
theorem kz_T_beginChoice : kh_T_beginChoice ∈ zT := zin 491 rfl rfl
abbrev kb_T_sumIfTaken : ByteArray := prog_9_method_13_code
abbrev ky_T_sumIfTaken : MethodName := ⟨"TreeCounts$Trees", "sumIfTaken", "(I)J"⟩
abbrev kh_T_sumIfTaken : Cond := .code ky_T_sumIfTaken kb_T_sumIfTaken 2 (some FieldType.long)
set_option maxRecDepth 100000 in
theorem kz_T_sumIfTaken : kh_T_sumIfTaken ∈ zT := zin 495 rfl rfl
abbrev kb_T_take : ByteArray := prog_9_method_14_code
abbrev ky_T_take : MethodName := ⟨"TreeCounts$Trees", "take", "(IJ)V"⟩
abbrev kh_T_take : Cond := .code ky_T_take kb_T_take 4 none
set_option maxRecDepth 100000 in
theorem kz_T_take : kh_T_take ∈ zT := zin 503 rfl rfl
abbrev kb_T_isTree : ByteArray := prog_9_method_15_code
abbrev ky_T_isTree : MethodName := ⟨"TreeCounts$Trees", "isTree", "(I)Z"⟩
abbrev kh_T_isTree : Cond := .code ky_T_isTree kb_T_isTree 4 (some FieldType.boolean)
set_option maxRecDepth 100000 in
theorem kz_T_isTree : kh_T_isTree ∈ zT := zin 511 rfl rfl
abbrev kb_R_init : ByteArray := prog_7_method_1_code
abbrev ky_R_init : MethodName := ⟨"TreeCounts$Rings", "<init>", "(LTreeCounts$Net;LTreeCounts$Parts;)V"⟩
abbrev kh_R_init : Cond := .code ky_R_init kb_R_init 3 none
set_option maxRecDepth 100000 in
theorem kz_R_init : kh_R_init ∈ zT := zin 189 rfl rfl
abbrev kb_R_partsOfNet : ByteArray := prog_7_method_2_code
abbrev ky_R_partsOfNet : MethodName := ⟨"TreeCounts$Rings", "partsOfNet", "()I"⟩
abbrev kh_R_partsOfNet : Cond := .code ky_R_partsOfNet kb_R_partsOfNet 1 (some FieldType.int)
set_option maxRecDepth 100000 in
theorem kz_R_partsOfNet : kh_R_partsOfNet ∈ zT := zin 612 rfl rfl
abbrev kb_R_count : ByteArray := prog_7_method_3_code
abbrev ky_R_count : MethodName := ⟨"TreeCounts$Rings", "count", "()I"⟩
abbrev kh_R_count : Cond := .code ky_R_count kb_R_count 1 (some FieldType.int)
set_option maxRecDepth 100000 in
theorem kz_R_count : kh_R_count ∈ zT := zin 646 rfl rfl
abbrev kb_R_lay : ByteArray := prog_7_method_4_code
abbrev ky_R_lay : MethodName := ⟨"TreeCounts$Rings", "lay", "(I)V"⟩
abbrev kh_R_lay : Cond := .code ky_R_lay kb_R_lay 7 none
set_option maxRecDepth 100000 in
theorem kz_R_lay : kh_R_lay ∈ zT := zin 523 rfl rfl
abbrev kb_R_untaken : ByteArray := prog_7_method_5_code
abbrev ky_R_untaken : MethodName := ⟨"TreeCounts$Rings", "untaken", "(II)I"⟩
abbrev kh_R_untaken : Cond := .code ky_R_untaken kb_R_untaken 5 (some FieldType.int)
set_option maxRecDepth 100000 in
theorem kz_R_untaken : kh_R_untaken ∈ zT := zin 533 rfl rfl
abbrev kb_R_findWaysBack : ByteArray := prog_7_method_6_code
abbrev ky_R_findWaysBack : MethodName := ⟨"TreeCounts$Rings", "findWaysBack", "(II)V"⟩
abbrev kh_R_findWaysBack : Cond := .code ky_R_findWaysBack kb_R_findWaysBack 6 none
set_option maxRecDepth 100000 in
theorem kz_R_findWaysBack : kh_R_findWaysBack ∈ zT := zin 537 rfl rfl
abbrev kb_R_reach : ByteArray := prog_7_method_7_code
abbrev ky_R_reach : MethodName := ⟨"TreeCounts$Rings", "reach", "(II)I"⟩
abbrev kh_R_reach : Cond := .code ky_R_reach kb_R_reach 6 (some FieldType.int)
set_option maxRecDepth 100000 in
theorem kz_R_reach : kh_R_reach ∈ zT := zin 541 rfl rfl
abbrev kb_U_init : ByteArray := prog_3_method_1_code
abbrev ky_U_init : MethodName := ⟨"TreeCounts$Group", "<init>", "(LTreeCounts$Net;LTreeCounts$Trees;LTreeCounts$Grid;)V"⟩
abbrev kh_U_init : Cond := .code ky_U_init kb_U_init 4 none
set_option maxRecDepth 100000 in
theorem kz_U_init : kh_U_init ∈ zT := zin 213 rfl rfl
abbrev kb_U_round : ByteArray := prog_3_method_2_code
abbrev ky_U_round : MethodName := ⟨"TreeCounts$Group", "round", "(I)J"⟩
abbrev kh_U_round : Cond := .code ky_U_round kb_U_round 2 (some FieldType.long)
set_option maxRecDepth 100000 in
theorem kz_U_round : kh_U_round ∈ zT := zin 596 rfl rfl
abbrev kb_U_find : ByteArray := prog_3_method_3_code
abbrev ky_U_find : MethodName := ⟨"TreeCounts$Group", "find", "()V"⟩
abbrev kh_U_find : Cond := .code ky_U_find kb_U_find 2 none
set_option maxRecDepth 100000 in
theorem kz_U_find : kh_U_find ∈ zT := zin 549 rfl rfl
abbrev kb_U_reduceAll : ByteArray := prog_3_method_4_code
abbrev ky_U_reduceAll : MethodName := ⟨"TreeCounts$Group", "reduceAll", "()V"⟩
abbrev kh_U_reduceAll : Cond := .code ky_U_reduceAll kb_U_reduceAll 3 none
set_option maxRecDepth 100000 in
theorem kz_U_reduceAll : kh_U_reduceAll ∈ zT := zin 557 rfl rfl
abbrev kb_U_reduced : ByteArray := prog_3_method_5_code
abbrev ky_U_reduced : MethodName := ⟨"TreeCounts$Group", "reduced", "(J)J"⟩
abbrev kh_U_reduced : Cond := .code ky_U_reduced kb_U_reduced 5 (some FieldType.long)
set_option maxRecDepth 100000 in
theorem kz_U_reduced : kh_U_reduced ∈ zT := zin 561 rfl rfl
abbrev kb_U_clearLine : ByteArray := prog_3_method_6_code
abbrev ky_U_clearLine : MethodName := ⟨"TreeCounts$Group", "clearLine", "(I)V"⟩
abbrev kh_U_clearLine : Cond := .code ky_U_clearLine kb_U_clearLine 4 none
set_option maxRecDepth 100000 in
theorem kz_U_clearLine : kh_U_clearLine ∈ zT := zin 565 rfl rfl
abbrev kb_U_isRowClear : ByteArray := prog_3_method_7_code
abbrev ky_U_isRowClear : MethodName := ⟨"TreeCounts$Group", "isRowClear", "(I)Z"⟩
abbrev kh_U_isRowClear : Cond := .code ky_U_isRowClear kb_U_isRowClear 3 (some FieldType.boolean)
set_option maxRecDepth 100000 in
theorem kz_U_isRowClear : kh_U_isRowClear ∈ zT := zin 583 rfl rfl
abbrev kb_U_transpose : ByteArray := prog_3_method_8_code
abbrev ky_U_transpose : MethodName := ⟨"TreeCounts$Group", "transpose", "(I)V"⟩
abbrev kh_U_transpose : Cond := .code ky_U_transpose kb_U_transpose 6 none
set_option maxRecDepth 100000 in
theorem kz_U_transpose : kh_U_transpose ∈ zT := zin 587 rfl rfl
abbrev kb_U_mixRows : ByteArray := prog_3_method_9_code
abbrev ky_U_mixRows : MethodName := ⟨"TreeCounts$Group", "mixRows", "(II)V"⟩
abbrev kh_U_mixRows : Cond := .code ky_U_mixRows kb_U_mixRows 16 none
set_option maxRecDepth 100000 in
theorem kz_U_mixRows : kh_U_mixRows ∈ zT := zin 569 rfl rfl
abbrev kb_U_measure : ByteArray := prog_3_method_10_code
abbrev ky_U_measure : MethodName := ⟨"TreeCounts$Group", "measure", "(JJ)V"⟩
abbrev kh_U_measure : Cond := .code ky_U_measure kb_U_measure 20 none
set_option maxRecDepth 100000 in
theorem kz_U_measure : kh_U_measure ∈ zT := zin 573 rfl rfl
abbrev kb_U_times : ByteArray := prog_3_method_11_code
abbrev ky_U_times : MethodName := ⟨"TreeCounts$Group", "times", "(JJ)J"⟩
abbrev kh_U_times : Cond := .code ky_U_times kb_U_times 8 (some FieldType.long)
set_option maxRecDepth 100000 in
theorem kz_U_times : kh_U_times ∈ zT := zin 577 rfl rfl
abbrev kb_U_makeChain : ByteArray := prog_3_method_12_code
abbrev ky_U_makeChain : MethodName := ⟨"TreeCounts$Group", "makeChain", "()V"⟩
abbrev kh_U_makeChain : Cond := .code ky_U_makeChain kb_U_makeChain 5 none
set_option maxRecDepth 100000 in
theorem kz_U_makeChain : kh_U_makeChain ∈ zT := zin 592 rfl rfl
abbrev kb_L_init : ByteArray := prog_6_method_1_code
abbrev ky_L_init : MethodName := ⟨"TreeCounts$Piles", "<init>", "(LTreeCounts$Net;LTreeCounts$Grid;)V"⟩
abbrev kh_L_init : Cond := .code ky_L_init kb_L_init 3 none
set_option maxRecDepth 100000 in
theorem kz_L_init : kh_L_init ∈ zT := zin 248 rfl rfl
abbrev kb_L_empty : ByteArray := prog_6_method_2_code
abbrev ky_L_empty : MethodName := ⟨"TreeCounts$Piles", "empty", "()V"⟩
abbrev kh_L_empty : Cond := .code ky_L_empty kb_L_empty 2 none
set_option maxRecDepth 100000 in
theorem kz_L_empty : kh_L_empty ∈ zT := zin 660 rfl rfl
abbrev kb_L_settleAll : ByteArray := prog_6_method_3_code
abbrev ky_L_settleAll : MethodName := ⟨"TreeCounts$Piles", "settleAll", "(I)J"⟩
abbrev kh_L_settleAll : Cond := .code ky_L_settleAll kb_L_settleAll 5 (some FieldType.long)
set_option maxRecDepth 100000 in
theorem kz_L_settleAll : kh_L_settleAll ∈ zT := zin 616 rfl rfl
abbrev kb_L_comeBack : ByteArray := prog_6_method_4_code
abbrev ky_L_comeBack : MethodName := ⟨"TreeCounts$Piles", "comeBack", "(I)Z"⟩
abbrev kh_L_comeBack : Cond := .code ky_L_comeBack kb_L_comeBack 3 (some FieldType.boolean)
set_option maxRecDepth 100000 in
theorem kz_L_comeBack : kh_L_comeBack ∈ zT := zin 638 rfl rfl
abbrev kb_L_run : ByteArray := prog_6_method_5_code
abbrev ky_L_run : MethodName := ⟨"TreeCounts$Piles", "run", "([J[JI)V"⟩
abbrev kh_L_run : Cond := .code ky_L_run kb_L_run 11 none
set_option maxRecDepth 100000 in
theorem kz_L_run : kh_L_run ∈ zT := zin 621 rfl rfl
abbrev kb_L_fire : ByteArray := prog_6_method_6_code
abbrev ky_L_fire : MethodName := ⟨"TreeCounts$Piles", "fire", "([JIJ)V"⟩
abbrev kh_L_fire : Cond := .code ky_L_fire kb_L_fire 6 none
set_option maxRecDepth 100000 in
theorem kz_L_fire : kh_L_fire ∈ zT := zin 626 rfl rfl
abbrev kb_S_init : ByteArray := prog_8_method_1_code
abbrev ky_S_init : MethodName := ⟨"TreeCounts$Sets", "<init>", "(LTreeCounts$Net;LTreeCounts$Parts;)V"⟩
abbrev kh_S_init : Cond := .code ky_S_init kb_S_init 4 none
set_option maxRecDepth 100000 in
theorem kz_S_init : kh_S_init ∈ zT := zin 275 rfl rfl
abbrev kb_S_sumAt : ByteArray := prog_8_method_2_code
abbrev ky_S_sumAt : MethodName := ⟨"TreeCounts$Sets", "sumAt", "(JJ)J"⟩
abbrev kh_S_sumAt : Cond := .code ky_S_sumAt kb_S_sumAt 5 (some FieldType.long)
set_option maxRecDepth 100000 in
theorem kz_S_sumAt : kh_S_sumAt ∈ zT := zin 738 rfl rfl
abbrev kb_S_fillPowers : ByteArray := prog_8_method_3_code
abbrev ky_S_fillPowers : MethodName := ⟨"TreeCounts$Sets", "fillPowers", "([JJ)V"⟩
abbrev kh_S_fillPowers : Cond := .code ky_S_fillPowers kb_S_fillPowers 6 none
set_option maxRecDepth 100000 in
theorem kz_S_fillPowers : kh_S_fillPowers ∈ zT := zin 741 rfl rfl
abbrev kb_S_sumFrom : ByteArray := prog_8_method_4_code
abbrev ky_S_sumFrom : MethodName := ⟨"TreeCounts$Sets", "sumFrom", "(LTreeCounts$Sets;II)J"⟩
abbrev kh_S_sumFrom : Cond := .code ky_S_sumFrom kb_S_sumFrom 11 (some FieldType.long)
set_option maxRecDepth 100000 in
theorem kz_S_sumFrom : kh_S_sumFrom ∈ zT := zin 746 rfl rfl
abbrev kb_M_init : ByteArray := prog_11_method_1_code
abbrev ky_M_init : MethodName := ⟨"TreeCountsModel", "<init>", "()V"⟩
abbrev kh_M_init : Cond := .code ky_M_init kb_M_init 1 none
set_option maxRecDepth 100000 in
theorem kz_M_init : kh_M_init ∈ zT := zin 760 rfl rfl
abbrev kb_M_thrown : ByteArray := prog_11_method_2_code
abbrev ky_M_thrown : MethodName := ⟨"TreeCountsModel", "thrown", "()I"⟩
abbrev kh_M_thrown : Cond := .code ky_M_thrown kb_M_thrown 1 (some FieldType.int)
set_option maxRecDepth 100000 in
theorem kz_M_thrown : kh_M_thrown ∈ zT := zin 842 rfl rfl
abbrev kb_M_isNode : ByteArray := prog_11_method_3_code
abbrev ky_M_isNode : MethodName := ⟨"TreeCountsModel", "isNode", "(I)Z"⟩
abbrev kh_M_isNode : Cond := .code ky_M_isNode kb_M_isNode 2 (some FieldType.boolean)
set_option maxRecDepth 100000 in
theorem kz_M_isNode : kh_M_isNode ∈ zT := zin 854 rfl rfl
abbrev kb_M_node : ByteArray := prog_11_method_4_code
abbrev ky_M_node : MethodName := ⟨"TreeCountsModel", "node", "()I"⟩
abbrev kh_M_node : Cond := .code ky_M_node kb_M_node 1 (some FieldType.int)
set_option maxRecDepth 100000 in
theorem kz_M_node : kh_M_node ∈ zT := zin 846 rfl rfl
abbrev kb_M_arc : ByteArray := prog_11_method_5_code
abbrev ky_M_arc : MethodName := ⟨"TreeCountsModel", "arc", "(III)I"⟩
abbrev kh_M_arc : Cond := .code ky_M_arc kb_M_arc 4 (some FieldType.int)
set_option maxRecDepth 100000 in
theorem kz_M_arc : kh_M_arc ∈ zT := zin 850 rfl rfl
abbrev kb_M_weigh : ByteArray := prog_11_method_6_code
abbrev ky_M_weigh : MethodName := ⟨"TreeCountsModel", "weigh", "(II)I"⟩
abbrev kh_M_weigh : Cond := .code ky_M_weigh kb_M_weigh 4 (some FieldType.int)
set_option maxRecDepth 100000 in
theorem kz_M_weigh : kh_M_weigh ∈ zT := zin 858 rfl rfl
abbrev kb_M_drop : ByteArray := prog_11_method_7_code
abbrev ky_M_drop : MethodName := ⟨"TreeCountsModel", "drop", "()Z"⟩
abbrev kh_M_drop : Cond := .code ky_M_drop kb_M_drop 1 (some FieldType.boolean)
set_option maxRecDepth 100000 in
theorem kz_M_drop : kh_M_drop ∈ zT := zin 862 rfl rfl
abbrev kb_M_power : ByteArray := prog_11_method_8_code
abbrev ky_M_power : MethodName := ⟨"TreeCountsModel", "power", "(JJJ)J"⟩
abbrev kh_M_power : Cond := .code ky_M_power kb_M_power 12 (some FieldType.long)
set_option maxRecDepth 100000 in
theorem kz_M_power : kh_M_power ∈ zT := zin 911 rfl rfl
abbrev kb_M_modulo : ByteArray := prog_11_method_9_code
abbrev ky_M_modulo : MethodName := ⟨"TreeCountsModel", "modulo", "(IJ)J"⟩
abbrev kh_M_modulo : Cond := .code ky_M_modulo kb_M_modulo 14 (some FieldType.long)
set_option maxRecDepth 100000 in
theorem kz_M_modulo : kh_M_modulo ∈ zT := zin 907 rfl rfl
abbrev kb_M_determinant : ByteArray := prog_11_method_10_code
abbrev ky_M_determinant : MethodName := ⟨"TreeCountsModel", "determinant", "(I)J"⟩
abbrev kh_M_determinant : Cond := .code ky_M_determinant kb_M_determinant 8 (some FieldType.long)
set_option maxRecDepth 100000 in
theorem kz_M_determinant : kh_M_determinant ∈ zT := zin 902 rfl rfl
abbrev kb_M_clearRows : ByteArray := prog_11_method_11_code
abbrev ky_M_clearRows : MethodName := ⟨"TreeCountsModel", "clearRows", "()V"⟩
abbrev kh_M_clearRows : Cond := .code ky_M_clearRows kb_M_clearRows 2 none
set_option maxRecDepth 100000 in
theorem kz_M_clearRows : kh_M_clearRows ∈ zT := zin 894 rfl rfl
abbrev kb_M_apartAll : ByteArray := prog_11_method_12_code
abbrev ky_M_apartAll : MethodName := ⟨"TreeCountsModel", "apartAll", "()V"⟩
abbrev kh_M_apartAll : Cond := .code ky_M_apartAll kb_M_apartAll 2 none
set_option maxRecDepth 100000 in
theorem kz_M_apartAll : kh_M_apartAll ∈ zT := zin 870 rfl rfl
abbrev kb_M_join : ByteArray := prog_11_method_13_code
abbrev ky_M_join : MethodName := ⟨"TreeCountsModel", "join", "(II)Z"⟩
abbrev kh_M_join : Cond := .code ky_M_join kb_M_join 6 (some FieldType.boolean)
set_option maxRecDepth 100000 in
theorem kz_M_join : kh_M_join ∈ zT := zin 947 rfl rfl
abbrev kb_M_noneOut : ByteArray := prog_11_method_14_code
abbrev ky_M_noneOut : MethodName := ⟨"TreeCountsModel", "noneOut", "()V"⟩
abbrev kh_M_noneOut : Cond := .code ky_M_noneOut kb_M_noneOut 2 none
set_option maxRecDepth 100000 in
theorem kz_M_noneOut : kh_M_noneOut ∈ zT := zin 874 rfl rfl
abbrev kb_M_number : ByteArray := prog_11_method_15_code
abbrev ky_M_number : MethodName := ⟨"TreeCountsModel", "number", "(II)I"⟩
abbrev kh_M_number : Cond := .code ky_M_number kb_M_number 7 (some FieldType.int)
set_option maxRecDepth 100000 in
theorem kz_M_number : kh_M_number ∈ zT := zin 882 rfl rfl
abbrev kb_M_isFirst : ByteArray := prog_11_method_16_code
abbrev ky_M_isFirst : MethodName := ⟨"TreeCountsModel", "isFirst", "(I)Z"⟩
abbrev kh_M_isFirst : Cond := .code ky_M_isFirst kb_M_isFirst 4 (some FieldType.boolean)
set_option maxRecDepth 100000 in
theorem kz_M_isFirst : kh_M_isFirst ∈ zT := zin 886 rfl rfl
abbrev kb_M_addTo : ByteArray := prog_11_method_17_code
abbrev ky_M_addTo : MethodName := ⟨"TreeCountsModel", "addTo", "(IIJ)V"⟩
abbrev kh_M_addTo : Cond := .code ky_M_addTo kb_M_addTo 5 none
set_option maxRecDepth 100000 in
theorem kz_M_addTo : kh_M_addTo ∈ zT := zin 898 rfl rfl
abbrev kb_M_rows : ByteArray := prog_11_method_18_code
abbrev ky_M_rows : MethodName := ⟨"TreeCountsModel", "rows", "(J)V"⟩
abbrev kh_M_rows : Cond := .code ky_M_rows kb_M_rows 6 none
set_option maxRecDepth 100000 in
theorem kz_M_rows : kh_M_rows ∈ zT := zin 890 rfl rfl
abbrev kb_M_count : ByteArray := prog_11_method_19_code
abbrev ky_M_count : MethodName := ⟨"TreeCountsModel", "count", "()J"⟩
abbrev kh_M_count : Cond := .code ky_M_count kb_M_count 2 (some FieldType.long)
set_option maxRecDepth 100000 in
theorem kz_M_count : kh_M_count ∈ zT := zin 878 rfl rfl
abbrev kb_M_trees : ByteArray := prog_11_method_20_code
abbrev ky_M_trees : MethodName := ⟨"TreeCountsModel", "trees", "()J"⟩
abbrev kh_M_trees : Cond := .code ky_M_trees kb_M_trees 1 (some FieldType.long)
set_option maxRecDepth 100000 in
theorem kz_M_trees : kh_M_trees ∈ zT := zin 866 rfl rfl
abbrev kb_M_through : ByteArray := prog_11_method_21_code
abbrev ky_M_through : MethodName := ⟨"TreeCountsModel", "through", "(I)J"⟩
abbrev kh_M_through : Cond := .code ky_M_through kb_M_through 4 (some FieldType.long)
set_option maxRecDepth 100000 in
theorem kz_M_through : kh_M_through ∈ zT := zin 917 rfl rfl
abbrev kb_M_rooted : ByteArray := prog_11_method_22_code
abbrev ky_M_rooted : MethodName := ⟨"TreeCountsModel", "rooted", "(I)J"⟩
abbrev kh_M_rooted : Cond := .code ky_M_rooted kb_M_rooted 4 (some FieldType.long)
set_option maxRecDepth 100000 in
theorem kz_M_rooted : kh_M_rooted ∈ zT := zin 923 rfl rfl
abbrev kb_M_forests : ByteArray := prog_11_method_23_code
abbrev ky_M_forests : MethodName := ⟨"TreeCountsModel", "forests", "()J"⟩
abbrev kh_M_forests : Cond := .code ky_M_forests kb_M_forests 2 (some FieldType.long)
set_option maxRecDepth 100000 in
theorem kz_M_forests : kh_M_forests ∈ zT := zin 927 rfl rfl
abbrev kb_M_apart : ByteArray := prog_11_method_24_code
abbrev ky_M_apart : MethodName := ⟨"TreeCountsModel", "apart", "(II)J"⟩
abbrev kh_M_apart : Cond := .code ky_M_apart kb_M_apart 4 (some FieldType.long)
set_option maxRecDepth 100000 in
theorem kz_M_apart : kh_M_apart ∈ zT := zin 931 rfl rfl
abbrev kb_M_gcd : ByteArray := prog_11_method_25_code
abbrev ky_M_gcd : MethodName := ⟨"TreeCountsModel", "gcd", "(JJ)J"⟩
abbrev kh_M_gcd : Cond := .code ky_M_gcd kb_M_gcd 10 (some FieldType.long)
set_option maxRecDepth 100000 in
theorem kz_M_gcd : kh_M_gcd ∈ zT := zin 939 rfl rfl
abbrev kb_M_resistance : ByteArray := prog_11_method_26_code
abbrev ky_M_resistance : MethodName := ⟨"TreeCountsModel", "resistance", "(III)J"⟩
abbrev kh_M_resistance : Cond := .code ky_M_resistance kb_M_resistance 10 (some FieldType.long)
set_option maxRecDepth 100000 in
theorem kz_M_resistance : kh_M_resistance ∈ zT := zin 935 rfl rfl
abbrev kb_M_tours : ByteArray := prog_11_method_27_code
abbrev ky_M_tours : MethodName := ⟨"TreeCountsModel", "tours", "()J"⟩
abbrev kh_M_tours : Cond := .code ky_M_tours kb_M_tours 9 (some FieldType.long)
set_option maxRecDepth 100000 in
theorem kz_M_tours : kh_M_tours ∈ zT := zin 943 rfl rfl
abbrev kb_M_with : ByteArray := prog_11_method_28_code
abbrev ky_M_with : MethodName := ⟨"TreeCountsModel", "with", "(I)J"⟩
abbrev kh_M_with : Cond := .code ky_M_with kb_M_with 6 (some FieldType.long)
set_option maxRecDepth 100000 in
theorem kz_M_with : kh_M_with ∈ zT := zin 955 rfl rfl
abbrev kb_M_drawn : ByteArray := prog_11_method_29_code
abbrev ky_M_drawn : MethodName := ⟨"TreeCountsModel", "drawn", "(J)I"⟩
abbrev kh_M_drawn : Cond := .code ky_M_drawn kb_M_drawn 10 (some FieldType.int)
set_option maxRecDepth 100000 in
theorem kz_M_drawn : kh_M_drawn ∈ zT := zin 951 rfl rfl
abbrev kb_M_place : ByteArray := prog_11_method_30_code
abbrev ky_M_place : MethodName := ⟨"TreeCountsModel", "place", "(I)J"⟩
abbrev kh_M_place : Cond := .code ky_M_place kb_M_place 11 (some FieldType.long)
set_option maxRecDepth 100000 in
theorem kz_M_place : kh_M_place ∈ zT := zin 959 rfl rfl
abbrev kb_M_takeTrees : ByteArray := prog_11_method_31_code
abbrev ky_M_takeTrees : MethodName := ⟨"TreeCountsModel", "takeTrees", "()I"⟩
abbrev kh_M_takeTrees : Cond := .code ky_M_takeTrees kb_M_takeTrees 3 (some FieldType.int)
set_option maxRecDepth 100000 in
theorem kz_M_takeTrees : kh_M_takeTrees ∈ zT := zin 967 rfl rfl
abbrev kb_M_ringOf : ByteArray := prog_11_method_32_code
abbrev ky_M_ringOf : MethodName := ⟨"TreeCountsModel", "ringOf", "(I)V"⟩
abbrev kh_M_ringOf : Cond := .code ky_M_ringOf kb_M_ringOf 8 none
set_option maxRecDepth 100000 in
theorem kz_M_ringOf : kh_M_ringOf ∈ zT := zin 971 rfl rfl
abbrev kb_M_ring : ByteArray := prog_11_method_33_code
abbrev ky_M_ring : MethodName := ⟨"TreeCountsModel", "ring", "(II)I"⟩
abbrev kh_M_ring : Cond := .code ky_M_ring kb_M_ring 3 (some FieldType.int)
set_option maxRecDepth 100000 in
theorem kz_M_ring : kh_M_ring ∈ zT := zin 963 rfl rfl
abbrev kb_M_times : ByteArray := prog_11_method_34_code
abbrev ky_M_times : MethodName := ⟨"TreeCountsModel", "times", "(JJJ)J"⟩
abbrev kh_M_times : Cond := .code ky_M_times kb_M_times 12 (some FieldType.long)
set_option maxRecDepth 100000 in
theorem kz_M_times : kh_M_times ∈ zT := zin 994 rfl rfl
abbrev kb_M_lessRow : ByteArray := prog_11_method_35_code
abbrev ky_M_lessRow : MethodName := ⟨"TreeCountsModel", "lessRow", "(IIJIJ)V"⟩
abbrev kh_M_lessRow : Cond := .code ky_M_lessRow kb_M_lessRow 9 none
set_option maxRecDepth 100000 in
theorem kz_M_lessRow : kh_M_lessRow ∈ zT := zin 991 rfl rfl
abbrev kb_M_lessColumn : ByteArray := prog_11_method_36_code
abbrev ky_M_lessColumn : MethodName := ⟨"TreeCountsModel", "lessColumn", "(IIJIJ)V"⟩
abbrev kh_M_lessColumn : Cond := .code ky_M_lessColumn kb_M_lessColumn 9 none
set_option maxRecDepth 100000 in
theorem kz_M_lessColumn : kh_M_lessColumn ∈ zT := zin 1002 rfl rfl
abbrev kb_M_swapRows : ByteArray := prog_11_method_37_code
abbrev ky_M_swapRows : MethodName := ⟨"TreeCountsModel", "swapRows", "(III)V"⟩
abbrev kh_M_swapRows : Cond := .code ky_M_swapRows kb_M_swapRows 7 none
set_option maxRecDepth 100000 in
theorem kz_M_swapRows : kh_M_swapRows ∈ zT := zin 998 rfl rfl
abbrev kb_M_swapColumns : ByteArray := prog_11_method_38_code
abbrev ky_M_swapColumns : MethodName := ⟨"TreeCountsModel", "swapColumns", "(III)V"⟩
abbrev kh_M_swapColumns : Cond := .code ky_M_swapColumns kb_M_swapColumns 7 none
set_option maxRecDepth 100000 in
theorem kz_M_swapColumns : kh_M_swapColumns ∈ zT := zin 1006 rfl rfl
abbrev kb_M_clearCross : ByteArray := prog_11_method_39_code
abbrev ky_M_clearCross : MethodName := ⟨"TreeCountsModel", "clearCross", "(IIJ)V"⟩
abbrev kh_M_clearCross : Cond := .code ky_M_clearCross kb_M_clearCross 7 none
set_option maxRecDepth 100000 in
theorem kz_M_clearCross : kh_M_clearCross ∈ zT := zin 987 rfl rfl
abbrev kb_M_commonFrom : ByteArray := prog_11_method_40_code
abbrev ky_M_commonFrom : MethodName := ⟨"TreeCountsModel", "commonFrom", "(IIJ)J"⟩
abbrev kh_M_commonFrom : Cond := .code ky_M_commonFrom kb_M_commonFrom 9 (some FieldType.long)
set_option maxRecDepth 100000 in
theorem kz_M_commonFrom : kh_M_commonFrom ∈ zT := zin 983 rfl rfl
abbrev kb_M_findRounds : ByteArray := prog_11_method_41_code
abbrev ky_M_findRounds : MethodName := ⟨"TreeCountsModel", "findRounds", "()Z"⟩
abbrev kh_M_findRounds : Cond := .code ky_M_findRounds kb_M_findRounds 10 (some FieldType.boolean)
set_option maxRecDepth 100000 in
theorem kz_M_findRounds : kh_M_findRounds ∈ zT := zin 979 rfl rfl
abbrev kb_M_isOther : ByteArray := prog_11_method_42_code
abbrev ky_M_isOther : MethodName := ⟨"TreeCountsModel", "isOther", "(IIIJ)Z"⟩
abbrev kh_M_isOther : Cond := .code ky_M_isOther kb_M_isOther 10 (some FieldType.boolean)
set_option maxRecDepth 100000 in
theorem kz_M_isOther : kh_M_isOther ∈ zT := zin 1010 rfl rfl
abbrev kb_M_group : ByteArray := prog_11_method_43_code
abbrev ky_M_group : MethodName := ⟨"TreeCountsModel", "group", "(I)J"⟩
abbrev kh_M_group : Cond := .code ky_M_group kb_M_group 2 (some FieldType.long)
set_option maxRecDepth 100000 in
theorem kz_M_group : kh_M_group ∈ zT := zin 975 rfl rfl
abbrev kb_M_chips : ByteArray := prog_11_method_44_code
abbrev ky_M_chips : MethodName := ⟨"TreeCountsModel", "chips", "(II)J"⟩
abbrev kh_M_chips : Cond := .code ky_M_chips kb_M_chips 5 (some FieldType.long)
set_option maxRecDepth 100000 in
theorem kz_M_chips : kh_M_chips ∈ zT := zin 1014 rfl rfl
abbrev kb_M_level : ByteArray := prog_11_method_45_code
abbrev ky_M_level : MethodName := ⟨"TreeCountsModel", "level", "(I)J"⟩
abbrev kh_M_level : Cond := .code ky_M_level kb_M_level 2 (some FieldType.long)
set_option maxRecDepth 100000 in
theorem kz_M_level : kh_M_level ∈ zT := zin 1018 rfl rfl
abbrev kb_M_degree : ByteArray := prog_11_method_46_code
abbrev ky_M_degree : MethodName := ⟨"TreeCountsModel", "degree", "(I)J"⟩
abbrev kh_M_degree : Cond := .code ky_M_degree kb_M_degree 5 (some FieldType.long)
set_option maxRecDepth 100000 in
theorem kz_M_degree : kh_M_degree ∈ zT := zin 1034 rfl rfl
abbrev kb_M_fireNode : ByteArray := prog_11_method_47_code
abbrev ky_M_fireNode : MethodName := ⟨"TreeCountsModel", "fireNode", "(IJ)V"⟩
abbrev kh_M_fireNode : Cond := .code ky_M_fireNode kb_M_fireNode 6 none
set_option maxRecDepth 100000 in
theorem kz_M_fireNode : kh_M_fireNode ∈ zT := zin 1038 rfl rfl
abbrev kb_M_settlePile : ByteArray := prog_11_method_48_code
abbrev ky_M_settlePile : MethodName := ⟨"TreeCountsModel", "settlePile", "(I)J"⟩
abbrev kh_M_settlePile : Cond := .code ky_M_settlePile kb_M_settlePile 8 (some FieldType.long)
set_option maxRecDepth 100000 in
theorem kz_M_settlePile : kh_M_settlePile ∈ zT := zin 1030 rfl rfl
abbrev kb_M_beginPile : ByteArray := prog_11_method_49_code
abbrev ky_M_beginPile : MethodName := ⟨"TreeCountsModel", "beginPile", "()V"⟩
abbrev kh_M_beginPile : Cond := .code ky_M_beginPile kb_M_beginPile 2 none
set_option maxRecDepth 100000 in
theorem kz_M_beginPile : kh_M_beginPile ∈ zT := zin 1026 rfl rfl
abbrev kb_M_settle : ByteArray := prog_11_method_50_code
abbrev ky_M_settle : MethodName := ⟨"TreeCountsModel", "settle", "(I)J"⟩
abbrev kh_M_settle : Cond := .code ky_M_settle kb_M_settle 5 (some FieldType.long)
set_option maxRecDepth 100000 in
theorem kz_M_settle : kh_M_settle ∈ zT := zin 1022 rfl rfl
abbrev kb_M_fired : ByteArray := prog_11_method_51_code
abbrev ky_M_fired : MethodName := ⟨"TreeCountsModel", "fired", "(I)J"⟩
abbrev kh_M_fired : Cond := .code ky_M_fired kb_M_fired 2 (some FieldType.long)
set_option maxRecDepth 100000 in
theorem kz_M_fired : kh_M_fired ∈ zT := zin 1042 rfl rfl
abbrev kb_M_recurrent : ByteArray := prog_11_method_52_code
abbrev ky_M_recurrent : MethodName := ⟨"TreeCountsModel", "recurrent", "(I)I"⟩
abbrev kh_M_recurrent : Cond := .code ky_M_recurrent kb_M_recurrent 6 (some FieldType.int)
set_option maxRecDepth 100000 in
theorem kz_M_recurrent : kh_M_recurrent ∈ zT := zin 1046 rfl rfl
abbrev kb_M_powerOf : ByteArray := prog_11_method_53_code
abbrev ky_M_powerOf : MethodName := ⟨"TreeCountsModel", "powerOf", "(JI)J"⟩
abbrev kh_M_powerOf : Cond := .code ky_M_powerOf kb_M_powerOf 6 (some FieldType.long)
set_option maxRecDepth 100000 in
theorem kz_M_powerOf : kh_M_powerOf ∈ zT := zin 1057 rfl rfl
abbrev kb_M_rank : ByteArray := prog_11_method_54_code
abbrev ky_M_rank : MethodName := ⟨"TreeCountsModel", "rank", "(I)I"⟩
abbrev kh_M_rank : Cond := .code ky_M_rank kb_M_rank 4 (some FieldType.int)
set_option maxRecDepth 100000 in
theorem kz_M_rank : kh_M_rank ∈ zT := zin 1054 rfl rfl
abbrev kb_M_point : ByteArray := prog_11_method_55_code
abbrev ky_M_point : MethodName := ⟨"TreeCountsModel", "point", "(JJ)J"⟩
abbrev kh_M_point : Cond := .code ky_M_point kb_M_point 11 (some FieldType.long)
set_option maxRecDepth 100000 in
theorem kz_M_point : kh_M_point ∈ zT := zin 1050 rfl rfl
abbrev kb_M_told : ByteArray := prog_11_method_56_code
abbrev ky_M_told : MethodName := ⟨"TreeCountsModel", "told", "(I)I"⟩
abbrev kh_M_told : Cond := .code ky_M_told kb_M_told 2 (some FieldType.int)
set_option maxRecDepth 100000 in
theorem kz_M_told : kh_M_told ∈ zT := zin 1061 rfl rfl
abbrev kb_M_clear : ByteArray := prog_11_method_57_code
abbrev ky_M_clear : MethodName := ⟨"TreeCountsModel", "clear", "()V"⟩
abbrev kh_M_clear : Cond := .code ky_M_clear kb_M_clear 1 none
set_option maxRecDepth 100000 in
theorem kz_M_clear : kh_M_clear ∈ zT := zin 1065 rfl rfl
theorem mk_fd {own C : String} {T : u_T} {idx ci k N : Nat} (c : Cond) (hc : kCl[ci]? = some (C, T, N)) (hin : ∀ w ∈ u_ws C T N, w ∈ zT) (hl : Cond.fieldLink own idx (T k).1 (T k).2.1 (T k).2.2.1 ∈ zT) (hk : k < N) : zFd kCl (c :: zT) own idx ci k := ⟨C, T, N, hc, fun w h => List.mem_cons_of_mem _ (hin w h), List.mem_cons_of_mem _ hl, hk⟩
theorem mk_pd {own C : String} {T : u_T} {ty0 : Nat → FieldType} {ty : FieldType} {idx ci k N : Nat} (c : Cond) (hc : kCl[ci]? = some (C, T, N)) (hin : ∀ w ∈ u_ws C T N, w ∈ zT) (hl : Cond.fieldLink own idx (T k).1 (T k).2.1 (T k).2.2.1 ∈ zT) (hk : k < N) (hty : ∀ k, k < N → parseFieldDescriptor (T k).2.2.1 = some (ty0 k)) (hnm : ∀ a, a < N → ∀ b, b < N → a ≠ b → (T a).2.1 ≠ (T b).2.1) (hf : (T k).2.2.2 = false) (hp : parseFieldDescriptor (T k).2.2.1 = some ty) : zPd kCl (c :: zT) own idx ci k ty := ⟨C, T, N, ty0, hc, fun w h => List.mem_cons_of_mem _ (hin w h), List.mem_cons_of_mem _ hl, hk, hty, hnm, hf, hp⟩
theorem mk_fn {own C : String} {T : u_T} {ty0 : Nat → FieldType} {ty : FieldType} {idx ci k N : Nat} (c : Cond) (hc : kCl[ci]? = some (C, T, N)) (hin : ∀ w ∈ u_ws C T N, w ∈ zT) (hl : Cond.fieldLink own idx (T k).1 (T k).2.1 (T k).2.2.1 ∈ zT) (hk : k < N) (hty : ∀ k, k < N → parseFieldDescriptor (T k).2.2.1 = some (ty0 k)) (hnm : ∀ a, a < N → ∀ b, b < N → a ≠ b → (T a).2.1 ≠ (T b).2.1) (hf : (T k).2.2.2 = true) (hp : parseFieldDescriptor (T k).2.2.1 = some ty) (ho : (T k).1 = own) : zFn kCl (c :: zT) own idx ci k ty := ⟨C, T, N, ty0, hc, fun w h => List.mem_cons_of_mem _ (hin w h), List.mem_cons_of_mem _ hl, hk, hty, hnm, hf, hp, ho⟩
theorem mk_cv {own C : String} {idx maxL n : Nat} {y : MethodName} {bytes : ByteArray} {ret : Option FieldType} (c : Cond) (h1 : Cond.methodLink own idx y ∈ zT) (h2 : Cond.instanceMethod y ∈ zT) (h3 : Cond.selects C y y ∈ zT) (h4 : Cond.initialized C ∈ zT) (h5 : Cond.code y bytes maxL ret ∈ zT) (hd : y.cls = C ∧ y.cls ≠ "java/lang/invoke/MethodHandle" ∧ y.cls ≠ "java/lang/invoke/VarHandle" ∧ (parseMethodDescriptor y.desc).map (fun d => d.parameters.length) = some n) : zCV (c :: zT) own C idx y bytes maxL ret (Cond.code y bytes maxL ret :: zT) n := ⟨mk_cons h1 (mk_cons h2 (mk_cons h3 (mk_cons h4 (mk_good h5)))), ⟨_, rfl⟩, hd⟩
theorem mk_cs {own : String} {idx maxL n : Nat} {y : MethodName} {bytes : ByteArray} {ret : Option FieldType} (c : Cond) (h1 : Cond.methodLink own idx y ∈ zT) (h2 : Cond.static y ∈ zT) (h4 : Cond.initialized own ∈ zT) (h5 : Cond.code y bytes maxL ret ∈ zT) (hd : y.cls = own ∧ y.cls ≠ "java/lang/invoke/MethodHandle" ∧ y.cls ≠ "java/lang/invoke/VarHandle" ∧ (parseMethodDescriptor y.desc).map (fun d => d.parameters.length) = some n) : zCS (c :: zT) own idx y bytes maxL ret (Cond.code y bytes maxL ret :: zT) n := ⟨mk_cons h1 (mk_cons h2 (mk_cons h4 (mk_good h5))), ⟨_, rfl⟩, hd⟩
theorem mk_ci {own : String} {idx maxL n : Nat} {y : MethodName} {bytes : ByteArray} (c : Cond) (h5 : Cond.code y bytes maxL none ∈ zT) (h1 : Cond.initialized y.cls ∈ zT) (h2 : Cond.methodLink own idx y ∈ zT) (h3 : Cond.instanceMethod y ∈ zT) (h4 : y.name = "<init>") (hd : y.cls ≠ "java/lang/invoke/MethodHandle" ∧ y.cls ≠ "java/lang/invoke/VarHandle" ∧ (parseMethodDescriptor y.desc).map (fun d => d.parameters.length) = some n) : zCI (c :: zT) own idx y bytes maxL (Cond.code y bytes maxL none :: zT) n := ⟨mk_good h5, ⟨_, rfl⟩, List.mem_cons_of_mem _ h1, List.mem_cons_of_mem _ h2, List.mem_cons_of_mem _ h3, h4, hd⟩
def kNw : List Cond := [.methodLinkNest "TreeCounts" 9 ⟨"TreeCounts$Net", "<init>", "()V"⟩ "TreeCounts", .methodLinkNest "TreeCounts" 18 ⟨"TreeCounts$Parts", "<init>", "()V"⟩ "TreeCounts", .methodLinkNest "TreeCounts" 21 ⟨"TreeCounts$Grid", "<init>", "()V"⟩ "TreeCounts", .methodLinkNest "TreeCounts$Sets" 32 ⟨"TreeCounts$Parts", "<init>", "()V"⟩ "TreeCounts", .methodLinkNest "TreeCounts$Group" 71 ⟨"TreeCounts", "commonDivisor", "(JJ)J"⟩ "TreeCounts", .arrayOver (.array .long), .arrayOver (.object "TreeCounts$Parts")]
theorem mk_cn {own host : String} {idx maxL n : Nat} {y : MethodName} {bytes : ByteArray} {ret : Option FieldType} (c : Cond) (h5 : Cond.code y bytes maxL ret ∈ zT) (h2 : Cond.methodLinkNest own idx y host ∈ kNw) (h1 : Cond.initialized y.cls ∈ zT) (hd : y.cls ≠ "java/lang/invoke/MethodHandle" ∧ y.cls ≠ "java/lang/invoke/VarHandle" ∧ (parseMethodDescriptor y.desc).map (fun d => d.parameters.length) = some n) : zCN (c :: zT) kNw own idx y host bytes maxL ret (Cond.code y bytes maxL ret :: zT) n := ⟨mk_good h5, ⟨_, rfl⟩, h2, List.mem_cons_of_mem _ h1, hd⟩
set_option maxRecDepth 100000 in
theorem kf_C_10 (c : Cond) : zFd kCl (c :: zT) "TreeCounts" 10 0 0 := mk_fd c kc_C ki_C (zin 299 rfl rfl) (by decide)
set_option maxRecDepth 100000 in
theorem kf_C_27 (c : Cond) : zFd kCl (c :: zT) "TreeCounts" 27 0 1 := mk_fd c kc_C ki_C (zin 300 rfl rfl) (by decide)
set_option maxRecDepth 100000 in
theorem kf_C_36 (c : Cond) : zFd kCl (c :: zT) "TreeCounts" 36 0 2 := mk_fd c kc_C ki_C (zin 301 rfl rfl) (by decide)
set_option maxRecDepth 100000 in
theorem kf_C_45 (c : Cond) : zFd kCl (c :: zT) "TreeCounts" 45 0 3 := mk_fd c kc_C ki_C (zin 302 rfl rfl) (by decide)
set_option maxRecDepth 100000 in
theorem kf_C_54 (c : Cond) : zFd kCl (c :: zT) "TreeCounts" 54 0 4 := mk_fd c kc_C ki_C (zin 303 rfl rfl) (by decide)
set_option maxRecDepth 100000 in
theorem kf_C_61 (c : Cond) : zFd kCl (c :: zT) "TreeCounts" 61 0 5 := mk_fd c kc_C ki_C (zin 304 rfl rfl) (by decide)
set_option maxRecDepth 100000 in
theorem kf_C_65 (c : Cond) : zFd kCl (c :: zT) "TreeCounts" 65 1 0 := mk_fd c kc_N ki_N (zin 81 rfl rfl) (by decide)
set_option maxRecDepth 100000 in
theorem kf_C_76 (c : Cond) : zFd kCl (c :: zT) "TreeCounts" 76 1 1 := mk_fd c kc_N ki_N (zin 91 rfl rfl) (by decide)
set_option maxRecDepth 100000 in
theorem kf_C_79 (c : Cond) : zFd kCl (c :: zT) "TreeCounts" 79 1 2 := mk_fd c kc_N ki_N (zin 96 rfl rfl) (by decide)
set_option maxRecDepth 100000 in
theorem kf_C_83 (c : Cond) : zFd kCl (c :: zT) "TreeCounts" 83 1 3 := mk_fd c kc_N ki_N (zin 102 rfl rfl) (by decide)
set_option maxRecDepth 100000 in
theorem kf_C_86 (c : Cond) : zFd kCl (c :: zT) "TreeCounts" 86 1 4 := mk_fd c kc_N ki_N (zin 108 rfl rfl) (by decide)
set_option maxRecDepth 100000 in
theorem kf_C_136 (c : Cond) : zFd kCl (c :: zT) "TreeCounts" 136 5 0 := mk_fd c kc_R ki_R (zin 192 rfl rfl) (by decide)
set_option maxRecDepth 100000 in
theorem kf_C_139 (c : Cond) : zFd kCl (c :: zT) "TreeCounts" 139 5 1 := mk_fd c kc_R ki_R (zin 194 rfl rfl) (by decide)
set_option maxRecDepth 100000 in
theorem kf_C_145 (c : Cond) : zFd kCl (c :: zT) "TreeCounts" 145 6 0 := mk_fd c kc_U ki_U (zin 216 rfl rfl) (by decide)
set_option maxRecDepth 100000 in
theorem kf_C_151 (c : Cond) : zFd kCl (c :: zT) "TreeCounts" 151 7 0 := mk_fd c kc_L ki_L (zin 251 rfl rfl) (by decide)
set_option maxRecDepth 100000 in
theorem kf_C_162 (c : Cond) : zFd kCl (c :: zT) "TreeCounts" 162 7 1 := mk_fd c kc_L ki_L (zin 253 rfl rfl) (by decide)
set_option maxRecDepth 100000 in
theorem kf_G_11 (c : Cond) : zFd kCl (c :: zT) "TreeCounts$Grid" 11 3 1 := mk_fd c kc_G ki_G (zin 153 rfl rfl) (by decide)
set_option maxRecDepth 100000 in
theorem kf_G_16 (c : Cond) : zFd kCl (c :: zT) "TreeCounts$Grid" 16 3 0 := mk_fd c kc_G ki_G (zin 151 rfl rfl) (by decide)
set_option maxRecDepth 100000 in
theorem kf_G_24 (c : Cond) : zFd kCl (c :: zT) "TreeCounts$Grid" 24 1 0 := mk_fd c kc_N ki_N (zin 87 rfl rfl) (by decide)
set_option maxRecDepth 100000 in
theorem kf_G_33 (c : Cond) : zFd kCl (c :: zT) "TreeCounts$Grid" 33 1 1 := mk_fd c kc_N ki_N (zin 94 rfl rfl) (by decide)
set_option maxRecDepth 100000 in
theorem kf_G_36 (c : Cond) : zFd kCl (c :: zT) "TreeCounts$Grid" 36 1 2 := mk_fd c kc_N ki_N (zin 100 rfl rfl) (by decide)
set_option maxRecDepth 100000 in
theorem kf_G_40 (c : Cond) : zFd kCl (c :: zT) "TreeCounts$Grid" 40 1 3 := mk_fd c kc_N ki_N (zin 106 rfl rfl) (by decide)
set_option maxRecDepth 100000 in
theorem kf_G_43 (c : Cond) : zFd kCl (c :: zT) "TreeCounts$Grid" 43 1 4 := mk_fd c kc_N ki_N (zin 110 rfl rfl) (by decide)
set_option maxRecDepth 100000 in
theorem kf_U_9 (c : Cond) : zFd kCl (c :: zT) "TreeCounts$Group" 9 6 1 := mk_fd c kc_U ki_U (zin 217 rfl rfl) (by decide)
set_option maxRecDepth 100000 in
theorem kf_U_15 (c : Cond) : zFd kCl (c :: zT) "TreeCounts$Group" 15 6 2 := mk_fd c kc_U ki_U (zin 218 rfl rfl) (by decide)
set_option maxRecDepth 100000 in
theorem kf_U_19 (c : Cond) : zFd kCl (c :: zT) "TreeCounts$Group" 19 6 3 := mk_fd c kc_U ki_U (zin 219 rfl rfl) (by decide)
set_option maxRecDepth 100000 in
theorem kf_U_23 (c : Cond) : zFd kCl (c :: zT) "TreeCounts$Group" 23 6 4 := mk_fd c kc_U ki_U (zin 220 rfl rfl) (by decide)
set_option maxRecDepth 100000 in
theorem kf_U_27 (c : Cond) : zFd kCl (c :: zT) "TreeCounts$Group" 27 1 0 := mk_fd c kc_N ki_N (zin 84 rfl rfl) (by decide)
set_option maxRecDepth 100000 in
theorem kf_U_33 (c : Cond) : zFd kCl (c :: zT) "TreeCounts$Group" 33 6 0 := mk_fd c kc_U ki_U (zin 215 rfl rfl) (by decide)
set_option maxRecDepth 100000 in
theorem kf_U_42 (c : Cond) : zFd kCl (c :: zT) "TreeCounts$Group" 42 6 5 := mk_fd c kc_U ki_U (zin 221 rfl rfl) (by decide)
set_option maxRecDepth 100000 in
theorem kf_U_61 (c : Cond) : zFd kCl (c :: zT) "TreeCounts$Group" 61 3 0 := mk_fd c kc_G ki_G (zin 152 rfl rfl) (by decide)
set_option maxRecDepth 100000 in
theorem kf_U_67 (c : Cond) : zFd kCl (c :: zT) "TreeCounts$Group" 67 3 1 := mk_fd c kc_G ki_G (zin 154 rfl rfl) (by decide)
set_option maxRecDepth 100000 in
theorem kf_U_97 (c : Cond) : zFd kCl (c :: zT) "TreeCounts$Group" 97 6 6 := mk_fd c kc_U ki_U (zin 222 rfl rfl) (by decide)
set_option maxRecDepth 100000 in
theorem kf_U_100 (c : Cond) : zFd kCl (c :: zT) "TreeCounts$Group" 100 6 7 := mk_fd c kc_U ki_U (zin 223 rfl rfl) (by decide)
set_option maxRecDepth 100000 in
theorem kf_U_106 (c : Cond) : zFd kCl (c :: zT) "TreeCounts$Group" 106 6 8 := mk_fd c kc_U ki_U (zin 224 rfl rfl) (by decide)
set_option maxRecDepth 100000 in
theorem kf_N_9 (c : Cond) : zFd kCl (c :: zT) "TreeCounts$Net" 9 1 2 := mk_fd c kc_N ki_N (zin 95 rfl rfl) (by decide)
set_option maxRecDepth 100000 in
theorem kf_N_15 (c : Cond) : zFd kCl (c :: zT) "TreeCounts$Net" 15 1 3 := mk_fd c kc_N ki_N (zin 101 rfl rfl) (by decide)
set_option maxRecDepth 100000 in
theorem kf_N_18 (c : Cond) : zFd kCl (c :: zT) "TreeCounts$Net" 18 1 4 := mk_fd c kc_N ki_N (zin 107 rfl rfl) (by decide)
set_option maxRecDepth 100000 in
theorem kf_N_21 (c : Cond) : zFd kCl (c :: zT) "TreeCounts$Net" 21 1 0 := mk_fd c kc_N ki_N (zin 82 rfl rfl) (by decide)
set_option maxRecDepth 100000 in
theorem kf_N_25 (c : Cond) : zFd kCl (c :: zT) "TreeCounts$Net" 25 1 1 := mk_fd c kc_N ki_N (zin 90 rfl rfl) (by decide)
set_option maxRecDepth 100000 in
theorem kf_P_9 (c : Cond) : zFd kCl (c :: zT) "TreeCounts$Parts" 9 2 2 := mk_fd c kc_P ki_P (zin 134 rfl rfl) (by decide)
set_option maxRecDepth 100000 in
theorem kf_P_15 (c : Cond) : zFd kCl (c :: zT) "TreeCounts$Parts" 15 2 0 := mk_fd c kc_P ki_P (zin 129 rfl rfl) (by decide)
set_option maxRecDepth 100000 in
theorem kf_P_19 (c : Cond) : zFd kCl (c :: zT) "TreeCounts$Parts" 19 2 1 := mk_fd c kc_P ki_P (zin 130 rfl rfl) (by decide)
set_option maxRecDepth 100000 in
theorem kf_L_9 (c : Cond) : zFd kCl (c :: zT) "TreeCounts$Piles" 9 7 0 := mk_fd c kc_L ki_L (zin 250 rfl rfl) (by decide)
set_option maxRecDepth 100000 in
theorem kf_L_15 (c : Cond) : zFd kCl (c :: zT) "TreeCounts$Piles" 15 7 1 := mk_fd c kc_L ki_L (zin 252 rfl rfl) (by decide)
set_option maxRecDepth 100000 in
theorem kf_L_18 (c : Cond) : zFd kCl (c :: zT) "TreeCounts$Piles" 18 7 2 := mk_fd c kc_L ki_L (zin 254 rfl rfl) (by decide)
set_option maxRecDepth 100000 in
theorem kf_L_21 (c : Cond) : zFd kCl (c :: zT) "TreeCounts$Piles" 21 7 3 := mk_fd c kc_L ki_L (zin 255 rfl rfl) (by decide)
set_option maxRecDepth 100000 in
theorem kf_L_24 (c : Cond) : zFd kCl (c :: zT) "TreeCounts$Piles" 24 7 4 := mk_fd c kc_L ki_L (zin 256 rfl rfl) (by decide)
set_option maxRecDepth 100000 in
theorem kf_L_28 (c : Cond) : zFd kCl (c :: zT) "TreeCounts$Piles" 28 7 5 := mk_fd c kc_L ki_L (zin 257 rfl rfl) (by decide)
set_option maxRecDepth 100000 in
theorem kf_L_42 (c : Cond) : zFd kCl (c :: zT) "TreeCounts$Piles" 42 1 0 := mk_fd c kc_N ki_N (zin 86 rfl rfl) (by decide)
set_option maxRecDepth 100000 in
theorem kf_L_48 (c : Cond) : zFd kCl (c :: zT) "TreeCounts$Piles" 48 3 1 := mk_fd c kc_G ki_G (zin 155 rfl rfl) (by decide)
set_option maxRecDepth 100000 in
theorem kf_R_9 (c : Cond) : zFd kCl (c :: zT) "TreeCounts$Rings" 9 5 1 := mk_fd c kc_R ki_R (zin 193 rfl rfl) (by decide)
set_option maxRecDepth 100000 in
theorem kf_R_15 (c : Cond) : zFd kCl (c :: zT) "TreeCounts$Rings" 15 5 2 := mk_fd c kc_R ki_R (zin 195 rfl rfl) (by decide)
set_option maxRecDepth 100000 in
theorem kf_R_18 (c : Cond) : zFd kCl (c :: zT) "TreeCounts$Rings" 18 5 3 := mk_fd c kc_R ki_R (zin 196 rfl rfl) (by decide)
set_option maxRecDepth 100000 in
theorem kf_R_22 (c : Cond) : zFd kCl (c :: zT) "TreeCounts$Rings" 22 5 4 := mk_fd c kc_R ki_R (zin 197 rfl rfl) (by decide)
set_option maxRecDepth 100000 in
theorem kf_R_32 (c : Cond) : zFd kCl (c :: zT) "TreeCounts$Rings" 32 2 1 := mk_fd c kc_P ki_P (zin 131 rfl rfl) (by decide)
set_option maxRecDepth 100000 in
theorem kf_R_38 (c : Cond) : zFd kCl (c :: zT) "TreeCounts$Rings" 38 1 1 := mk_fd c kc_N ki_N (zin 89 rfl rfl) (by decide)
set_option maxRecDepth 100000 in
theorem kf_R_47 (c : Cond) : zFd kCl (c :: zT) "TreeCounts$Rings" 47 5 0 := mk_fd c kc_R ki_R (zin 191 rfl rfl) (by decide)
set_option maxRecDepth 100000 in
theorem kf_R_54 (c : Cond) : zFd kCl (c :: zT) "TreeCounts$Rings" 54 1 2 := mk_fd c kc_N ki_N (zin 98 rfl rfl) (by decide)
set_option maxRecDepth 100000 in
theorem kf_R_61 (c : Cond) : zFd kCl (c :: zT) "TreeCounts$Rings" 61 1 3 := mk_fd c kc_N ki_N (zin 105 rfl rfl) (by decide)
set_option maxRecDepth 100000 in
theorem kf_R_64 (c : Cond) : zFd kCl (c :: zT) "TreeCounts$Rings" 64 1 0 := mk_fd c kc_N ki_N (zin 88 rfl rfl) (by decide)
set_option maxRecDepth 100000 in
theorem kf_S_11 (c : Cond) : zFd kCl (c :: zT) "TreeCounts$Sets" 11 8 2 := mk_fd c kc_S ki_S (zin 282 rfl rfl) (by decide)
set_option maxRecDepth 100000 in
theorem kf_S_17 (c : Cond) : zFd kCl (c :: zT) "TreeCounts$Sets" 17 8 3 := mk_fd c kc_S ki_S (zin 283 rfl rfl) (by decide)
set_option maxRecDepth 100000 in
theorem kf_S_21 (c : Cond) : zFd kCl (c :: zT) "TreeCounts$Sets" 21 8 4 := mk_fd c kc_S ki_S (zin 284 rfl rfl) (by decide)
set_option maxRecDepth 100000 in
theorem kf_S_24 (c : Cond) : zFd kCl (c :: zT) "TreeCounts$Sets" 24 8 0 := mk_fd c kc_S ki_S (zin 280 rfl rfl) (by decide)
set_option maxRecDepth 100000 in
theorem kf_S_28 (c : Cond) : zFd kCl (c :: zT) "TreeCounts$Sets" 28 8 1 := mk_fd c kc_S ki_S (zin 281 rfl rfl) (by decide)
set_option maxRecDepth 100000 in
theorem kf_S_43 (c : Cond) : zFd kCl (c :: zT) "TreeCounts$Sets" 43 2 1 := mk_fd c kc_P ki_P (zin 132 rfl rfl) (by decide)
set_option maxRecDepth 100000 in
theorem kf_S_47 (c : Cond) : zFd kCl (c :: zT) "TreeCounts$Sets" 47 8 5 := mk_fd c kc_S ki_S (zin 285 rfl rfl) (by decide)
set_option maxRecDepth 100000 in
theorem kf_S_50 (c : Cond) : zFd kCl (c :: zT) "TreeCounts$Sets" 50 1 0 := mk_fd c kc_N ki_N (zin 85 rfl rfl) (by decide)
set_option maxRecDepth 100000 in
theorem kf_S_61 (c : Cond) : zFd kCl (c :: zT) "TreeCounts$Sets" 61 1 1 := mk_fd c kc_N ki_N (zin 93 rfl rfl) (by decide)
set_option maxRecDepth 100000 in
theorem kf_S_64 (c : Cond) : zFd kCl (c :: zT) "TreeCounts$Sets" 64 1 2 := mk_fd c kc_N ki_N (zin 99 rfl rfl) (by decide)
set_option maxRecDepth 100000 in
theorem kf_S_68 (c : Cond) : zFd kCl (c :: zT) "TreeCounts$Sets" 68 1 3 := mk_fd c kc_N ki_N (zin 104 rfl rfl) (by decide)
set_option maxRecDepth 100000 in
theorem kf_T_9 (c : Cond) : zFd kCl (c :: zT) "TreeCounts$Trees" 9 4 0 := mk_fd c kc_T ki_T (zin 169 rfl rfl) (by decide)
set_option maxRecDepth 100000 in
theorem kf_T_15 (c : Cond) : zFd kCl (c :: zT) "TreeCounts$Trees" 15 4 1 := mk_fd c kc_T ki_T (zin 170 rfl rfl) (by decide)
set_option maxRecDepth 100000 in
theorem kf_T_19 (c : Cond) : zFd kCl (c :: zT) "TreeCounts$Trees" 19 4 2 := mk_fd c kc_T ki_T (zin 171 rfl rfl) (by decide)
set_option maxRecDepth 100000 in
theorem kf_T_23 (c : Cond) : zFd kCl (c :: zT) "TreeCounts$Trees" 23 1 0 := mk_fd c kc_N ki_N (zin 83 rfl rfl) (by decide)
set_option maxRecDepth 100000 in
theorem kf_T_39 (c : Cond) : zFd kCl (c :: zT) "TreeCounts$Trees" 39 2 1 := mk_fd c kc_P ki_P (zin 133 rfl rfl) (by decide)
set_option maxRecDepth 100000 in
theorem kf_T_47 (c : Cond) : zFd kCl (c :: zT) "TreeCounts$Trees" 47 1 1 := mk_fd c kc_N ki_N (zin 92 rfl rfl) (by decide)
set_option maxRecDepth 100000 in
theorem kf_T_50 (c : Cond) : zFd kCl (c :: zT) "TreeCounts$Trees" 50 2 2 := mk_fd c kc_P ki_P (zin 135 rfl rfl) (by decide)
set_option maxRecDepth 100000 in
theorem kf_T_54 (c : Cond) : zFd kCl (c :: zT) "TreeCounts$Trees" 54 1 2 := mk_fd c kc_N ki_N (zin 97 rfl rfl) (by decide)
set_option maxRecDepth 100000 in
theorem kf_T_57 (c : Cond) : zFd kCl (c :: zT) "TreeCounts$Trees" 57 1 3 := mk_fd c kc_N ki_N (zin 103 rfl rfl) (by decide)
set_option maxRecDepth 100000 in
theorem kf_T_60 (c : Cond) : zFd kCl (c :: zT) "TreeCounts$Trees" 60 1 4 := mk_fd c kc_N ki_N (zin 109 rfl rfl) (by decide)
set_option maxRecDepth 100000 in
theorem kf_T_85 (c : Cond) : zFd kCl (c :: zT) "TreeCounts$Trees" 85 3 1 := mk_fd c kc_G ki_G (zin 156 rfl rfl) (by decide)
set_option maxRecDepth 100000 in
theorem kf_T_102 (c : Cond) : zFd kCl (c :: zT) "TreeCounts$Trees" 102 4 3 := mk_fd c kc_T ki_T (zin 172 rfl rfl) (by decide)
set_option maxRecDepth 100000 in
theorem kf_T_113 (c : Cond) : zFd kCl (c :: zT) "TreeCounts$Trees" 113 4 4 := mk_fd c kc_T ki_T (zin 173 rfl rfl) (by decide)
set_option maxRecDepth 100000 in
theorem kf_M_7 (c : Cond) : zFd kCl (c :: zT) "TreeCountsModel" 7 9 3 := mk_fd c kc_M ki_M (zin 765 rfl rfl) (by decide)
set_option maxRecDepth 100000 in
theorem kf_M_13 (c : Cond) : zFd kCl (c :: zT) "TreeCountsModel" 13 9 4 := mk_fd c kc_M ki_M (zin 766 rfl rfl) (by decide)
set_option maxRecDepth 100000 in
theorem kf_M_16 (c : Cond) : zFd kCl (c :: zT) "TreeCountsModel" 16 9 5 := mk_fd c kc_M ki_M (zin 767 rfl rfl) (by decide)
set_option maxRecDepth 100000 in
theorem kf_M_19 (c : Cond) : zFd kCl (c :: zT) "TreeCountsModel" 19 9 6 := mk_fd c kc_M ki_M (zin 768 rfl rfl) (by decide)
set_option maxRecDepth 100000 in
theorem kf_M_23 (c : Cond) : zFd kCl (c :: zT) "TreeCountsModel" 23 9 7 := mk_fd c kc_M ki_M (zin 769 rfl rfl) (by decide)
set_option maxRecDepth 100000 in
theorem kf_M_26 (c : Cond) : zFd kCl (c :: zT) "TreeCountsModel" 26 9 8 := mk_fd c kc_M ki_M (zin 770 rfl rfl) (by decide)
set_option maxRecDepth 100000 in
theorem kf_M_29 (c : Cond) : zFd kCl (c :: zT) "TreeCountsModel" 29 9 9 := mk_fd c kc_M ki_M (zin 771 rfl rfl) (by decide)
set_option maxRecDepth 100000 in
theorem kf_M_32 (c : Cond) : zFd kCl (c :: zT) "TreeCountsModel" 32 9 10 := mk_fd c kc_M ki_M (zin 772 rfl rfl) (by decide)
set_option maxRecDepth 100000 in
theorem kf_M_35 (c : Cond) : zFd kCl (c :: zT) "TreeCountsModel" 35 9 11 := mk_fd c kc_M ki_M (zin 773 rfl rfl) (by decide)
set_option maxRecDepth 100000 in
theorem kf_M_39 (c : Cond) : zFd kCl (c :: zT) "TreeCountsModel" 39 9 12 := mk_fd c kc_M ki_M (zin 774 rfl rfl) (by decide)
set_option maxRecDepth 100000 in
theorem kf_M_42 (c : Cond) : zFd kCl (c :: zT) "TreeCountsModel" 42 9 13 := mk_fd c kc_M ki_M (zin 775 rfl rfl) (by decide)
set_option maxRecDepth 100000 in
theorem kf_M_45 (c : Cond) : zFd kCl (c :: zT) "TreeCountsModel" 45 9 15 := mk_fd c kc_M ki_M (zin 777 rfl rfl) (by decide)
set_option maxRecDepth 100000 in
theorem kf_M_48 (c : Cond) : zFd kCl (c :: zT) "TreeCountsModel" 48 9 16 := mk_fd c kc_M ki_M (zin 778 rfl rfl) (by decide)
set_option maxRecDepth 100000 in
theorem kf_M_51 (c : Cond) : zFd kCl (c :: zT) "TreeCountsModel" 51 9 18 := mk_fd c kc_M ki_M (zin 780 rfl rfl) (by decide)
set_option maxRecDepth 100000 in
theorem kf_M_54 (c : Cond) : zFd kCl (c :: zT) "TreeCountsModel" 54 9 19 := mk_fd c kc_M ki_M (zin 781 rfl rfl) (by decide)
set_option maxRecDepth 100000 in
theorem kf_M_57 (c : Cond) : zFd kCl (c :: zT) "TreeCountsModel" 57 9 20 := mk_fd c kc_M ki_M (zin 782 rfl rfl) (by decide)
set_option maxRecDepth 100000 in
theorem kf_M_60 (c : Cond) : zFd kCl (c :: zT) "TreeCountsModel" 60 9 21 := mk_fd c kc_M ki_M (zin 783 rfl rfl) (by decide)
set_option maxRecDepth 100000 in
theorem kf_M_63 (c : Cond) : zFd kCl (c :: zT) "TreeCountsModel" 63 9 23 := mk_fd c kc_M ki_M (zin 785 rfl rfl) (by decide)
set_option maxRecDepth 100000 in
theorem kf_M_66 (c : Cond) : zFd kCl (c :: zT) "TreeCountsModel" 66 9 24 := mk_fd c kc_M ki_M (zin 786 rfl rfl) (by decide)
set_option maxRecDepth 100000 in
theorem kf_M_69 (c : Cond) : zFd kCl (c :: zT) "TreeCountsModel" 69 9 0 := mk_fd c kc_M ki_M (zin 762 rfl rfl) (by decide)
set_option maxRecDepth 100000 in
theorem kf_M_73 (c : Cond) : zFd kCl (c :: zT) "TreeCountsModel" 73 9 1 := mk_fd c kc_M ki_M (zin 763 rfl rfl) (by decide)
set_option maxRecDepth 100000 in
theorem kf_M_80 (c : Cond) : zFd kCl (c :: zT) "TreeCountsModel" 80 9 2 := mk_fd c kc_M ki_M (zin 764 rfl rfl) (by decide)
set_option maxRecDepth 100000 in
theorem kf_M_148 (c : Cond) : zFd kCl (c :: zT) "TreeCountsModel" 148 9 14 := mk_fd c kc_M ki_M (zin 776 rfl rfl) (by decide)
set_option maxRecDepth 100000 in
theorem kf_M_155 (c : Cond) : zFd kCl (c :: zT) "TreeCountsModel" 155 9 17 := mk_fd c kc_M ki_M (zin 779 rfl rfl) (by decide)
set_option maxRecDepth 100000 in
theorem kf_M_183 (c : Cond) : zFd kCl (c :: zT) "TreeCountsModel" 183 9 22 := mk_fd c kc_M ki_M (zin 784 rfl rfl) (by decide)
set_option maxRecDepth 100000 in
theorem kp_C_10 (c : Cond) : zFn kCl (c :: zT) "TreeCounts" 10 0 0 (.object "TreeCounts$Net") := mk_fn c kc_C ki_C (zin 299 rfl rfl) (by decide) kt_C kn_C rfl (by decide +kernel) rfl
set_option maxRecDepth 100000 in
theorem kp_C_27 (c : Cond) : zFn kCl (c :: zT) "TreeCounts" 27 0 1 (.object "TreeCounts$Trees") := mk_fn c kc_C ki_C (zin 300 rfl rfl) (by decide) kt_C kn_C rfl (by decide +kernel) rfl
set_option maxRecDepth 100000 in
theorem kp_C_36 (c : Cond) : zFn kCl (c :: zT) "TreeCounts" 36 0 2 (.object "TreeCounts$Rings") := mk_fn c kc_C ki_C (zin 301 rfl rfl) (by decide) kt_C kn_C rfl (by decide +kernel) rfl
set_option maxRecDepth 100000 in
theorem kp_C_45 (c : Cond) : zFn kCl (c :: zT) "TreeCounts" 45 0 3 (.object "TreeCounts$Group") := mk_fn c kc_C ki_C (zin 302 rfl rfl) (by decide) kt_C kn_C rfl (by decide +kernel) rfl
set_option maxRecDepth 100000 in
theorem kp_C_54 (c : Cond) : zFn kCl (c :: zT) "TreeCounts" 54 0 4 (.object "TreeCounts$Piles") := mk_fn c kc_C ki_C (zin 303 rfl rfl) (by decide) kt_C kn_C rfl (by decide +kernel) rfl
set_option maxRecDepth 100000 in
theorem kp_C_61 (c : Cond) : zFn kCl (c :: zT) "TreeCounts" 61 0 5 (.object "TreeCounts$Sets") := mk_fn c kc_C ki_C (zin 304 rfl rfl) (by decide) kt_C kn_C rfl (by decide +kernel) rfl
set_option maxRecDepth 100000 in
theorem kp_C_65 (c : Cond) : zPd kCl (c :: zT) "TreeCounts" 65 1 0 (.int) := mk_pd c kc_N ki_N (zin 81 rfl rfl) (by decide) kt_N kn_N rfl (by decide +kernel)
set_option maxRecDepth 100000 in
theorem kp_C_76 (c : Cond) : zPd kCl (c :: zT) "TreeCounts" 76 1 1 (.int) := mk_pd c kc_N ki_N (zin 91 rfl rfl) (by decide) kt_N kn_N rfl (by decide +kernel)
set_option maxRecDepth 100000 in
theorem kp_G_11 (c : Cond) : zFn kCl (c :: zT) "TreeCounts$Grid" 11 3 1 (.array (.array .long)) := mk_fn c kc_G ki_G (zin 153 rfl rfl) (by decide) kt_G kn_G rfl (by decide +kernel) rfl
set_option maxRecDepth 100000 in
theorem kp_G_16 (c : Cond) : zPd kCl (c :: zT) "TreeCounts$Grid" 16 3 0 (.int) := mk_pd c kc_G ki_G (zin 151 rfl rfl) (by decide) kt_G kn_G rfl (by decide +kernel)
set_option maxRecDepth 100000 in
theorem kp_U_9 (c : Cond) : zFn kCl (c :: zT) "TreeCounts$Group" 9 6 1 (.array .long) := mk_fn c kc_U ki_U (zin 217 rfl rfl) (by decide) kt_U kn_U rfl (by decide +kernel) rfl
set_option maxRecDepth 100000 in
theorem kp_U_15 (c : Cond) : zFn kCl (c :: zT) "TreeCounts$Group" 15 6 2 (.object "TreeCounts$Net") := mk_fn c kc_U ki_U (zin 218 rfl rfl) (by decide) kt_U kn_U rfl (by decide +kernel) rfl
set_option maxRecDepth 100000 in
theorem kp_U_19 (c : Cond) : zFn kCl (c :: zT) "TreeCounts$Group" 19 6 3 (.object "TreeCounts$Trees") := mk_fn c kc_U ki_U (zin 219 rfl rfl) (by decide) kt_U kn_U rfl (by decide +kernel) rfl
set_option maxRecDepth 100000 in
theorem kp_U_23 (c : Cond) : zFn kCl (c :: zT) "TreeCounts$Group" 23 6 4 (.object "TreeCounts$Grid") := mk_fn c kc_U ki_U (zin 220 rfl rfl) (by decide) kt_U kn_U rfl (by decide +kernel) rfl
set_option maxRecDepth 100000 in
theorem kp_U_33 (c : Cond) : zPd kCl (c :: zT) "TreeCounts$Group" 33 6 0 (.int) := mk_pd c kc_U ki_U (zin 215 rfl rfl) (by decide) kt_U kn_U rfl (by decide +kernel)
set_option maxRecDepth 100000 in
theorem kp_U_42 (c : Cond) : zPd kCl (c :: zT) "TreeCounts$Group" 42 6 5 (.long) := mk_pd c kc_U ki_U (zin 221 rfl rfl) (by decide) kt_U kn_U rfl (by decide +kernel)
set_option maxRecDepth 100000 in
theorem kp_U_97 (c : Cond) : zPd kCl (c :: zT) "TreeCounts$Group" 97 6 6 (.long) := mk_pd c kc_U ki_U (zin 222 rfl rfl) (by decide) kt_U kn_U rfl (by decide +kernel)
set_option maxRecDepth 100000 in
theorem kp_U_100 (c : Cond) : zPd kCl (c :: zT) "TreeCounts$Group" 100 6 7 (.long) := mk_pd c kc_U ki_U (zin 223 rfl rfl) (by decide) kt_U kn_U rfl (by decide +kernel)
set_option maxRecDepth 100000 in
theorem kp_U_106 (c : Cond) : zPd kCl (c :: zT) "TreeCounts$Group" 106 6 8 (.long) := mk_pd c kc_U ki_U (zin 224 rfl rfl) (by decide) kt_U kn_U rfl (by decide +kernel)
set_option maxRecDepth 100000 in
theorem kp_N_9 (c : Cond) : zFn kCl (c :: zT) "TreeCounts$Net" 9 1 2 (.array .int) := mk_fn c kc_N ki_N (zin 95 rfl rfl) (by decide) kt_N kn_N rfl (by decide +kernel) rfl
set_option maxRecDepth 100000 in
theorem kp_N_15 (c : Cond) : zFn kCl (c :: zT) "TreeCounts$Net" 15 1 3 (.array .int) := mk_fn c kc_N ki_N (zin 101 rfl rfl) (by decide) kt_N kn_N rfl (by decide +kernel) rfl
set_option maxRecDepth 100000 in
theorem kp_N_18 (c : Cond) : zFn kCl (c :: zT) "TreeCounts$Net" 18 1 4 (.array .int) := mk_fn c kc_N ki_N (zin 107 rfl rfl) (by decide) kt_N kn_N rfl (by decide +kernel) rfl
set_option maxRecDepth 100000 in
theorem kp_P_9 (c : Cond) : zFn kCl (c :: zT) "TreeCounts$Parts" 9 2 2 (.array .int) := mk_fn c kc_P ki_P (zin 134 rfl rfl) (by decide) kt_P kn_P rfl (by decide +kernel) rfl
set_option maxRecDepth 100000 in
theorem kp_P_15 (c : Cond) : zPd kCl (c :: zT) "TreeCounts$Parts" 15 2 0 (.int) := mk_pd c kc_P ki_P (zin 129 rfl rfl) (by decide) kt_P kn_P rfl (by decide +kernel)
set_option maxRecDepth 100000 in
theorem kp_P_19 (c : Cond) : zPd kCl (c :: zT) "TreeCounts$Parts" 19 2 1 (.int) := mk_pd c kc_P ki_P (zin 130 rfl rfl) (by decide) kt_P kn_P rfl (by decide +kernel)
set_option maxRecDepth 100000 in
theorem kp_L_9 (c : Cond) : zFn kCl (c :: zT) "TreeCounts$Piles" 9 7 0 (.array .long) := mk_fn c kc_L ki_L (zin 250 rfl rfl) (by decide) kt_L kn_L rfl (by decide +kernel) rfl
set_option maxRecDepth 100000 in
theorem kp_L_15 (c : Cond) : zFn kCl (c :: zT) "TreeCounts$Piles" 15 7 1 (.array .long) := mk_fn c kc_L ki_L (zin 252 rfl rfl) (by decide) kt_L kn_L rfl (by decide +kernel) rfl
set_option maxRecDepth 100000 in
theorem kp_L_18 (c : Cond) : zFn kCl (c :: zT) "TreeCounts$Piles" 18 7 2 (.array .long) := mk_fn c kc_L ki_L (zin 254 rfl rfl) (by decide) kt_L kn_L rfl (by decide +kernel) rfl
set_option maxRecDepth 100000 in
theorem kp_L_21 (c : Cond) : zFn kCl (c :: zT) "TreeCounts$Piles" 21 7 3 (.array .long) := mk_fn c kc_L ki_L (zin 255 rfl rfl) (by decide) kt_L kn_L rfl (by decide +kernel) rfl
set_option maxRecDepth 100000 in
theorem kp_L_24 (c : Cond) : zFn kCl (c :: zT) "TreeCounts$Piles" 24 7 4 (.object "TreeCounts$Net") := mk_fn c kc_L ki_L (zin 256 rfl rfl) (by decide) kt_L kn_L rfl (by decide +kernel) rfl
set_option maxRecDepth 100000 in
theorem kp_L_28 (c : Cond) : zFn kCl (c :: zT) "TreeCounts$Piles" 28 7 5 (.object "TreeCounts$Grid") := mk_fn c kc_L ki_L (zin 257 rfl rfl) (by decide) kt_L kn_L rfl (by decide +kernel) rfl
set_option maxRecDepth 100000 in
theorem kp_R_9 (c : Cond) : zFn kCl (c :: zT) "TreeCounts$Rings" 9 5 1 (.array .int) := mk_fn c kc_R ki_R (zin 193 rfl rfl) (by decide) kt_R kn_R rfl (by decide +kernel) rfl
set_option maxRecDepth 100000 in
theorem kp_R_15 (c : Cond) : zFn kCl (c :: zT) "TreeCounts$Rings" 15 5 2 (.array .int) := mk_fn c kc_R ki_R (zin 195 rfl rfl) (by decide) kt_R kn_R rfl (by decide +kernel) rfl
set_option maxRecDepth 100000 in
theorem kp_R_18 (c : Cond) : zFn kCl (c :: zT) "TreeCounts$Rings" 18 5 3 (.object "TreeCounts$Net") := mk_fn c kc_R ki_R (zin 196 rfl rfl) (by decide) kt_R kn_R rfl (by decide +kernel) rfl
set_option maxRecDepth 100000 in
theorem kp_R_22 (c : Cond) : zFn kCl (c :: zT) "TreeCounts$Rings" 22 5 4 (.object "TreeCounts$Parts") := mk_fn c kc_R ki_R (zin 197 rfl rfl) (by decide) kt_R kn_R rfl (by decide +kernel) rfl
set_option maxRecDepth 100000 in
theorem kp_R_47 (c : Cond) : zPd kCl (c :: zT) "TreeCounts$Rings" 47 5 0 (.int) := mk_pd c kc_R ki_R (zin 191 rfl rfl) (by decide) kt_R kn_R rfl (by decide +kernel)
set_option maxRecDepth 100000 in
theorem kp_S_11 (c : Cond) : zFn kCl (c :: zT) "TreeCounts$Sets" 11 8 2 (.array (.object "TreeCounts$Parts")) := mk_fn c kc_S ki_S (zin 282 rfl rfl) (by decide) kt_S kn_S rfl (by decide +kernel) rfl
set_option maxRecDepth 100000 in
theorem kp_S_17 (c : Cond) : zFn kCl (c :: zT) "TreeCounts$Sets" 17 8 3 (.array .long) := mk_fn c kc_S ki_S (zin 283 rfl rfl) (by decide) kt_S kn_S rfl (by decide +kernel) rfl
set_option maxRecDepth 100000 in
theorem kp_S_21 (c : Cond) : zFn kCl (c :: zT) "TreeCounts$Sets" 21 8 4 (.array .long) := mk_fn c kc_S ki_S (zin 284 rfl rfl) (by decide) kt_S kn_S rfl (by decide +kernel) rfl
set_option maxRecDepth 100000 in
theorem kp_S_24 (c : Cond) : zFn kCl (c :: zT) "TreeCounts$Sets" 24 8 0 (.object "TreeCounts$Net") := mk_fn c kc_S ki_S (zin 280 rfl rfl) (by decide) kt_S kn_S rfl (by decide +kernel) rfl
set_option maxRecDepth 100000 in
theorem kp_S_28 (c : Cond) : zFn kCl (c :: zT) "TreeCounts$Sets" 28 8 1 (.object "TreeCounts$Parts") := mk_fn c kc_S ki_S (zin 281 rfl rfl) (by decide) kt_S kn_S rfl (by decide +kernel) rfl
set_option maxRecDepth 100000 in
theorem kp_S_47 (c : Cond) : zPd kCl (c :: zT) "TreeCounts$Sets" 47 8 5 (.int) := mk_pd c kc_S ki_S (zin 285 rfl rfl) (by decide) kt_S kn_S rfl (by decide +kernel)
set_option maxRecDepth 100000 in
theorem kp_T_9 (c : Cond) : zFn kCl (c :: zT) "TreeCounts$Trees" 9 4 0 (.object "TreeCounts$Net") := mk_fn c kc_T ki_T (zin 169 rfl rfl) (by decide) kt_T kn_T rfl (by decide +kernel) rfl
set_option maxRecDepth 100000 in
theorem kp_T_15 (c : Cond) : zFn kCl (c :: zT) "TreeCounts$Trees" 15 4 1 (.object "TreeCounts$Parts") := mk_fn c kc_T ki_T (zin 170 rfl rfl) (by decide) kt_T kn_T rfl (by decide +kernel) rfl
set_option maxRecDepth 100000 in
theorem kp_T_19 (c : Cond) : zFn kCl (c :: zT) "TreeCounts$Trees" 19 4 2 (.object "TreeCounts$Grid") := mk_fn c kc_T ki_T (zin 171 rfl rfl) (by decide) kt_T kn_T rfl (by decide +kernel) rfl
set_option maxRecDepth 100000 in
theorem kp_T_102 (c : Cond) : zPd kCl (c :: zT) "TreeCounts$Trees" 102 4 3 (.long) := mk_pd c kc_T ki_T (zin 172 rfl rfl) (by decide) kt_T kn_T rfl (by decide +kernel)
set_option maxRecDepth 100000 in
theorem kp_T_113 (c : Cond) : zPd kCl (c :: zT) "TreeCounts$Trees" 113 4 4 (.long) := mk_pd c kc_T ki_T (zin 173 rfl rfl) (by decide) kt_T kn_T rfl (by decide +kernel)
set_option maxRecDepth 100000 in
theorem kp_M_7 (c : Cond) : zFn kCl (c :: zT) "TreeCountsModel" 7 9 3 (.array .int) := mk_fn c kc_M ki_M (zin 765 rfl rfl) (by decide) kt_M kn_M rfl (by decide +kernel) rfl
set_option maxRecDepth 100000 in
theorem kp_M_13 (c : Cond) : zFn kCl (c :: zT) "TreeCountsModel" 13 9 4 (.array .int) := mk_fn c kc_M ki_M (zin 766 rfl rfl) (by decide) kt_M kn_M rfl (by decide +kernel) rfl
set_option maxRecDepth 100000 in
theorem kp_M_16 (c : Cond) : zFn kCl (c :: zT) "TreeCountsModel" 16 9 5 (.array .int) := mk_fn c kc_M ki_M (zin 767 rfl rfl) (by decide) kt_M kn_M rfl (by decide +kernel) rfl
set_option maxRecDepth 100000 in
theorem kp_M_19 (c : Cond) : zFn kCl (c :: zT) "TreeCountsModel" 19 9 6 (.array .long) := mk_fn c kc_M ki_M (zin 768 rfl rfl) (by decide) kt_M kn_M rfl (by decide +kernel) rfl
set_option maxRecDepth 100000 in
theorem kp_M_23 (c : Cond) : zFn kCl (c :: zT) "TreeCountsModel" 23 9 7 (.array .long) := mk_fn c kc_M ki_M (zin 769 rfl rfl) (by decide) kt_M kn_M rfl (by decide +kernel) rfl
set_option maxRecDepth 100000 in
theorem kp_M_26 (c : Cond) : zFn kCl (c :: zT) "TreeCountsModel" 26 9 8 (.array .long) := mk_fn c kc_M ki_M (zin 770 rfl rfl) (by decide) kt_M kn_M rfl (by decide +kernel) rfl
set_option maxRecDepth 100000 in
theorem kp_M_29 (c : Cond) : zFn kCl (c :: zT) "TreeCountsModel" 29 9 9 (.array .long) := mk_fn c kc_M ki_M (zin 771 rfl rfl) (by decide) kt_M kn_M rfl (by decide +kernel) rfl
set_option maxRecDepth 100000 in
theorem kp_M_32 (c : Cond) : zFn kCl (c :: zT) "TreeCountsModel" 32 9 10 (.array .int) := mk_fn c kc_M ki_M (zin 772 rfl rfl) (by decide) kt_M kn_M rfl (by decide +kernel) rfl
set_option maxRecDepth 100000 in
theorem kp_M_35 (c : Cond) : zFn kCl (c :: zT) "TreeCountsModel" 35 9 11 (.array .boolean) := mk_fn c kc_M ki_M (zin 773 rfl rfl) (by decide) kt_M kn_M rfl (by decide +kernel) rfl
set_option maxRecDepth 100000 in
theorem kp_M_39 (c : Cond) : zFn kCl (c :: zT) "TreeCountsModel" 39 9 12 (.array .int) := mk_fn c kc_M ki_M (zin 774 rfl rfl) (by decide) kt_M kn_M rfl (by decide +kernel) rfl
set_option maxRecDepth 100000 in
theorem kp_M_42 (c : Cond) : zFn kCl (c :: zT) "TreeCountsModel" 42 9 13 (.array .int) := mk_fn c kc_M ki_M (zin 775 rfl rfl) (by decide) kt_M kn_M rfl (by decide +kernel) rfl
set_option maxRecDepth 100000 in
theorem kp_M_45 (c : Cond) : zFn kCl (c :: zT) "TreeCountsModel" 45 9 15 (.array .boolean) := mk_fn c kc_M ki_M (zin 777 rfl rfl) (by decide) kt_M kn_M rfl (by decide +kernel) rfl
set_option maxRecDepth 100000 in
theorem kp_M_48 (c : Cond) : zFn kCl (c :: zT) "TreeCountsModel" 48 9 16 (.array .int) := mk_fn c kc_M ki_M (zin 778 rfl rfl) (by decide) kt_M kn_M rfl (by decide +kernel) rfl
set_option maxRecDepth 100000 in
theorem kp_M_51 (c : Cond) : zFn kCl (c :: zT) "TreeCountsModel" 51 9 18 (.array .int) := mk_fn c kc_M ki_M (zin 780 rfl rfl) (by decide) kt_M kn_M rfl (by decide +kernel) rfl
set_option maxRecDepth 100000 in
theorem kp_M_54 (c : Cond) : zFn kCl (c :: zT) "TreeCountsModel" 54 9 19 (.array .boolean) := mk_fn c kc_M ki_M (zin 781 rfl rfl) (by decide) kt_M kn_M rfl (by decide +kernel) rfl
set_option maxRecDepth 100000 in
theorem kp_M_57 (c : Cond) : zFn kCl (c :: zT) "TreeCountsModel" 57 9 20 (.array .int) := mk_fn c kc_M ki_M (zin 782 rfl rfl) (by decide) kt_M kn_M rfl (by decide +kernel) rfl
set_option maxRecDepth 100000 in
theorem kp_M_60 (c : Cond) : zFn kCl (c :: zT) "TreeCountsModel" 60 9 21 (.array .long) := mk_fn c kc_M ki_M (zin 783 rfl rfl) (by decide) kt_M kn_M rfl (by decide +kernel) rfl
set_option maxRecDepth 100000 in
theorem kp_M_63 (c : Cond) : zFn kCl (c :: zT) "TreeCountsModel" 63 9 23 (.array .long) := mk_fn c kc_M ki_M (zin 785 rfl rfl) (by decide) kt_M kn_M rfl (by decide +kernel) rfl
set_option maxRecDepth 100000 in
theorem kp_M_66 (c : Cond) : zFn kCl (c :: zT) "TreeCountsModel" 66 9 24 (.array .long) := mk_fn c kc_M ki_M (zin 786 rfl rfl) (by decide) kt_M kn_M rfl (by decide +kernel) rfl
set_option maxRecDepth 100000 in
theorem kp_M_69 (c : Cond) : zPd kCl (c :: zT) "TreeCountsModel" 69 9 0 (.int) := mk_pd c kc_M ki_M (zin 762 rfl rfl) (by decide) kt_M kn_M rfl (by decide +kernel)
set_option maxRecDepth 100000 in
theorem kp_M_73 (c : Cond) : zPd kCl (c :: zT) "TreeCountsModel" 73 9 1 (.int) := mk_pd c kc_M ki_M (zin 763 rfl rfl) (by decide) kt_M kn_M rfl (by decide +kernel)
set_option maxRecDepth 100000 in
theorem kp_M_80 (c : Cond) : zPd kCl (c :: zT) "TreeCountsModel" 80 9 2 (.int) := mk_pd c kc_M ki_M (zin 764 rfl rfl) (by decide) kt_M kn_M rfl (by decide +kernel)
set_option maxRecDepth 100000 in
theorem kp_M_148 (c : Cond) : zPd kCl (c :: zT) "TreeCountsModel" 148 9 14 (.long) := mk_pd c kc_M ki_M (zin 776 rfl rfl) (by decide) kt_M kn_M rfl (by decide +kernel)
set_option maxRecDepth 100000 in
theorem kp_M_155 (c : Cond) : zPd kCl (c :: zT) "TreeCountsModel" 155 9 17 (.int) := mk_pd c kc_M ki_M (zin 779 rfl rfl) (by decide) kt_M kn_M rfl (by decide +kernel)
set_option maxRecDepth 100000 in
theorem kp_M_183 (c : Cond) : zPd kCl (c :: zT) "TreeCountsModel" 183 9 22 (.int) := mk_pd c kc_M ki_M (zin 784 rfl rfl) (by decide) kt_M kn_M rfl (by decide +kernel)
set_option maxRecDepth 100000 in
theorem kg_C_9 (c : Cond) : zCN (c :: zT) kNw "TreeCounts" 9 ky_N_init "TreeCounts" kb_N_init 1 none (kh_N_init :: zT) 0 := mk_cn c kz_N_init (by decide +kernel) (zin 51 rfl rfl) ⟨by decide, by decide, by decide +kernel⟩
set_option maxRecDepth 100000 in
theorem kg_C_18 (c : Cond) : zCN (c :: zT) kNw "TreeCounts" 18 ky_P_init "TreeCounts" kb_P_init 1 none (kh_P_init :: zT) 0 := mk_cn c kz_P_init (by decide +kernel) (zin 52 rfl rfl) ⟨by decide, by decide, by decide +kernel⟩
set_option maxRecDepth 100000 in
theorem kg_C_21 (c : Cond) : zCN (c :: zT) kNw "TreeCounts" 21 ky_G_init "TreeCounts" kb_G_init 1 none (kh_G_init :: zT) 0 := mk_cn c kz_G_init (by decide +kernel) (zin 53 rfl rfl) ⟨by decide, by decide, by decide +kernel⟩
set_option maxRecDepth 100000 in
theorem kg_C_24 (c : Cond) : zCI (c :: zT) "TreeCounts" 24 ky_T_init kb_T_init 4 (kh_T_init :: zT) 3 := mk_ci c kz_T_init (zin 54 rfl rfl) (zin 165 rfl rfl) (zin 166 rfl rfl) rfl ⟨by decide, by decide, by decide +kernel⟩
set_option maxRecDepth 100000 in
theorem kg_C_33 (c : Cond) : zCI (c :: zT) "TreeCounts" 33 ky_R_init kb_R_init 3 (kh_R_init :: zT) 2 := mk_ci c kz_R_init (zin 55 rfl rfl) (zin 187 rfl rfl) (zin 188 rfl rfl) rfl ⟨by decide, by decide, by decide +kernel⟩
set_option maxRecDepth 100000 in
theorem kg_C_42 (c : Cond) : zCI (c :: zT) "TreeCounts" 42 ky_U_init kb_U_init 4 (kh_U_init :: zT) 3 := mk_ci c kz_U_init (zin 56 rfl rfl) (zin 211 rfl rfl) (zin 212 rfl rfl) rfl ⟨by decide, by decide, by decide +kernel⟩
set_option maxRecDepth 100000 in
theorem kg_C_51 (c : Cond) : zCI (c :: zT) "TreeCounts" 51 ky_L_init kb_L_init 3 (kh_L_init :: zT) 2 := mk_ci c kz_L_init (zin 57 rfl rfl) (zin 246 rfl rfl) (zin 247 rfl rfl) rfl ⟨by decide, by decide, by decide +kernel⟩
set_option maxRecDepth 100000 in
theorem kg_C_60 (c : Cond) : zCI (c :: zT) "TreeCounts" 60 ky_S_init kb_S_init 4 (kh_S_init :: zT) 2 := mk_ci c kz_S_init (zin 58 rfl rfl) (zin 273 rfl rfl) (zin 274 rfl rfl) rfl ⟨by decide, by decide, by decide +kernel⟩
set_option maxRecDepth 100000 in
theorem kg_C_69 (c : Cond) : zCV (c :: zT) "TreeCounts" "TreeCounts$Net" 69 ky_N_hasNode kb_N_hasNode 2 (some FieldType.boolean) (kh_N_hasNode :: zT) 1 := mk_cv c (zin 326 rfl rfl) (zin 327 rfl rfl) (zin 328 rfl rfl) (zin 51 rfl rfl) kz_N_hasNode ⟨rfl, by decide, by decide, by decide +kernel⟩
set_option maxRecDepth 100000 in
theorem kg_C_73 (c : Cond) : zCS (c :: zT) "TreeCounts" 73 ky_C_isWeight kb_C_isWeight 1 (some FieldType.boolean) (kh_C_isWeight :: zT) 1 := mk_cs c (zin 330 rfl rfl) (zin 331 rfl rfl) (zin 50 rfl rfl) kz_C_isWeight ⟨rfl, by decide, by decide, by decide +kernel⟩
set_option maxRecDepth 100000 in
theorem kg_C_89 (c : Cond) : zCV (c :: zT) "TreeCounts" "TreeCounts$Net" 89 ky_N_hasArc kb_N_hasArc 2 (some FieldType.boolean) (kh_N_hasArc :: zT) 1 := mk_cv c (zin 337 rfl rfl) (zin 338 rfl rfl) (zin 339 rfl rfl) (zin 51 rfl rfl) kz_N_hasArc ⟨rfl, by decide, by decide, by decide +kernel⟩
set_option maxRecDepth 100000 in
theorem kg_C_92 (c : Cond) : zCV (c :: zT) "TreeCounts" "TreeCounts$Trees" 92 ky_T_sumOfAll kb_T_sumOfAll 1 (some FieldType.long) (kh_T_sumOfAll :: zT) 0 := mk_cv c (zin 349 rfl rfl) (zin 350 rfl rfl) (zin 351 rfl rfl) (zin 54 rfl rfl) kz_T_sumOfAll ⟨rfl, by decide, by decide, by decide +kernel⟩
set_option maxRecDepth 100000 in
theorem kg_C_96 (c : Cond) : zCV (c :: zT) "TreeCounts" "TreeCounts$Trees" 96 ky_T_sumWith kb_T_sumWith 2 (some FieldType.long) (kh_T_sumWith :: zT) 1 := mk_cv c (zin 404 rfl rfl) (zin 405 rfl rfl) (zin 406 rfl rfl) (zin 54 rfl rfl) kz_T_sumWith ⟨rfl, by decide, by decide, by decide +kernel⟩
set_option maxRecDepth 100000 in
theorem kg_C_102 (c : Cond) : zCV (c :: zT) "TreeCounts" "TreeCounts$Trees" 102 ky_T_sumTowards kb_T_sumTowards 2 (some FieldType.long) (kh_T_sumTowards :: zT) 1 := mk_cv c (zin 423 rfl rfl) (zin 424 rfl rfl) (zin 425 rfl rfl) (zin 54 rfl rfl) kz_T_sumTowards ⟨rfl, by decide, by decide, by decide +kernel⟩
set_option maxRecDepth 100000 in
theorem kg_C_105 (c : Cond) : zCV (c :: zT) "TreeCounts" "TreeCounts$Trees" 105 ky_T_sumOfMarked kb_T_sumOfMarked 2 (some FieldType.long) (kh_T_sumOfMarked :: zT) 0 := mk_cv c (zin 436 rfl rfl) (zin 437 rfl rfl) (zin 438 rfl rfl) (zin 54 rfl rfl) kz_T_sumOfMarked ⟨rfl, by decide, by decide, by decide +kernel⟩
set_option maxRecDepth 100000 in
theorem kg_C_108 (c : Cond) : zCV (c :: zT) "TreeCounts" "TreeCounts$Trees" 108 ky_T_sumOfPairs kb_T_sumOfPairs 3 (some FieldType.long) (kh_T_sumOfPairs :: zT) 2 := mk_cv c (zin 449 rfl rfl) (zin 450 rfl rfl) (zin 451 rfl rfl) (zin 54 rfl rfl) kz_T_sumOfPairs ⟨rfl, by decide, by decide, by decide +kernel⟩
set_option maxRecDepth 100000 in
theorem kg_C_112 (c : Cond) : zCV (c :: zT) "TreeCounts" "TreeCounts" 112 ky_C_apart kb_C_apart 3 (some FieldType.long) (kh_C_apart :: zT) 2 := mk_cv c (zin 457 rfl rfl) (zin 446 rfl rfl) (zin 447 rfl rfl) (zin 50 rfl rfl) kz_C_apart ⟨rfl, by decide, by decide, by decide +kernel⟩
set_option maxRecDepth 100000 in
theorem kg_C_115 (c : Cond) : zCS (c :: zT) "TreeCounts" 115 ky_C_commonDivisor kb_C_commonDivisor 11 (some FieldType.long) (kh_C_commonDivisor :: zT) 2 := mk_cs c (zin 458 rfl rfl) (zin 459 rfl rfl) (zin 50 rfl rfl) kz_C_commonDivisor ⟨rfl, by decide, by decide, by decide +kernel⟩
set_option maxRecDepth 100000 in
theorem kg_C_119 (c : Cond) : zCV (c :: zT) "TreeCounts" "TreeCounts$Trees" 119 ky_T_toursAlongAll kb_T_toursAlongAll 5 (some FieldType.long) (kh_T_toursAlongAll :: zT) 0 := mk_cv c (zin 465 rfl rfl) (zin 466 rfl rfl) (zin 467 rfl rfl) (zin 54 rfl rfl) kz_T_toursAlongAll ⟨rfl, by decide, by decide, by decide +kernel⟩
set_option maxRecDepth 100000 in
theorem kg_C_122 (c : Cond) : zCV (c :: zT) "TreeCounts" "TreeCounts$Trees" 122 ky_T_treeAt kb_T_treeAt 9 (some FieldType.int) (kh_T_treeAt :: zT) 1 := mk_cv c (zin 484 rfl rfl) (zin 485 rfl rfl) (zin 486 rfl rfl) (zin 54 rfl rfl) kz_T_treeAt ⟨rfl, by decide, by decide, by decide +kernel⟩
set_option maxRecDepth 100000 in
theorem kg_C_126 (c : Cond) : zCV (c :: zT) "TreeCounts" "TreeCounts$Trees" 126 ky_T_isTree kb_T_isTree 4 (some FieldType.boolean) (kh_T_isTree :: zT) 1 := mk_cv c (zin 508 rfl rfl) (zin 509 rfl rfl) (zin 510 rfl rfl) (zin 54 rfl rfl) kz_T_isTree ⟨rfl, by decide, by decide, by decide +kernel⟩
set_option maxRecDepth 100000 in
theorem kg_C_129 (c : Cond) : zCV (c :: zT) "TreeCounts" "TreeCounts$Trees" 129 ky_T_sumBefore kb_T_sumBefore 7 (some FieldType.long) (kh_T_sumBefore :: zT) 1 := mk_cv c (zin 512 rfl rfl) (zin 513 rfl rfl) (zin 514 rfl rfl) (zin 54 rfl rfl) kz_T_sumBefore ⟨rfl, by decide, by decide, by decide +kernel⟩
set_option maxRecDepth 100000 in
theorem kg_C_132 (c : Cond) : zCV (c :: zT) "TreeCounts" "TreeCounts$Rings" 132 ky_R_lay kb_R_lay 7 none (kh_R_lay :: zT) 1 := mk_cv c (zin 520 rfl rfl) (zin 521 rfl rfl) (zin 522 rfl rfl) (zin 55 rfl rfl) kz_R_lay ⟨rfl, by decide, by decide, by decide +kernel⟩
set_option maxRecDepth 100000 in
theorem kg_C_142 (c : Cond) : zCV (c :: zT) "TreeCounts" "TreeCounts$Group" 142 ky_U_find kb_U_find 2 none (kh_U_find :: zT) 0 := mk_cv c (zin 546 rfl rfl) (zin 547 rfl rfl) (zin 548 rfl rfl) (zin 56 rfl rfl) kz_U_find ⟨rfl, by decide, by decide, by decide +kernel⟩
set_option maxRecDepth 100000 in
theorem kg_C_148 (c : Cond) : zCV (c :: zT) "TreeCounts" "TreeCounts$Group" 148 ky_U_round kb_U_round 2 (some FieldType.long) (kh_U_round :: zT) 1 := mk_cv c (zin 593 rfl rfl) (zin 594 rfl rfl) (zin 595 rfl rfl) (zin 56 rfl rfl) kz_U_round ⟨rfl, by decide, by decide, by decide +kernel⟩
set_option maxRecDepth 100000 in
theorem kg_C_155 (c : Cond) : zCV (c :: zT) "TreeCounts" "TreeCounts$Rings" 155 ky_R_partsOfNet kb_R_partsOfNet 1 (some FieldType.int) (kh_R_partsOfNet :: zT) 0 := mk_cv c (zin 609 rfl rfl) (zin 610 rfl rfl) (zin 611 rfl rfl) (zin 55 rfl rfl) kz_R_partsOfNet ⟨rfl, by decide, by decide, by decide +kernel⟩
set_option maxRecDepth 100000 in
theorem kg_C_159 (c : Cond) : zCV (c :: zT) "TreeCounts" "TreeCounts$Piles" 159 ky_L_settleAll kb_L_settleAll 5 (some FieldType.long) (kh_L_settleAll :: zT) 1 := mk_cv c (zin 613 rfl rfl) (zin 614 rfl rfl) (zin 615 rfl rfl) (zin 57 rfl rfl) kz_L_settleAll ⟨rfl, by decide, by decide, by decide +kernel⟩
set_option maxRecDepth 100000 in
theorem kg_C_165 (c : Cond) : zCV (c :: zT) "TreeCounts" "TreeCounts$Piles" 165 ky_L_comeBack kb_L_comeBack 3 (some FieldType.boolean) (kh_L_comeBack :: zT) 1 := mk_cv c (zin 635 rfl rfl) (zin 636 rfl rfl) (zin 637 rfl rfl) (zin 57 rfl rfl) kz_L_comeBack ⟨rfl, by decide, by decide, by decide +kernel⟩
set_option maxRecDepth 100000 in
theorem kg_C_175 (c : Cond) : zCV (c :: zT) "TreeCounts" "TreeCounts$Sets" 175 ky_S_sumAt kb_S_sumAt 5 (some FieldType.long) (kh_S_sumAt :: zT) 2 := mk_cv c (zin 735 rfl rfl) (zin 736 rfl rfl) (zin 737 rfl rfl) (zin 58 rfl rfl) kz_S_sumAt ⟨rfl, by decide, by decide, by decide +kernel⟩
set_option maxRecDepth 100000 in
theorem kg_C_178 (c : Cond) : zCV (c :: zT) "TreeCounts" "TreeCounts$Rings" 178 ky_R_count kb_R_count 1 (some FieldType.int) (kh_R_count :: zT) 0 := mk_cv c (zin 643 rfl rfl) (zin 644 rfl rfl) (zin 645 rfl rfl) (zin 55 rfl rfl) kz_R_count ⟨rfl, by decide, by decide, by decide +kernel⟩
set_option maxRecDepth 100000 in
theorem kg_C_180 (c : Cond) : zCV (c :: zT) "TreeCounts" "TreeCounts$Piles" 180 ky_L_empty kb_L_empty 2 none (kh_L_empty :: zT) 0 := mk_cv c (zin 657 rfl rfl) (zin 658 rfl rfl) (zin 659 rfl rfl) (zin 57 rfl rfl) kz_L_empty ⟨rfl, by decide, by decide, by decide +kernel⟩
set_option maxRecDepth 100000 in
theorem kg_G_20 (c : Cond) : zCV (c :: zT) "TreeCounts$Grid" "TreeCounts$Grid" 20 ky_G_addOneWay kb_G_addOneWay 4 none (kh_G_addOneWay :: zT) 3 := mk_cv c (zin 369 rfl rfl) (zin 370 rfl rfl) (zin 371 rfl rfl) (zin 53 rfl rfl) kz_G_addOneWay ⟨rfl, by decide, by decide, by decide +kernel⟩
set_option maxRecDepth 100000 in
theorem kg_G_29 (c : Cond) : zCV (c :: zT) "TreeCounts$Grid" "TreeCounts$Grid" 29 ky_G_blank kb_G_blank 4 none (kh_G_blank :: zT) 1 := mk_cv c (zin 431 rfl rfl) (zin 362 rfl rfl) (zin 363 rfl rfl) (zin 53 rfl rfl) kz_G_blank ⟨rfl, by decide, by decide, by decide +kernel⟩
set_option maxRecDepth 100000 in
theorem kg_G_46 (c : Cond) : zCV (c :: zT) "TreeCounts$Grid" "TreeCounts$Grid" 46 ky_G_addBothWays kb_G_addBothWays 4 none (kh_G_addBothWays :: zT) 3 := mk_cv c (zin 444 rfl rfl) (zin 366 rfl rfl) (zin 367 rfl rfl) (zin 53 rfl rfl) kz_G_addBothWays ⟨rfl, by decide, by decide, by decide +kernel⟩
set_option maxRecDepth 100000 in
theorem kg_G_49 (c : Cond) : zCV (c :: zT) "TreeCounts$Grid" "TreeCounts$Grid" 49 ky_G_rowWithLowestBit kb_G_rowWithLowestBit 6 (some FieldType.int) (kh_G_rowWithLowestBit :: zT) 1 := mk_cv c (zin 381 rfl rfl) (zin 383 rfl rfl) (zin 1 rfl rfl) (zin 53 rfl rfl) kz_G_rowWithLowestBit ⟨rfl, by decide, by decide, by decide +kernel⟩
set_option maxRecDepth 100000 in
theorem kg_G_53 (c : Cond) : zCV (c :: zT) "TreeCounts$Grid" "TreeCounts$Grid" 53 ky_G_swapRows kb_G_swapRows 4 none (kh_G_swapRows :: zT) 2 := mk_cv c (zin 388 rfl rfl) (zin 389 rfl rfl) (zin 390 rfl rfl) (zin 53 rfl rfl) kz_G_swapRows ⟨rfl, by decide, by decide, by decide +kernel⟩
set_option maxRecDepth 100000 in
theorem kg_G_57 (c : Cond) : zCV (c :: zT) "TreeCounts$Grid" "TreeCounts$Grid" 57 ky_G_clearBelow kb_G_clearBelow 9 none (kh_G_clearBelow :: zT) 1 := mk_cv c (zin 392 rfl rfl) (zin 394 rfl rfl) (zin 2 rfl rfl) (zin 53 rfl rfl) kz_G_clearBelow ⟨rfl, by decide, by decide, by decide +kernel⟩
set_option maxRecDepth 100000 in
theorem kg_G_60 (c : Cond) : zCS (c :: zT) "TreeCounts$Grid" 60 ky_G_twos kb_G_twos 3 (some FieldType.int) (kh_G_twos :: zT) 1 := mk_cs c (zin 385 rfl rfl) (zin 386 rfl rfl) (zin 53 rfl rfl) kz_G_twos ⟨rfl, by decide, by decide, by decide +kernel⟩
set_option maxRecDepth 100000 in
theorem kg_G_64 (c : Cond) : zCS (c :: zT) "TreeCounts$Grid" 64 ky_G_inverseOfOdd kb_G_inverseOfOdd 5 (some FieldType.long) (kh_G_inverseOfOdd :: zT) 1 := mk_cs c (zin 396 rfl rfl) (zin 397 rfl rfl) (zin 53 rfl rfl) kz_G_inverseOfOdd ⟨rfl, by decide, by decide, by decide +kernel⟩
set_option maxRecDepth 100000 in
theorem kg_U_36 (c : Cond) : zCV (c :: zT) "TreeCounts$Group" "TreeCounts$Trees" 36 ky_T_sumOfAll kb_T_sumOfAll 1 (some FieldType.long) (kh_T_sumOfAll :: zT) 0 := mk_cv c (zin 550 rfl rfl) (zin 350 rfl rfl) (zin 351 rfl rfl) (zin 54 rfl rfl) kz_T_sumOfAll ⟨rfl, by decide, by decide, by decide +kernel⟩
set_option maxRecDepth 100000 in
theorem kg_U_48 (c : Cond) : zCV (c :: zT) "TreeCounts$Group" "TreeCounts$Grid" 48 ky_G_fillBothWays kb_G_fillBothWays 3 none (kh_G_fillBothWays :: zT) 1 := mk_cv c (zin 552 rfl rfl) (zin 441 rfl rfl) (zin 442 rfl rfl) (zin 53 rfl rfl) kz_G_fillBothWays ⟨rfl, by decide, by decide, by decide +kernel⟩
set_option maxRecDepth 100000 in
theorem kg_U_54 (c : Cond) : zCV (c :: zT) "TreeCounts$Group" "TreeCounts$Grid" 54 ky_G_strike kb_G_strike 3 none (kh_G_strike :: zT) 1 := mk_cv c (zin 553 rfl rfl) (zin 374 rfl rfl) (zin 375 rfl rfl) (zin 53 rfl rfl) kz_G_strike ⟨rfl, by decide, by decide, by decide +kernel⟩
set_option maxRecDepth 100000 in
theorem kg_U_58 (c : Cond) : zCV (c :: zT) "TreeCounts$Group" "TreeCounts$Group" 58 ky_U_reduceAll kb_U_reduceAll 3 none (kh_U_reduceAll :: zT) 0 := mk_cv c (zin 554 rfl rfl) (zin 556 rfl rfl) (zin 9 rfl rfl) (zin 56 rfl rfl) kz_U_reduceAll ⟨rfl, by decide, by decide, by decide +kernel⟩
set_option maxRecDepth 100000 in
theorem kg_U_64 (c : Cond) : zCV (c :: zT) "TreeCounts$Group" "TreeCounts$Group" 64 ky_U_clearLine kb_U_clearLine 4 none (kh_U_clearLine :: zT) 1 := mk_cv c (zin 562 rfl rfl) (zin 564 rfl rfl) (zin 11 rfl rfl) (zin 56 rfl rfl) kz_U_clearLine ⟨rfl, by decide, by decide, by decide +kernel⟩
set_option maxRecDepth 100000 in
theorem kg_U_71 (c : Cond) : zCN (c :: zT) kNw "TreeCounts$Group" 71 ky_C_commonDivisor "TreeCounts" kb_C_commonDivisor 11 (some FieldType.long) (kh_C_commonDivisor :: zT) 2 := mk_cn c kz_C_commonDivisor (by decide +kernel) (zin 50 rfl rfl) ⟨by decide, by decide, by decide +kernel⟩
set_option maxRecDepth 100000 in
theorem kg_U_75 (c : Cond) : zCV (c :: zT) "TreeCounts$Group" "TreeCounts$Group" 75 ky_U_makeChain kb_U_makeChain 5 none (kh_U_makeChain :: zT) 0 := mk_cv c (zin 589 rfl rfl) (zin 591 rfl rfl) (zin 17 rfl rfl) (zin 56 rfl rfl) kz_U_makeChain ⟨rfl, by decide, by decide, by decide +kernel⟩
set_option maxRecDepth 100000 in
theorem kg_U_78 (c : Cond) : zCV (c :: zT) "TreeCounts$Group" "TreeCounts$Group" 78 ky_U_reduced kb_U_reduced 5 (some FieldType.long) (kh_U_reduced :: zT) 1 := mk_cv c (zin 558 rfl rfl) (zin 560 rfl rfl) (zin 10 rfl rfl) (zin 56 rfl rfl) kz_U_reduced ⟨rfl, by decide, by decide, by decide +kernel⟩
set_option maxRecDepth 100000 in
theorem kg_U_82 (c : Cond) : zCV (c :: zT) "TreeCounts$Group" "TreeCounts$Group" 82 ky_U_mixRows kb_U_mixRows 16 none (kh_U_mixRows :: zT) 2 := mk_cv c (zin 566 rfl rfl) (zin 568 rfl rfl) (zin 12 rfl rfl) (zin 56 rfl rfl) kz_U_mixRows ⟨rfl, by decide, by decide, by decide +kernel⟩
set_option maxRecDepth 100000 in
theorem kg_U_86 (c : Cond) : zCV (c :: zT) "TreeCounts$Group" "TreeCounts$Group" 86 ky_U_isRowClear kb_U_isRowClear 3 (some FieldType.boolean) (kh_U_isRowClear :: zT) 1 := mk_cv c (zin 580 rfl rfl) (zin 582 rfl rfl) (zin 15 rfl rfl) (zin 56 rfl rfl) kz_U_isRowClear ⟨rfl, by decide, by decide, by decide +kernel⟩
set_option maxRecDepth 100000 in
theorem kg_U_90 (c : Cond) : zCV (c :: zT) "TreeCounts$Group" "TreeCounts$Group" 90 ky_U_transpose kb_U_transpose 6 none (kh_U_transpose :: zT) 1 := mk_cv c (zin 584 rfl rfl) (zin 586 rfl rfl) (zin 16 rfl rfl) (zin 56 rfl rfl) kz_U_transpose ⟨rfl, by decide, by decide, by decide +kernel⟩
set_option maxRecDepth 100000 in
theorem kg_U_93 (c : Cond) : zCV (c :: zT) "TreeCounts$Group" "TreeCounts$Group" 93 ky_U_measure kb_U_measure 20 none (kh_U_measure :: zT) 2 := mk_cv c (zin 570 rfl rfl) (zin 572 rfl rfl) (zin 13 rfl rfl) (zin 56 rfl rfl) kz_U_measure ⟨rfl, by decide, by decide, by decide +kernel⟩
set_option maxRecDepth 100000 in
theorem kg_U_103 (c : Cond) : zCV (c :: zT) "TreeCounts$Group" "TreeCounts$Group" 103 ky_U_times kb_U_times 8 (some FieldType.long) (kh_U_times :: zT) 2 := mk_cv c (zin 574 rfl rfl) (zin 576 rfl rfl) (zin 14 rfl rfl) (zin 56 rfl rfl) kz_U_times ⟨rfl, by decide, by decide, by decide +kernel⟩
set_option maxRecDepth 100000 in
theorem kg_N_28 (c : Cond) : zCV (c :: zT) "TreeCounts$Net" "TreeCounts$Parts" 28 ky_P_split kb_P_split 3 none (kh_P_split :: zT) 1 := mk_cv c (zin 528 rfl rfl) (zin 354 rfl rfl) (zin 355 rfl rfl) (zin 52 rfl rfl) kz_P_split ⟨rfl, by decide, by decide, by decide +kernel⟩
set_option maxRecDepth 100000 in
theorem kg_N_34 (c : Cond) : zCV (c :: zT) "TreeCounts$Net" "TreeCounts$Parts" 34 ky_P_unite kb_P_unite 6 (some FieldType.boolean) (kh_P_unite :: zT) 2 := mk_cv c (zin 529 rfl rfl) (zin 409 rfl rfl) (zin 410 rfl rfl) (zin 52 rfl rfl) kz_P_unite ⟨rfl, by decide, by decide, by decide +kernel⟩
set_option maxRecDepth 100000 in
theorem kg_L_32 (c : Cond) : zCV (c :: zT) "TreeCounts$Piles" "TreeCounts$Grid" 32 ky_G_fillBothWays kb_G_fillBothWays 3 none (kh_G_fillBothWays :: zT) 1 := mk_cv c (zin 617 rfl rfl) (zin 441 rfl rfl) (zin 442 rfl rfl) (zin 53 rfl rfl) kz_G_fillBothWays ⟨rfl, by decide, by decide, by decide +kernel⟩
set_option maxRecDepth 100000 in
theorem kg_L_38 (c : Cond) : zCV (c :: zT) "TreeCounts$Piles" "TreeCounts$Piles" 38 ky_L_run kb_L_run 11 none (kh_L_run :: zT) 3 := mk_cv c (zin 618 rfl rfl) (zin 620 rfl rfl) (zin 18 rfl rfl) (zin 57 rfl rfl) kz_L_run ⟨rfl, by decide, by decide, by decide +kernel⟩
set_option maxRecDepth 100000 in
theorem kg_L_52 (c : Cond) : zCV (c :: zT) "TreeCounts$Piles" "TreeCounts$Piles" 52 ky_L_fire kb_L_fire 6 none (kh_L_fire :: zT) 3 := mk_cv c (zin 623 rfl rfl) (zin 625 rfl rfl) (zin 19 rfl rfl) (zin 57 rfl rfl) kz_L_fire ⟨rfl, by decide, by decide, by decide +kernel⟩
set_option maxRecDepth 100000 in
theorem kg_R_26 (c : Cond) : zCV (c :: zT) "TreeCounts$Rings" "TreeCounts$Net" 26 ky_N_firstTrees kb_N_firstTrees 4 (some FieldType.int) (kh_N_firstTrees :: zT) 1 := mk_cv c (zin 524 rfl rfl) (zin 525 rfl rfl) (zin 526 rfl rfl) (zin 51 rfl rfl) kz_N_firstTrees ⟨rfl, by decide, by decide, by decide +kernel⟩
set_option maxRecDepth 100000 in
theorem kg_R_50 (c : Cond) : zCV (c :: zT) "TreeCounts$Rings" "TreeCounts$Rings" 50 ky_R_untaken kb_R_untaken 5 (some FieldType.int) (kh_R_untaken :: zT) 2 := mk_cv c (zin 530 rfl rfl) (zin 532 rfl rfl) (zin 6 rfl rfl) (zin 55 rfl rfl) kz_R_untaken ⟨rfl, by decide, by decide, by decide +kernel⟩
set_option maxRecDepth 100000 in
theorem kg_R_57 (c : Cond) : zCV (c :: zT) "TreeCounts$Rings" "TreeCounts$Rings" 57 ky_R_findWaysBack kb_R_findWaysBack 6 none (kh_R_findWaysBack :: zT) 2 := mk_cv c (zin 534 rfl rfl) (zin 536 rfl rfl) (zin 7 rfl rfl) (zin 55 rfl rfl) kz_R_findWaysBack ⟨rfl, by decide, by decide, by decide +kernel⟩
set_option maxRecDepth 100000 in
theorem kg_R_67 (c : Cond) : zCV (c :: zT) "TreeCounts$Rings" "TreeCounts$Rings" 67 ky_R_reach kb_R_reach 6 (some FieldType.int) (kh_R_reach :: zT) 2 := mk_cv c (zin 538 rfl rfl) (zin 540 rfl rfl) (zin 8 rfl rfl) (zin 55 rfl rfl) kz_R_reach ⟨rfl, by decide, by decide, by decide +kernel⟩
set_option maxRecDepth 100000 in
theorem kg_S_32 (c : Cond) : zCN (c :: zT) kNw "TreeCounts$Sets" 32 ky_P_init "TreeCounts" kb_P_init 1 none (kh_P_init :: zT) 0 := mk_cn c kz_P_init (by decide +kernel) (zin 52 rfl rfl) ⟨by decide, by decide, by decide +kernel⟩
set_option maxRecDepth 100000 in
theorem kg_S_33 (c : Cond) : zCS (c :: zT) "TreeCounts$Sets" 33 ky_S_fillPowers kb_S_fillPowers 6 none (kh_S_fillPowers :: zT) 2 := mk_cs c (zin 739 rfl rfl) (zin 740 rfl rfl) (zin 58 rfl rfl) kz_S_fillPowers ⟨rfl, by decide, by decide, by decide +kernel⟩
set_option maxRecDepth 100000 in
theorem kg_S_37 (c : Cond) : zCV (c :: zT) "TreeCounts$Sets" "TreeCounts$Net" 37 ky_N_firstTrees kb_N_firstTrees 4 (some FieldType.int) (kh_N_firstTrees :: zT) 1 := mk_cv c (zin 742 rfl rfl) (zin 525 rfl rfl) (zin 526 rfl rfl) (zin 51 rfl rfl) kz_N_firstTrees ⟨rfl, by decide, by decide, by decide +kernel⟩
set_option maxRecDepth 100000 in
theorem kg_S_53 (c : Cond) : zCV (c :: zT) "TreeCounts$Sets" "TreeCounts$Parts" 53 ky_P_split kb_P_split 3 none (kh_P_split :: zT) 1 := mk_cv c (zin 743 rfl rfl) (zin 354 rfl rfl) (zin 355 rfl rfl) (zin 52 rfl rfl) kz_P_split ⟨rfl, by decide, by decide, by decide +kernel⟩
set_option maxRecDepth 100000 in
theorem kg_S_57 (c : Cond) : zCS (c :: zT) "TreeCounts$Sets" 57 ky_S_sumFrom kb_S_sumFrom 11 (some FieldType.long) (kh_S_sumFrom :: zT) 3 := mk_cs c (zin 744 rfl rfl) (zin 745 rfl rfl) (zin 58 rfl rfl) kz_S_sumFrom ⟨rfl, by decide, by decide, by decide +kernel⟩
set_option maxRecDepth 100000 in
theorem kg_S_71 (c : Cond) : zCV (c :: zT) "TreeCounts$Sets" "TreeCounts$Parts" 71 ky_P_areOne kb_P_areOne 3 (some FieldType.boolean) (kh_P_areOne :: zT) 2 := mk_cv c (zin 747 rfl rfl) (zin 497 rfl rfl) (zin 498 rfl rfl) (zin 52 rfl rfl) kz_P_areOne ⟨rfl, by decide, by decide, by decide +kernel⟩
set_option maxRecDepth 100000 in
theorem kg_S_75 (c : Cond) : zCV (c :: zT) "TreeCounts$Sets" "TreeCounts$Parts" 75 ky_P_become kb_P_become 2 none (kh_P_become :: zT) 1 := mk_cv c (zin 748 rfl rfl) (zin 749 rfl rfl) (zin 750 rfl rfl) (zin 52 rfl rfl) kz_P_become ⟨rfl, by decide, by decide, by decide +kernel⟩
set_option maxRecDepth 100000 in
theorem kg_S_79 (c : Cond) : zCV (c :: zT) "TreeCounts$Sets" "TreeCounts$Parts" 79 ky_P_unite kb_P_unite 6 (some FieldType.boolean) (kh_P_unite :: zT) 2 := mk_cv c (zin 755 rfl rfl) (zin 409 rfl rfl) (zin 410 rfl rfl) (zin 52 rfl rfl) kz_P_unite ⟨rfl, by decide, by decide, by decide +kernel⟩
set_option maxRecDepth 100000 in
theorem kg_T_29 (c : Cond) : zCV (c :: zT) "TreeCounts$Trees" "TreeCounts$Parts" 29 ky_P_split kb_P_split 3 none (kh_P_split :: zT) 1 := mk_cv c (zin 353 rfl rfl) (zin 354 rfl rfl) (zin 355 rfl rfl) (zin 52 rfl rfl) kz_P_split ⟨rfl, by decide, by decide, by decide +kernel⟩
set_option maxRecDepth 100000 in
theorem kg_T_35 (c : Cond) : zCV (c :: zT) "TreeCounts$Trees" "TreeCounts$Trees" 35 ky_T_sumOverParts kb_T_sumOverParts 3 (some FieldType.long) (kh_T_sumOverParts :: zT) 1 := mk_cv c (zin 357 rfl rfl) (zin 359 rfl rfl) (zin 0 rfl rfl) (zin 54 rfl rfl) kz_T_sumOverParts ⟨rfl, by decide, by decide, by decide +kernel⟩
set_option maxRecDepth 100000 in
theorem kg_T_42 (c : Cond) : zCV (c :: zT) "TreeCounts$Trees" "TreeCounts$Grid" 42 ky_G_blank kb_G_blank 4 none (kh_G_blank :: zT) 1 := mk_cv c (zin 361 rfl rfl) (zin 362 rfl rfl) (zin 363 rfl rfl) (zin 53 rfl rfl) kz_G_blank ⟨rfl, by decide, by decide, by decide +kernel⟩
set_option maxRecDepth 100000 in
theorem kg_T_63 (c : Cond) : zCV (c :: zT) "TreeCounts$Trees" "TreeCounts$Grid" 63 ky_G_addBothWays kb_G_addBothWays 4 none (kh_G_addBothWays :: zT) 3 := mk_cv c (zin 365 rfl rfl) (zin 366 rfl rfl) (zin 367 rfl rfl) (zin 53 rfl rfl) kz_G_addBothWays ⟨rfl, by decide, by decide, by decide +kernel⟩
set_option maxRecDepth 100000 in
theorem kg_T_67 (c : Cond) : zCV (c :: zT) "TreeCounts$Trees" "TreeCounts$Grid" 67 ky_G_strike kb_G_strike 3 none (kh_G_strike :: zT) 1 := mk_cv c (zin 373 rfl rfl) (zin 374 rfl rfl) (zin 375 rfl rfl) (zin 53 rfl rfl) kz_G_strike ⟨rfl, by decide, by decide, by decide +kernel⟩
set_option maxRecDepth 100000 in
theorem kg_T_70 (c : Cond) : zCV (c :: zT) "TreeCounts$Trees" "TreeCounts$Grid" 70 ky_G_determinant kb_G_determinant 5 (some FieldType.long) (kh_G_determinant :: zT) 0 := mk_cv c (zin 377 rfl rfl) (zin 378 rfl rfl) (zin 379 rfl rfl) (zin 53 rfl rfl) kz_G_determinant ⟨rfl, by decide, by decide, by decide +kernel⟩
set_option maxRecDepth 100000 in
theorem kg_T_74 (c : Cond) : zCV (c :: zT) "TreeCounts$Trees" "TreeCounts$Parts" 74 ky_P_unite kb_P_unite 6 (some FieldType.boolean) (kh_P_unite :: zT) 2 := mk_cv c (zin 408 rfl rfl) (zin 409 rfl rfl) (zin 410 rfl rfl) (zin 52 rfl rfl) kz_P_unite ⟨rfl, by decide, by decide, by decide +kernel⟩
set_option maxRecDepth 100000 in
theorem kg_T_78 (c : Cond) : zCV (c :: zT) "TreeCounts$Trees" "TreeCounts$Grid" 78 ky_G_fillOneWay kb_G_fillOneWay 3 none (kh_G_fillOneWay :: zT) 1 := mk_cv c (zin 427 rfl rfl) (zin 428 rfl rfl) (zin 429 rfl rfl) (zin 53 rfl rfl) kz_G_fillOneWay ⟨rfl, by decide, by decide, by decide +kernel⟩
set_option maxRecDepth 100000 in
theorem kg_T_82 (c : Cond) : zCV (c :: zT) "TreeCounts$Trees" "TreeCounts$Grid" 82 ky_G_fillBothWays kb_G_fillBothWays 3 none (kh_G_fillBothWays :: zT) 1 := mk_cv c (zin 440 rfl rfl) (zin 441 rfl rfl) (zin 442 rfl rfl) (zin 53 rfl rfl) kz_G_fillBothWays ⟨rfl, by decide, by decide, by decide +kernel⟩
set_option maxRecDepth 100000 in
theorem kg_T_89 (c : Cond) : zCV (c :: zT) "TreeCounts$Trees" "TreeCounts$Net" 89 ky_N_weightOutOf kb_N_weightOutOf 4 (some FieldType.int) (kh_N_weightOutOf :: zT) 1 := mk_cv c (zin 469 rfl rfl) (zin 470 rfl rfl) (zin 471 rfl rfl) (zin 51 rfl rfl) kz_N_weightOutOf ⟨rfl, by decide, by decide, by decide +kernel⟩
set_option maxRecDepth 100000 in
theorem kg_T_93 (c : Cond) : zCV (c :: zT) "TreeCounts$Trees" "TreeCounts$Net" 93 ky_N_weightInto kb_N_weightInto 4 (some FieldType.int) (kh_N_weightInto :: zT) 1 := mk_cv c (zin 473 rfl rfl) (zin 474 rfl rfl) (zin 475 rfl rfl) (zin 51 rfl rfl) kz_N_weightInto ⟨rfl, by decide, by decide, by decide +kernel⟩
set_option maxRecDepth 100000 in
theorem kg_T_96 (c : Cond) : zCS (c :: zT) "TreeCounts$Trees" 96 ky_T_factorial kb_T_factorial 4 (some FieldType.long) (kh_T_factorial :: zT) 1 := mk_cs c (zin 477 rfl rfl) (zin 478 rfl rfl) (zin 54 rfl rfl) kz_T_factorial ⟨rfl, by decide, by decide, by decide +kernel⟩
set_option maxRecDepth 100000 in
theorem kg_T_99 (c : Cond) : zCV (c :: zT) "TreeCounts$Trees" "TreeCounts$Trees" 99 ky_T_beginChoice kb_T_beginChoice 1 none (kh_T_beginChoice :: zT) 0 := mk_cv c (zin 488 rfl rfl) (zin 490 rfl rfl) (zin 3 rfl rfl) (zin 54 rfl rfl) kz_T_beginChoice ⟨rfl, by decide, by decide, by decide +kernel⟩
set_option maxRecDepth 100000 in
theorem kg_T_106 (c : Cond) : zCV (c :: zT) "TreeCounts$Trees" "TreeCounts$Trees" 106 ky_T_sumIfTaken kb_T_sumIfTaken 2 (some FieldType.long) (kh_T_sumIfTaken :: zT) 1 := mk_cv c (zin 492 rfl rfl) (zin 494 rfl rfl) (zin 4 rfl rfl) (zin 54 rfl rfl) kz_T_sumIfTaken ⟨rfl, by decide, by decide, by decide +kernel⟩
set_option maxRecDepth 100000 in
theorem kg_T_109 (c : Cond) : zCV (c :: zT) "TreeCounts$Trees" "TreeCounts$Trees" 109 ky_T_take kb_T_take 4 none (kh_T_take :: zT) 2 := mk_cv c (zin 500 rfl rfl) (zin 502 rfl rfl) (zin 5 rfl rfl) (zin 54 rfl rfl) kz_T_take ⟨rfl, by decide, by decide, by decide +kernel⟩
set_option maxRecDepth 100000 in
theorem kg_T_116 (c : Cond) : zCV (c :: zT) "TreeCounts$Trees" "TreeCounts$Parts" 116 ky_P_areOne kb_P_areOne 3 (some FieldType.boolean) (kh_P_areOne :: zT) 2 := mk_cv c (zin 496 rfl rfl) (zin 497 rfl rfl) (zin 498 rfl rfl) (zin 52 rfl rfl) kz_P_areOne ⟨rfl, by decide, by decide, by decide +kernel⟩
set_option maxRecDepth 100000 in
theorem kg_W_7 (c : Cond) : zCV (c :: zT) "TreeCountsLaw" "TreeCounts" 7 ky_C_point kb_C_point 5 (some FieldType.long) (kh_C_point :: zT) 2 := mk_cv c (zin 665 rfl rfl) (zin 666 rfl rfl) (zin 667 rfl rfl) (zin 50 rfl rfl) kz_C_point ⟨rfl, by decide, by decide, by decide +kernel⟩
set_option maxRecDepth 100000 in
theorem kg_W_15 (c : Cond) : zCI (c :: zT) "TreeCountsLaw" 15 ky_C_init kb_C_init 3 (kh_C_init :: zT) 0 := mk_ci c kz_C_init (zin 50 rfl rfl) (zin 69 rfl rfl) (zin 70 rfl rfl) rfl ⟨by decide, by decide, by decide +kernel⟩
set_option maxRecDepth 100000 in
theorem kg_W_18 (c : Cond) : zCI (c :: zT) "TreeCountsLaw" 18 ky_M_init kb_M_init 1 (kh_M_init :: zT) 0 := mk_ci c kz_M_init (zin 59 rfl rfl) (zin 758 rfl rfl) (zin 759 rfl rfl) rfl ⟨by decide, by decide, by decide +kernel⟩
set_option maxRecDepth 100000 in
theorem kg_W_19 (c : Cond) : zCV (c :: zT) "TreeCountsLaw" "TreeCounts" 19 ky_C_node kb_C_node 1 (some FieldType.int) (kh_C_node :: zT) 0 := mk_cv c (zin 318 rfl rfl) (zin 319 rfl rfl) (zin 320 rfl rfl) (zin 50 rfl rfl) kz_C_node ⟨rfl, by decide, by decide, by decide +kernel⟩
set_option maxRecDepth 100000 in
theorem kg_W_23 (c : Cond) : zCV (c :: zT) "TreeCountsLaw" "TreeCountsModel" 23 ky_M_node kb_M_node 1 (some FieldType.int) (kh_M_node :: zT) 0 := mk_cv c (zin 843 rfl rfl) (zin 844 rfl rfl) (zin 845 rfl rfl) (zin 59 rfl rfl) kz_M_node ⟨rfl, by decide, by decide, by decide +kernel⟩
set_option maxRecDepth 100000 in
theorem kg_W_24 (c : Cond) : zCV (c :: zT) "TreeCountsLaw" "TreeCounts" 24 ky_C_arc kb_C_arc 4 (some FieldType.int) (kh_C_arc :: zT) 3 := mk_cv c (zin 322 rfl rfl) (zin 323 rfl rfl) (zin 324 rfl rfl) (zin 50 rfl rfl) kz_C_arc ⟨rfl, by decide, by decide, by decide +kernel⟩
set_option maxRecDepth 100000 in
theorem kg_W_28 (c : Cond) : zCV (c :: zT) "TreeCountsLaw" "TreeCountsModel" 28 ky_M_arc kb_M_arc 4 (some FieldType.int) (kh_M_arc :: zT) 3 := mk_cv c (zin 847 rfl rfl) (zin 848 rfl rfl) (zin 849 rfl rfl) (zin 59 rfl rfl) kz_M_arc ⟨rfl, by decide, by decide, by decide +kernel⟩
set_option maxRecDepth 100000 in
theorem kg_W_29 (c : Cond) : zCV (c :: zT) "TreeCountsLaw" "TreeCounts" 29 ky_C_weigh kb_C_weigh 4 (some FieldType.int) (kh_C_weigh :: zT) 2 := mk_cv c (zin 333 rfl rfl) (zin 334 rfl rfl) (zin 335 rfl rfl) (zin 50 rfl rfl) kz_C_weigh ⟨rfl, by decide, by decide, by decide +kernel⟩
set_option maxRecDepth 100000 in
theorem kg_W_33 (c : Cond) : zCV (c :: zT) "TreeCountsLaw" "TreeCountsModel" 33 ky_M_weigh kb_M_weigh 4 (some FieldType.int) (kh_M_weigh :: zT) 2 := mk_cv c (zin 855 rfl rfl) (zin 856 rfl rfl) (zin 857 rfl rfl) (zin 59 rfl rfl) kz_M_weigh ⟨rfl, by decide, by decide, by decide +kernel⟩
set_option maxRecDepth 100000 in
theorem kg_W_34 (c : Cond) : zCV (c :: zT) "TreeCountsLaw" "TreeCounts" 34 ky_C_drop kb_C_drop 1 (some FieldType.boolean) (kh_C_drop :: zT) 0 := mk_cv c (zin 341 rfl rfl) (zin 342 rfl rfl) (zin 343 rfl rfl) (zin 50 rfl rfl) kz_C_drop ⟨rfl, by decide, by decide, by decide +kernel⟩
set_option maxRecDepth 100000 in
theorem kg_W_38 (c : Cond) : zCV (c :: zT) "TreeCountsLaw" "TreeCountsModel" 38 ky_M_drop kb_M_drop 1 (some FieldType.boolean) (kh_M_drop :: zT) 0 := mk_cv c (zin 859 rfl rfl) (zin 860 rfl rfl) (zin 861 rfl rfl) (zin 59 rfl rfl) kz_M_drop ⟨rfl, by decide, by decide, by decide +kernel⟩
set_option maxRecDepth 100000 in
theorem kg_W_39 (c : Cond) : zCV (c :: zT) "TreeCountsLaw" "TreeCounts" 39 ky_C_trees kb_C_trees 1 (some FieldType.long) (kh_C_trees :: zT) 0 := mk_cv c (zin 345 rfl rfl) (zin 346 rfl rfl) (zin 347 rfl rfl) (zin 50 rfl rfl) kz_C_trees ⟨rfl, by decide, by decide, by decide +kernel⟩
set_option maxRecDepth 100000 in
theorem kg_W_43 (c : Cond) : zCV (c :: zT) "TreeCountsLaw" "TreeCountsModel" 43 ky_M_trees kb_M_trees 1 (some FieldType.long) (kh_M_trees :: zT) 0 := mk_cv c (zin 863 rfl rfl) (zin 864 rfl rfl) (zin 865 rfl rfl) (zin 59 rfl rfl) kz_M_trees ⟨rfl, by decide, by decide, by decide +kernel⟩
set_option maxRecDepth 100000 in
theorem kg_W_44 (c : Cond) : zCV (c :: zT) "TreeCountsLaw" "TreeCounts" 44 ky_C_through kb_C_through 2 (some FieldType.long) (kh_C_through :: zT) 1 := mk_cv c (zin 400 rfl rfl) (zin 401 rfl rfl) (zin 402 rfl rfl) (zin 50 rfl rfl) kz_C_through ⟨rfl, by decide, by decide, by decide +kernel⟩
set_option maxRecDepth 100000 in
theorem kg_W_48 (c : Cond) : zCV (c :: zT) "TreeCountsLaw" "TreeCountsModel" 48 ky_M_through kb_M_through 4 (some FieldType.long) (kh_M_through :: zT) 1 := mk_cv c (zin 914 rfl rfl) (zin 915 rfl rfl) (zin 916 rfl rfl) (zin 59 rfl rfl) kz_M_through ⟨rfl, by decide, by decide, by decide +kernel⟩
set_option maxRecDepth 100000 in
theorem kg_W_49 (c : Cond) : zCV (c :: zT) "TreeCountsLaw" "TreeCounts" 49 ky_C_rooted kb_C_rooted 2 (some FieldType.long) (kh_C_rooted :: zT) 1 := mk_cv c (zin 419 rfl rfl) (zin 420 rfl rfl) (zin 421 rfl rfl) (zin 50 rfl rfl) kz_C_rooted ⟨rfl, by decide, by decide, by decide +kernel⟩
set_option maxRecDepth 100000 in
theorem kg_W_52 (c : Cond) : zCV (c :: zT) "TreeCountsLaw" "TreeCountsModel" 52 ky_M_rooted kb_M_rooted 4 (some FieldType.long) (kh_M_rooted :: zT) 1 := mk_cv c (zin 920 rfl rfl) (zin 921 rfl rfl) (zin 922 rfl rfl) (zin 59 rfl rfl) kz_M_rooted ⟨rfl, by decide, by decide, by decide +kernel⟩
set_option maxRecDepth 100000 in
theorem kg_W_53 (c : Cond) : zCV (c :: zT) "TreeCountsLaw" "TreeCounts" 53 ky_C_forests kb_C_forests 1 (some FieldType.long) (kh_C_forests :: zT) 0 := mk_cv c (zin 432 rfl rfl) (zin 433 rfl rfl) (zin 434 rfl rfl) (zin 50 rfl rfl) kz_C_forests ⟨rfl, by decide, by decide, by decide +kernel⟩
set_option maxRecDepth 100000 in
theorem kg_W_56 (c : Cond) : zCV (c :: zT) "TreeCountsLaw" "TreeCountsModel" 56 ky_M_forests kb_M_forests 2 (some FieldType.long) (kh_M_forests :: zT) 0 := mk_cv c (zin 924 rfl rfl) (zin 925 rfl rfl) (zin 926 rfl rfl) (zin 59 rfl rfl) kz_M_forests ⟨rfl, by decide, by decide, by decide +kernel⟩
set_option maxRecDepth 100000 in
theorem kg_W_57 (c : Cond) : zCV (c :: zT) "TreeCountsLaw" "TreeCounts" 57 ky_C_apart kb_C_apart 3 (some FieldType.long) (kh_C_apart :: zT) 2 := mk_cv c (zin 445 rfl rfl) (zin 446 rfl rfl) (zin 447 rfl rfl) (zin 50 rfl rfl) kz_C_apart ⟨rfl, by decide, by decide, by decide +kernel⟩
set_option maxRecDepth 100000 in
theorem kg_W_61 (c : Cond) : zCV (c :: zT) "TreeCountsLaw" "TreeCountsModel" 61 ky_M_apart kb_M_apart 4 (some FieldType.long) (kh_M_apart :: zT) 2 := mk_cv c (zin 928 rfl rfl) (zin 929 rfl rfl) (zin 930 rfl rfl) (zin 59 rfl rfl) kz_M_apart ⟨rfl, by decide, by decide, by decide +kernel⟩
set_option maxRecDepth 100000 in
theorem kg_W_62 (c : Cond) : zCV (c :: zT) "TreeCountsLaw" "TreeCounts" 62 ky_C_resistance kb_C_resistance 10 (some FieldType.long) (kh_C_resistance :: zT) 3 := mk_cv c (zin 453 rfl rfl) (zin 454 rfl rfl) (zin 455 rfl rfl) (zin 50 rfl rfl) kz_C_resistance ⟨rfl, by decide, by decide, by decide +kernel⟩
set_option maxRecDepth 100000 in
theorem kg_W_66 (c : Cond) : zCV (c :: zT) "TreeCountsLaw" "TreeCountsModel" 66 ky_M_resistance kb_M_resistance 10 (some FieldType.long) (kh_M_resistance :: zT) 3 := mk_cv c (zin 932 rfl rfl) (zin 933 rfl rfl) (zin 934 rfl rfl) (zin 59 rfl rfl) kz_M_resistance ⟨rfl, by decide, by decide, by decide +kernel⟩
set_option maxRecDepth 100000 in
theorem kg_W_67 (c : Cond) : zCV (c :: zT) "TreeCountsLaw" "TreeCounts" 67 ky_C_tours kb_C_tours 1 (some FieldType.long) (kh_C_tours :: zT) 0 := mk_cv c (zin 461 rfl rfl) (zin 462 rfl rfl) (zin 463 rfl rfl) (zin 50 rfl rfl) kz_C_tours ⟨rfl, by decide, by decide, by decide +kernel⟩
set_option maxRecDepth 100000 in
theorem kg_W_70 (c : Cond) : zCV (c :: zT) "TreeCountsLaw" "TreeCountsModel" 70 ky_M_tours kb_M_tours 9 (some FieldType.long) (kh_M_tours :: zT) 0 := mk_cv c (zin 940 rfl rfl) (zin 941 rfl rfl) (zin 942 rfl rfl) (zin 59 rfl rfl) kz_M_tours ⟨rfl, by decide, by decide, by decide +kernel⟩
set_option maxRecDepth 100000 in
theorem kg_W_73 (c : Cond) : zCV (c :: zT) "TreeCountsLaw" "TreeCounts" 73 ky_C_drawn kb_C_drawn 3 (some FieldType.int) (kh_C_drawn :: zT) 1 := mk_cv c (zin 480 rfl rfl) (zin 481 rfl rfl) (zin 482 rfl rfl) (zin 50 rfl rfl) kz_C_drawn ⟨rfl, by decide, by decide, by decide +kernel⟩
set_option maxRecDepth 100000 in
theorem kg_W_77 (c : Cond) : zCV (c :: zT) "TreeCountsLaw" "TreeCountsModel" 77 ky_M_drawn kb_M_drawn 10 (some FieldType.int) (kh_M_drawn :: zT) 1 := mk_cv c (zin 948 rfl rfl) (zin 949 rfl rfl) (zin 950 rfl rfl) (zin 59 rfl rfl) kz_M_drawn ⟨rfl, by decide, by decide, by decide +kernel⟩
set_option maxRecDepth 100000 in
theorem kg_W_78 (c : Cond) : zCV (c :: zT) "TreeCountsLaw" "TreeCounts" 78 ky_C_place kb_C_place 2 (some FieldType.long) (kh_C_place :: zT) 1 := mk_cv c (zin 504 rfl rfl) (zin 505 rfl rfl) (zin 506 rfl rfl) (zin 50 rfl rfl) kz_C_place ⟨rfl, by decide, by decide, by decide +kernel⟩
set_option maxRecDepth 100000 in
theorem kg_W_81 (c : Cond) : zCV (c :: zT) "TreeCountsLaw" "TreeCountsModel" 81 ky_M_place kb_M_place 11 (some FieldType.long) (kh_M_place :: zT) 1 := mk_cv c (zin 956 rfl rfl) (zin 957 rfl rfl) (zin 958 rfl rfl) (zin 59 rfl rfl) kz_M_place ⟨rfl, by decide, by decide, by decide +kernel⟩
set_option maxRecDepth 100000 in
theorem kg_W_82 (c : Cond) : zCV (c :: zT) "TreeCountsLaw" "TreeCounts" 82 ky_C_ring kb_C_ring 3 (some FieldType.int) (kh_C_ring :: zT) 2 := mk_cv c (zin 516 rfl rfl) (zin 517 rfl rfl) (zin 518 rfl rfl) (zin 50 rfl rfl) kz_C_ring ⟨rfl, by decide, by decide, by decide +kernel⟩
set_option maxRecDepth 100000 in
theorem kg_W_85 (c : Cond) : zCV (c :: zT) "TreeCountsLaw" "TreeCountsModel" 85 ky_M_ring kb_M_ring 3 (some FieldType.int) (kh_M_ring :: zT) 2 := mk_cv c (zin 960 rfl rfl) (zin 961 rfl rfl) (zin 962 rfl rfl) (zin 59 rfl rfl) kz_M_ring ⟨rfl, by decide, by decide, by decide +kernel⟩
set_option maxRecDepth 100000 in
theorem kg_W_86 (c : Cond) : zCV (c :: zT) "TreeCountsLaw" "TreeCounts" 86 ky_C_group kb_C_group 2 (some FieldType.long) (kh_C_group :: zT) 1 := mk_cv c (zin 542 rfl rfl) (zin 543 rfl rfl) (zin 544 rfl rfl) (zin 50 rfl rfl) kz_C_group ⟨rfl, by decide, by decide, by decide +kernel⟩
set_option maxRecDepth 100000 in
theorem kg_W_89 (c : Cond) : zCV (c :: zT) "TreeCountsLaw" "TreeCountsModel" 89 ky_M_group kb_M_group 2 (some FieldType.long) (kh_M_group :: zT) 1 := mk_cv c (zin 972 rfl rfl) (zin 973 rfl rfl) (zin 974 rfl rfl) (zin 59 rfl rfl) kz_M_group ⟨rfl, by decide, by decide, by decide +kernel⟩
set_option maxRecDepth 100000 in
theorem kg_W_90 (c : Cond) : zCV (c :: zT) "TreeCountsLaw" "TreeCounts" 90 ky_C_chips kb_C_chips 5 (some FieldType.long) (kh_C_chips :: zT) 2 := mk_cv c (zin 597 rfl rfl) (zin 598 rfl rfl) (zin 599 rfl rfl) (zin 50 rfl rfl) kz_C_chips ⟨rfl, by decide, by decide, by decide +kernel⟩
set_option maxRecDepth 100000 in
theorem kg_W_93 (c : Cond) : zCV (c :: zT) "TreeCountsLaw" "TreeCountsModel" 93 ky_M_chips kb_M_chips 5 (some FieldType.long) (kh_M_chips :: zT) 2 := mk_cv c (zin 1011 rfl rfl) (zin 1012 rfl rfl) (zin 1013 rfl rfl) (zin 59 rfl rfl) kz_M_chips ⟨rfl, by decide, by decide, by decide +kernel⟩
set_option maxRecDepth 100000 in
theorem kg_W_94 (c : Cond) : zCV (c :: zT) "TreeCountsLaw" "TreeCounts" 94 ky_C_level kb_C_level 2 (some FieldType.long) (kh_C_level :: zT) 1 := mk_cv c (zin 601 rfl rfl) (zin 602 rfl rfl) (zin 603 rfl rfl) (zin 50 rfl rfl) kz_C_level ⟨rfl, by decide, by decide, by decide +kernel⟩
set_option maxRecDepth 100000 in
theorem kg_W_97 (c : Cond) : zCV (c :: zT) "TreeCountsLaw" "TreeCountsModel" 97 ky_M_level kb_M_level 2 (some FieldType.long) (kh_M_level :: zT) 1 := mk_cv c (zin 1015 rfl rfl) (zin 1016 rfl rfl) (zin 1017 rfl rfl) (zin 59 rfl rfl) kz_M_level ⟨rfl, by decide, by decide, by decide +kernel⟩
set_option maxRecDepth 100000 in
theorem kg_W_98 (c : Cond) : zCV (c :: zT) "TreeCountsLaw" "TreeCounts" 98 ky_C_settle kb_C_settle 2 (some FieldType.long) (kh_C_settle :: zT) 1 := mk_cv c (zin 605 rfl rfl) (zin 606 rfl rfl) (zin 607 rfl rfl) (zin 50 rfl rfl) kz_C_settle ⟨rfl, by decide, by decide, by decide +kernel⟩
set_option maxRecDepth 100000 in
theorem kg_W_101 (c : Cond) : zCV (c :: zT) "TreeCountsLaw" "TreeCountsModel" 101 ky_M_settle kb_M_settle 5 (some FieldType.long) (kh_M_settle :: zT) 1 := mk_cv c (zin 1019 rfl rfl) (zin 1020 rfl rfl) (zin 1021 rfl rfl) (zin 59 rfl rfl) kz_M_settle ⟨rfl, by decide, by decide, by decide +kernel⟩
set_option maxRecDepth 100000 in
theorem kg_W_102 (c : Cond) : zCV (c :: zT) "TreeCountsLaw" "TreeCounts" 102 ky_C_fired kb_C_fired 2 (some FieldType.long) (kh_C_fired :: zT) 1 := mk_cv c (zin 627 rfl rfl) (zin 628 rfl rfl) (zin 629 rfl rfl) (zin 50 rfl rfl) kz_C_fired ⟨rfl, by decide, by decide, by decide +kernel⟩
set_option maxRecDepth 100000 in
theorem kg_W_105 (c : Cond) : zCV (c :: zT) "TreeCountsLaw" "TreeCountsModel" 105 ky_M_fired kb_M_fired 2 (some FieldType.long) (kh_M_fired :: zT) 1 := mk_cv c (zin 1039 rfl rfl) (zin 1040 rfl rfl) (zin 1041 rfl rfl) (zin 59 rfl rfl) kz_M_fired ⟨rfl, by decide, by decide, by decide +kernel⟩
set_option maxRecDepth 100000 in
theorem kg_W_106 (c : Cond) : zCV (c :: zT) "TreeCountsLaw" "TreeCounts" 106 ky_C_recurrent kb_C_recurrent 2 (some FieldType.int) (kh_C_recurrent :: zT) 1 := mk_cv c (zin 631 rfl rfl) (zin 632 rfl rfl) (zin 633 rfl rfl) (zin 50 rfl rfl) kz_C_recurrent ⟨rfl, by decide, by decide, by decide +kernel⟩
set_option maxRecDepth 100000 in
theorem kg_W_110 (c : Cond) : zCV (c :: zT) "TreeCountsLaw" "TreeCountsModel" 110 ky_M_recurrent kb_M_recurrent 6 (some FieldType.int) (kh_M_recurrent :: zT) 1 := mk_cv c (zin 1043 rfl rfl) (zin 1044 rfl rfl) (zin 1045 rfl rfl) (zin 59 rfl rfl) kz_M_recurrent ⟨rfl, by decide, by decide, by decide +kernel⟩
set_option maxRecDepth 100000 in
theorem kg_W_116 (c : Cond) : zCV (c :: zT) "TreeCountsLaw" "TreeCountsModel" 116 ky_M_point kb_M_point 11 (some FieldType.long) (kh_M_point :: zT) 2 := mk_cv c (zin 1047 rfl rfl) (zin 1048 rfl rfl) (zin 1049 rfl rfl) (zin 59 rfl rfl) kz_M_point ⟨rfl, by decide, by decide, by decide +kernel⟩
set_option maxRecDepth 100000 in
theorem kg_W_117 (c : Cond) : zCV (c :: zT) "TreeCountsLaw" "TreeCountsModel" 117 ky_M_thrown kb_M_thrown 1 (some FieldType.int) (kh_M_thrown :: zT) 0 := mk_cv c (zin 839 rfl rfl) (zin 840 rfl rfl) (zin 841 rfl rfl) (zin 59 rfl rfl) kz_M_thrown ⟨rfl, by decide, by decide, by decide +kernel⟩
set_option maxRecDepth 100000 in
theorem kg_W_120 (c : Cond) : zCV (c :: zT) "TreeCountsLaw" "TreeCounts" 120 ky_C_told kb_C_told 2 (some FieldType.int) (kh_C_told :: zT) 1 := mk_cv c (zin 639 rfl rfl) (zin 640 rfl rfl) (zin 641 rfl rfl) (zin 50 rfl rfl) kz_C_told ⟨rfl, by decide, by decide, by decide +kernel⟩
set_option maxRecDepth 100000 in
theorem kg_W_123 (c : Cond) : zCV (c :: zT) "TreeCountsLaw" "TreeCountsModel" 123 ky_M_told kb_M_told 2 (some FieldType.int) (kh_M_told :: zT) 1 := mk_cv c (zin 1058 rfl rfl) (zin 1059 rfl rfl) (zin 1060 rfl rfl) (zin 59 rfl rfl) kz_M_told ⟨rfl, by decide, by decide, by decide +kernel⟩
set_option maxRecDepth 100000 in
theorem kg_W_124 (c : Cond) : zCV (c :: zT) "TreeCountsLaw" "TreeCounts" 124 ky_C_clear kb_C_clear 1 none (kh_C_clear :: zT) 0 := mk_cv c (zin 653 rfl rfl) (zin 654 rfl rfl) (zin 655 rfl rfl) (zin 50 rfl rfl) kz_C_clear ⟨rfl, by decide, by decide, by decide +kernel⟩
set_option maxRecDepth 100000 in
theorem kg_W_127 (c : Cond) : zCV (c :: zT) "TreeCountsLaw" "TreeCountsModel" 127 ky_M_clear kb_M_clear 1 none (kh_M_clear :: zT) 0 := mk_cv c (zin 1062 rfl rfl) (zin 1063 rfl rfl) (zin 1064 rfl rfl) (zin 59 rfl rfl) kz_M_clear ⟨rfl, by decide, by decide, by decide +kernel⟩
set_option maxRecDepth 100000 in
theorem kg_M_76 (c : Cond) : zCV (c :: zT) "TreeCountsModel" "TreeCountsModel" 76 ky_M_isNode kb_M_isNode 2 (some FieldType.boolean) (kh_M_isNode :: zT) 1 := mk_cv c (zin 851 rfl rfl) (zin 853 rfl rfl) (zin 21 rfl rfl) (zin 59 rfl rfl) kz_M_isNode ⟨rfl, by decide, by decide, by decide +kernel⟩
set_option maxRecDepth 100000 in
theorem kg_M_85 (c : Cond) : zCS (c :: zT) "TreeCountsModel" 85 ky_M_power kb_M_power 12 (some FieldType.long) (kh_M_power :: zT) 3 := mk_cs c (zin 909 rfl rfl) (zin 910 rfl rfl) (zin 59 rfl rfl) kz_M_power ⟨rfl, by decide, by decide, by decide +kernel⟩
set_option maxRecDepth 100000 in
theorem kg_M_91 (c : Cond) : zCV (c :: zT) "TreeCountsModel" "TreeCountsModel" 91 ky_M_modulo kb_M_modulo 14 (some FieldType.long) (kh_M_modulo :: zT) 2 := mk_cv c (zin 904 rfl rfl) (zin 906 rfl rfl) (zin 31 rfl rfl) (zin 59 rfl rfl) kz_M_modulo ⟨rfl, by decide, by decide, by decide +kernel⟩
set_option maxRecDepth 100000 in
theorem kg_M_99 (c : Cond) : zCV (c :: zT) "TreeCountsModel" "TreeCountsModel" 99 ky_M_isFirst kb_M_isFirst 4 (some FieldType.boolean) (kh_M_isFirst :: zT) 1 := mk_cv c (zin 883 rfl rfl) (zin 885 rfl rfl) (zin 26 rfl rfl) (zin 59 rfl rfl) kz_M_isFirst ⟨rfl, by decide, by decide, by decide +kernel⟩
set_option maxRecDepth 100000 in
theorem kg_M_102 (c : Cond) : zCV (c :: zT) "TreeCountsModel" "TreeCountsModel" 102 ky_M_clearRows kb_M_clearRows 2 none (kh_M_clearRows :: zT) 0 := mk_cv c (zin 891 rfl rfl) (zin 893 rfl rfl) (zin 28 rfl rfl) (zin 59 rfl rfl) kz_M_clearRows ⟨rfl, by decide, by decide, by decide +kernel⟩
set_option maxRecDepth 100000 in
theorem kg_M_105 (c : Cond) : zCV (c :: zT) "TreeCountsModel" "TreeCountsModel" 105 ky_M_addTo kb_M_addTo 5 none (kh_M_addTo :: zT) 3 := mk_cv c (zin 895 rfl rfl) (zin 897 rfl rfl) (zin 29 rfl rfl) (zin 59 rfl rfl) kz_M_addTo ⟨rfl, by decide, by decide, by decide +kernel⟩
set_option maxRecDepth 100000 in
theorem kg_M_109 (c : Cond) : zCV (c :: zT) "TreeCountsModel" "TreeCountsModel" 109 ky_M_number kb_M_number 7 (some FieldType.int) (kh_M_number :: zT) 2 := mk_cv c (zin 879 rfl rfl) (zin 881 rfl rfl) (zin 25 rfl rfl) (zin 59 rfl rfl) kz_M_number ⟨rfl, by decide, by decide, by decide +kernel⟩
set_option maxRecDepth 100000 in
theorem kg_M_113 (c : Cond) : zCV (c :: zT) "TreeCountsModel" "TreeCountsModel" 113 ky_M_rows kb_M_rows 6 none (kh_M_rows :: zT) 1 := mk_cv c (zin 887 rfl rfl) (zin 889 rfl rfl) (zin 27 rfl rfl) (zin 59 rfl rfl) kz_M_rows ⟨rfl, by decide, by decide, by decide +kernel⟩
set_option maxRecDepth 100000 in
theorem kg_M_117 (c : Cond) : zCV (c :: zT) "TreeCountsModel" "TreeCountsModel" 117 ky_M_determinant kb_M_determinant 8 (some FieldType.long) (kh_M_determinant :: zT) 1 := mk_cv c (zin 899 rfl rfl) (zin 901 rfl rfl) (zin 30 rfl rfl) (zin 59 rfl rfl) kz_M_determinant ⟨rfl, by decide, by decide, by decide +kernel⟩
set_option maxRecDepth 100000 in
theorem kg_M_121 (c : Cond) : zCV (c :: zT) "TreeCountsModel" "TreeCountsModel" 121 ky_M_apartAll kb_M_apartAll 2 none (kh_M_apartAll :: zT) 0 := mk_cv c (zin 867 rfl rfl) (zin 869 rfl rfl) (zin 22 rfl rfl) (zin 59 rfl rfl) kz_M_apartAll ⟨rfl, by decide, by decide, by decide +kernel⟩
set_option maxRecDepth 100000 in
theorem kg_M_124 (c : Cond) : zCV (c :: zT) "TreeCountsModel" "TreeCountsModel" 124 ky_M_noneOut kb_M_noneOut 2 none (kh_M_noneOut :: zT) 0 := mk_cv c (zin 871 rfl rfl) (zin 873 rfl rfl) (zin 23 rfl rfl) (zin 59 rfl rfl) kz_M_noneOut ⟨rfl, by decide, by decide, by decide +kernel⟩
set_option maxRecDepth 100000 in
theorem kg_M_127 (c : Cond) : zCV (c :: zT) "TreeCountsModel" "TreeCountsModel" 127 ky_M_count kb_M_count 2 (some FieldType.long) (kh_M_count :: zT) 0 := mk_cv c (zin 875 rfl rfl) (zin 877 rfl rfl) (zin 24 rfl rfl) (zin 59 rfl rfl) kz_M_count ⟨rfl, by decide, by decide, by decide +kernel⟩
set_option maxRecDepth 100000 in
theorem kg_M_133 (c : Cond) : zCV (c :: zT) "TreeCountsModel" "TreeCountsModel" 133 ky_M_trees kb_M_trees 1 (some FieldType.long) (kh_M_trees :: zT) 0 := mk_cv c (zin 919 rfl rfl) (zin 864 rfl rfl) (zin 865 rfl rfl) (zin 59 rfl rfl) kz_M_trees ⟨rfl, by decide, by decide, by decide +kernel⟩
set_option maxRecDepth 100000 in
theorem kg_M_136 (c : Cond) : zCV (c :: zT) "TreeCountsModel" "TreeCountsModel" 136 ky_M_apart kb_M_apart 4 (some FieldType.long) (kh_M_apart :: zT) 2 := mk_cv c (zin 936 rfl rfl) (zin 929 rfl rfl) (zin 930 rfl rfl) (zin 59 rfl rfl) kz_M_apart ⟨rfl, by decide, by decide, by decide +kernel⟩
set_option maxRecDepth 100000 in
theorem kg_M_140 (c : Cond) : zCS (c :: zT) "TreeCountsModel" 140 ky_M_gcd kb_M_gcd 10 (some FieldType.long) (kh_M_gcd :: zT) 2 := mk_cs c (zin 937 rfl rfl) (zin 938 rfl rfl) (zin 59 rfl rfl) kz_M_gcd ⟨rfl, by decide, by decide, by decide +kernel⟩
set_option maxRecDepth 100000 in
theorem kg_M_144 (c : Cond) : zCV (c :: zT) "TreeCountsModel" "TreeCountsModel" 144 ky_M_join kb_M_join 6 (some FieldType.boolean) (kh_M_join :: zT) 2 := mk_cv c (zin 944 rfl rfl) (zin 946 rfl rfl) (zin 32 rfl rfl) (zin 59 rfl rfl) kz_M_join ⟨rfl, by decide, by decide, by decide +kernel⟩
set_option maxRecDepth 100000 in
theorem kg_M_152 (c : Cond) : zCV (c :: zT) "TreeCountsModel" "TreeCountsModel" 152 ky_M_with kb_M_with 6 (some FieldType.long) (kh_M_with :: zT) 1 := mk_cv c (zin 952 rfl rfl) (zin 954 rfl rfl) (zin 33 rfl rfl) (zin 59 rfl rfl) kz_M_with ⟨rfl, by decide, by decide, by decide +kernel⟩
set_option maxRecDepth 100000 in
theorem kg_M_158 (c : Cond) : zCV (c :: zT) "TreeCountsModel" "TreeCountsModel" 158 ky_M_takeTrees kb_M_takeTrees 3 (some FieldType.int) (kh_M_takeTrees :: zT) 0 := mk_cv c (zin 964 rfl rfl) (zin 966 rfl rfl) (zin 34 rfl rfl) (zin 59 rfl rfl) kz_M_takeTrees ⟨rfl, by decide, by decide, by decide +kernel⟩
set_option maxRecDepth 100000 in
theorem kg_M_162 (c : Cond) : zCV (c :: zT) "TreeCountsModel" "TreeCountsModel" 162 ky_M_ringOf kb_M_ringOf 8 none (kh_M_ringOf :: zT) 1 := mk_cv c (zin 968 rfl rfl) (zin 970 rfl rfl) (zin 35 rfl rfl) (zin 59 rfl rfl) kz_M_ringOf ⟨rfl, by decide, by decide, by decide +kernel⟩
set_option maxRecDepth 100000 in
theorem kg_M_166 (c : Cond) : zCS (c :: zT) "TreeCountsModel" 166 ky_M_times kb_M_times 12 (some FieldType.long) (kh_M_times :: zT) 3 := mk_cs c (zin 992 rfl rfl) (zin 993 rfl rfl) (zin 59 rfl rfl) kz_M_times ⟨rfl, by decide, by decide, by decide +kernel⟩
set_option maxRecDepth 100000 in
theorem kg_M_169 (c : Cond) : zCV (c :: zT) "TreeCountsModel" "TreeCountsModel" 169 ky_M_lessRow kb_M_lessRow 9 none (kh_M_lessRow :: zT) 5 := mk_cv c (zin 988 rfl rfl) (zin 990 rfl rfl) (zin 39 rfl rfl) (zin 59 rfl rfl) kz_M_lessRow ⟨rfl, by decide, by decide, by decide +kernel⟩
set_option maxRecDepth 100000 in
theorem kg_M_173 (c : Cond) : zCV (c :: zT) "TreeCountsModel" "TreeCountsModel" 173 ky_M_swapRows kb_M_swapRows 7 none (kh_M_swapRows :: zT) 3 := mk_cv c (zin 995 rfl rfl) (zin 997 rfl rfl) (zin 40 rfl rfl) (zin 59 rfl rfl) kz_M_swapRows ⟨rfl, by decide, by decide, by decide +kernel⟩
set_option maxRecDepth 100000 in
theorem kg_M_177 (c : Cond) : zCV (c :: zT) "TreeCountsModel" "TreeCountsModel" 177 ky_M_lessColumn kb_M_lessColumn 9 none (kh_M_lessColumn :: zT) 5 := mk_cv c (zin 999 rfl rfl) (zin 1001 rfl rfl) (zin 41 rfl rfl) (zin 59 rfl rfl) kz_M_lessColumn ⟨rfl, by decide, by decide, by decide +kernel⟩
set_option maxRecDepth 100000 in
theorem kg_M_180 (c : Cond) : zCV (c :: zT) "TreeCountsModel" "TreeCountsModel" 180 ky_M_swapColumns kb_M_swapColumns 7 none (kh_M_swapColumns :: zT) 3 := mk_cv c (zin 1003 rfl rfl) (zin 1005 rfl rfl) (zin 42 rfl rfl) (zin 59 rfl rfl) kz_M_swapColumns ⟨rfl, by decide, by decide, by decide +kernel⟩
set_option maxRecDepth 100000 in
theorem kg_M_186 (c : Cond) : zCV (c :: zT) "TreeCountsModel" "TreeCountsModel" 186 ky_M_commonFrom kb_M_commonFrom 9 (some FieldType.long) (kh_M_commonFrom :: zT) 3 := mk_cv c (zin 980 rfl rfl) (zin 982 rfl rfl) (zin 37 rfl rfl) (zin 59 rfl rfl) kz_M_commonFrom ⟨rfl, by decide, by decide, by decide +kernel⟩
set_option maxRecDepth 100000 in
theorem kg_M_190 (c : Cond) : zCV (c :: zT) "TreeCountsModel" "TreeCountsModel" 190 ky_M_clearCross kb_M_clearCross 7 none (kh_M_clearCross :: zT) 3 := mk_cv c (zin 984 rfl rfl) (zin 986 rfl rfl) (zin 38 rfl rfl) (zin 59 rfl rfl) kz_M_clearCross ⟨rfl, by decide, by decide, by decide +kernel⟩
set_option maxRecDepth 100000 in
theorem kg_M_193 (c : Cond) : zCV (c :: zT) "TreeCountsModel" "TreeCountsModel" 193 ky_M_isOther kb_M_isOther 10 (some FieldType.boolean) (kh_M_isOther :: zT) 4 := mk_cv c (zin 1007 rfl rfl) (zin 1009 rfl rfl) (zin 43 rfl rfl) (zin 59 rfl rfl) kz_M_isOther ⟨rfl, by decide, by decide, by decide +kernel⟩
set_option maxRecDepth 100000 in
theorem kg_M_197 (c : Cond) : zCV (c :: zT) "TreeCountsModel" "TreeCountsModel" 197 ky_M_findRounds kb_M_findRounds 10 (some FieldType.boolean) (kh_M_findRounds :: zT) 0 := mk_cv c (zin 976 rfl rfl) (zin 978 rfl rfl) (zin 36 rfl rfl) (zin 59 rfl rfl) kz_M_findRounds ⟨rfl, by decide, by decide, by decide +kernel⟩
set_option maxRecDepth 100000 in
theorem kg_M_201 (c : Cond) : zCV (c :: zT) "TreeCountsModel" "TreeCountsModel" 201 ky_M_degree kb_M_degree 5 (some FieldType.long) (kh_M_degree :: zT) 1 := mk_cv c (zin 1031 rfl rfl) (zin 1033 rfl rfl) (zin 46 rfl rfl) (zin 59 rfl rfl) kz_M_degree ⟨rfl, by decide, by decide, by decide +kernel⟩
set_option maxRecDepth 100000 in
theorem kg_M_204 (c : Cond) : zCV (c :: zT) "TreeCountsModel" "TreeCountsModel" 204 ky_M_fireNode kb_M_fireNode 6 none (kh_M_fireNode :: zT) 2 := mk_cv c (zin 1035 rfl rfl) (zin 1037 rfl rfl) (zin 47 rfl rfl) (zin 59 rfl rfl) kz_M_fireNode ⟨rfl, by decide, by decide, by decide +kernel⟩
set_option maxRecDepth 100000 in
theorem kg_M_208 (c : Cond) : zCV (c :: zT) "TreeCountsModel" "TreeCountsModel" 208 ky_M_beginPile kb_M_beginPile 2 none (kh_M_beginPile :: zT) 0 := mk_cv c (zin 1023 rfl rfl) (zin 1025 rfl rfl) (zin 44 rfl rfl) (zin 59 rfl rfl) kz_M_beginPile ⟨rfl, by decide, by decide, by decide +kernel⟩
set_option maxRecDepth 100000 in
theorem kg_M_211 (c : Cond) : zCV (c :: zT) "TreeCountsModel" "TreeCountsModel" 211 ky_M_settlePile kb_M_settlePile 8 (some FieldType.long) (kh_M_settlePile :: zT) 1 := mk_cv c (zin 1027 rfl rfl) (zin 1029 rfl rfl) (zin 45 rfl rfl) (zin 59 rfl rfl) kz_M_settlePile ⟨rfl, by decide, by decide, by decide +kernel⟩
set_option maxRecDepth 100000 in
theorem kg_M_214 (c : Cond) : zCV (c :: zT) "TreeCountsModel" "TreeCountsModel" 214 ky_M_rank kb_M_rank 4 (some FieldType.int) (kh_M_rank :: zT) 1 := mk_cv c (zin 1051 rfl rfl) (zin 1053 rfl rfl) (zin 48 rfl rfl) (zin 59 rfl rfl) kz_M_rank ⟨rfl, by decide, by decide, by decide +kernel⟩
set_option maxRecDepth 100000 in
theorem kg_M_218 (c : Cond) : zCS (c :: zT) "TreeCountsModel" 218 ky_M_powerOf kb_M_powerOf 6 (some FieldType.long) (kh_M_powerOf :: zT) 2 := mk_cs c (zin 1055 rfl rfl) (zin 1056 rfl rfl) (zin 59 rfl rfl) kz_M_powerOf ⟨rfl, by decide, by decide, by decide +kernel⟩
