/-! the world: cells by number; kinds, fields, refs -/
abbrev gz_S : Type := (Nat → Nat → Int32) × (Nat → Nat → Int64) × (Nat → Option Nat)
/-- laws, evenings, how long the rows of those are -/
abbrev gz_L : Type := Nat × Nat × (Nat → Nat)
def gz_st : List (Nat × Nat) := [(0, 11), (0, 9), (0, 7), (0, 4), (0, 1), (0, 6), (0, 6), (0, 6), (0, 10), (0, 5), (0, 2), (0, 8), (4, 4), (5, 4), (1, 240), (1, 4), (1, 16), (1, 30), (1, 5), (1, 241), (1, 48), (1, 61), (1, 61), (1, 61), (1, 6), (1, 240), (1, 2000), (1, 100), (1, 50), (1, 100), (1, 30), (1, 16), (1, 16), (1, 10), (1, 10), (1, 10), (1, 496), (1, 30), (3, 1), (0, 12), (2, 240), (2, 960), (1, 4), (1, 128), (1, 4), (1, 4), (1, 16), (1, 16), (1, 30), (1, 30), (1, 5), (1, 240), (1, 5), (1, 231), (1, 231), (1, 8191), (1, 8191), (1, 9240), (1, 30), (1, 30), (1, 496), (1, 30), (1, 357), (1, 231)]
def gz_kd (La : gz_L) (j : Nat) : Nat × Nat := if j < 64 then gz_st.getD j (9, 0) else
  if 100 ≤ j ∧ j < 108 ∧ j < 100 + 2 * La.1 then (if (j - 100) % 2 = 0 then (0, 3) else (1, La.2.2 j)) else
  if 110 ≤ j ∧ j < 118 ∧ j < 110 + 2 * La.2.1 then (if (j - 110) % 2 = 0 then (0, 0) else (1, La.2.2 j)) else (9, 0)
def gz_lv (La : gz_L) : List Nat := List.range 64 ++ ((List.range (2 * La.1)).map (fun i => 100 + i) ++ (List.range (2 * La.2.1)).map (fun i => 110 + i))
def gz_ftt : List (List Nat) := [[0, 2], [2, 2, 0], [0, 0, 2, 2, 2, 0, 2, 2, 2], [2], [2, 2, 0], [0, 2, 2, 2, 2, 0, 0], [2], [2, 2, 2, 2, 2, 0, 0, 0], [0, 2, 2, 2, 2, 2, 2, 2, 2], [2, 0, 0, 0, 0], [2, 0, 0, 2, 2], [2, 2, 2, 2, 2, 2, 2, 2, 2, 2, 2, 2, 2, 0, 0, 0, 0, 1], [0, 2, 2, 2, 2, 2, 0, 0, 0, 0, 0, 0, 0, 0, 0, 2, 2, 0, 2, 2, 2, 2, 2, 2, 2, 2, 2, 0, 0, 0, 0, 0, 2, 2, 0, 0, 2, 2, 0, 0, 2, 0, 1, 2, 2, 2, 2, 0, 2, 2, 0]]
def gz_ft (ci k : Nat) : Nat := (gz_ftt.getD ci []).getD k 2
def gz_nf (ci : Nat) : Nat := (gz_ftt.getD ci []).length
def gz_rft : List (List (Option Nat)) := [[some 1, some 2, some 3, some 4, some 12, some 13, some 5, some 6, some 7, some 8, some 9, some 10, some 11, none, none, none, none, none], [some 14, none, none, none, none], [some 1, some 15, some 16, some 17, some 18, none, none, none], [some 1, some 19, none], [some 1, some 20, none], [some 21], [some 22], [some 23], [none, none, none, some 24, some 25], [none, some 26, some 27, some 28, some 29, none, none], [none, none, some 6, some 7, some 8, none, some 30, some 31, some 32], [none, some 5, some 7, some 8, some 33, some 34, some 35, some 36, some 37], [], [], [], [], [], [], [], [], [], [], [], [], [], [], [], [], [], [], [], [], [], [], [], [], [], [], [], [none, some 40, some 41, some 42, some 43, none, none, none, none, none, none, none, none, none, none, some 210, some 211, none, some 44, some 45, some 46, some 47, some 48, some 49, some 50, some 51, some 52, none, none, none, none, none, some 53, some 54, none, none, some 55, some 56, none, none, some 57, none, none, some 58, some 59, some 60, some 61, none, some 62, some 63, none]]
/-- what a ref of cell j, place k, is: the few that change first -/
def gz_rf (La : gz_L) (g : gz_S) (j k : Nat) : Option Nat :=
  if j = 8 ∧ k = 0 then g.2.2 0 else if j = 39 ∧ k = 5 then g.2.2 1 else
  if j < 40 then (if j = 12 then (if k < La.1 then some (100 + 2 * k) else none) else if j = 13 then (if k < La.2.1 then some (110 + 2 * k) else none) else ((gz_rft.getD j []).getD k none)) else
  if (100 ≤ j ∧ j < 108 ∧ k = 0) ∨ (110 ≤ j ∧ j < 118 ∧ k = 1) then some (j + 1) else none
def gz_fv (La : gz_L) (a : Nat → Nat) (g : gz_S) (j ci k : Nat) : Value :=
  if gz_ft ci k = 0 then .int (g.1 j k) else if gz_ft ci k = 1 then .long (g.2.1 j k) else va_rf ((gz_rf La g j k).map a)
def gz_ce (cs : Nat → ClassId) (La : gz_L) (a : Nat → Nat) (g : gz_S) (j : Nat) : va_E :=
  if (gz_kd La j).1 = 0 then .inr ((gz_kd La j).2, (List.range (gz_nf (gz_kd La j).2)).map (gz_fv La a g j (gz_kd La j).2)) else
  if (gz_kd La j).1 = 1 then .inl (cs 0, (gz_kd La j).2, .inl (g.1 j)) else
  if (gz_kd La j).1 = 2 then .inl (cs 1, (gz_kd La j).2, .inl (g.1 j)) else
  if (gz_kd La j).1 = 3 then .inl (cs 2, (gz_kd La j).2, .inr (.inl (g.2.1 j))) else
  if (gz_kd La j).1 = 4 then .inl (cs 3, (gz_kd La j).2, .inr (.inr (.inr (.inr (fun i => (gz_rf La g j i).map a))))) else
  .inl (cs 4, (gz_kd La j).2, .inr (.inr (.inr (.inr (fun i => (gz_rf La g j i).map a)))))
def gz_w (cs : Nat → ClassId) (La : gz_L) (a : Nat → Nat) (g : gz_S) : va_W := (gz_lv La).map (fun j => (a j, gz_ce cs La a g j))
def gz_ty (cs : Nat → ClassId) : List (ClassId × FieldType) := [(cs 0, .int), (cs 1, .byte), (cs 2, .long), (cs 3, .object "PrintsGoOn$Law"), (cs 4, .object "PrintsGoOn$Evening")]
/-- a cell that is there -/
theorem gz_in {La : gz_L} {j : Nat} (h : (gz_kd La j).1 < 9) : j ∈ gz_lv La := by
  unfold gz_kd at h
  unfold gz_lv
  simp only [List.mem_append, List.mem_range, List.mem_map]
  by_cases h1 : j < 64
  · exact Or.inl h1
  · rw [if_neg h1] at h
    by_cases h2 : 100 ≤ j ∧ j < 108 ∧ j < 100 + 2 * La.1
    · exact Or.inr (Or.inl ⟨j - 100, by omega, by omega⟩)
    · rw [if_neg h2] at h
      by_cases h3 : 110 ≤ j ∧ j < 118 ∧ j < 110 + 2 * La.2.1
      · exact Or.inr (Or.inr ⟨j - 110, by omega, by omega⟩)
      · rw [if_neg h3] at h
        exact absurd h (by decide)
theorem gz_at {cs : Nat → ClassId} {La : gz_L} {a : Nat → Nat} {g : gz_S} {j : Nat} (h : (gz_kd La j).1 < 9) : ∃ q : Nat, (gz_lv La)[q]? = some j ∧ (gz_w cs La a g)[q]? = some (a j, gz_ce cs La a g j) := by
  obtain ⟨q, hq⟩ := List.getElem?_of_mem (gz_in h)
  exact ⟨q, hq, by unfold gz_w; rw [List.getElem?_map, hq]; rfl⟩
/-- another store that differs at one cell alone -/
theorem gz_set {cs : Nat → ClassId} {La : gz_L} {a : Nat → Nat} {g g' : gz_S} {j q : Nat} {A : Nat → Prop} {e : va_E} (hD : va_D A (gz_w cs La a g)) (hq : (gz_lv La)[q]? = some j) (he : gz_ce cs La a g' j = e) (ho : ∀ i, i ≠ j → gz_ce cs La a g' i = gz_ce cs La a g i) : (gz_w cs La a g).set q (a j, e) = gz_w cs La a g' := by
  apply List.ext_getElem?
  intro n
  unfold gz_w
  rw [List.getElem?_set]
  by_cases hn : q = n
  · subst hn
    have hlt : q < ((gz_lv La).map (fun j => (a j, gz_ce cs La a g j))).length := by
      rw [List.length_map]; exact (List.getElem?_eq_some_iff.mp hq).1
    rw [if_pos rfl, if_pos hlt, List.getElem?_map, hq, ← he]
    rfl
  · rw [if_neg hn, List.getElem?_map, List.getElem?_map]
    cases hi : (gz_lv La)[n]? with
    | none => rfl
    | some i =>
      have hij : i ≠ j := by
        intro hij
        subst hij
        have h1 : (gz_w cs La a g)[q]? = some (a i, gz_ce cs La a g i) := by unfold gz_w; rw [List.getElem?_map, hq]; rfl
        have h2 : (gz_w cs La a g)[n]? = some (a i, gz_ce cs La a g i) := by unfold gz_w; rw [List.getElem?_map, hi]; rfl
        exact hn (hD.1 q n _ _ h1 h2 rfl)
      simp only [Option.map_some, ho i hij]
def gz_kR (ci : Nat) : String := if ci = 0 then RX0 else if ci = 1 then RX1 else if ci = 2 then RX2 else if ci = 3 then RX3 else if ci = 4 then RX4 else if ci = 5 then RX5 else if ci = 6 then RX6 else if ci = 7 then RX7 else if ci = 8 then RX8 else if ci = 9 then RX9 else if ci = 10 then RX10 else if ci = 11 then RX11 else RX12
def gz_kT (ci : Nat) : u_T := if ci = 0 then TX0 else if ci = 1 then TX1 else if ci = 2 then TX2 else if ci = 3 then TX3 else if ci = 4 then TX4 else if ci = 5 then TX5 else if ci = 6 then TX6 else if ci = 7 then TX7 else if ci = 8 then TX8 else if ci = 9 then TX9 else if ci = 10 then TX10 else if ci = 11 then TX11 else TX12
def gz_kY (ci : Nat) : Nat → FieldType := if ci = 0 then tyX0 else if ci = 1 then tyX1 else if ci = 2 then tyX2 else if ci = 3 then tyX3 else if ci = 4 then tyX4 else if ci = 5 then tyX5 else if ci = 6 then tyX6 else if ci = 7 then tyX7 else if ci = 8 then tyX8 else if ci = 9 then tyX9 else if ci = 10 then tyX10 else if ci = 11 then tyX11 else tyX12
/-- the words that any of our methods may use -/
def gz_U : List Cond := lw_tbl.filter goodWord
theorem gz_mem {w : Cond} (i : Nat) (h : lw_tbl[i]? = some w) (hg : goodWord w = true) : w ∈ gz_U := List.mem_filter.mpr ⟨List.mem_of_getElem? h, hg⟩
theorem gz_cl {ci : Nat} (h : ci < 13) : vwCl[ci]? = some (gz_kR ci, gz_kT ci, gz_nf ci) := by
  match ci, h with
  | 0, _ => rfl
  | 1, _ => rfl
  | 2, _ => rfl
  | 3, _ => rfl
  | 4, _ => rfl
  | 5, _ => rfl
  | 6, _ => rfl
  | 7, _ => rfl
  | 8, _ => rfl
  | 9, _ => rfl
  | 10, _ => rfl
  | 11, _ => rfl
  | 12, _ => rfl
theorem gz_tyok {ci : Nat} (h : ci < 13) : ∀ k, k < gz_nf ci → parseFieldDescriptor (gz_kT ci k).2.2.1 = some (gz_kY ci k) := by
  match ci, h with
  | 0, _ => exact tyX0_ok
  | 1, _ => exact tyX1_ok
  | 2, _ => exact tyX2_ok
  | 3, _ => exact tyX3_ok
  | 4, _ => exact tyX4_ok
  | 5, _ => exact tyX5_ok
  | 6, _ => exact tyX6_ok
  | 7, _ => exact tyX7_ok
  | 8, _ => exact tyX8_ok
  | 9, _ => exact tyX9_ok
  | 10, _ => exact tyX10_ok
  | 11, _ => exact tyX11_ok
  | 12, _ => exact tyX12_ok
theorem gz_nmok {ci : Nat} (h : ci < 13) : ∀ a, a < gz_nf ci → ∀ b, b < gz_nf ci → a ≠ b → (gz_kT ci a).2.1 ≠ (gz_kT ci b).2.1 := by
  match ci, h with
  | 0, _ => exact nmX0
  | 1, _ => exact nmX1
  | 2, _ => exact nmX2
  | 3, _ => exact nmX3
  | 4, _ => exact nmX4
  | 5, _ => exact nmX5
  | 6, _ => exact nmX6
  | 7, _ => exact nmX7
  | 8, _ => exact nmX8
  | 9, _ => exact nmX9
  | 10, _ => exact nmX10
  | 11, _ => exact nmX11
  | 12, _ => exact nmX12
set_option maxRecDepth 100000 in
theorem gz_uw0 : ∀ w ∈ u_ws RX0 TX0 2, w ∈ gz_U := by
  have h : (u_ws RX0 TX0 2) = ([673, 675] : List Nat).filterMap (fun i => lw_tbl[i]?) := by decide +kernel
  have hg : (u_ws RX0 TX0 2).all goodWord = true := by decide +kernel
  intro w hw
  refine List.mem_filter.mpr ⟨?_, List.all_eq_true.mp hg w hw⟩
  rw [h] at hw
  obtain ⟨i, -, hi⟩ := List.mem_filterMap.mp hw
  exact List.mem_of_getElem? hi
set_option maxRecDepth 100000 in
theorem gz_uw1 : ∀ w ∈ u_ws RX1 TX1 3, w ∈ gz_U := by
  have h : (u_ws RX1 TX1 3) = ([228, 230, 232] : List Nat).filterMap (fun i => lw_tbl[i]?) := by decide +kernel
  have hg : (u_ws RX1 TX1 3).all goodWord = true := by decide +kernel
  intro w hw
  refine List.mem_filter.mpr ⟨?_, List.all_eq_true.mp hg w hw⟩
  rw [h] at hw
  obtain ⟨i, -, hi⟩ := List.mem_filterMap.mp hw
  exact List.mem_of_getElem? hi
set_option maxRecDepth 100000 in
theorem gz_uw2 : ∀ w ∈ u_ws RX2 TX2 9, w ∈ gz_U := by
  have h : (u_ws RX2 TX2 9) = ([327, 329, 331, 333, 335, 337, 339, 341, 343] : List Nat).filterMap (fun i => lw_tbl[i]?) := by decide +kernel
  have hg : (u_ws RX2 TX2 9).all goodWord = true := by decide +kernel
  intro w hw
  refine List.mem_filter.mpr ⟨?_, List.all_eq_true.mp hg w hw⟩
  rw [h] at hw
  obtain ⟨i, -, hi⟩ := List.mem_filterMap.mp hw
  exact List.mem_of_getElem? hi
set_option maxRecDepth 100000 in
theorem gz_uw3 : ∀ w ∈ u_ws RX3 TX3 1, w ∈ gz_U := by
  have h : (u_ws RX3 TX3 1) = ([656] : List Nat).filterMap (fun i => lw_tbl[i]?) := by decide +kernel
  have hg : (u_ws RX3 TX3 1).all goodWord = true := by decide +kernel
  intro w hw
  refine List.mem_filter.mpr ⟨?_, List.all_eq_true.mp hg w hw⟩
  rw [h] at hw
  obtain ⟨i, -, hi⟩ := List.mem_filterMap.mp hw
  exact List.mem_of_getElem? hi
set_option maxRecDepth 100000 in
theorem gz_uw4 : ∀ w ∈ u_ws RX4 TX4 3, w ∈ gz_U := by
  have h : (u_ws RX4 TX4 3) = ([212, 214, 216] : List Nat).filterMap (fun i => lw_tbl[i]?) := by decide +kernel
  have hg : (u_ws RX4 TX4 3).all goodWord = true := by decide +kernel
  intro w hw
  refine List.mem_filter.mpr ⟨?_, List.all_eq_true.mp hg w hw⟩
  rw [h] at hw
  obtain ⟨i, -, hi⟩ := List.mem_filterMap.mp hw
  exact List.mem_of_getElem? hi
set_option maxRecDepth 100000 in
theorem gz_uw5 : ∀ w ∈ u_ws RX5 TX5 7, w ∈ gz_U := by
  have h : (u_ws RX5 TX5 7) = ([295, 297, 299, 301, 303, 305, 307] : List Nat).filterMap (fun i => lw_tbl[i]?) := by decide +kernel
  have hg : (u_ws RX5 TX5 7).all goodWord = true := by decide +kernel
  intro w hw
  refine List.mem_filter.mpr ⟨?_, List.all_eq_true.mp hg w hw⟩
  rw [h] at hw
  obtain ⟨i, -, hi⟩ := List.mem_filterMap.mp hw
  exact List.mem_of_getElem? hi
set_option maxRecDepth 100000 in
theorem gz_uw6 : ∀ w ∈ u_ws RX6 TX6 1, w ∈ gz_U := by
  have h : (u_ws RX6 TX6 1) = ([253] : List Nat).filterMap (fun i => lw_tbl[i]?) := by decide +kernel
  have hg : (u_ws RX6 TX6 1).all goodWord = true := by decide +kernel
  intro w hw
  refine List.mem_filter.mpr ⟨?_, List.all_eq_true.mp hg w hw⟩
  rw [h] at hw
  obtain ⟨i, -, hi⟩ := List.mem_filterMap.mp hw
  exact List.mem_of_getElem? hi
set_option maxRecDepth 100000 in
theorem gz_uw7 : ∀ w ∈ u_ws RX7 TX7 8, w ∈ gz_U := by
  have h : (u_ws RX7 TX7 8) = ([186, 188, 190, 192, 194, 196, 198, 200] : List Nat).filterMap (fun i => lw_tbl[i]?) := by decide +kernel
  have hg : (u_ws RX7 TX7 8).all goodWord = true := by decide +kernel
  intro w hw
  refine List.mem_filter.mpr ⟨?_, List.all_eq_true.mp hg w hw⟩
  rw [h] at hw
  obtain ⟨i, -, hi⟩ := List.mem_filterMap.mp hw
  exact List.mem_of_getElem? hi
set_option maxRecDepth 100000 in
theorem gz_uw8 : ∀ w ∈ u_ws RX8 TX8 9, w ∈ gz_U := by
  have h : (u_ws RX8 TX8 9) = ([362, 364, 366, 368, 370, 372, 374, 376, 378] : List Nat).filterMap (fun i => lw_tbl[i]?) := by decide +kernel
  have hg : (u_ws RX8 TX8 9).all goodWord = true := by decide +kernel
  intro w hw
  refine List.mem_filter.mpr ⟨?_, List.all_eq_true.mp hg w hw⟩
  rw [h] at hw
  obtain ⟨i, -, hi⟩ := List.mem_filterMap.mp hw
  exact List.mem_of_getElem? hi
set_option maxRecDepth 100000 in
theorem gz_uw9 : ∀ w ∈ u_ws RX9 TX9 5, w ∈ gz_U := by
  have h : (u_ws RX9 TX9 5) = ([160, 162, 164, 166, 168] : List Nat).filterMap (fun i => lw_tbl[i]?) := by decide +kernel
  have hg : (u_ws RX9 TX9 5).all goodWord = true := by decide +kernel
  intro w hw
  refine List.mem_filter.mpr ⟨?_, List.all_eq_true.mp hg w hw⟩
  rw [h] at hw
  obtain ⟨i, -, hi⟩ := List.mem_filterMap.mp hw
  exact List.mem_of_getElem? hi
set_option maxRecDepth 100000 in
theorem gz_uw10 : ∀ w ∈ u_ws RX10 TX10 5, w ∈ gz_U := by
  have h : (u_ws RX10 TX10 5) = ([270, 272, 274, 276, 278] : List Nat).filterMap (fun i => lw_tbl[i]?) := by decide +kernel
  have hg : (u_ws RX10 TX10 5).all goodWord = true := by decide +kernel
  intro w hw
  refine List.mem_filter.mpr ⟨?_, List.all_eq_true.mp hg w hw⟩
  rw [h] at hw
  obtain ⟨i, -, hi⟩ := List.mem_filterMap.mp hw
  exact List.mem_of_getElem? hi
set_option maxRecDepth 100000 in
theorem gz_uw11 : ∀ w ∈ u_ws RX11 TX11 18, w ∈ gz_U := by
  have h : (u_ws RX11 TX11 18) = ([399, 401, 403, 405, 407, 409, 411, 413, 415, 417, 419, 421, 423, 425, 427, 429, 431, 433] : List Nat).filterMap (fun i => lw_tbl[i]?) := by decide +kernel
  have hg : (u_ws RX11 TX11 18).all goodWord = true := by decide +kernel
  intro w hw
  refine List.mem_filter.mpr ⟨?_, List.all_eq_true.mp hg w hw⟩
  rw [h] at hw
  obtain ⟨i, -, hi⟩ := List.mem_filterMap.mp hw
  exact List.mem_of_getElem? hi
set_option maxRecDepth 100000 in
theorem gz_uw12 : ∀ w ∈ u_ws RX12 TX12 51, w ∈ gz_U := by
  have h : (u_ws RX12 TX12 51) = ([1326, 1328, 1330, 1332, 1334, 1336, 1338, 1340, 1342, 1344, 1346, 1348, 1350, 1352, 1354, 1356, 1358, 1360, 1362, 1364, 1366, 1368, 1370, 1372, 1374, 1376, 1378, 1380, 1382, 1384, 1386, 1388, 1390, 1392, 1394, 1396, 1398, 1400, 1402, 1404, 1406, 1408, 1410, 1412, 1414, 1416, 1418, 1420, 1422, 1424, 1426] : List Nat).filterMap (fun i => lw_tbl[i]?) := by decide +kernel
  have hg : (u_ws RX12 TX12 51).all goodWord = true := by decide +kernel
  intro w hw
  refine List.mem_filter.mpr ⟨?_, List.all_eq_true.mp hg w hw⟩
  rw [h] at hw
  obtain ⟨i, -, hi⟩ := List.mem_filterMap.mp hw
  exact List.mem_of_getElem? hi
theorem gz_uw {ci : Nat} (h : ci < 13) : ∀ w ∈ u_ws (gz_kR ci) (gz_kT ci) (gz_nf ci), w ∈ gz_U := by
  match ci, h with
  | 0, _ => exact gz_uw0
  | 1, _ => exact gz_uw1
  | 2, _ => exact gz_uw2
  | 3, _ => exact gz_uw3
  | 4, _ => exact gz_uw4
  | 5, _ => exact gz_uw5
  | 6, _ => exact gz_uw6
  | 7, _ => exact gz_uw7
  | 8, _ => exact gz_uw8
  | 9, _ => exact gz_uw9
  | 10, _ => exact gz_uw10
  | 11, _ => exact gz_uw11
  | 12, _ => exact gz_uw12
