/-! the tables of the worlds: where each cell lies, what it holds -/
def ALL : List Cond := lw_tbl.filter goodWord
theorem mALL {w : Cond} (i : Nat) (h : lw_tbl[i]? = some w) (g : goodWord w = true) : w ∈ ALL := List.mem_filter.mpr ⟨List.mem_of_getElem? h, g⟩
theorem ALL_good {w : Cond} (h : w ∈ ALL) : w ∈ lw_tbl ∧ goodWord w = true := List.mem_filter.mp h
def lay : List (Nat × Nat) := [(9, 0), (6, 0), (20, 0), (2, 0), (2, 1), (2, 2), (2, 3), (2, 4), (2, 5), (2, 6), (2, 7), (2, 8), (2, 9), (2, 10), (2, 11), (0, 0), (21, 0), (5, 0), (5, 1), (5, 2), (5, 3), (5, 4), (6, 1), (20, 1), (2, 12), (2, 13), (2, 14), (2, 15), (2, 16), (2, 17), (2, 18), (2, 19), (2, 20), (2, 21), (2, 22), (2, 23), (0, 1), (21, 1), (5, 5), (5, 6), (5, 7), (5, 8), (5, 9), (3, 61), (28, 61), (22, 0), (23, 0), (8, 0), (24, 0), (25, 0), (26, 0), (27, 0), (3, 0), (28, 0), (3, 1), (28, 1), (3, 2), (28, 2), (3, 3), (28, 3), (3, 4), (28, 4), (3, 5), (28, 5), (3, 6), (28, 6), (3, 7), (28, 7), (3, 8), (28, 8), (3, 9), (28, 9), (3, 10), (28, 10), (3, 11), (28, 11), (3, 12), (28, 12), (3, 13), (28, 13), (3, 14), (28, 14), (3, 15), (28, 15), (3, 16), (28, 16), (3, 17), (28, 17), (3, 18), (28, 18), (3, 19), (28, 19), (3, 20), (28, 20), (3, 21), (28, 21), (3, 22), (28, 22), (3, 23), (28, 23), (3, 24), (28, 24), (3, 25), (28, 25), (3, 26), (28, 26), (3, 27), (28, 27), (3, 28), (28, 28), (3, 29), (28, 29), (3, 30), (28, 30), (3, 31), (28, 31), (3, 32), (28, 32), (3, 33), (28, 33), (3, 34), (28, 34), (3, 35), (28, 35), (3, 36), (28, 36), (3, 37), (28, 37), (3, 38), (28, 38), (3, 39), (28, 39), (3, 40), (28, 40), (3, 41), (28, 41), (3, 42), (28, 42), (3, 43), (28, 43), (3, 44), (28, 44), (3, 45), (28, 45), (3, 46), (28, 46), (3, 47), (28, 47), (3, 48), (28, 48), (3, 49), (28, 49), (3, 50), (28, 50), (3, 51), (28, 51), (3, 52), (28, 52), (3, 53), (28, 53), (3, 54), (28, 54), (3, 55), (28, 55), (3, 56), (28, 56), (3, 57), (28, 57), (3, 58), (28, 58), (3, 59), (28, 59), (3, 60), (28, 60), (1, 0), (29, 0), (30, 0), (31, 0), (1, 1), (29, 1), (30, 1), (31, 1), (1, 2), (29, 2), (30, 2), (31, 2), (1, 3), (29, 3), (30, 3), (31, 3), (1, 4), (29, 4), (30, 4), (31, 4), (1, 5), (29, 5), (30, 5), (31, 5), (4, 0), (32, 0), (33, 0), (33, 1), (33, 2), (33, 3), (33, 4), (33, 5), (33, 6), (33, 7), (33, 8), (33, 9), (4, 1), (32, 1), (33, 10), (33, 11), (33, 12), (33, 13), (33, 14), (33, 15), (33, 16), (33, 17), (33, 18), (33, 19), (4, 2), (32, 2), (33, 20), (33, 21), (33, 22), (33, 23), (33, 24), (33, 25), (33, 26), (33, 27), (33, 28), (33, 29), (4, 3), (32, 3), (33, 30), (33, 31), (33, 32), (33, 33), (33, 34), (33, 35), (33, 36), (33, 37), (33, 38), (33, 39), (4, 4), (32, 4), (33, 40), (33, 41), (33, 42), (33, 43), (33, 44), (33, 45), (33, 46), (33, 47), (33, 48), (33, 49), (4, 5), (32, 5), (33, 50), (33, 51), (33, 52), (33, 53), (33, 54), (33, 55), (33, 56), (33, 57), (33, 58), (33, 59), (7, 0), (34, 0), (7, 1), (34, 1), (7, 2), (34, 2), (7, 3), (34, 3), (10, 0), (40, 0), (41, 0), (42, 0), (43, 0), (44, 0), (45, 0), (46, 0), (47, 0), (48, 0), (49, 0), (50, 0), (51, 0), (52, 0), (53, 0), (54, 0), (55, 0), (56, 0), (57, 0), (58, 0), (59, 0), (60, 0), (61, 0), (62, 0), (63, 0), (64, 0), (65, 0), (66, 0), (67, 0), (68, 0), (69, 0), (70, 0), (71, 0), (72, 0), (73, 0), (74, 0), (75, 0), (76, 0), (77, 0), (78, 0), (79, 0), (80, 0), (81, 0), (82, 0), (83, 0), (84, 0), (85, 0)]
def posLL : List (List Nat) := [[15, 36], [174, 178, 182, 186, 190, 194], [3, 4, 5, 6, 7, 8, 9, 10, 11, 12, 13, 14, 24, 25, 26, 27, 28, 29, 30, 31, 32, 33, 34, 35], [52, 54, 56, 58, 60, 62, 64, 66, 68, 70, 72, 74, 76, 78, 80, 82, 84, 86, 88, 90, 92, 94, 96, 98, 100, 102, 104, 106, 108, 110, 112, 114, 116, 118, 120, 122, 124, 126, 128, 130, 132, 134, 136, 138, 140, 142, 144, 146, 148, 150, 152, 154, 156, 158, 160, 162, 164, 166, 168, 170, 172, 43], [198, 210, 222, 234, 246, 258], [17, 18, 19, 20, 21, 38, 39, 40, 41, 42], [1, 22], [270, 272, 274, 276], [47], [0], [278], [], [], [], [], [], [], [], [], [], [2, 23], [16, 37], [45], [46], [48], [49], [50], [51], [53, 55, 57, 59, 61, 63, 65, 67, 69, 71, 73, 75, 77, 79, 81, 83, 85, 87, 89, 91, 93, 95, 97, 99, 101, 103, 105, 107, 109, 111, 113, 115, 117, 119, 121, 123, 125, 127, 129, 131, 133, 135, 137, 139, 141, 143, 145, 147, 149, 151, 153, 155, 157, 159, 161, 163, 165, 167, 169, 171, 173, 44], [175, 179, 183, 187, 191, 195], [176, 180, 184, 188, 192, 196], [177, 181, 185, 189, 193, 197], [199, 211, 223, 235, 247, 259], [200, 201, 202, 203, 204, 205, 206, 207, 208, 209, 212, 213, 214, 215, 216, 217, 218, 219, 220, 221, 224, 225, 226, 227, 228, 229, 230, 231, 232, 233, 236, 237, 238, 239, 240, 241, 242, 243, 244, 245, 248, 249, 250, 251, 252, 253, 254, 255, 256, 257, 260, 261, 262, 263, 264, 265, 266, 267, 268, 269], [271, 273, 275, 277], [], [], [], [], [], [279], [280], [281], [282], [283], [284], [285], [286], [287], [288], [289], [290], [291], [292], [293], [294], [295], [296], [297], [298], [299], [300], [301], [302], [303], [304], [305], [306], [307], [308], [309], [310], [311], [312], [313], [314], [315], [316], [317], [318], [319], [320], [321], [322], [323], [324]]
def posL (c : Nat) : List Nat := posLL.getD c []
def pos (r : Nat × Nat) : Nat := (posL r.1).getD r.2 0
def cnt (c : Nat) : Nat := (posL c).length
def layF (q : Nat) : Nat × Nat := lay.getD q (999, 0)
abbrev TOT : Nat := 325
theorem lay_pos : ∀ q, q < TOT → pos (layF q) = q := by decide +kernel
theorem pos_lay0 : ∀ c, c < 86 → ∀ i, i < cnt c → layF (pos (c, i)) = (c, i) ∧ pos (c, i) < TOT := by decide +kernel
theorem cnt_out {c : Nat} (h : 86 ≤ c) : cnt c = 0 := by
  have e : posL c = [] := by
    unfold posL
    rw [List.getD_eq_getElem?_getD, List.getElem?_eq_none (Nat.le_trans (by decide +kernel) h)]
    rfl
  unfold cnt
  rw [e]
  rfl
theorem pos_lay {c i : Nat} (h : i < cnt c) : layF (pos (c, i)) = (c, i) ∧ pos (c, i) < TOT := by
  by_cases hc : c < 86
  · exact pos_lay0 c hc i h
  · rw [cnt_out (Nat.le_of_not_lt hc)] at h
    omega
theorem cnt_lt {c i : Nat} (h : i < cnt c) : c < 86 := by
  by_cases hc : c < 86
  · exact hc
  · rw [cnt_out (Nat.le_of_not_lt hc)] at h
    omega
/-- the cell (c, i) is there, when n cells have been made -/
def okA (n c i : Nat) : Prop := i < cnt c ∧ pos (c, i) < n
theorem okT {c i : Nat} (h : i < cnt c) : okA TOT c i := ⟨h, (pos_lay h).2⟩
def nfL : List Nat := [10, 5, 8, 13, 2, 9, 7, 3, 6, 15, 81]
def nf (c : Nat) : Nat := nfL.getD c 0
def tyC (c k : Nat) : FieldType := match c with
  | 0 => tyX0 k
  | 1 => tyX1 k
  | 2 => tyX2 k
  | 3 => tyX3 k
  | 4 => tyX4 k
  | 5 => tyX5 k
  | 6 => tyX6 k
  | 7 => tyX7 k
  | 8 => tyX8 k
  | 9 => tyX9 k
  | _ => tyX10 k
def tagOf (t : FieldType) : Nat := match t with
  | .int => 0
  | .boolean => 0
  | .byte => 0
  | .short => 0
  | .char => 0
  | .long => 1
  | _ => 2
def aTL : List FieldType := [.object "LayerBook$Loan", .object "LayerBook$Paper", .object "LayerBook$Month", .int, .byte, .object "LayerBook$Law", .object "LayerBook$Order", .object "LayerBook$Sheet", .long, .int, .int, .int, .array .int, .int, .int, .int, .int, .int, .int, .int, .int, .int, .int, .int, .int, .int, .int, .int, .long, .long, .long, .long, .long, .long, .long, .long, .int, .int, .int, .int, .int, .int, .int, .int, .int, .int, .int, .long, .int, .long, .long, .long, .long, .long, .long, .long, .int, .long, .long, .boolean, .long, .long, .boolean, .int, .int, .int]
def aNL : List Nat := [12, 5, 61, 62, 160, 6, 6, 4, 10, 160, 4, 40, 10, 6, 40, 0, 0, 0, 0, 0, 12, 12, 12, 12, 12, 12, 12, 12, 61, 61, 61, 61, 61, 61, 61, 61, 61, 1120, 7, 160, 6, 60, 60, 60, 60, 60, 60, 5, 5, 5, 5, 5, 5, 5, 5, 5, 62, 61, 61, 61, 610, 200, 4, 4, 4, 160]
def tixL : List Nat := [4, 5, 6, 0, 3, 7, 8, 9, 1, 0, 0, 0, 10, 0, 0, 0, 0, 0, 0, 0, 0, 0, 0, 0, 0, 0, 0, 0, 1, 1, 1, 1, 1, 1, 1, 1, 0, 0, 0, 0, 0, 0, 0, 0, 0, 0, 0, 1, 0, 1, 1, 1, 1, 1, 1, 1, 0, 1, 1, 2, 1, 1, 2, 0, 0, 0]
def aT (c : Nat) : FieldType := aTL.getD (c - 20) .int
def aN (c : Nat) : Nat := aNL.getD (c - 20) 0
def tix (c : Nat) : Nat := tixL.getD (c - 20) 0
def tysL : List FieldType := [.int, .long, .boolean, .byte, .object "LayerBook$Loan", .object "LayerBook$Paper", .object "LayerBook$Month", .object "LayerBook$Law", .object "LayerBook$Order", .object "LayerBook$Sheet", .array .int]
def tysF (k : Nat) : FieldType := tysL.getD k .int
theorem tix_ok : ∀ c, c < 86 → 20 ≤ c → 0 < cnt c → tysF (tix c) = aT c ∧ tix c < 11 := by decide +kernel
theorem kinds_ok : ∀ c, c < 86 → 0 < cnt c → c < 11 ∨ 20 ≤ c := by decide +kernel
/-- how many slots the first n cells have -/
def szOf (c : Nat) : Nat := if c < 11 then nf c else aN c
def su : Nat → Nat
  | 0 => 0
  | n + 1 => su n + szOf (layF n).1
theorem su_mono {a b : Nat} (h : a ≤ b) : su a ≤ su b := by
  induction b with
  | zero => rw [Nat.le_zero.mp h]; exact Nat.le_refl _
  | succ b ih =>
    rcases Nat.lt_or_ge a (b + 1) with q | q
    · exact Nat.le_trans (ih (by omega)) (Nat.le_add_right _ _)
    · rw [show a = b + 1 by omega]; exact Nat.le_refl _
/-! strings, statics, words that are carried -/
def lenK : List Nat := [8, 15, 3, 2, 3, 33, 4, 21, 9, 2, 26]
def bytK : List (List Int32) := [[40, 41, 59, 43, 45, 42, 60, 61], [102, 97, 105, 108, 32, 108, 97, 116, 101, 32, 101, 97, 114, 108, 121], [110, 111, 116], [111, 114], [97, 110, 100], [109, 111, 110, 116, 104, 32, 114, 97, 116, 101, 32, 108, 101, 102, 116, 32, 111, 119, 101, 100, 32, 98, 97, 108, 97, 110, 99, 101, 32, 107, 105, 110, 100], [114, 101, 115, 116], [102, 101, 101, 32, 112, 97, 121, 32, 111, 119, 110, 32, 112, 97, 114, 116, 32, 107, 101, 101, 112], [97, 32, 98, 32, 99, 32, 100, 32, 101], [105, 102], [109, 111, 110, 116, 104, 32, 108, 97, 116, 101, 32, 108, 111, 115, 116, 32, 99, 111, 118, 101, 114, 32, 116, 114, 105, 112]]
def strR : List (String × Nat × String × Nat) := [("LayerBook$Tape", 48, "();+-*<=", 0), ("LayerBook$Law", 33, "fail late early", 1), ("LayerBook$Law", 79, "not", 2), ("LayerBook$Law", 72, "or", 3), ("LayerBook$Law", 74, "and", 4), ("LayerBook$Law", 87, "month rate left owed balance kind", 5), ("LayerBook$Order", 25, "rest", 6), ("LayerBook$Order", 54, "fee pay own part keep", 7), ("LayerBook$Order", 63, "a b c d e", 8), ("LayerBook$Order", 73, "if", 9), ("LayerBook$Order", 78, "not", 2), ("LayerBook$Order", 80, "month late lost cover trip", 10)]
def fAb : Nat → Int32 := fun j => ([-1, 0, 1, 0, 2, 3] : List Int32).getD j 0
def nestM : List (String × Nat × MethodName × String) := [("LayerBook$Pool", 21, ⟨"LayerBook$Loan", "<init>", "()V"⟩, "LayerBook"), ("LayerBook$Fall", 24, ⟨"LayerBook$Paper", "<init>", "()V"⟩, "LayerBook"), ("LayerBook", 31, ⟨"LayerBook$Month", "<init>", "()V"⟩, "LayerBook"), ("LayerBook", 46, ⟨"LayerBook$Tape", "<init>", "()V"⟩, "LayerBook"), ("LayerBook", 76, ⟨"LayerBook$Law", "<init>", "()V"⟩, "LayerBook"), ("LayerBook", 78, ⟨"LayerBook$Sheet", "<init>", "()V"⟩, "LayerBook")]
def aoW : List String := ["LayerBook$Loan", "LayerBook$Paper", "LayerBook$Month", "LayerBook$Law", "LayerBook$Order", "LayerBook$Sheet"]
/-- what is fixed over the whole run: the launch, the classes, the arrays' classes, the base, the strings and their bytes, the static table, the script -/
abbrev GT : Type := Launch × va_G × (Nat → ClassId) × Nat × (Nat → Nat) × (Nat → Nat) × Nat × Nat × Nat × (Nat → Int32)
abbrev gl (G : GT) : Launch := G.1
abbrev gD (G : GT) : va_G := G.2.1
abbrev gA (G : GT) : Nat → ClassId := G.2.2.1
abbrev gB (G : GT) : Nat := G.2.2.2.1
abbrev gK (G : GT) : Nat → Nat := G.2.2.2.2.1
abbrev gV (G : GT) : Nat → Nat := G.2.2.2.2.2.1
abbrev gT (G : GT) : Nat := G.2.2.2.2.2.2.1
abbrev gS (G : GT) : Nat := G.2.2.2.2.2.2.2.1
abbrev gL (G : GT) : Nat := G.2.2.2.2.2.2.2.2.1
abbrev gX (G : GT) : Nat → Int32 := G.2.2.2.2.2.2.2.2.2
def own (G : GT) : Nat → Prop := fun q => gB G ≤ q
theorem aoA_warm {s U : State} (hW : s.WarmedH U.vm) (hZ : va_Nw (.arrayOver (.array .int)) s) : va_Nw (.arrayOver (.array .int)) U := (show (Cond.arrayOver (.array .int)).before #[] (s.setVm U.vm) = true from by rw [Cond.arrayOver_setVmC hW.alike]; exact hZ)
def Ext (G : GT) (U : State) (H : Heap) : Prop :=
  vk_S 11 lenK bytK (gK G) (gV G) (own G) U H ∧ va_Z "java/lang/String" "COMPACT_STRINGS" "Z" (.int 1) (own G) U H ∧ va_Zq "jdk/internal/util/Preconditions" "SIOOBE_FORMATTER" "Ljava/util/function/BiFunction;" (own G) U H ∧
  va_Z "LayerBook" "ABOVE" "[I" (.ref (gT G)) (own G) U H ∧ va_T .int (gT G) 6 (fun j => .int (fAb j)) (own G) U H ∧ (∀ q ∈ strR, vk_R q.1 q.2.1 q.2.2.1 (gK G q.2.2.2) U) ∧ (∀ q ∈ nestM, va_Nw (.methodLinkNest q.1 q.2.1 q.2.2.1 q.2.2.2) U) ∧
  va_Nw (.fieldLinkNest "LayerBook$Loan" 37 "LayerBook" "ABOVE" "[I" "LayerBook") U ∧ (∀ C ∈ aoW, va_AO C U) ∧ va_Nw (.arrayOver (.array .int)) U ∧ va_X (gS G) (gL G) (gX G) U H ∧ (gS G < H.size ∧ ¬ own G (gS G))
theorem Ext.kept {G : GT} {U : State} {H H1 : Heap} (h : Ext G U H) (hz : H.size ≤ H1.size) (hq : ∀ a : Nat, a < H.size → ¬ own G a → H1[a]? = H[a]?) : Ext G U H1 := by
  obtain ⟨h1, h2, h3, h4, h5, h6, h7, h8, h9, h10, h11, h12, h13⟩ := h
  exact ⟨h1.kept hq, h2.kept hq, h3.kept hq, h4.kept hq, h5.kept hq, h6, h7, h8, h9, h10, h11.kept (hq _ h12 h13), Nat.lt_of_lt_of_le h12 hz, h13⟩
theorem Ext.warm {G : GT} {s U : State} {H : Heap} (hW : s.WarmedH U.vm) (h : Ext G s H) : Ext G U H := by
  obtain ⟨h1, h2, h3, h4, h5, h6, h7, h8, h9, h10, h11, h12⟩ := h
  have hv := hW.alike
  exact ⟨h1.moved hv, h2.moved hv, h3.moved hv, h4.moved hv, h5.moved hv, fun q hq => (h6 q hq).warm hW, fun q hq => (h7 q hq).warmM hW, h8.warmF hW, fun C hC => (h9 C hC).moved hv, aoA_warm hW h10, h11.moved hv, h12⟩
