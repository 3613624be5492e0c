/-! the start: what the Statement gives -/
theorem tTt {w : Cond} (h : w ∈ tables_1) : w ∈ lw_tbl := List.mem_append_right _ h
theorem tT1 {i : Nat} {w : Cond} (h : tables_1_1[i]? = some w) : w ∈ lw_tbl := tTt (show w ∈ tables_1 from List.mem_append_left _ (List.mem_of_getElem? h))
theorem tT2 {i : Nat} {w : Cond} (h : tables_1_2[i]? = some w) : w ∈ lw_tbl := tTt (show w ∈ tables_1 from List.mem_append_right _ (List.mem_append_left _ (List.mem_of_getElem? h)))
theorem tT3 {i : Nat} {w : Cond} (h : tables_1_3[i]? = some w) : w ∈ lw_tbl := tTt (show w ∈ tables_1 from List.mem_append_right _ (List.mem_append_right _ (List.mem_append_left _ (List.mem_of_getElem? h))))
theorem tT4 {i : Nat} {w : Cond} (h : tables_1_4[i]? = some w) : w ∈ lw_tbl := tTt (show w ∈ tables_1 from List.mem_append_right _ (List.mem_append_right _ (List.mem_append_right _ (List.mem_append_left _ (List.mem_of_getElem? h)))))
theorem tT5 {i : Nat} {w : Cond} (h : tables_1_5[i]? = some w) : w ∈ lw_tbl := tTt (show w ∈ tables_1 from List.mem_append_right _ (List.mem_append_right _ (List.mem_append_right _ (List.mem_append_right _ (List.mem_append_left _ (List.mem_of_getElem? h))))))
theorem tT6 {i : Nat} {w : Cond} (h : tables_1_6[i]? = some w) : w ∈ lw_tbl := tTt (show w ∈ tables_1 from List.mem_append_right _ (List.mem_append_right _ (List.mem_append_right _ (List.mem_append_right _ (List.mem_append_right _ (List.mem_append_left _ (List.mem_of_getElem? h)))))))
theorem tT7 {i : Nat} {w : Cond} (h : tables_1_7[i]? = some w) : w ∈ lw_tbl := tTt (show w ∈ tables_1 from List.mem_append_right _ (List.mem_append_right _ (List.mem_append_right _ (List.mem_append_right _ (List.mem_append_right _ (List.mem_append_right _ (List.mem_of_getElem? h)))))))
section STT
variable {args : Array Value} {s : State}
theorem ta_prim {ty : FieldType} (h : (Cond.arrayClass ty).before args s = true) (hr : ∀ c, s.vm.findClass ("[" ++ ty.toString) = some c → va_RA s c ty) : ∃ c : ClassId, ArrOfT s c ty ∧ va_RA s c ty := by
  obtain ⟨c, k, comp, h1, h2, h3⟩ := Cond.arrayClass_spec h
  exact ⟨c, fun n z => ⟨(fun k h => by cases h), k, h2, comp, h3⟩, hr c h1⟩
theorem ta_obj {C : String} (h : (Cond.arrayOver (.object C)).before args s = true) : ∃ c : ClassId, ArrOfT s c (.object C) ∧ va_RA s c (.object C) := by
  obtain ⟨comp, c, k, h1, h2, h3, h4, h5⟩ := Cond.arrayOver_spec h
  exact ⟨c, fun n z => ⟨(fun k h => by cases h), k, h3, comp, h4⟩, k, comp, h3, h4, h1, h5⟩
theorem ta_arr (h : (Cond.arrayOver (.array .int)).before args s = true) : ∃ c : ClassId, ArrOfT s c (.array .int) ∧ va_RA s c (.array .int) := by
  obtain ⟨comp, c, k, h1, h2, h3, h4, h5⟩ := arrayOverA_spec h
  exact ⟨c, fun n z => ⟨(fun k h => by cases h), k, h3, comp, h4⟩, h5⟩
theorem st_A (hts : ∀ w ∈ lw_tbl, w.before args s = true) : ∃ f : Nat → ClassId, ∀ k, k < 11 → ArrOfT s (f k) (tysF k) ∧ va_RA s (f k) (tysF k) := by
  have h0 : ∀ k : Nat, ∃ c : ClassId, k < 11 → ArrOfT s c (tysF k) ∧ va_RA s c (tysF k) := by
    intro k
    by_cases hk : k < 11
    · rcases (by omega : k = 0 ∨ k = 1 ∨ k = 2 ∨ k = 3 ∨ k = 4 ∨ k = 5 ∨ k = 6 ∨ k = 7 ∨ k = 8 ∨ k = 9 ∨ k = 10) with rfl | rfl | rfl | rfl | rfl | rfl | rfl | rfl | rfl | rfl | rfl
      · obtain ⟨c, h⟩ := ta_prim (ty := .int) (hts _ (tT2 (i := 56) rfl)) (fun c h => h)
        exact ⟨c, fun _ => h⟩
      · obtain ⟨c, h⟩ := ta_prim (ty := .long) (hts _ (tT2 (i := 24) rfl)) (fun c h => h)
        exact ⟨c, fun _ => h⟩
      · obtain ⟨c, h⟩ := ta_prim (ty := .boolean) (hts _ (tT6 (i := 82) rfl)) (fun c h => h)
        exact ⟨c, fun _ => h⟩
      · obtain ⟨c, h⟩ := ta_prim (ty := .byte) (hts _ (tT2 (i := 57) rfl)) (fun c h => h)
        exact ⟨c, fun _ => h⟩
      · obtain ⟨c, h⟩ := ta_obj (C := "LayerBook$Loan") (hts _ (tT1 (i := 33) rfl))
        exact ⟨c, fun _ => h⟩
      · obtain ⟨c, h⟩ := ta_obj (C := "LayerBook$Paper") (hts _ (tT1 (i := 116) rfl))
        exact ⟨c, fun _ => h⟩
      · obtain ⟨c, h⟩ := ta_obj (C := "LayerBook$Month") (hts _ (tT2 (i := 25) rfl))
        exact ⟨c, fun _ => h⟩
      · obtain ⟨c, h⟩ := ta_obj (C := "LayerBook$Law") (hts _ (tT2 (i := 59) rfl))
        exact ⟨c, fun _ => h⟩
      · obtain ⟨c, h⟩ := ta_obj (C := "LayerBook$Order") (hts _ (tT2 (i := 61) rfl))
        exact ⟨c, fun _ => h⟩
      · obtain ⟨c, h⟩ := ta_obj (C := "LayerBook$Sheet") (hts _ (tT2 (i := 63) rfl))
        exact ⟨c, fun _ => h⟩
      · obtain ⟨c, h⟩ := ta_arr (hts _ (tT2 (i := 91) rfl))
        exact ⟨c, fun _ => h⟩
    · exact ⟨default, fun h => absurd h hk⟩
  exact Classical.axiomOfChoice h0
theorem st_u {c : Nat} {C : String} {T : u_T} {n : Nat} (hts : ∀ w ∈ lw_tbl, w.before args s = true) (F : CF c C T n) (hi : Cond.instantiable C n ∈ ALL) : ∃ x : ClassId × (Nat → Nat), ∀ q, vwCl[c]? = some q → u_Kn s q.1 q.2.1 q.2.2 x.1 x.2 := by
  obtain ⟨cC, iS, h⟩ := u_known hts (fun w hw => (ALL_good (F.2.2.2.1 w hw)).1) (hts _ (ALL_good hi).1)
  refine ⟨(cC, iS), fun q hq => ?_⟩
  rw [F.1] at hq
  cases hq
  exact h
theorem st_C (hts : ∀ w ∈ lw_tbl, w.before args s = true) : ∃ f : Nat → ClassId × (Nat → Nat), ∀ c q, vwCl[c]? = some q → u_Kn s q.1 q.2.1 q.2.2 (f c).1 (f c).2 := by
  have h0 : ∀ c : Nat, ∃ x : ClassId × (Nat → Nat), ∀ q, vwCl[c]? = some q → u_Kn s q.1 q.2.1 q.2.2 x.1 x.2 := by
    intro c
    match c with
    | 0 => exact st_u hts CF0 (mT1 (i := 110) rfl rfl)
    | 1 => exact st_u hts CF1 (mT2 (i := 64) rfl rfl)
    | 2 => exact st_u hts CF2 (mT1 (i := 34) rfl rfl)
    | 3 => exact st_u hts CF3 (mT1 (i := 198) rfl rfl)
    | 4 => exact st_u hts CF4 (mT2 (i := 85) rfl rfl)
    | 5 => exact st_u hts CF5 (mT1 (i := 117) rfl rfl)
    | 6 => exact st_u hts CF6 (mT1 (i := 27) rfl rfl)
    | 7 => exact st_u hts CF7 (mT2 (i := 110) rfl rfl)
    | 8 => exact st_u hts CF8 (mT2 (i := 27) rfl rfl)
    | 9 => exact st_u hts CF9 (mT1 (i := 19) rfl rfl)
    | 10 => exact st_u hts CF10 (mT5 (i := 65) rfl rfl)
    | c + 11 => exact ⟨(default, fun _ => 0), fun q hq => by simp [vwCl] at hq⟩
  exact Classical.axiomOfChoice h0
def tmS (i : Nat) : Term := match i with
  | 0 => .string "LayerBook$Tape" 48
  | 1 => .string "LayerBook$Law" 33
  | 2 => .string "LayerBook$Law" 79
  | 3 => .string "LayerBook$Law" 72
  | 4 => .string "LayerBook$Law" 74
  | 5 => .string "LayerBook$Law" 87
  | 6 => .string "LayerBook$Order" 25
  | 7 => .string "LayerBook$Order" 54
  | 8 => .string "LayerBook$Order" 63
  | 9 => .string "LayerBook$Order" 73
  | _ => .string "LayerBook$Order" 80
abbrev FL : List Cond := flatC (Jvm.Cond.and given_1 narrow_1)
theorem q_ex : ∀ i, i < 11 → Cond.exactly (tmS i) "java/lang/String" ∈ FL := by decide +kernel
theorem q_co : ∀ i, i < 11 → Cond.eq (.field (tmS i) "java/lang/String" "coder" "B") (.int 0) ∈ FL := by decide +kernel
theorem q_ar : ∀ i, i < 11 → Cond.arrayOf (.field (tmS i) "java/lang/String" "value" "[B") .byte ∈ FL := by decide +kernel
theorem q_le : ∀ i, i < 11 → Cond.eq (.length (.field (tmS i) "java/lang/String" "value" "[B")) (.int (Int32.ofNat (lenK.getD i 0))) ∈ FL := by decide +kernel
theorem q_el : ∀ i, i < 11 → ∀ j, j < lenK.getD i 0 → Cond.eq (.elem (.field (tmS i) "java/lang/String" "value" "[B") (.int (Int32.ofNat j))) (.int ((bytK.getD i []).getD j 0)) ∈ FL := by decide +kernel
theorem q_ne : ∀ i, i < 11 → ∀ j, j < 11 → i ≠ j → Cond.not (Cond.eq (tmS i) (tmS j)) ∈ FL ∨ Cond.not (Cond.eq (tmS j) (tmS i)) ∈ FL := by decide +kernel
theorem q_len : ∀ i, i < 11 → lenK.getD i 0 < 2 ^ 31 := by decide +kernel
theorem q_t : ∀ j, j < 6 → Cond.eq (.elem (.static "LayerBook" "ABOVE" "[I") (.int (Int32.ofNat j))) (.int (fAb j)) ∈ FL := by decide +kernel
theorem st_K (hs : ∀ w ∈ FL, w.before args s = true) {A : Nat → Prop} (hA : ∀ a : Nat, a < s.heap.size → ¬ A a) : ∃ adK adV : Nat → Nat, vk_S 11 lenK bytK adK adV A s s.heap ∧ ∀ i : Nat, i < 11 → (tmS i).eval args s none [] s = some (.ref (adK i)) :=
  vk_Sof q_len (fun i hi => hs _ (q_ex i hi)) (fun i hi => hs _ (q_co i hi)) (fun i hi => hs _ (q_ar i hi)) (fun i hi => hs _ (q_le i hi)) (fun i hi j hj => hs _ (q_el i hi j hj)) (fun i j hi hj h => (q_ne i hi j hj h).imp (fun h => hs _ h) (fun h => hs _ h)) hA
theorem st_T (hs : ∀ w ∈ FL, w.before args s = true) {A : Nat → Prop} (hA : ∀ a : Nat, a < s.heap.size → ¬ A a) : ∃ t : Nat, (Term.static "LayerBook" "ABOVE" "[I").eval args s none [] s = some (.ref t) ∧ va_T .int t 6 (fun j => .int (fAb j)) A s s.heap :=
  va_Tof (by decide) (hs (Cond.arrayOf (.static "LayerBook" "ABOVE" "[I") .int) (by decide +kernel)) (va_eqt (hs (Cond.eq (.length (.static "LayerBook" "ABOVE" "[I")) (.int 6)) (by decide +kernel))) (fun j hj => va_eqt (hs _ (q_t j hj))) hA
theorem st_E (hts : ∀ w ∈ lw_tbl, w.before args s = true) (hs : ∀ w ∈ FL, w.before args s = true) {adK adV : Nat → Nat} {t b L : Nat} {xs : Nat → Int32} {l : Launch} {D : va_G} {fA : Nat → ClassId} (h1 : vk_S 11 lenK bytK adK adV (fun q => s.heap.size ≤ q) s s.heap) (h2 : ∀ i : Nat, i < 11 → (tmS i).eval args s none [] s = some (.ref (adK i))) (h3 : (Term.static "LayerBook" "ABOVE" "[I").eval args s none [] s = some (.ref t)) (h4 : va_T .int t 6 (fun j => .int (fAb j)) (fun q => s.heap.size ≤ q) s s.heap) (h5 : va_X b L xs s s.heap) (h6 : b < s.heap.size) : Ext (l, D, fA, s.heap.size, adK, adV, t, b, L, xs) s s.heap := by
  have hA : ∀ a : Nat, a < s.heap.size → ¬ (fun q : Nat => s.heap.size ≤ q) a := fun a h => Nat.not_le_of_lt h
  have e78 : (Term.string "LayerBook$Order" 78).eval args s none [] s = some (.ref (adK 2)) := va_eqR (hs (Cond.eq (.string "LayerBook$Law" 79) (.string "LayerBook$Order" 78)) (by decide +kernel)) (h2 2 (by decide))
  refine ⟨h1, va_Zof (hts _ (tT3 (i := 38) rfl)) (hts _ (tT1 (i := 12) rfl)) (va_eqi (hs _ (by decide +kernel))) hA, va_Zqof (hts _ (tT3 (i := 81) rfl)) (hts _ (tT1 (i := 16) rfl)) (hs _ (by decide +kernel)) hA, va_Zof (hts _ (tT4 (i := 141) rfl)) (hts _ (tT1 (i := 1) rfl)) h3 hA, h4, ?_, ?_, va_Nw.of rfl (hts _ (tT4 (i := 140) rfl)), ?_, (hts _ (tT2 (i := 91) rfl)), h5, h6, Nat.not_le_of_lt h6⟩
  · intro q hq
    unfold strR at hq
    simp only [List.mem_cons, List.not_mem_nil, or_false] at hq
    rcases hq with rfl | rfl | rfl | rfl | rfl | rfl | rfl | rfl | rfl | rfl | rfl | rfl
    · exact vk_R.of (hts _ (tT3 (i := 24) rfl)) (h2 0 (by decide))
    · exact vk_R.of (hts _ (tT3 (i := 111) rfl)) (h2 1 (by decide))
    · exact vk_R.of (hts _ (tT3 (i := 150) rfl)) (h2 2 (by decide))
    · exact vk_R.of (hts _ (tT3 (i := 166) rfl)) (h2 3 (by decide))
    · exact vk_R.of (hts _ (tT3 (i := 167) rfl)) (h2 4 (by decide))
    · exact vk_R.of (hts _ (tT3 (i := 181) rfl)) (h2 5 (by decide))
    · exact vk_R.of (hts _ (tT3 (i := 224) rfl)) (h2 6 (by decide))
    · exact vk_R.of (hts _ (tT3 (i := 234) rfl)) (h2 7 (by decide))
    · exact vk_R.of (hts _ (tT3 (i := 237) rfl)) (h2 8 (by decide))
    · exact vk_R.of (hts _ (tT4 (i := 5) rfl)) (h2 9 (by decide))
    · exact vk_R.of (hts _ (tT4 (i := 9) rfl)) e78
    · exact vk_R.of (hts _ (tT4 (i := 10) rfl)) (h2 10 (by decide))
  · intro q hq
    unfold nestM at hq
    simp only [List.mem_cons, List.not_mem_nil, or_false] at hq
    rcases hq with rfl | rfl | rfl | rfl | rfl | rfl
    · exact va_Nw.of rfl (hts _ (tT1 (i := 35) rfl))
    · exact va_Nw.of rfl (hts _ (tT1 (i := 118) rfl))
    · exact va_Nw.of rfl (hts _ (tT1 (i := 199) rfl))
    · exact va_Nw.of rfl (hts _ (tT2 (i := 28) rfl))
    · exact va_Nw.of rfl (hts _ (tT2 (i := 65) rfl))
    · exact va_Nw.of rfl (hts _ (tT2 (i := 111) rfl))
  · intro C hC
    unfold aoW at hC
    simp only [List.mem_cons, List.not_mem_nil, or_false] at hC
    rcases hC with rfl | rfl | rfl | rfl | rfl | rfl
    · exact va_AO.of (hts _ (tT1 (i := 33) rfl))
    · exact va_AO.of (hts _ (tT1 (i := 116) rfl))
    · exact va_AO.of (hts _ (tT2 (i := 25) rfl))
    · exact va_AO.of (hts _ (tT2 (i := 59) rfl))
    · exact va_AO.of (hts _ (tT2 (i := 61) rfl))
    · exact va_AO.of (hts _ (tT2 (i := 63) rfl))
end STT
set_option maxHeartbeats 4000000 in
theorem L_start {G : GT} (hL : gL G ≤ 3072) : AW G RL cL_law 4 (some .boolean) false room_1 0 lw_Z 0 [(0, vR 203 0)] [] 0 N0 R0 := by
  refine A_new (c := 9) (i := 0) dL_law_0 CF9 (mT1 (i := 18) rfl rfl) (mT1 (i := 19) rfl rfl) (mT1 (i := 1) rfl rfl) (by decide +kernel) (by decide) ⟨by decide +kernel, by decide +kernel⟩ (fun _ => rfl) (fun _ => rfl) ?_
  refine A_dup dL_law_3 rfl ?_
  refine A_callI (av := []) (L := 4) (c := 9) (i := 0) (n := 1) (n1 := 278) dL_law_4 vL_9 mX9_init rfl (by decide) (by decide) ⟨Nat.le_of_ble_eq_true rfl, Nat.le_of_ble_eq_true rfl⟩ ⟨by decide +kernel, by decide +kernel⟩ (Ctr.mono i_X9 (fun r N1 R1 hh => ?_)) rfl
  obtain ⟨rfl, rfl, rfl⟩ := hh
  refine A_astore_n (i := 1) (ls' := [(1, vR 9 0), (0, vR 203 0)]) dL_law_7 rfl (by decide) rfl ?_
  refine A_new (c := 10) (i := 0) dL_law_8 CF10 (mT5 (i := 64) rfl rfl) (mT5 (i := 65) rfl rfl) (mT1 (i := 11) rfl rfl) (by decide +kernel) (by decide) ⟨by decide +kernel, by decide +kernel⟩ (fun k => (Bl9.at (by decide +kernel : layF 278 = (10, 0)) (by decide) k).1) (fun k => (Bl9.at (by decide +kernel : layF 278 = (10, 0)) (by decide) k).2) ?_
  refine A_dup dL_law_11 rfl ?_
  refine A_callI (av := []) (L := 4) (c := 10) (i := 0) (n := 279) (n1 := TOT) dL_law_12 vL_12 mX10_init rfl (by decide) (by decide) ⟨Nat.le_of_ble_eq_true rfl, Nat.le_of_ble_eq_true rfl⟩ ⟨by decide +kernel, by decide +kernel⟩ (Ctr.mono i_X10 (fun r N1 R1 hh => ?_)) rfl
  obtain ⟨rfl, rfl, rfl⟩ := hh
  refine A_astore_n (i := 2) (ls' := [(2, vR 10 0), (1, vR 9 0), (0, vR 203 0)]) dL_law_15 rfl (by decide) rfl ?_
  refine A_iconst (v := 0) dL_law_16 rfl ?_
  refine A_istore_n (i := 3) (ls' := lwS 0) dL_law_17 rfl (by decide) rfl ?_
  exact L_loop hL (gL G) 0 (by omega) (by decide) NL10 first_Inv
/-- from the entry, for every script of at most 3072 ints, the law comes to its end with true -/
theorem whole_start {p : Program} {e : Env} {s : State} {m : MethodId} {below : List Frame} {meth : Method} {c : Code} (l : Launch) (hflags : l.flags = flags0) {b L : Nat} {xs : Nat → Int32} (hL : L ≤ 3072) (C0 : lw_At p s m meth c b L xs) : W p l e room_1 s m #[Value.ref b] below meth c s.heap [] 0 0 (lw_Z below #[Value.ref b] s) (entryFrame m ([Value.ref b] : List Value).toArray 4) := by
  obtain ⟨hx, hb, hr, hml, hown, hts, hX, hbl, hlocks, hgv⟩ := id C0
  have hs := flat_of_before _ hgv
  have hA : ∀ a : Nat, a < s.heap.size → ¬ (fun q : Nat => s.heap.size ≤ q) a := fun a h => Nat.not_le_of_lt h
  obtain ⟨fA, hfA⟩ := st_A hts
  obtain ⟨fC, hfC⟩ := st_C hts
  obtain ⟨adK, adV, k1, k2⟩ := st_K hs hA
  obtain ⟨t, t1, t2⟩ := st_T hs hA
  have hE := st_E (l := l) (D := (fun c => (fC c).1, fun c => (fC c).2)) (fA := fA) hts hs k1 k2 t1 t2 hX hbl
  have w := L_start (G := (l, (fun c => (fC c).1, fun c => (fC c).2), fA, s.heap.size, adK, adV, t, b, L, xs)) hL
  have hl := lv_entry ([.ref b]) (n := 4) (Nat.le_of_ble_eq_true rfl)
  rw [lg_entry_eq]
  generalize (lg_sl ([.ref b]) ++ List.replicate (4 - (lg_sl ([.ref b])).length) Slot.unset).toArray = la at hl ⊢
  refine w p e s m #[Value.ref b] below meth c s.heap [] la ⟨hx, hb, hml, hr, hlocks, fun w hw => hts w (ALL_good hw).1, hown, fun q => (by cases q), hE, ⟨fun c q h => hfC c q h, fun k q h => ?_⟩, rfl⟩ ⟨by decide, Nat.le_refl _⟩ (fun k q h => ?_) va_S.rf rfl hl
  · have hk : k < 11 := by
      have := (List.getElem?_eq_some_iff.mp h).1
      simpa [tys] using this
    unfold tys at h
    rw [List.getElem?_map, List.getElem?_range hk] at h
    cases h
    exact hfA k hk
  · simp [ws] at h
