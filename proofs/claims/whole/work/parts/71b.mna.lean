/-! a row of rows -/
theorem out_is (c : ClassId) (M h0 : Nat) : ∀ i : Nat, Jvm.Free.Multi.outerC c M h0 i = arrV c M (fun j => va_rf (if j < i then some (h0 + 1 + j) else none))
  | 0 => by
    show ({ cls := c, slots := Array.replicate M .null, vm := .none } : Cell) = _
    rw [arrV_new]
    exact arrV_ext fun j _ => by rw [if_neg (by omega)]; rfl
  | i + 1 => by
    show (Jvm.Free.Multi.outerC c M h0 i).setSlot i (.ref (h0 + 1 + i)) = _
    rw [out_is c M h0 i, arrV_store]
    refine arrV_ext fun j _ => ?_
    by_cases e : j = i
    · subst e
      rw [if_pos (by omega)]
      simp [updV, va_rf]
    · by_cases h : j < i
      · rw [if_pos (by omega)]
        simp [updV, e, h]
      · rw [if_neg (by omega)]
        simp [updV, e, h]
theorem A_mna {G : GT} {o : String} {cc : ByteArray} {nL : Nat} {ret : Option FieldType} {ini : Bool} {rm : Room} {n0 : Nat} {Z : ZT} {pc : Nat} {ls : List (Nat × AV)} {st : List AV} {n : Nat} {N : NN} {R : RR} {i idx : Nat} (hd : decode cc pc = .ok (.multianewarray idx 2, 4)) (hcl0 : Cond.classLink o idx ("[" ++ (FieldType.array .int).toString) ∈ ALL) (harr : Cond.arrayClass .int ∈ ALL) (hL : layF n = (32, i)) (hLj : ∀ j, j < 10 → layF (n + (j + 1)) = (33, 10 * i + j)) (hn1 : n + 11 ≤ TOT) (hce : n + 11 - n0 ≤ rm.cells ∧ su (n + 11) - su n0 ≤ rm.slots) (hN : ∀ j, j < 10 → ∀ k, N 33 (10 * i + j) k = 0)
    (h : AW G o cc nL ret ini rm n0 Z (pc + 4) ls (vR 32 i :: st) (n + 11) N (rowsR R i)) (hold : ∀ c' i' k', ¬ (c' = 32 ∧ i' = i) → rowsR R i c' i' k' = R c' i' k') : AW G o cc nL ret ini rm n0 Z pc ls (vI 6 :: vI 10 :: st) n N R := by
  intro p e s m args below meth cx H locs la C hn hP hS hz hl
  have hts := C.2.2.2.2.2.1
  have hK := C.2.2.2.2.2.2.2.2.2.1
  have hE := C.2.2.2.2.2.2.2.2.1
  have m1 := su_mono hn.2
  obtain ⟨hi, hp⟩ := lay_ok hL (by omega)
  have hij : ∀ j, j < 10 → 10 * i + j < cnt 33 ∧ pos (33, 10 * i + j) = n + (j + 1) := fun j hj => lay_ok (hLj j hj) (by omega)
  have es : su (n + 11) = su n + 70 := by
    have s1 : su (n + 1) = su n + 10 := by
      show su n + szOf (layF n).1 = _
      rw [hL]; rfl
    have sj : ∀ j, j < 10 → su (n + (j + 1) + 1) = su (n + (j + 1)) + 6 := fun j hj => by
      show su (n + (j + 1)) + szOf (layF (n + (j + 1))).1 = _
      rw [hLj j hj]; rfl
    have a0 : su (n + 2) = su (n + 1) + 6 := sj 0 (by decide)
    have a1 : su (n + 3) = su (n + 2) + 6 := sj 1 (by decide)
    have a2 : su (n + 4) = su (n + 3) + 6 := sj 2 (by decide)
    have a3 : su (n + 5) = su (n + 4) + 6 := sj 3 (by decide)
    have a4 : su (n + 6) = su (n + 5) + 6 := sj 4 (by decide)
    have a5 : su (n + 7) = su (n + 6) + 6 := sj 5 (by decide)
    have a6 : su (n + 8) = su (n + 7) + 6 := sj 6 (by decide)
    have a7 : su (n + 9) = su (n + 8) + 6 := sj 7 (by decide)
    have a8 : su (n + 10) = su (n + 9) + 6 := sj 8 (by decide)
    have a9 : su (n + 11) = su (n + 10) + 6 := sj 9 (by decide)
    clear sj
    omega
  have h10 : (Int32.ofInt 10).toNatClampNeg = 10 := by decide +kernel
  have h6 : (Int32.ofInt 6).toNatClampNeg = 6 := by decide +kernel
  intro T hT Xs
  obtain ⟨vm₁, cA, comp, -, fA, fC, hO, -, X', step⟩ := Xs.multianewarray2F C.1 C.2.2.2.2.2.2.1 (hts _ hcl0) (show (Cond.arrayOver (.array .int)).before args s = true from hE.2.2.2.2.2.2.2.2.2.1) (hts _ harr) (g := F0 m pc la (.int (Int32.ofInt 6) :: .int (Int32.ofInt 10) :: st.map (cv G))) rfl (by rw [C.2.1]; exact hd) rfl (by decide +kernel) (by decide +kernel) (by rw [h10]; decide) (by rw [h6]; decide) (by rw [h6]; decide) rfl rfl (by rw [h10]; omega) (by rw [h10, h6]; omega)
  rw [h10, h6] at X' step
  generalize hF : Jvm.Free.Multi.fill (T.setVm vm₁) cA comp 10 6 (defaultValue .int) 10 = F at X' step
  have hTh : (T.setVm vm₁).heap = H := hT
  obtain ⟨f1, f2, -, -⟩ := Jvm.Free.Multi.fill_facts (T.setVm vm₁) cA comp 10 6 (defaultValue .int) 10
  rw [hF, hTh] at f1 f2
  have holdH : ∀ x : Nat, x < H.size → F.heap[x]? = H[x]? := fun x hx => by
    have := Jvm.Free.Multi.fill_old (T.setVm vm₁) cA comp 10 6 (defaultValue .int) (a := x) (by rw [hTh]; exact hx) 10
    rw [hF, hTh] at this
    exact this
  have hrow : ∀ j : Nat, j < 10 → F.heap[H.size + 1 + j]? = some (Jvm.Free.Multi.innerC comp 6 (defaultValue .int)) := fun j hj => by
    have := Jvm.Free.Multi.fill_inner (T.setVm vm₁) cA comp 10 6 (defaultValue .int) 10 j hj
    rw [hF, hTh] at this
    exact this
  have eA : cA = gA G (tix 32) := by
    have h3 := (hK.2 _ _ (tys_at (G := G) (c := 32) (by decide) hi)).2
    have h4 : s.vm.findClass ("[" ++ (FieldType.array .int).toString) = some (gA G (tix 32)) := h3
    rw [fA] at h4
    exact Option.some.inj h4
  have eC : comp = gA G (tix 33) := by
    have h3 := (hK.2 _ _ (tys_at (G := G) (c := 33) (by decide) (hij 0 (by decide)).1)).2
    have h4 : s.vm.findClass ("[" ++ FieldType.int.toString) = some (gA G (tix 33)) := h3
    have h5 : (FieldType.array .int).toString = "[" ++ FieldType.int.toString := rfl
    rw [h5, h4] at fC
    exact (Option.some.inj fC).symm
  have hP0 : va_P (gD G) vwCl (ws G n N (rowsR R i)) H := by
    have e1 : ws G n N (rowsR R i) = ws G n N R := by
      unfold ws
      apply List.map_congr_left
      intro q hq
      have hq' := List.mem_range.mp hq
      have hne : ¬ ((layF q).1 = 32 ∧ (layF q).2 = i) := fun z => by
        have : layF q = (32, i) := Prod.ext z.1 z.2
        have hq2 := lay_pos q (by omega)
        rw [this, hp] at hq2
        omega
      have : EE G N (rowsR R i) (layF q) = EE G N R (layF q) := by
        have hs : ∀ k, rowsR R i (layF q).1 (layF q).2 k = R (layF q).1 (layF q).2 k := fun k => hold _ _ _ hne
        unfold EE slot arrE
        simp only [hs]
      rw [this]
    rw [e1]
    exact hP
  have hP1 : va_P (gD G) vwCl (ws G (n + 11) N (rowsR R i)) F.heap := by
    refine P_many (hP0.kept fun k x hx => holdH x.1 ((hP0 k x hx).lt)) 11 fun j hj => ?_
    by_cases j0 : j = 0
    · subst j0
      rw [Nat.add_zero, hL, EE_arr (by decide)]
      show F.heap[gB G + n]? = some (vp_cell _ _)
      rw [← hz, f2, out_is, arrE_2 rfl, vp_cell_q, eA]
      refine congrArg some (arrV_ext (n := 10) fun k hk => ?_)
      rw [if_pos hk]
      unfold rowsR
      rw [if_pos ⟨rfl, rfl, hk⟩, Option.map_some, ad_ok (hij k hk).1, (hij k hk).2, hz]
      congr 2
      omega
    · obtain ⟨j', e⟩ : ∃ j', j = j' + 1 := ⟨j - 1, by omega⟩
      subst e
      have hj' : j' < 10 := by omega
      rw [hLj j' hj', EE_arr (by decide)]
      show F.heap[gB G + (n + (j' + 1))]? = some (vp_cell _ _)
      have := hrow j' hj'
      rw [show H.size + 1 + j' = gB G + (n + (j' + 1)) by omega] at this
      rw [this, arrE_0 rfl, vp_cell_i, eC]
      refine congrArg some ?_
      show ({ cls := _, slots := Array.replicate 6 (defaultValue .int), vm := .none } : Cell) = _
      rw [arrV_new]
      exact arrV_ext (n := 6) fun k hk => by rw [hN j' hj' k]; rfl
  have w := h p e s m args below meth cx F.heap locs la C ⟨by omega, by omega⟩ hP1 (S_grow hS (by omega) holdH) (by rw [f1, hz]; omega) hl
  have c1 : n + 11 - n0 = n - n0 + 1 + 10 := by omega
  have c2 : su (n + 11) - su n0 = su n - su n0 + 10 + 10 * 6 := by omega
  rw [c1, c2] at w
  obtain ⟨t, a1, b1⟩ := w F rfl X'
  refine ⟨t, step t ?_, b1⟩
  have ea : cv G (vR 32 i) = .ref T.heap.size := by
    show Value.ref (ad G (32, i)) = _
    rw [ad_ok hi, hp, hT, hz]
  rw [← ea]
  exact a1
