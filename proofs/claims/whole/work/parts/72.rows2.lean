/-! rows for constructors; a picture counts only by its cells' own slots -/
section ROW2
variable {G : GT} {o : String} {cc : ByteArray} {nL : Nat} {ret : Option FieldType} {ini : Bool} {rm : Room} {n0 : Nat} {Z : ZT} {pc : Nat} {ls : List (Nat × AV)} {st : List AV} {n : Nat} {N : NN} {R : RR}
theorem A_aast {c i j c2 i2 : Nat} {x : Int} {C0 : String} {T0 : u_T} {k0 : Nat} (hd : decode cc pc = .ok (.aastore, 1)) (h2 : 20 ≤ c) (hT : aT c = .object C0) (F : CF c2 C0 T0 k0) (ho : okA n c i) (ho2 : okA n c2 i2) (hj : wI x = (j : Int)) (hlt : j < aN c) (h : AW G o cc nL ret ini rm n0 Z (pc + 1) ls st n N (upR R c i j (some (c2, i2)))) : AW G o cc nL ret ini rm n0 Z pc ls (vR c2 i2 :: vI x :: vR c i :: st) n N R := by
  intro p e s m args below meth cx H locs la C hn hP hS hz hl
  have ha := ws_at (G := G) (N := N) (R := R) ho
  rw [EE_arr h2, arrE_2 (by rw [hT]; rfl)] at ha
  have hv := ws_at (G := G) (N := N) (R := R) ho2
  rw [EE_obj F.2.2.1] at hv
  have hK := C.2.2.2.2.2.2.2.2.2.1
  have ht := tys_at (G := G) h2 ho.1
  rw [hT] at ht
  obtain ⟨r', hr', cellV, g1, g2, g3, -⟩ := hP _ _ hv
  have hcls := (hK.1 c2 _ F.1).2
  obtain ⟨kA, comp, k1, k2, k3, -⟩ := (hK.2 _ _ ht).2
  have hcomp : comp = (gD G).1 c2 := Option.some.inj (k3.symm.trans hcls.1)
  subst hcomp
  obtain ⟨kC, hkC, -⟩ := hcls.2
  have hin := ix_in (n := aN c) hj hlt
  have hlt' : (Int32.ofInt x).toNatClampNeg < aN c := by rw [ix_cl hj]; exact hlt
  refine W.aast C.1 C.2.1 (hP _ _ ha) (fun q h => by cases h) (fun h => by cases h) k1 k2 rfl hkC ⟨fun q => hin (Or.inl q), by show _ < (arrV _ _ _).slots.size; rw [arrV_size]; exact hlt'⟩ g1 (fun q h => by rw [g3] at h; cases h) (by rw [g2]; exact hkC) (by rw [g2]; exact va_assign hcls) rfl rfl hd fun H1 e1 z oq => ?_
  refine h p e s m args below meth cx H1 _ la C hn (ws_put hP hn.1 ho ?_ oq (fun _ _ _ _ => rfl) upR_o) (hS.put z oq (ad_own ho.1)) (z.trans hz) hl
  rw [EE_arr h2, arrE_2 (by rw [hT]; rfl)]
  show H1[_]? = some (vp_cell _ _)
  rw [e1, vp_cell_q, vp_cell_q, arrV_store, ix_cl hj]
  refine congrArg some (congrArg (arrV (gA G (tix c)) (aN c)) (funext fun q => ?_))
  by_cases e : q = j
  · subst e
    simp only [updV, if_true, upR_s]
    rfl
  · simp [updV, e, upR_n e]
theorem A_slen (hd : decode cc pc = .ok (.arraylength, 1)) (h : AW G o cc nL ret ini rm n0 Z (pc + 1) ls (vI (gL G : Nat) :: st) n N R) : AW G o cc nL ret ini rm n0 Z pc ls (vR 203 0 :: st) n N R := by
  intro p e s m args below meth cx H locs la C hn hP hS hz hl
  have hX := C.2.2.2.2.2.2.2.2.1.2.2.2.2.2.2.2.2.2.2
  refine va_slen C.1 C.2.1 hX.1 hX.2.1 hX.2.2 hS hd ?_
  have w := h p e s m args below meth cx H locs la C hn hP hS hz hl
  rw [← Int32.ofInt_eq_ofNat]
  exact w
theorem A_sld {j : Nat} {x : Int} (hd : decode cc pc = .ok (.iaload, 1)) (hj : wI x = (j : Int)) (hlt : j < gL G) (h : AW G o cc nL ret ini rm n0 Z (pc + 1) ls (vI (gX G j).toInt :: st) n N R) : AW G o cc nL ret ini rm n0 Z pc ls (vI x :: vR 203 0 :: st) n N R := by
  intro p e s m args below meth cx H locs la C hn hP hS hz hl
  have hX := C.2.2.2.2.2.2.2.2.1.2.2.2.2.2.2.2.2.2.2
  refine va_sld C.1 C.2.1 hX.1 hX.2.1 hX.2.2 hS (ix_in hj hlt) hd ?_
  have w := h p e s m args below meth cx H locs la C hn hP hS hz hl
  rw [ix_cl hj]
  have e : cv G (vI (gX G j).toInt) = .int (gX G j) := by
    show Value.int (Int32.ofInt (gX G j).toInt) = _
    rw [Int32.ofInt_toInt]
  rw [← e]
  exact w
/-- once the final fields are written, the rows of any method serve -/
theorem AW_ini (h : AW G o cc nL ret false rm n0 Z pc ls st n N R) : AW G o cc nL ret true rm n0 Z pc ls st n N R := by
  intro p e s m args below meth cx H locs la C hn hP hS hz hl
  obtain ⟨a1, a2, a3, a4, a5, a6, a7, a8, a9⟩ := C
  exact h p e s m args below meth cx H locs la ⟨a1, a2, a3, a4, a5, a6, a7, fun q => (by cases q), a9⟩ hn hP hS hz hl
end ROW2
def tg (c k : Nat) : Nat := if c < 11 then tagOf (tyC c k) else tagOf (aT c)
/-- two pictures that tell the same where there are cells -/
def Same (n : Nat) (N : NN) (R : RR) (N' : NN) (R' : RR) : Prop := ∀ c i, okA n c i → ∀ k, k < szOf c → (tg c k ≠ 2 → N c i k = N' c i k) ∧ (tg c k = 2 → R c i k = R' c i k)
theorem arr_same {G : GT} {N N' : NN} {R R' : RR} {c i : Nat} (h : ∀ k, k < aN c → (tagOf (aT c) ≠ 2 → N c i k = N' c i k) ∧ (tagOf (aT c) = 2 → R c i k = R' c i k)) (cA : ClassId) : vp_cell cA (aN c, arrE G N R c i) = vp_cell cA (aN c, arrE G N' R' c i) := by
  rcases tag_3 (aT c) with t | t | t
  · rw [arrE_0 t, arrE_0 t, vp_cell_i, vp_cell_i]
    exact arrV_ext fun j hj => by rw [(h j hj).1 (by rw [t]; decide)]
  · rw [arrE_1 t, arrE_1 t, vp_cell_l, vp_cell_l]
    exact arrV_ext fun j hj => by rw [(h j hj).1 (by rw [t]; decide)]
  · rw [arrE_2 t, arrE_2 t, vp_cell_q, vp_cell_q]
    exact arrV_ext fun j hj => by rw [(h j hj).2 t]
theorem P_same {G : GT} {n : Nat} {N N' : NN} {R R' : RR} {H : Heap} (hn : n ≤ TOT) (hs : Same n N R N' R') (hP : va_P (gD G) vwCl (ws G n N R) H) : va_P (gD G) vwCl (ws G n N' R') H := by
  intro k q hk
  have hlt : k < n := by
    have := (List.getElem?_eq_some_iff.mp hk).1
    rwa [ws_len] at this
  rw [ws_get hlt] at hk
  cases hk
  have h0 := hP k _ (ws_get hlt)
  have hin := lay_in k (Nat.lt_of_lt_of_le hlt hn)
  have hpos := lay_pos k (Nat.lt_of_lt_of_le hlt hn)
  generalize hL : layF k = r at h0 hin hpos ⊢
  obtain ⟨c, i⟩ := r
  have ok : okA n c i := ⟨hin, by rw [hpos]; exact hlt⟩
  have hsc := hs c i ok
  rcases kinds_ok c (cnt_lt hin) (Nat.lt_of_le_of_lt (Nat.zero_le _) hin) with h | h
  · rw [EE_obj h] at h0 ⊢
    have e : (List.range (nf c)).map (fun k => slot G N R c i (tyC c k) k) = (List.range (nf c)).map (fun k => slot G N' R' c i (tyC c k) k) := by
      apply List.map_congr_left
      intro j hj
      have hj' := List.mem_range.mp hj
      have hh := hsc j (by unfold szOf; rw [if_pos h]; exact hj')
      unfold tg at hh
      rw [if_pos h] at hh
      rcases tag_3 (tyC c j) with t | t | t
      · rw [slot_0 t, slot_0 t, hh.1 (by rw [t]; decide)]
      · rw [slot_1 t, slot_1 t, hh.1 (by rw [t]; decide)]
      · rw [slot_2 t, slot_2 t, hh.2 t]
    rw [← e]
    exact h0
  · rw [EE_arr h] at h0 ⊢
    show H[gB G + k]? = some (vp_cell _ _)
    have h1 : H[gB G + k]? = some (vp_cell (gA G (tix c)) (aN c, arrE G N R c i)) := h0
    rw [h1]
    refine congrArg some (arr_same (fun j hj => ?_) _)
    have hh := hsc j (by unfold szOf; rw [if_neg (show ¬ c < 11 by omega)]; exact hj)
    unfold tg at hh
    rw [if_neg (show ¬ c < 11 by omega)] at hh
    exact hh
theorem AW_cells {G : GT} {o : String} {cc : ByteArray} {nL : Nat} {ret : Option FieldType} {ini : Bool} {rm : Room} {n0 : Nat} {Z : ZT} {pc : Nat} {ls : List (Nat × AV)} {st : List AV} {n : Nat} {N N' : NN} {R R' : RR} (hs : Same n N R N' R') (h : AW G o cc nL ret ini rm n0 Z pc ls st n N' R') : AW G o cc nL ret ini rm n0 Z pc ls st n N R := by
  intro p e s m args below meth cx H locs la C hn hP hS hz hl
  exact h p e s m args below meth cx H locs la C hn (P_same hn.1 hs hP) hS hz hl
/-! what is blank, and what a constructor leaves -/
def Bl (m : Nat) (N : NN) (R : RR) : Prop := ∀ c i, (i < cnt c → m ≤ pos (c, i)) → ∀ k, N c i k = 0 ∧ R c i k = none
theorem Bl.up {m m' : Nat} {N : NN} {R : RR} (h : Bl m N R) (hm : m ≤ m') : Bl m' N R := fun c i q k => h c i (fun z => Nat.le_trans hm (q z)) k
theorem Bl.at {m c i : Nat} {N : NN} {R : RR} (h : Bl m N R) (hL : layF m = (c, i)) (hm : m < TOT) (k : Nat) : N c i k = 0 ∧ R c i k = none := h c i (fun _ => by rw [(lay_ok hL hm).2]; exact Nat.le_refl _) k
theorem Bl.at2 {m q c i : Nat} {N : NN} {R : RR} (h : Bl m N R) (hL : layF q = (c, i)) (hq : q < TOT) (hm : m ≤ q) (k : Nat) : N c i k = 0 ∧ R c i k = none := h c i (fun _ => by rw [(lay_ok hL hq).2]; exact hm) k
theorem Bl.n {m c i k : Nat} {v : Int} {N : NN} {R : RR} (h : Bl m N R) (ho : okA m c i) : Bl m (up3 N c i k v) R := fun c' i' q j => by
  have ne : ¬ (c' = c ∧ i' = i) := by
    rintro ⟨rfl, rfl⟩
    exact Nat.not_le_of_lt ho.2 (q ho.1)
  exact ⟨(up3_o c' i' j ne).trans (h c' i' q j).1, (h c' i' q j).2⟩
theorem Bl.r {m c i k : Nat} {v : Option (Nat × Nat)} {N : NN} {R : RR} (h : Bl m N R) (ho : okA m c i) : Bl m N (upR R c i k v) := fun c' i' q j => by
  have ne : ¬ (c' = c ∧ i' = i) := by
    rintro ⟨rfl, rfl⟩
    exact Nat.not_le_of_lt ho.2 (q ho.1)
  exact ⟨(h c' i' q j).1, (upR_o c' i' j ne).trans (h c' i' q j).2⟩
def pt {α : Type} (a b : Nat) (F0 F : Nat → Nat → Nat → α) : Nat → Nat → Nat → α := fun c i k => if i < cnt c ∧ a ≤ pos (c, i) ∧ pos (c, i) < b then F0 c i k else F c i k
theorem pt_out {α : Type} {a b c i : Nat} {F0 F : Nat → Nat → Nat → α} (h : ¬ (i < cnt c ∧ a ≤ pos (c, i) ∧ pos (c, i) < b)) (k : Nat) : pt a b F0 F c i k = F c i k := if_neg h
theorem pt_in {α : Type} {a b c i : Nat} {F0 F : Nat → Nat → Nat → α} (h : i < cnt c ∧ a ≤ pos (c, i) ∧ pos (c, i) < b) (k : Nat) : pt a b F0 F c i k = F0 c i k := if_pos h
theorem pt_nil {α : Type} {a : Nat} {F0 F : Nat → Nat → Nat → α} : pt a a F0 F = F := by
  funext c i k
  exact pt_out (by omega) k
theorem pt_pt {α : Type} {a b d : Nat} {F0 F : Nat → Nat → Nat → α} (h1 : a ≤ b) (h2 : b ≤ d) : pt b d F0 (pt a b F0 F) = pt a d F0 F := by
  funext c i k
  unfold pt
  by_cases x : i < cnt c ∧ b ≤ pos (c, i) ∧ pos (c, i) < d
  · rw [if_pos x, if_pos ⟨x.1, Nat.le_trans h1 x.2.1, x.2.2⟩]
  · rw [if_neg x]
    by_cases y : i < cnt c ∧ a ≤ pos (c, i) ∧ pos (c, i) < b
    · rw [if_pos y, if_pos ⟨y.1, y.2.1, Nat.lt_of_lt_of_le y.2.2 h2⟩]
    · rw [if_neg y, if_neg (by omega)]
theorem lay_eq {c i q : Nat} (h : i < cnt c) (hq : pos (c, i) = q) : layF q = (c, i) := by rw [← hq]; exact (pos_lay h).1
/-- a region told cell by cell -/
theorem pt_eq {α : Type} {a b : Nat} {F0 F X : Nat → Nat → Nat → α} (hi : ∀ q c i, a ≤ q → q < b → layF q = (c, i) → ∀ k, X c i k = F0 c i k) (ho : ∀ c i, ¬ (i < cnt c ∧ a ≤ pos (c, i) ∧ pos (c, i) < b) → ∀ k, X c i k = F c i k) : X = pt a b F0 F := by
  funext c i k
  by_cases h : i < cnt c ∧ a ≤ pos (c, i) ∧ pos (c, i) < b
  · rw [pt_in h]
    exact hi _ c i h.2.1 h.2.2 (lay_eq h.1 rfl) k
  · rw [pt_out h]
    exact ho c i h k
theorem Bl.p {a b : Nat} {N : NN} {R : RR} {F0 : NN} {F1 : RR} (h : Bl b N R) : Bl b (pt a b F0 N) (pt a b F1 R) := fun c i q k => by
  have ne : ¬ (i < cnt c ∧ a ≤ pos (c, i) ∧ pos (c, i) < b) := fun z => Nat.not_le_of_lt z.2.2 (q z.1)
  rw [pt_out ne, pt_out ne]
  exact h c i q k
/-- the first j places of an array of references -/
def rowR (R : RR) (c i j : Nat) (g : Nat → Nat × Nat) : RR := fun c' i' k => if c' = c ∧ i' = i ∧ k < j then some (g k) else R c' i' k
theorem rowR_0 {R : RR} {c i : Nat} {g : Nat → Nat × Nat} : rowR R c i 0 g = R := by
  funext c' i' k
  exact if_neg (by omega)
theorem rowR_o {R : RR} {c i j : Nat} {g : Nat → Nat × Nat} (c' i' k : Nat) (h : ¬ (c' = c ∧ i' = i)) : rowR R c i j g c' i' k = R c' i' k := if_neg fun q => h ⟨q.1, q.2.1⟩
theorem rowR_s {R : RR} {c i j : Nat} {g : Nat → Nat × Nat} : upR (rowR R c i j g) c i j (some (g j)) = rowR R c i (j + 1) g := by
  funext c' i' k
  unfold upR rowR
  by_cases h : c' = c ∧ i' = i
  · obtain ⟨rfl, rfl⟩ := h
    by_cases e : k = j
    · subst e
      rw [if_pos ⟨rfl, rfl, rfl⟩, if_pos ⟨rfl, rfl, Nat.lt_succ_self _⟩]
    · rw [if_neg (fun q => e q.2.1)]
      by_cases l : k < j
      · rw [if_pos ⟨rfl, rfl, l⟩, if_pos ⟨rfl, rfl, by omega⟩]
      · rw [if_neg (by omega), if_neg (by omega)]
  · rw [if_neg (fun q => h ⟨q.1, q.2.2⟩), if_neg (fun q => h ⟨q.1, q.2.1⟩), if_neg (fun q => h ⟨q.1, q.2.1⟩)]
theorem pt_row {a b c i j : Nat} {F0 R : RR} {g : Nat → Nat × Nat} (h : pos (c, i) < a) : pt a b F0 (rowR R c i j g) = rowR (pt a b F0 R) c i j g := by
  funext c' i' k
  by_cases e : c' = c ∧ i' = i
  · obtain ⟨rfl, rfl⟩ := e
    have no : ¬ (i' < cnt c' ∧ a ≤ pos (c', i') ∧ pos (c', i') < b) := by omega
    rw [pt_out no]
    unfold rowR
    rw [pt_out no]
  · rw [rowR_o _ _ _ e]
    unfold pt
    rw [rowR_o _ _ _ e]
theorem pt_upR {a b c i j : Nat} {F0 R : RR} {v : Option (Nat × Nat)} (h : pos (c, i) < a) : pt a b F0 (upR R c i j v) = upR (pt a b F0 R) c i j v := by
  funext c' i' k
  by_cases e : c' = c ∧ i' = i
  · obtain ⟨rfl, rfl⟩ := e
    have no : ¬ (i' < cnt c' ∧ a ≤ pos (c', i') ∧ pos (c', i') < b) := by omega
    rw [pt_out no]
    unfold upR
    rw [pt_out no]
  · rw [upR_o _ _ _ e]
    unfold pt
    rw [upR_o _ _ _ e]
theorem pt_up3 {a b c i j : Nat} {F0 R : NN} {v : Int} (h : pos (c, i) < a) : pt a b F0 (up3 R c i j v) = up3 (pt a b F0 R) c i j v := by
  funext c' i' k
  by_cases e : c' = c ∧ i' = i
  · obtain ⟨rfl, rfl⟩ := e
    have no : ¬ (i' < cnt c' ∧ a ≤ pos (c', i') ∧ pos (c', i') < b) := by omega
    rw [pt_out no]
    unfold up3
    rw [pt_out no]
  · rw [up3_o _ _ _ e]
    unfold pt
    rw [up3_o _ _ _ e]
theorem Bl.w {m c i j : Nat} {N : NN} {R : RR} {g : Nat → Nat × Nat} (h : Bl m N R) (ho : okA m c i) : Bl m N (rowR R c i j g) := fun c' i' q k => by
  have ne : ¬ (c' = c ∧ i' = i) := by
    rintro ⟨rfl, rfl⟩
    exact Nat.not_le_of_lt ho.2 (q ho.1)
  exact ⟨(h c' i' q k).1, (rowR_o c' i' k ne).trans (h c' i' q k).2⟩
theorem rm_le {L n0 n n1 : Nat} (h : n ≤ n1) : n - n0 ≤ (rmL L n0 n1).cells ∧ su n - su n0 ≤ (rmL L n0 n1).slots := ⟨Nat.sub_le_sub_right h _, Nat.sub_le_sub_right (su_mono h) _⟩
/-- what the class's constructors leave in the cells that they make -/
def NB : NN := fun c i k => match c with
  | 0 => if k = 2 then 1000 else if k = 3 then 1 else 0
  | 1 => if k = 3 then 3 else 0
  | 4 => if k = 1 then 1 else 0
  | 6 => if k = 3 then 50 else 0
  | 7 => if k = 1 then -1 else 0
  | 30 => if k < 4 then (k : Int) else 0
  | 33 => if i % 10 = 0 then (if k = 0 then 5 else if k = 1 ∨ k = 2 ∨ k = 4 ∨ k = 5 then -1 else 0) else 0
  | _ => 0
def RB : RR := fun c i k => match c with
  | 0 => if k = 0 then some (21, i) else none
  | 1 => if k = 0 then some (29, i) else if k = 1 then some (30, i) else if k = 2 then some (31, i) else none
  | 3 => if k = 12 then some (28, i) else none
  | 4 => if k = 0 then some (32, i) else none
  | 6 => if k = 0 then some (20, i) else none
  | 7 => if k = 0 then some (34, i) else none
  | 8 => if k = 0 then some (24, 0) else none
  | 20 => if k < 12 then some (2, 12 * i + k) else none
  | 21 => if k < 5 then some (5, 5 * i + k) else none
  | 32 => if k < 10 then some (33, 10 * i + k) else none
  | _ => none
