/-! values of the picture: whole numbers stand for ints and longs, (kind, index) for a cell -/
abbrev AV : Type := Int ⊕ Int ⊕ Option (Nat × Nat)
abbrev vI (x : Int) : AV := .inl x
abbrev vL (x : Int) : AV := .inr (.inl x)
abbrev vR (c i : Nat) : AV := .inr (.inr (some (c, i)))
abbrev vN : AV := .inr (.inr none)
abbrev NN : Type := Nat → Nat → Nat → Int
abbrev RR : Type := Nat → Nat → Nat → Option (Nat × Nat)
def wI (x : Int) : Int := x.bmod 4294967296
def wL (x : Int) : Int := x.bmod 18446744073709551616
theorem wI_id {x : Int} (h1 : -2147483648 ≤ x) (h2 : x < 2147483648) : wI x = x := by
  unfold wI
  rw [Int.bmod_def]
  split <;> omega
theorem wL_id {x : Int} (h1 : -9223372036854775808 ≤ x) (h2 : x < 9223372036854775808) : wL x = x := by
  unfold wL
  rw [Int.bmod_def]
  split <;> omega
theorem wI_rng (x : Int) : -2147483648 ≤ wI x ∧ wI x < 2147483648 := by
  unfold wI
  rw [Int.bmod_def]
  split <;> omega
theorem wL_rng (x : Int) : -9223372036854775808 ≤ wL x ∧ wL x < 9223372036854775808 := by
  unfold wL
  rw [Int.bmod_def]
  split <;> omega
theorem oI_toInt (x : Int) : (Int32.ofInt x).toInt = wI x := by
  unfold wI
  rw [Int32.toInt_ofInt]
theorem oL_toInt (x : Int) : (Int64.ofInt x).toInt = wL x := by
  unfold wL
  rw [Int64.toInt_ofInt]
theorem oI_w (x : Int) : Int32.ofInt (wI x) = Int32.ofInt x := by rw [← oI_toInt, Int32.ofInt_toInt]
theorem oL_w (x : Int) : Int64.ofInt (wL x) = Int64.ofInt x := by rw [← oL_toInt, Int64.ofInt_toInt]
theorem oI_eq {x y : Int} : Int32.ofInt x = Int32.ofInt y ↔ wI x = wI y := by rw [← Int32.toInt_inj, oI_toInt, oI_toInt]
theorem oI_lt {x y : Int} : Int32.ofInt x < Int32.ofInt y ↔ wI x < wI y := by rw [Int32.lt_iff_toInt_lt, oI_toInt, oI_toInt]
theorem oI_le {x y : Int} : Int32.ofInt x ≤ Int32.ofInt y ↔ wI x ≤ wI y := by rw [Int32.le_iff_toInt_le, oI_toInt, oI_toInt]
theorem oL_eq {x y : Int} : Int64.ofInt x = Int64.ofInt y ↔ wL x = wL y := by rw [← Int64.toInt_inj, oL_toInt, oL_toInt]
theorem oL_lt {x y : Int} : Int64.ofInt x < Int64.ofInt y ↔ wL x < wL y := by rw [Int64.lt_iff_toInt_lt, oL_toInt, oL_toInt]
theorem oI_0 : Int32.ofInt 0 = 0 := by decide +kernel
theorem oI_lt0 {x : Int} : Int32.ofInt x < 0 ↔ wI x < 0 := by rw [Int32.lt_iff_toInt_lt, oI_toInt, Int32.toInt_zero]
theorem oI_eq0 {x : Int} : Int32.ofInt x = 0 ↔ wI x = 0 := by rw [← Int32.toInt_inj, oI_toInt, Int32.toInt_zero]
theorem oI_le0 {x : Int} : Int32.ofInt x ≤ 0 ↔ wI x ≤ 0 := by rw [Int32.le_iff_toInt_le, oI_toInt, Int32.toInt_zero]
theorem oI_gt0 {x : Int} : 0 < Int32.ofInt x ↔ 0 < wI x := by rw [Int32.lt_iff_toInt_lt, oI_toInt, Int32.toInt_zero]
theorem oI_ge0 {x : Int} : 0 ≤ Int32.ofInt x ↔ 0 ≤ wI x := by rw [Int32.le_iff_toInt_le, oI_toInt, Int32.toInt_zero]
theorem oI_of {v : Int32} {x : Int} (h : v.toInt = x) : v = Int32.ofInt x := by rw [← h, Int32.ofInt_toInt]
theorem oL_of {v : Int64} {x : Int} (h : v.toInt = x) : v = Int64.ofInt x := by rw [← h, Int64.ofInt_toInt]
theorem oL_eq0 {x : Int} : Int64.ofInt x = 0 ↔ wL x = 0 := by rw [← Int64.toInt_inj, oL_toInt, Int64.toInt_zero]
theorem oI_div (x y : Int) : Int32.ofInt x / Int32.ofInt y = Int32.ofInt ((wI x).tdiv (wI y)) := by
  apply Int32.toInt_inj.mp
  rw [Int32.toInt_div, oI_toInt, oI_toInt, oI_toInt]
  rfl
theorem oL_div (x y : Int) : Int64.ofInt x / Int64.ofInt y = Int64.ofInt ((wL x).tdiv (wL y)) := by
  apply Int64.toInt_inj.mp
  rw [Int64.toInt_div, oL_toInt, oL_toInt, oL_toInt]
  rfl
theorem oI_rem (x y : Int) : Int32.ofInt x - Int32.ofInt x / Int32.ofInt y * Int32.ofInt y = Int32.ofInt ((wI x).tmod (wI y)) := by
  rw [oI_div, ← oI_w y, ← Int32.ofInt_mul, ← oI_w x, ← Int32.ofInt_sub, Int.tmod_def, Int.mul_comm (wI y)]
theorem oL_rem (x y : Int) : Int64.ofInt x - Int64.ofInt x / Int64.ofInt y * Int64.ofInt y = Int64.ofInt ((wL x).tmod (wL y)) := by
  rw [oL_div, ← oL_w y, ← Int64.ofInt_mul, ← oL_w x, ← Int64.ofInt_sub, Int.tmod_def, Int.mul_comm (wL y)]
theorem oI_L (x : Int) : (Int32.ofInt x).toInt64 = Int64.ofInt (wI x) := by
  apply Int64.toInt_inj.mp
  rw [Int32.toInt_toInt64, oI_toInt, oL_toInt, wL_id]
  · have := (wI_rng x).1; omega
  · have := (wI_rng x).2; omega
theorem oL_I (x : Int) : (Int64.ofInt x).toInt32 = Int32.ofInt x := by
  apply Int32.toInt_inj.mp
  rw [Int64.toInt_toInt32, oL_toInt, oI_toInt]
  unfold wL wI
  rw [Int.bmod_bmod_of_dvd]
  exact ⟨4294967296, by decide +kernel⟩
def ad (G : GT) (r : Nat × Nat) : Nat := if r.1 = 200 then gK G r.2 else if r.1 = 201 then gV G r.2 else if r.1 = 202 then gT G else if r.1 = 203 then gS G else gB G + pos r
def cv (G : GT) (v : AV) : Value := match v with
  | .inl x => .int (Int32.ofInt x)
  | .inr (.inl x) => .long (Int64.ofInt x)
  | .inr (.inr r) => va_rf (r.map (ad G))
def slot (G : GT) (N : NN) (R : RR) (c i : Nat) (t : FieldType) (k : Nat) : Value := match tagOf t with
  | 0 => .int (Int32.ofInt (N c i k))
  | 1 => .long (Int64.ofInt (N c i k))
  | _ => va_rf ((R c i k).map (ad G))
def arrE (G : GT) (N : NN) (R : RR) (c i : Nat) : (Nat → Int32) ⊕ (Nat → Int64) ⊕ (Nat → UInt32) ⊕ (Nat → UInt64) ⊕ (Nat → Option Nat) := match tagOf (aT c) with
  | 0 => .inl (fun j => Int32.ofInt (N c i j))
  | 1 => .inr (.inl (fun j => Int64.ofInt (N c i j)))
  | _ => .inr (.inr (.inr (.inr (fun j => (R c i j).map (ad G)))))
def EE (G : GT) (N : NN) (R : RR) (r : Nat × Nat) : va_E := if r.1 < 11 then .inr (r.1, (List.range (nf r.1)).map (fun k => slot G N R r.1 r.2 (tyC r.1 k) k)) else .inl (gA G (tix r.1), aN r.1, arrE G N R r.1 r.2)
def ws (G : GT) (n : Nat) (N : NN) (R : RR) : va_W := (List.range n).map (fun q => (gB G + q, EE G N R (layF q)))
def tys (G : GT) : List (ClassId × FieldType) := (List.range 11).map (fun k => (gA G k, tysF k))
theorem ad_ok {G : GT} {c i : Nat} (h : i < cnt c) : ad G (c, i) = gB G + pos (c, i) := by
  have := cnt_lt h
  unfold ad
  rw [if_neg (by show ¬ c = 200; omega), if_neg (by show ¬ c = 201; omega), if_neg (by show ¬ c = 202; omega), if_neg (by show ¬ c = 203; omega)]
theorem ws_len (G : GT) (n : Nat) (N : NN) (R : RR) : (ws G n N R).length = n := by simp [ws]
theorem ws_get {G : GT} {n : Nat} {N : NN} {R : RR} {q : Nat} (h : q < n) : (ws G n N R)[q]? = some (gB G + q, EE G N R (layF q)) := by
  unfold ws
  rw [List.getElem?_map, List.getElem?_range h]
  rfl
theorem ws_at {G : GT} {n : Nat} {N : NN} {R : RR} {c i : Nat} (h : okA n c i) : (ws G n N R)[pos (c, i)]? = some (ad G (c, i), EE G N R (c, i)) := by
  rw [ws_get h.2, (pos_lay h.1).1, ad_ok h.1]
theorem ws_D (G : GT) (n : Nat) (N : NN) (R : RR) : va_D (own G) (ws G n N R) := by
  have key : ∀ (k : Nat) (q : Nat × va_E), (ws G n N R)[k]? = some q → q.1 = gB G + k := by
    intro k q hk
    have hl : k < n := by
      have := (List.getElem?_eq_some_iff.mp hk).1
      rwa [ws_len] at this
    rw [ws_get hl] at hk
    cases hk
    rfl
  refine ⟨fun i j p q hi hj he => ?_, fun k q hk => ?_⟩
  · rw [key i p hi, key j q hj] at he
    omega
  · show gB G ≤ q.1
    rw [key k q hk]
    omega
/-- one cell changed -/
theorem ws_set {G : GT} {n : Nat} {N N' : NN} {R R' : RR} {c i : Nat} {x : va_E} (hn : n ≤ TOT) (h : okA n c i) (hx : EE G N' R' (c, i) = x) (ho : ∀ r, r ≠ (c, i) → EE G N' R' r = EE G N R r) : (ws G n N R).set (pos (c, i)) (ad G (c, i), x) = ws G n N' R' := by
  apply List.ext_getElem?
  intro q
  by_cases hq : q < n
  · by_cases e : pos (c, i) = q
    · subst e
      rw [List.getElem?_set_self (by rw [ws_len]; exact hq), ws_at h, hx]
    · rw [List.getElem?_set_ne e, ws_get hq, ws_get hq, ho]
      intro hr
      apply e
      rw [← hr]
      exact lay_pos q (Nat.lt_of_lt_of_le hq hn)
  · rw [List.getElem?_eq_none (by rw [List.length_set, ws_len]; omega), List.getElem?_eq_none (by rw [ws_len]; omega)]
/-- one number, one reference changed -/
def up3 (N : NN) (c i k : Nat) (v : Int) : NN := fun c' i' k' => if c' = c ∧ k' = k ∧ i' = i then v else N c' i' k'
def upR (R : RR) (c i k : Nat) (v : Option (Nat × Nat)) : RR := fun c' i' k' => if c' = c ∧ k' = k ∧ i' = i then v else R c' i' k'
theorem EE_obj {G : GT} {N : NN} {R : RR} {c i : Nat} (h : c < 11) : EE G N R (c, i) = .inr (c, (List.range (nf c)).map (fun k => slot G N R c i (tyC c k) k)) := if_pos h
theorem EE_arr {G : GT} {N : NN} {R : RR} {c i : Nat} (h : 20 ≤ c) : EE G N R (c, i) = .inl (gA G (tix c), aN c, arrE G N R c i) := if_neg (show ¬ c < 11 by omega)
theorem EE_other {G : GT} {N N' : NN} {R R' : RR} {c i : Nat} (hN : ∀ c' i' k', ¬ (c' = c ∧ i' = i) → N' c' i' k' = N c' i' k') (hR : ∀ c' i' k', ¬ (c' = c ∧ i' = i) → R' c' i' k' = R c' i' k') (r : Nat × Nat) (hr : r ≠ (c, i)) : EE G N' R' r = EE G N R r := by
  obtain ⟨c', i'⟩ := r
  have hne : ¬ (c' = c ∧ i' = i) := fun q => hr (by rw [q.1, q.2])
  unfold EE
  have e1 : ∀ k, slot G N' R' c' i' (tyC c' k) k = slot G N R c' i' (tyC c' k) k := by
    intro k
    unfold slot
    rw [hN c' i' k hne, hR c' i' k hne]
  have e2 : arrE G N' R' c' i' = arrE G N R c' i' := by
    unfold arrE
    have a1 : (fun j => Int32.ofInt (N' c' i' j)) = fun j => Int32.ofInt (N c' i' j) := funext fun j => by rw [hN c' i' j hne]
    have a2 : (fun j => Int64.ofInt (N' c' i' j)) = fun j => Int64.ofInt (N c' i' j) := funext fun j => by rw [hN c' i' j hne]
    have a3 : (fun j => (R' c' i' j).map (ad G)) = fun j => (R c' i' j).map (ad G) := funext fun j => by rw [hR c' i' j hne]
    rw [a1, a2, a3]
  rw [e2]
  simp only [e1]
theorem up3_o {N : NN} {c i k : Nat} {v : Int} : ∀ c' i' k', ¬ (c' = c ∧ i' = i) → up3 N c i k v c' i' k' = N c' i' k' := fun _ _ _ h => if_neg fun q => h ⟨q.1, q.2.2⟩
theorem upR_o {R : RR} {c i k : Nat} {v : Option (Nat × Nat)} : ∀ c' i' k', ¬ (c' = c ∧ i' = i) → upR R c i k v c' i' k' = R c' i' k' := fun _ _ _ h => if_neg fun q => h ⟨q.1, q.2.2⟩
