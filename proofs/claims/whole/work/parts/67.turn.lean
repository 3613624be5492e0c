/-! what the reference keeps and takes back -/
def xL (e : Nat) : Nat := if e = 0 then 1 else if e = 1 then 11 else if e = 2 then 14 else if e = 3 then 64 else if e = 4 then 65 else if e = 5 then 66 else if e = 6 then 68 else 67
def cX (c cp q : Nat) : Nat := if q < 7 * c then 41 + q % 7 else if q < 7 * c + 6 * cp then 69 + (q - 7 * c) % 6 else 10
def cK (c cp q : Nat) : Nat := if q < 7 * c then q / 7 else if q < 7 * c + 6 * cp then (q - 7 * c) / 6 else xL (q - (7 * c + 6 * cp))
def TR (c cp : Nat) (V : Nat → Int) (q : Nat) (N M : NN) : Prop := (∀ r, r < q → M (cX c cp r) 0 (cK c cp r) = V r ∧ M 81 0 r = V r) ∧ M 10 0 76 = (q : Int) ∧ ∀ x i k, ¬ (i = 0 ∧ ∃ r, r < q ∧ x = cX c cp r ∧ k = cK c cp r) → ¬ (x = 81 ∧ i = 0 ∧ k < q) → ¬ (x = 10 ∧ i = 0 ∧ k = 76) → M x i k = N x i k
section TUR
variable {G : GT} {c cp : Nat} {V : Nat → Int} {l1 : Int} {N : NN}
theorem xL_r {e : Nat} (h : e < 8) : (xL e = 1 ∨ xL e = 11 ∨ xL e = 14 ∨ (64 ≤ xL e ∧ xL e ≤ 68)) := by
  rcases (by omega : e = 0 ∨ e = 1 ∨ e = 2 ∨ e = 3 ∨ e = 4 ∨ e = 5 ∨ e = 6 ∨ e = 7) with rfl | rfl | rfl | rfl | rfl | rfl | rfl | rfl <;> decide
theorem xL_inj {a b : Nat} (ha : a < 8) (hb : b < 8) (h : xL a = xL b) : a = b := by
  have : ∀ a, a < 8 → ∀ b, b < 8 → xL a = xL b → a = b := by decide
  exact this a ha b hb h
/-- where a kept number lies -/
theorem cell_L {n e : Nat} (hn : n < c) (he : e < 7) : cX c cp (7 * n + e) = 41 + e ∧ cK c cp (7 * n + e) = n := by
  unfold cX cK
  rw [if_pos (by omega), if_pos (by omega)]
  omega
theorem cell_P {n e : Nat} (hn : n < cp) (he : e < 6) : cX c cp (7 * c + 6 * n + e) = 69 + e ∧ cK c cp (7 * c + 6 * n + e) = n := by
  unfold cX cK
  rw [if_neg (by omega), if_pos (by omega), if_neg (by omega), if_pos (by omega)]
  omega
theorem cell_S {e : Nat} : cX c cp (7 * c + 6 * cp + e) = 10 ∧ cK c cp (7 * c + 6 * cp + e) = xL e := by
  unfold cX cK
  rw [if_neg (by omega), if_neg (by omega), if_neg (by omega), if_neg (by omega)]
  exact ⟨rfl, by rw [show 7 * c + 6 * cp + e - (7 * c + 6 * cp) = e by omega]⟩
theorem cell_is {q : Nat} (h : q < 7 * c + 6 * cp + 8) : (∃ n e, n < c ∧ e < 7 ∧ q = 7 * n + e) ∨ (∃ n e, n < cp ∧ e < 6 ∧ q = 7 * c + 6 * n + e) ∨ ∃ e, e < 8 ∧ q = 7 * c + 6 * cp + e := by
  by_cases a : q < 7 * c
  · exact .inl ⟨q / 7, q % 7, by omega, by omega, by omega⟩
  · by_cases b : q < 7 * c + 6 * cp
    · exact .inr (.inl ⟨(q - 7 * c) / 6, (q - 7 * c) % 6, by omega, by omega, by omega⟩)
    · exact .inr (.inr ⟨q - (7 * c + 6 * cp), by omega, by omega⟩)
theorem cell_r {q : Nat} (h : q < 7 * c + 6 * cp + 8) : (41 ≤ cX c cp q ∧ cX c cp q ≤ 47 ∧ cK c cp q < c) ∨ (69 ≤ cX c cp q ∧ cX c cp q ≤ 74 ∧ cK c cp q < cp) ∨ (cX c cp q = 10 ∧ (cK c cp q = 1 ∨ cK c cp q = 11 ∨ cK c cp q = 14 ∨ (64 ≤ cK c cp q ∧ cK c cp q ≤ 68))) := by
  rcases cell_is h with ⟨n, e, hn, he, rfl⟩ | ⟨n, e, hn, he, rfl⟩ | ⟨e, he, rfl⟩
  · obtain ⟨a, b⟩ := cell_L (cp := cp) hn he
    rw [a, b]; exact .inl ⟨by omega, by omega, hn⟩
  · obtain ⟨a, b⟩ := cell_P (c := c) hn he
    rw [a, b]; exact .inr (.inl ⟨by omega, by omega, hn⟩)
  · obtain ⟨a, b⟩ := cell_S (c := c) (cp := cp) (e := e)
    rw [a, b]; exact .inr (.inr ⟨rfl, xL_r he⟩)
theorem cell_inj {q r : Nat} (h : q < 7 * c + 6 * cp + 8) (h2 : r < 7 * c + 6 * cp + 8) (e1 : cX c cp q = cX c cp r) (e2 : cK c cp q = cK c cp r) : q = r := by
  rcases cell_is h with ⟨n, e, hn, he, rfl⟩ | ⟨n, e, hn, he, rfl⟩ | ⟨e, he, rfl⟩
  · obtain ⟨a, b⟩ := cell_L (cp := cp) hn he
    rw [a] at e1; rw [b] at e2
    rcases cell_is h2 with ⟨n', e', hn', he', rfl⟩ | ⟨n', e', hn', he', rfl⟩ | ⟨e', he', rfl⟩
    · obtain ⟨a', b'⟩ := cell_L (cp := cp) hn' he'
      rw [a'] at e1; rw [b'] at e2; omega
    · obtain ⟨a', b'⟩ := cell_P (c := c) hn' he'
      rw [a'] at e1; omega
    · obtain ⟨a', b'⟩ := cell_S (c := c) (cp := cp) (e := e')
      rw [a'] at e1; omega
  · obtain ⟨a, b⟩ := cell_P (c := c) hn he
    rw [a] at e1; rw [b] at e2
    rcases cell_is h2 with ⟨n', e', hn', he', rfl⟩ | ⟨n', e', hn', he', rfl⟩ | ⟨e', he', rfl⟩
    · obtain ⟨a', b'⟩ := cell_L (cp := cp) hn' he'
      rw [a'] at e1; omega
    · obtain ⟨a', b'⟩ := cell_P (c := c) hn' he'
      rw [a'] at e1; rw [b'] at e2; omega
    · obtain ⟨a', b'⟩ := cell_S (c := c) (cp := cp) (e := e')
      rw [a'] at e1; omega
  · obtain ⟨a, b⟩ := cell_S (c := c) (cp := cp) (e := e)
    rw [a] at e1; rw [b] at e2
    rcases cell_is h2 with ⟨n', e', hn', he', rfl⟩ | ⟨n', e', hn', he', rfl⟩ | ⟨e', he', rfl⟩
    · obtain ⟨a', b'⟩ := cell_L (cp := cp) hn' he'
      rw [a'] at e1; omega
    · obtain ⟨a', b'⟩ := cell_P (c := c) hn' he'
      rw [a'] at e1; omega
    · obtain ⟨a', b'⟩ := cell_S (c := c) (cp := cp) (e := e')
      rw [b'] at e2
      have := xL_inj he he' e2
      omega
theorem TR_cell {q : Nat} {M : NN} (T : TR c cp V q N M) (hq : q < 7 * c + 6 * cp + 8) : M (cX c cp q) 0 (cK c cp q) = N (cX c cp q) 0 (cK c cp q) := by
  have := cell_r hq
  refine T.2.2 _ _ _ (fun y => ?_) (by omega) (by omega)
  obtain ⟨_, r, hr, e1, e2⟩ := y
  have := cell_inj hq (by omega) e1 e2
  omega
theorem TR_0 {M : NN} (h : M = up3 N 10 0 76 0) : TR c cp V 0 N M := ⟨fun r hr => absurd hr (by omega), by rw [h, up3_s]; rfl, fun x i k _ _ d => by rw [h, up3_o' (by omega)]⟩
/-- a kept number's way -/
theorem tr_pass {q : Nat} {M : NN} {x : Int} {X Kc : Nat} {P : Int → NN → Prop} (c12 : c ≤ 12) (c5 : cp ≤ 5) (T : TR c cp V q N M) (hq : q < 7 * c + 6 * cp + 8) (hX : cX c cp q = X) (hK : cK c cp q = Kc) (hv : (wI l1 = 0 ∧ N 81 0 q = V q) ∨ (¬ wI l1 = 0 ∧ x = V q)) (k : ∀ N2, (∀ M4 : NN, M4 = up3 N2 X 0 Kc (V q) → TR c cp V (q + 1) N M4) → P (V q) N2) : C_X10_pass G l1 x M P := by
  obtain ⟨t1, t2, t3⟩ := T
  subst hX hK
  have rq := cell_r hq
  have fin : ∀ N2 : NN, N2 10 0 76 = ((q + 1 : Nat) : Int) → N2 81 0 q = V q → (∀ x i k, ¬ (x = 81 ∧ i = 0 ∧ k = q) → ¬ (x = 10 ∧ i = 0 ∧ k = 76) → N2 x i k = M x i k) → ∀ M4 : NN, M4 = up3 N2 (cX c cp q) 0 (cK c cp q) (V q) → TR c cp V (q + 1) N M4 := by
    intro N2 a1 a2 a3 M4 e4
    have f : ∀ x i k, ¬ (x = cX c cp q ∧ i = 0 ∧ k = cK c cp q) → ¬ (x = 81 ∧ i = 0 ∧ k = q) → ¬ (x = 10 ∧ i = 0 ∧ k = 76) → M4 x i k = M x i k := fun x i k d1 d2 d3 => by rw [e4, up3_o' (by omega), a3 _ _ _ d2 d3]
    refine ⟨fun r hr => ?_, by rw [e4, up3_o' (by omega)]; exact a1, fun x i k d1 d2 d3 => ?_⟩
    · by_cases y : r = q
      · subst y
        exact ⟨by rw [e4, up3_s], by rw [e4, up3_o' (by omega)]; exact a2⟩
      · obtain ⟨u1, u2⟩ := t1 r (by omega)
        have rr := cell_r (c := c) (cp := cp) (q := r) (by omega)
        exact ⟨by rw [f _ _ _ (fun z => y (cell_inj (by omega) hq z.1 z.2.2)) (by omega) (by omega)]; exact u1, by rw [f _ _ _ (by omega) (by omega) (by omega)]; exact u2⟩
    · rw [f _ _ _ (fun z => d1 ⟨z.2.1, q, by omega, z.1, z.2.2⟩) (by omega) d3]
      exact t3 _ _ _ (fun z => d1 ⟨z.1, z.2.elim fun r w => ⟨r, by omega, w.2⟩⟩) (by omega) d3
  have wq : wI ((q : Int)) = (q : Int) := wI_id (by omega) (by omega)
  have wq1 : wI (((q + 1 : Nat) : Int) - 1) = (q : Int) := by rw [wI_id (by omega) (by omega)]; omega
  have lq : q < 200 := by omega
  have rg := fun y : 0 < q ∨ q = 0 => y
  refine vc_X10_pass ⟨fun z M1 e1 => ⟨q, ?_, lq, ?_⟩, fun z => ⟨q, by rw [t2]; exact wq, lq, fun M4 e4 M5 e5 => ⟨q, ?_, lq, ?_⟩⟩⟩
  · rw [e1, up3_s, t2]; exact wq1
  · have v : M1 81 0 q = V q := by
      rw [e1, up3_o' (by omega), t3 _ _ _ (fun y => ?_) (by omega) (by omega)]
      · exact hv.elim (fun y => y.2) (fun y => absurd z y.1)
      · obtain ⟨_, r, hr, e1', e2'⟩ := y
        have := cell_r (c := c) (cp := cp) (q := r) (by omega)
        omega
    rw [v]
    exact k M1 (fin M1 (by rw [e1, up3_s, t2]; omega) v (fun x i k _ d => by rw [e1, up3_o' (by omega)]))
  · rw [e5, up3_s, e4, up3_o' (by omega), t2]; exact wq1
  · have hx : x = V q := hv.elim (fun y => absurd y.1 z) (fun y => y.2)
    have v : M5 81 0 q = V q := by rw [e5, up3_o' (by omega), e4, up3_s, hx]
    rw [v]
    exact k M5 (fin M5 (by rw [e5, up3_s, e4, up3_o' (by omega), t2]; omega) v (fun x i k d1 d => by rw [e5, up3_o' (by omega), e4, up3_o' (by omega)]))
/-- the numbers kept, or taken back -/
def HV (c cp : Nat) (V : Nat → Int) (l1 : Int) (N : NN) : Prop := ((wI l1 = 0 ∧ ∀ q, q < 7 * c + 6 * cp + 8 → N 81 0 q = V q) ∨ (¬ wI l1 = 0 ∧ ∀ q, q < 7 * c + 6 * cp + 8 → N (cX c cp q) 0 (cK c cp q) = V q)) ∧ (∀ q, q < 7 * c → IR (V q)) ∧ IR (V (7 * c + 6 * cp)) ∧ IR (V (7 * c + 6 * cp + 1)) ∧ IR (V (7 * c + 6 * cp + 2)) ∧ IR (V (7 * c + 6 * cp + 6)) ∧ (V (7 * c + 6 * cp + 7) = 0 ∨ V (7 * c + 6 * cp + 7) = 1)
theorem tr_I {q : Nat} {M : NN} {X Kc : Nat} {P : Int → NN → Prop} (c12 : c ≤ 12) (c5 : cp ≤ 5) (H : HV c cp V l1 N) (ir : IR (V q)) (T : TR c cp V q N M) (hq : q < 7 * c + 6 * cp + 8) (hX : cX c cp q = X ∧ cK c cp q = Kc) (k : ∀ N2, (∀ M4 : NN, M4 = up3 N2 X 0 Kc (V q) → TR c cp V (q + 1) N M4) → P (V q) N2) : C_X10_pass G l1 (wI (M X 0 Kc)) M P := by
  refine tr_pass c12 c5 T hq hX.1 hX.2 ?_ k
  rcases H.1 with ⟨a, b⟩ | ⟨a, b⟩
  · exact .inl ⟨a, b q hq⟩
  · refine .inr ⟨a, ?_⟩
    have := TR_cell T hq
    rw [hX.1, hX.2] at this
    have e := b q hq
    rw [hX.1, hX.2] at e
    rw [this, e, IR_id ir]
theorem tr_L {q : Nat} {M : NN} {X Kc : Nat} {P : Int → NN → Prop} (c12 : c ≤ 12) (c5 : cp ≤ 5) (H : HV c cp V l1 N) (T : TR c cp V q N M) (hq : q < 7 * c + 6 * cp + 8) (hX : cX c cp q = X ∧ cK c cp q = Kc) (k : ∀ N2, (∀ M4 : NN, M4 = up3 N2 X 0 Kc (V q) → TR c cp V (q + 1) N M4) → P (V q) N2) : C_X10_pass G l1 (M X 0 Kc) M P := by
  refine tr_pass c12 c5 T hq hX.1 hX.2 ?_ k
  rcases H.1 with ⟨a, b⟩ | ⟨a, b⟩
  · exact .inl ⟨a, b q hq⟩
  · refine .inr ⟨a, ?_⟩
    have := TR_cell T hq
    rw [hX.1, hX.2] at this
    have e := b q hq
    rw [hX.1, hX.2] at e
    rw [this, e]
theorem TR_o {q : Nat} {M : NN} (T : TR c cp V q N M) (hq : q ≤ 7 * c + 6 * cp + 8) {x k : Nat} (h : x = 10 ∧ (k = 2 ∨ k = 53)) : M x 0 k = N x 0 k := by
  refine T.2.2 _ _ _ (fun y => ?_) (by omega) (by omega)
  obtain ⟨_, r, hr, e1, e2⟩ := y
  have := cell_r (c := c) (cp := cp) (q := r) (by omega)
  omega
/-- the loans -/
theorem tr_loans {K : NN → Prop} (c12 : c ≤ 12) (c5 : cp ≤ 5) (H : HV c cp V l1 N) (hc : N 10 0 2 = (c : Int)) (k : ∀ M, TR c cp V (7 * c) N M → W_X10_turn G K 156 [(0, vR 10 0), (1, vI l1), (2, vI 0)] [] M) : ∀ (d n : Nat) (M : NN), n + d = c → TR c cp V (7 * n) N M → W_X10_turn G K 7 [(0, vR 10 0), (1, vI l1), (2, vI (n : Int))] [] M
  | 0, n, M, hd, T => by
    have wn := fun _ : Unit => wI_id (x := (n : Int)) (by omega) (by omega)
    have : n = c := hd
    subst this
    refine vc_X10_turn_7 ?_
    rw [TR_o T (by omega) ⟨rfl, .inl rfl⟩, hc, wn ()]
    exact ⟨fun _ => k M T, fun q => absurd (Int.le_refl _) q⟩
  | d + 1, n, M, hd, T => by
    have wn := fun _ : Unit => wI_id (x := (n : Int)) (by omega) (by omega)
    have wc := fun _ : Unit => wI_id (x := (c : Int)) (by omega) (by omega)
    have hn : n < c := by omega
    have l : n < 12 := by omega
    have ir : ∀ e, e < 7 → IR (V (7 * n + e)) := fun e he => H.2.1 _ (by omega)
    refine vc_X10_turn_7 ?_
    rw [TR_o T (by omega) ⟨rfl, .inl rfl⟩, hc, wn (), wc ()]
    refine ⟨fun q => absurd q (by omega), fun _ => ⟨n, rfl, l, ?_⟩⟩
    refine tr_I (q := 7 * n + 0) c12 c5 H (ir 0 (by decide)) T (by omega) (cell_L hn (by decide)) (fun N2 t2 => ⟨n, rfl, l, fun M4 e4 => ⟨n, rfl, l, ?_⟩⟩)
    refine tr_I (q := 7 * n + 1) c12 c5 H (ir 1 (by decide)) (t2 M4 e4) (by omega) (cell_L hn (by decide)) (fun N6 t6 => ⟨n, rfl, l, fun M8 e8 => ⟨n, rfl, l, ?_⟩⟩)
    refine tr_I (q := 7 * n + 2) c12 c5 H (ir 2 (by decide)) (t6 M8 e8) (by omega) (cell_L hn (by decide)) (fun N10 t10 => ⟨n, rfl, l, fun M12 e12 => ⟨n, rfl, l, ?_⟩⟩)
    refine tr_I (q := 7 * n + 3) c12 c5 H (ir 3 (by decide)) (t10 M12 e12) (by omega) (cell_L hn (by decide)) (fun N14 t14 => ⟨n, rfl, l, fun M16 e16 => ⟨n, rfl, l, ?_⟩⟩)
    refine tr_I (q := 7 * n + 4) c12 c5 H (ir 4 (by decide)) (t14 M16 e16) (by omega) (cell_L hn (by decide)) (fun N18 t18 => ⟨n, rfl, l, fun M20 e20 => ⟨n, rfl, l, ?_⟩⟩)
    refine tr_I (q := 7 * n + 5) c12 c5 H (ir 5 (by decide)) (t18 M20 e20) (by omega) (cell_L hn (by decide)) (fun N22 t22 => ⟨n, rfl, l, fun M24 e24 => ⟨n, rfl, l, ?_⟩⟩)
    refine tr_I (q := 7 * n + 6) c12 c5 H (ir 6 (by decide)) (t22 M24 e24) (by omega) (cell_L hn (by decide)) (fun N26 t26 => ⟨n, rfl, l, fun M28 e28 => ?_⟩)
    exact tr_loans c12 c5 H hc k d (n + 1) M28 (by omega) (by rw [show 7 * (n + 1) = 7 * n + 6 + 1 by omega]; exact t26 M28 e28)
/-- the papers and what else there is -/
theorem tr_papers {K : NN → Prop} (c12 : c ≤ 12) (c5 : cp ≤ 5) (H : HV c cp V l1 N) (hc : N 10 0 53 = (cp : Int)) (k : ∀ M, TR c cp V (7 * c + 6 * cp + 8) N M → K M) : ∀ (d n : Nat) (M : NN), n + d = cp → TR c cp V (7 * c + 6 * n) N M → W_X10_turn G K 156 [(0, vR 10 0), (1, vI l1), (2, vI (n : Int))] [] M
  | 0, n, M, hd, T => by
    have wn := fun _ : Unit => wI_id (x := (n : Int)) (by omega) (by omega)
    have : n = cp := hd
    subst this
    obtain ⟨hv, h1, h2, h3, h4, h5, h6⟩ := id H
    refine vc_X10_turn_156 ?_
    rw [TR_o T (by omega) ⟨rfl, .inr rfl⟩, hc, wn ()]
    refine ⟨fun _ => ?_, fun q => absurd (Int.le_refl _) q⟩
    refine tr_I (q := 7 * c + 6 * n + 0) c12 c5 H h2 T (by omega) cell_S (fun N1 t1 M2 e2 => ?_)
    refine tr_I (q := 7 * c + 6 * n + 1) c12 c5 H h3 (t1 M2 e2) (by omega) cell_S (fun N3 t3 M4 e4 => ?_)
    refine tr_I (q := 7 * c + 6 * n + 2) c12 c5 H h4 (t3 M4 e4) (by omega) cell_S (fun N5 t5 M6 e6 => ?_)
    refine tr_L (q := 7 * c + 6 * n + 3) c12 c5 H (t5 M6 e6) (by omega) cell_S (fun N7 t7 M8 e8 => ?_)
    refine tr_L (q := 7 * c + 6 * n + 4) c12 c5 H (t7 M8 e8) (by omega) cell_S (fun N9 t9 M10 e10 => ?_)
    refine tr_L (q := 7 * c + 6 * n + 5) c12 c5 H (t9 M10 e10) (by omega) cell_S (fun N11 t11 M12 e12 => ?_)
    refine tr_I (q := 7 * c + 6 * n + 6) c12 c5 H h5 (t11 M12 e12) (by omega) cell_S (fun N13 t13 M14 e14 => ?_)
    have T14 : TR c n V (7 * c + 6 * n + 7) N M14 := t13 M14 e14
    have last : ∀ x : Int, (¬ wI l1 = 0 → x = V (7 * c + 6 * n + 7)) → C_X10_pass G l1 x M14 (fun x15 N15 => (((wL x15) ≠ 1 → (∀ M16 : NN, M16 = up3 N15 10 0 67 0 → K M16)) ∧ (¬ ((wL x15) ≠ 1) → (∀ M17 : NN, M17 = up3 N15 10 0 67 1 → K M17)))) := by
      intro x hx
      refine tr_pass (q := 7 * c + 6 * n + 7) c12 c5 T14 (by omega) cell_S.1 cell_S.2 ?_ (fun N2 t2 => ?_)
      · rcases hv with ⟨a, b⟩ | ⟨a, b⟩
        · exact .inl ⟨a, b _ (by omega)⟩
        · exact .inr ⟨a, hx a⟩
      · rcases h6 with h6 | h6
        · rw [h6] at t2 ⊢
          exact ⟨fun _ M16 e => k M16 (t2 M16 e), fun q => absurd (by decide) q⟩
        · rw [h6] at t2 ⊢
          exact ⟨fun q => absurd rfl q, fun _ M16 e => k M16 (t2 M16 e)⟩
    have v : ¬ wI l1 = 0 → M14 10 0 67 = V (7 * c + 6 * n + 7) := fun a => by
      have := TR_cell T14 (by omega)
      rw [cell_S.1, cell_S.2] at this
      rcases hv with ⟨a', b⟩ | ⟨a', b⟩
      · exact absurd a' a
      · have e := b (7 * c + 6 * n + 7) (by omega)
        rw [cell_S.1, cell_S.2] at e
        exact this.trans e
    refine ⟨fun z => last 0 (fun a => ?_), fun z => last 1 (fun a => ?_)⟩
    · rw [v a] at z
      rcases h6 with h6 | h6
      · exact h6.symm
      · rw [h6] at z; exact absurd z (by decide)
    · rw [v a] at z
      rcases h6 with h6 | h6
      · rw [h6] at z; exact absurd (by decide) z
      · exact h6.symm
  | d + 1, n, M, hd, T => by
    have wn := fun _ : Unit => wI_id (x := (n : Int)) (by omega) (by omega)
    have wc := fun _ : Unit => wI_id (x := (cp : Int)) (by omega) (by omega)
    have hn : n < cp := by omega
    have l : n < 5 := by omega
    refine vc_X10_turn_156 ?_
    rw [TR_o T (by omega) ⟨rfl, .inr rfl⟩, hc, wn (), wc ()]
    refine ⟨fun q => absurd q (by omega), fun _ => ⟨n, rfl, l, ?_⟩⟩
    refine tr_L (q := 7 * c + 6 * n + 0) c12 c5 H T (by omega) (cell_P hn (by decide)) (fun N2 t2 => ⟨n, rfl, l, fun M4 e4 => ⟨n, rfl, l, ?_⟩⟩)
    refine tr_L (q := 7 * c + 6 * n + 1) c12 c5 H (t2 M4 e4) (by omega) (cell_P hn (by decide)) (fun N6 t6 => ⟨n, rfl, l, fun M8 e8 => ⟨n, rfl, l, ?_⟩⟩)
    refine tr_L (q := 7 * c + 6 * n + 2) c12 c5 H (t6 M8 e8) (by omega) (cell_P hn (by decide)) (fun N10 t10 => ⟨n, rfl, l, fun M12 e12 => ⟨n, rfl, l, ?_⟩⟩)
    refine tr_L (q := 7 * c + 6 * n + 3) c12 c5 H (t10 M12 e12) (by omega) (cell_P hn (by decide)) (fun N14 t14 => ⟨n, rfl, l, fun M16 e16 => ⟨n, rfl, l, ?_⟩⟩)
    refine tr_L (q := 7 * c + 6 * n + 4) c12 c5 H (t14 M16 e16) (by omega) (cell_P hn (by decide)) (fun N18 t18 => ⟨n, rfl, l, fun M20 e20 => ⟨n, rfl, l, ?_⟩⟩)
    refine tr_L (q := 7 * c + 6 * n + 5) c12 c5 H (t18 M20 e20) (by omega) (cell_P hn (by decide)) (fun N22 t22 => ⟨n, rfl, l, fun M24 e24 => ?_⟩)
    exact tr_papers c12 c5 H hc k d (n + 1) M24 (by omega) (by rw [show 7 * c + 6 * (n + 1) = 7 * c + 6 * n + 5 + 1 by omega]; exact t22 M24 e24)
theorem s_turn {K : NN → Prop} (c12 : c ≤ 12) (c5 : cp ≤ 5) (H : HV c cp V l1 N) (hc : N 10 0 2 = (c : Int)) (hp : N 10 0 53 = (cp : Int)) (k : ∀ M, TR c cp V (7 * c + 6 * cp + 8) N M → K M) : C_X10_turn G l1 N K :=
  vc_X10_turn (fun M1 e1 => tr_loans c12 c5 H hc (fun M T => tr_papers c12 c5 H hp k cp 0 M (by omega) T) c 0 M1 (by omega) (TR_0 e1))
end TUR
