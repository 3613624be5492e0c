/-! what is asked and changes nothing -/
section RDO
variable {G : GT} {N : NN}
theorem op_loanTold {a1 a2 : Int} (I : Inv N) (h1 : IR a1) (h2 : IR a2) : C_X9_loanTold G a1 a2 N (fun r N1 => C_X10_loanTold G a1 a2 N1 (fun r' N2 => wI r = wI r' ∧ Inv N2)) := by
  have I' := I
  obtain ⟨k, c, cp, oo, to, t, sz, k60, m9, m10, L, F, M, O, T, P, H⟩ := I
  obtain ⟨⟨b1, c12, b3, b4, b5, b6, b7⟩, ⟨r1, r2, r3, r4⟩, ⟨l1, l2⟩, l4⟩ := L
  have cls : ∀ (K : Int → NN → Prop), (∀ j : Nat, a1 = (j : Int) → j < c → ∀ f : Nat, a2 = (f : Int) → f < 7 → K (N 2 j f) N) → (¬ (0 ≤ a1 ∧ a1 ≤ (c : Int) - 1 ∧ 0 ≤ a2 ∧ a2 ≤ 6) → K (-2) N) → C_X9_loanTold G a1 a2 N K := by
    intro K k1 k0
    refine vc_X9_loanTold ?_
    rw [b1, IR_id h2]
    refine t_in h1 ⟨by decide, by decide⟩ ⟨by omega, by omega⟩ (fun g => tn1 ⟨a1.toNat, by rw [IR_id h1]; omega, by omega, ?_⟩) (fun g => tn0 (k0 (by omega)))
    have kk := k1 a1.toNat (by omega) (by omega)
    exact ⟨fun q => kk 0 q (by decide), fun q => kk 1 q (by decide), fun q => kk 2 q (by decide), fun q => kk 3 q (by decide), fun q => kk 4 q (by decide), fun q => kk 5 q (by decide), fun q => kk 6 q (by decide), fun q => k0 (by omega)⟩
  have ref : ∀ (K : Int → NN → Prop), (∀ j : Nat, a1 = (j : Int) → j < c → ∀ f : Nat, a2 = (f : Int) → f < 7 → K (N (40 + f) 0 j) N) → (¬ (0 ≤ a1 ∧ a1 ≤ (c : Int) - 1 ∧ 0 ≤ a2 ∧ a2 ≤ 6) → K (-2) N) → C_X10_loanTold G a1 a2 N K := by
    intro K k1 k0
    refine vc_X10_loanTold ?_
    rw [IR_id h2]
    refine t_isLoan h1 r1 c12 (fun g => tn1 ?_) (fun g => tn0 (k0 (by omega)))
    have kk := k1 a1.toNat (by omega) (by omega)
    have e : wI a1 = ((a1.toNat : Nat) : Int) := by rw [IR_id h1]; omega
    have l : a1.toNat < 12 := by omega
    exact ⟨fun q => ⟨_, e, l, kk 0 q (by decide)⟩, fun q => ⟨_, e, l, kk 1 q (by decide)⟩, fun q => ⟨_, e, l, kk 2 q (by decide)⟩, fun q => ⟨_, e, l, kk 3 q (by decide)⟩, fun q => ⟨_, e, l, kk 4 q (by decide)⟩, fun q => ⟨_, e, l, kk 5 q (by decide)⟩, fun q => ⟨_, e, l, kk 6 q (by decide)⟩, fun q => k0 (by omega)⟩
  refine cls _ (fun j ej hj f ef hf => ref _ (fun j' ej' _ f' ef' _ => ?_) (fun n => absurd (by omega) n)) (fun n => ref _ (fun j ej hj f ef hf => absurd (by omega) n) (fun _ => ⟨rfl, I'⟩))
  have e1 : j' = j := by omega
  have e2 : f' = f := by omega
  subst e1 e2
  have q := l1 j' hj f' (by omega)
  rw [Nat.mul_zero, Nat.zero_add] at q
  exact ⟨by rw [q], I'⟩
theorem t_isPaper {a : Int} {c : Nat} {K : Int → NN → Prop} (ha : IR a) (hc : N 10 0 53 = (c : Int)) (c5 : c ≤ 5) (k1 : 0 ≤ a ∧ a < (c : Int) → K 1 N) (k0 : ¬ (0 ≤ a ∧ a < (c : Int)) → K 0 N) : C_X10_isPaper G a N K := by
  refine s_mIsPaper hc c5 ha ?_
  by_cases h : 0 ≤ a ∧ a < (c : Int)
  · rw [bI_t h]; exact k1 h
  · rw [bI_f h]; exact k0 h
/-- the papers' counts -/
theorem iF_c {c : Nat} {k : Int} (h : iF c k N) : c ≤ 5 ∧ N 0 0 1 = (c : Int) ∧ N 10 0 53 = (c : Int) := by
  obtain ⟨⟨c5, h1, -⟩, E, -⟩ := h
  refine ⟨c5, h1, ?_⟩
  have := E 9 1 (by omega)
  rw [h1] at this
  exact this.symm
theorem iF_p {c q e : Nat} {k : Int} (h : iF c k N) (hq : q < c) (he : e < 8) : N 5 q e = N (mK e) 0 q := by
  have c5 := h.1.1
  have := h.2.1 q e (by omega)
  rw [VF5 (by omega), VMp (by omega) (by omega), Nat.mul_zero, Nat.zero_add] at this
  exact this
theorem op_paperTold {a1 a2 : Int} (I : Inv N) (h1 : IR a1) (h2 : IR a2) : C_X9_paperTold G a1 a2 N (fun r N1 => C_X10_paperTold G a1 a2 N1 (fun r' N2 => wI r = wI r' ∧ Inv N2)) := by
  have I' := I
  obtain ⟨k, c, cp, oo, to, t, sz, k60, m9, m10, L, F, M, O, T, P, H⟩ := I
  obtain ⟨c5, p1, p2⟩ := iF_c F
  have ref : ∀ (x : Int), (0 ≤ a1 ∧ a1 < (cp : Int) → ∀ e : Nat, a2 = (e : Int) → e < 6 → x = (if e = 0 then N 69 0 a1.toNat else if e = 1 then N 68 0 a1.toNat else if e = 2 then N 70 0 a1.toNat else if e = 3 then N 71 0 a1.toNat else if e = 4 then N 72 0 a1.toNat else N 74 0 a1.toNat)) → (¬ (0 ≤ a1 ∧ a1 < (cp : Int) ∧ 0 ≤ a2 ∧ a2 ≤ 5) → x = -2) → C_X10_paperTold G a1 a2 N (fun r' N2 => wI x = wI r' ∧ Inv N2) := by
    intro x k1 k0
    refine vc_X10_paperTold ?_
    rw [IR_id h2]
    refine t_isPaper h1 p2 c5 (fun g => tn1 ?_) (fun g => tn0 ⟨by rw [k0 (fun z => g ⟨z.1, z.2.1⟩)], I'⟩)
    have q := k1 g
    clear k1
    have ea : wI a1 = ((a1.toNat : Nat) : Int) := by rw [IR_id h1]; clear k0 q; omega
    have l : a1.toNat < 5 := by clear k0 q; omega
    exact ⟨fun z => ⟨_, ea, l, congrArg wI (q 0 z (by decide)), I'⟩, fun z => ⟨_, ea, l, congrArg wI (q 1 z (by decide)), I'⟩, fun z => ⟨_, ea, l, congrArg wI (q 2 z (by decide)), I'⟩, fun z => ⟨_, ea, l, congrArg wI (q 3 z (by decide)), I'⟩, fun z => ⟨_, ea, l, congrArg wI (q 4 z (by decide)), I'⟩, fun z => ⟨_, ea, l, congrArg wI (q 5 z (by decide)), I'⟩, fun z => ⟨by rw [k0 (by clear k0 q; omega)], I'⟩⟩
  refine vc_X9_paperTold ?_
  rw [p1, IR_id h2]
  refine t_in h1 ⟨by decide, by decide⟩ ⟨by omega, by omega⟩ (fun g => tn1 ⟨a1.toNat, by rw [IR_id h1]; omega, by omega, ?_⟩) (fun g => tn0 (ref _ (fun g2 => absurd (by omega) g) (fun _ => rfl)))
  have hq : a1.toNat < cp := by omega
  have yes : ∀ (e : Nat) (x : Int), a2 = (e : Int) → e < 6 → x = (if e = 0 then N 69 0 a1.toNat else if e = 1 then N 68 0 a1.toNat else if e = 2 then N 70 0 a1.toNat else if e = 3 then N 71 0 a1.toNat else if e = 4 then N 72 0 a1.toNat else N 74 0 a1.toNat) → C_X10_paperTold G a1 a2 N (fun r' N2 => wI x = wI r' ∧ Inv N2) := by
    intro e x ea he hx
    refine ref x (fun _ e' ea' _ => ?_) (fun n => absurd (by clear hx; omega) n)
    have : e' = e := by clear hx; omega
    rw [this]
    exact hx
  exact ⟨fun q => yes 0 _ q (by decide) (iF_p F hq (by decide)), fun q => yes 1 _ q (by decide) (iF_p F hq (by decide)), fun q => yes 2 _ q (by decide) (iF_p F hq (by decide)), fun q => yes 3 _ q (by decide) (iF_p F hq (by decide)), fun q => yes 4 _ q (by decide) (iF_p F hq (by decide)), fun q => yes 5 _ q (by decide) (iF_p F hq (by decide)), fun q => ref _ (fun _ e ea he => absurd q (by omega)) (fun _ => rfl)⟩
theorem op_step {a1 a2 a3 : Int} (I : Inv N) (h1 : IR a1) (h2 : IR a2) (h3 : IR a3) : C_X9_step G a1 a2 a3 N (fun r N1 => C_X10_step G a1 a2 a3 N1 (fun r' N2 => wI r = wI r' ∧ Inv N2)) := by
  have I' := I
  obtain ⟨k, c, cp, oo, to, t, sz, k60, m9, m10, L, F, M, O, T, P, H⟩ := I
  obtain ⟨o1, o2, o3, o4, o5, o6⟩ := O
  refine vc_X9_step ?_
  rw [o1]
  have refB : ¬ (0 ≤ a1 ∧ a1 ≤ (oo : Int) - 1) ∨ (∃ j : Nat, a1 = (j : Int) ∧ j < oo ∧ ¬ (-1 ≤ a2 ∧ a2 ≤ N 4 j 1 - 1)) ∨ ¬ (0 ≤ a3 ∧ a3 ≤ 5) → C_X10_step G a1 a2 a3 N (fun r' N2 => wI (-2) = wI r' ∧ Inv N2) := by
    intro h
    refine vc_X10_step ?_
    rw [o2]
    refine t_min h1 ⟨by decide, by decide⟩ ⟨by omega, by omega⟩ (fun g => tt1 ⟨a1.toNat, by rw [IR_id h1]; omega, by omega, ?_⟩) (fun g => tt0 ⟨rfl, I'⟩)
    obtain ⟨q1, q2, q3, q4⟩ := o6 a1.toNat (by omega)
    rw [← q1]
    refine t_min h2 ⟨by decide, by decide⟩ ⟨by omega, by omega⟩ (fun g2 => tt1 (t_min h3 ⟨by decide, by decide⟩ ⟨by decide, by decide⟩ (fun g3 => ?_) (fun g3 => tn0 ⟨rfl, I'⟩))) (fun g2 => tt0 ⟨rfl, I'⟩)
    rcases h with h | ⟨j, e, hj, hn⟩ | h
    · exact absurd g h
    · have : j = a1.toNat := by omega
      subst this
      exact absurd g2 hn
    · exact absurd g3 h
  refine t_in h1 ⟨by decide, by decide⟩ ⟨by omega, by omega⟩ (fun g => tn1 ⟨a1.toNat, by rw [IR_id h1]; omega, by omega, ?_⟩) (fun g => tn0 (refB (.inl g)))
  have hj : a1.toNat < oo := by omega
  obtain ⟨q1, q2, q3, q4⟩ := o6 a1.toNat hj
  refine t_in h2 ⟨by decide, by decide⟩ ⟨by omega, by omega⟩ (fun g2 => tt1 (t_in h3 ⟨by decide, by decide⟩ ⟨by decide, by decide⟩ (fun g3 => tn1 ?_) (fun g3 => tn0 (refB (.inr (.inr g3)))))) (fun g2 => tt0 (refB (.inr (.inl ⟨a1.toNat, by omega, hj, g2⟩))))
  rw [IR_id h2, IR_id h3]
  have ref : ∀ x : Int, (0 ≤ a2 → x = N (61 + a3.toNat) 0 (10 * a1.toNat + a2.toNat)) → (a2 = -1 → x = N 60 0 a1.toNat) → C_X10_step G a1 a2 a3 N (fun r' N2 => wI x = wI r' ∧ Inv N2) := by
    intro x k1 k0
    refine vc_X10_step ?_
    rw [o2]
    refine t_min h1 ⟨by decide, by decide⟩ ⟨by omega, by omega⟩ (fun g => tt1 ⟨a1.toNat, by rw [IR_id h1]; omega, by omega, ?_⟩) (fun z => absurd g z)
    rw [← q1]
    refine t_min h2 ⟨by decide, by decide⟩ ⟨by omega, by omega⟩ (fun _ => tt1 (t_min h3 ⟨by decide, by decide⟩ ⟨by decide, by decide⟩ (fun _ => tn1 ?_) (fun z => absurd g3 z))) (fun z => absurd g2 z)
    rw [IR_id h2, IR_id h3]
    refine ⟨fun z => ?_, fun z => ⟨a1.toNat, by rw [IR_id h1]; omega, by omega, by rw [k0 (by omega)], I'⟩⟩
    have ea : wI (10 * a1 + a2) = ((10 * a1.toNat + a2.toNat : Nat) : Int) := by
      rw [wI_id (by omega) (by omega)]
      omega
    have l : 10 * a1.toNat + a2.toNat < 60 := by omega
    have kx := k1 z
    refine ⟨fun q => ⟨_, ea, l, ?_, I'⟩, fun q => ⟨_, ea, l, ?_, I'⟩, fun q => ⟨_, ea, l, ?_, I'⟩, fun q => ⟨_, ea, l, ?_, I'⟩, fun q => ⟨_, ea, l, ?_, I'⟩, fun q => ⟨_, ea, l, ?_, I'⟩⟩
    · rw [kx, q]; rfl
    · rw [kx, q]; rfl
    · rw [kx, q]; rfl
    · rw [kx, q]; rfl
    · rw [kx, q]; rfl
    · rw [kx, show a3 = 5 by omega]; rfl
  refine ⟨fun z => ⟨a2.toNat, by omega, by omega, a3.toNat, by omega, by omega, ref _ (fun _ => ?_) (fun e => absurd e z)⟩, fun z => ref _ (fun e => absurd (Decidable.not_not.mp z) (by omega)) (fun _ => by rw [q1])⟩
  obtain ⟨g1, g2'⟩ := q4 a2.toNat (by omega)
  exact (g2' a3.toNat (by omega)).symm
theorem op_month {a1 a2 : Int} (I : Inv N) (h1 : IR a1) (h2 : IR a2) : C_X9_month G a1 a2 N (fun r N1 => C_X10_month G a1 a2 N1 (fun r' N2 => wI r = wI r' ∧ Inv N2)) := by
  have I' := I
  obtain ⟨k, c, cp, oo, to, t, sz, k60, m9, m10, L, F, M, O, T, P, H⟩ := I
  obtain ⟨o1, o2, o3, o4, o5, o6⟩ := O
  have refB : ¬ (1 ≤ a1 ∧ a1 ≤ (k : Int)) ∨ ¬ (0 ≤ a2 ∧ a2 ≤ 11) → C_X10_month G a1 a2 N (fun r' N2 => wI (-2) = wI r' ∧ Inv N2) := by
    intro h
    refine vc_X10_month ?_
    rw [m10]
    refine t_min h1 ⟨by decide, by decide⟩ ⟨by omega, by omega⟩ (fun g => tt1 (t_min h2 ⟨by decide, by decide⟩ ⟨by decide, by decide⟩ (fun g2 => absurd (h.elim (fun z => absurd g z) (fun z => absurd g2 z)) id) (fun g2 => tn0 ⟨rfl, I'⟩))) (fun g => tt0 ⟨rfl, I'⟩)
  refine vc_X9_month ?_
  rw [m9]
  refine t_in h1 ⟨by decide, by decide⟩ ⟨by omega, by omega⟩ (fun g => tn1 ?_) (fun g => tn0 (refB (.inl g)))
  rw [IR_id h2]
  have e1 : wI a1 = ((a1.toNat : Nat) : Int) := by rw [IR_id h1]; omega
  obtain ⟨⟨mm, tk⟩, ok⟩ := M a1.toNat (by omega) (by omega)
  have ref : ∀ (e : Nat) (x : Int), a2 = (e : Int) → e < 12 → x = (if e = 0 then N 48 0 a1.toNat else if e = 1 then N 49 0 a1.toNat else if e = 2 then N 50 0 a1.toNat else if e = 3 then N 51 0 a1.toNat else if e = 4 then N 52 0 a1.toNat else if e = 5 then N 77 0 a1.toNat else if e = 6 then N 54 0 a1.toNat else if e = 7 then N 55 0 a1.toNat else if e = 8 then N 56 0 a1.toNat else if e = 9 then N 78 0 a1.toNat else if e = 10 then (if wI (N 79 0 a1.toNat) = 0 then 0 else 1) else N 76 0 a1.toNat) → C_X10_month G a1 a2 N (fun r' N2 => wI x = wI r' ∧ Inv N2) := by
    intro e0 x ea he hx
    have q : ∀ e : Nat, a2 = (e : Int) → x = (if e = 0 then N 48 0 a1.toNat else if e = 1 then N 49 0 a1.toNat else if e = 2 then N 50 0 a1.toNat else if e = 3 then N 51 0 a1.toNat else if e = 4 then N 52 0 a1.toNat else if e = 5 then N 77 0 a1.toNat else if e = 6 then N 54 0 a1.toNat else if e = 7 then N 55 0 a1.toNat else if e = 8 then N 56 0 a1.toNat else if e = 9 then N 78 0 a1.toNat else if e = 10 then (if wI (N 79 0 a1.toNat) = 0 then 0 else 1) else N 76 0 a1.toNat) := by
      intro e ea'
      have : e = e0 := by clear hx; omega
      rw [this]
      exact hx
    clear hx
    have l : a1.toNat < 61 := by clear q; omega
    refine vc_X10_month ?_
    rw [m10]
    refine t_min h1 ⟨by decide, by decide⟩ ⟨by clear q; omega, by clear q; omega⟩ (fun _ => tt1 (t_min h2 ⟨by decide, by decide⟩ ⟨by decide, by decide⟩ (fun _ => tn1 ?_) (fun n => absurd (by clear q; omega) n))) (fun n => absurd g n)
    rw [IR_id h2]
    exact ⟨fun z => ⟨_, e1, l, congrArg wI (q 0 z), I'⟩, fun z => ⟨_, e1, l, congrArg wI (q 1 z), I'⟩, fun z => ⟨_, e1, l, congrArg wI (q 2 z), I'⟩, fun z => ⟨_, e1, l, congrArg wI (q 3 z), I'⟩, fun z => ⟨_, e1, l, congrArg wI (q 4 z), I'⟩, fun z => ⟨_, e1, l, congrArg wI (q 5 z), I'⟩, fun z => ⟨_, e1, l, congrArg wI (q 6 z), I'⟩, fun z => ⟨_, e1, l, congrArg wI (q 7 z), I'⟩, fun z => ⟨_, e1, l, congrArg wI (q 8 z), I'⟩, fun z => ⟨_, e1, l, congrArg wI (q 9 z), I'⟩, fun z => ⟨_, e1, l, fun s => ⟨congrArg wI ((q 10 z).trans (if_pos s)), I'⟩, fun s => ⟨congrArg wI ((q 10 z).trans (if_neg s)), I'⟩⟩, fun z => ⟨_, e1, by clear q; omega, congrArg wI (q 11 (by clear q; omega)), I'⟩⟩
  refine ⟨fun z => ⟨a1.toNat, e1, by omega, vc_X3_fact (by omega) ?_⟩, fun z => ⟨a1.toNat, e1, by omega, ?_⟩⟩
  · rw [IR_id h2]
    refine ⟨fun q => ref 0 _ q (by decide) (mm 0 (by decide)).symm, fun q => ref 1 _ q (by decide) (mm 1 (by decide)).symm, fun q => ref 2 _ q (by decide) (mm 2 (by decide)).symm, fun q => ref 3 _ q (by decide) (mm 3 (by decide)).symm, fun q => ref 4 _ q (by decide) (mm 4 (by decide)).symm, fun q => ref 5 _ q (by decide) (mm 5 (by decide)).symm, fun q => ref 6 _ q (by decide) (mm 7 (by decide)).symm, fun q => ref 7 _ q (by decide) (mm 8 (by decide)).symm, fun q => ref 8 _ q (by decide) (mm 9 (by decide)).symm, fun q => ref 9 _ q (by decide) (mm 10 (by decide)).symm, fun q => ?_, fun q => refB (.inr (by omega))⟩
    have e11 : N 79 0 a1.toNat = N 3 a1.toNat 11 := mm 11 (by decide)
    rw [← e11]
    exact ⟨fun s => ref 10 0 q (by decide) (if_pos s).symm, fun s => ref 10 1 q (by decide) (if_neg s).symm⟩
  · obtain ⟨o, ho, c1, c2⟩ := o5 a1.toNat (by omega) (by omega)
    have z11 : a2 = 11 := Decidable.not_not.mp z
    exact ref 11 _ z11 (by decide) (c1.trans c2.symm)
/-- the order of a month -/
theorem t_orderIn {kk o oo : Nat} {K : Nat → NN → Prop} (hk : 1 ≤ kk ∧ kk ≤ 60) (h13 : N 9 0 13 = (oo : Int)) (o6 : oo ≤ 6) (h23 : N 23 0 kk = (o : Int)) (ho : o < oo) (k : K o N) : C_X9_orderIn G (kk : Int) N K := by
  refine vc_X9_orderIn ?_
  refine t_in ⟨by omega, by omega⟩ ⟨by decide, by decide⟩ ⟨by decide, by decide⟩ (fun g => tt1 ⟨kk, by rw [wI_id (by omega) (by omega)], by omega, ?_⟩) (fun g => absurd (by omega) g)
  rw [h23, h13]
  refine t_in ⟨by omega, by omega⟩ ⟨by decide, by decide⟩ ⟨by omega, by omega⟩ (fun g => tt1 ⟨o, by rw [wI_id (by omega) (by omega)], by omega, by omega, k⟩) (fun g => absurd (by omega) g)
theorem op_paid {a1 a2 : Int} (I : Inv N) (h1 : IR a1) (h2 : IR a2) : C_X9_paid G a1 a2 N (fun r N1 => C_X10_paid G a1 a2 N1 (fun r' N2 => wI r = wI r' ∧ Inv N2)) := by
  have I' := I
  obtain ⟨k, c, cp, oo, to, t, sz, k60, m9, m10, L, F, M, O, T, P, H⟩ := I
  obtain ⟨o1, o2, o3, o4, o5, o6⟩ := O
  refine vc_X9_paid ?_
  rw [m9]
  refine t_in h1 ⟨by decide, by decide⟩ ⟨by omega, by omega⟩ (fun g => tn1 ?_) (fun g => tn0 ?_)
  · have e1 : wI a1 = ((a1.toNat : Nat) : Int) := by rw [IR_id h1]; omega
    obtain ⟨⟨mm, tk⟩, ok⟩ := M a1.toNat (by omega) (by omega)
    obtain ⟨o, ho, c1, c2⟩ := o5 a1.toNat (by omega) (by omega)
    obtain ⟨q1, q2, q3, q4⟩ := o6 o ho
    have ea : a1 = ((a1.toNat : Nat) : Int) := by omega
    have ref : ∀ x : Int, (0 ≤ a2 ∧ a2 ≤ N 4 o 1 - 1 → x = N 80 0 (10 * a1.toNat + a2.toNat)) → (¬ (0 ≤ a2 ∧ a2 ≤ N 4 o 1 - 1) → x = -1) → C_X10_paid G a1 a2 N (fun r' N2 => wI x = wI r' ∧ Inv N2) := by
      intro x k1 k0
      refine vc_X10_paid ?_
      rw [m10]
      refine t_min h1 ⟨by decide, by decide⟩ ⟨by omega, by omega⟩ (fun _ => tn1 ⟨a1.toNat, e1, by omega, o, by rw [c2, wI_id (by omega) (by omega)], by omega, ?_⟩) (fun n => absurd g n)
      rw [← q1]
      refine t_min h2 ⟨by decide, by decide⟩ ⟨by omega, by omega⟩ (fun g2 => tt1 ⟨10 * a1.toNat + a2.toNat, by rw [wI_id (by omega) (by omega)]; omega, by omega, by rw [k1 g2], I'⟩) (fun g2 => tt0 ⟨by rw [k0 g2], I'⟩)
    have h := t_orderIn (G := G) (N := N) (kk := a1.toNat) (o := o) (oo := oo) (K := fun x2 N2 => (C_X9_within G a2 0 ((N2 4 x2 1) - 1) N2 (fun x3 N3 => ((wI x3 = 0 → C_X10_paid G a1 a2 N3 (fun r' N2 => wI (-1) = wI r' ∧ Inv N2)) ∧ (¬ (wI x3 = 0) → (∃ j4 : Nat, wI a1 = (j4 : Int) ∧ j4 < 61 ∧ (∃ j5 : Nat, wI a2 = (j5 : Int) ∧ j5 < 10 ∧ C_X10_paid G a1 a2 N3 (fun r' N2 => wI (N3 28 j4 j5) = wI r' ∧ Inv N2)))))))) (by omega) o1 o4 c1 ho ?_
    · rw [← ea] at h
      exact h
    · refine t_in h2 ⟨by decide, by decide⟩ ⟨by omega, by omega⟩ (fun g2 => tt1 ⟨a1.toNat, e1, by omega, a2.toNat, by rw [IR_id h2]; omega, by omega, ref _ (fun _ => ?_) (fun n => absurd g2 n)⟩) (fun g2 => tt0 (ref _ (fun n => absurd n g2) (fun _ => rfl)))
      rw [tk a2.toNat (by omega)]
  · refine vc_X10_paid ?_
    rw [m10]
    exact t_min h1 ⟨by decide, by decide⟩ ⟨by omega, by omega⟩ (fun n => absurd n g) (fun _ => tn0 ⟨rfl, I'⟩)
theorem iF_s {c e : Nat} {k : Int} (h : iF c k N) (h1 : 1 ≤ e) (h2 : e < 10) (h8 : e ≠ 8) : N 0 0 e = N 10 0 (mS e) := by
  have := h.2.1 9 e (by omega)
  rw [VF9, VMs (by omega) h2 h8] at this
  exact this
theorem op_count {a1 : Int} (I : Inv N) (h1 : IR a1) : C_X9_count G a1 N (fun r N1 => C_X10_count G a1 N1 (fun r' N2 => wI r = wI r' ∧ Inv N2)) := by
  have I' := I
  obtain ⟨k, c, cp, oo, to, t, sz, k60, m9, m10, L, F, M, O, T, P, H⟩ := I
  obtain ⟨c5, p1, p2⟩ := iF_c F
  have L' := L
  obtain ⟨⟨b1, c12, b3, b4, b5, b6, b7⟩, ⟨r1, r2, r3, r4⟩, ⟨l1, l2⟩, l4⟩ := L
  have bal : sumN (fun n => balS (N 2 (12 * 0 + n))) c = sumN (fun n => balS (LV N n)) c := sumN_congr c fun n hn => balS_8 fun f hf => by rw [LV_ hf, l1 n hn f hf]
  have e64 := iF_s F (e := 4) (by decide) (by decide) (by decide)
  have e67 := iF_s F (e := 5) (by decide) (by decide) (by decide)
  have e66 := iF_s F (e := 9) (by decide) (by decide) (by decide)
  have pl : ∀ {K : Int → NN → Prop}, K (sumN (fun n => balS (LV N n)) c) N → C_X10_pool G N K := fun h => s_mPool r1 c12 (fun n hn => by
    have := b3 n hn
    unfold LK at this
    have e := l1 n hn 5 (by decide)
    rw [show (40 + 5 : Nat) = 45 from rfl, Nat.mul_zero, Nat.zero_add] at e
    rw [Nat.mul_zero, Nat.zero_add] at this
    rw [e]
    omega) h
  have refB : a1 < 0 ∨ 11 < a1 → C_X10_count G a1 N (fun r' N2 => wI (-2) = wI r' ∧ Inv N2) := by
    intro h
    refine vc_X10_count ?_
    rw [IR_id h1]
    have no : ∀ {a : Int} {P : Prop}, 0 ≤ a ∧ a ≤ 11 → a1 = a → P := fun h3 h4 => absurd h (by omega)
    exact ⟨no (by decide), no (by decide), no (by decide), no (by decide), no (by decide), no (by decide), no (by decide), no (by decide), no (by decide), no (by decide), no (by decide), no (by decide), fun _ => ⟨rfl, I'⟩⟩
  have ref : ∀ (e : Nat) (x : Int), a1 = (e : Int) → e < 12 → x = (if e = 0 then N 10 0 2 else if e = 1 then N 10 0 53 else if e = 2 then N 10 0 26 else if e = 3 then N 10 0 45 else if e = 4 then N 10 0 29 else if e = 5 then N 10 0 1 else if e = 6 then N 10 0 27 else if e = 7 then sumN (fun n => balS (LV N n)) c else if e = 8 then N 10 0 64 else if e = 9 then N 10 0 14 else if e = 10 then (if wI (N 10 0 67) = 0 then 0 else 1) else N 10 0 66) → C_X10_count G a1 N (fun r' N2 => wI x = wI r' ∧ Inv N2) := by
    intro e0 x ea he hx
    have q : ∀ e : Nat, a1 = (e : Int) → x = (if e = 0 then N 10 0 2 else if e = 1 then N 10 0 53 else if e = 2 then N 10 0 26 else if e = 3 then N 10 0 45 else if e = 4 then N 10 0 29 else if e = 5 then N 10 0 1 else if e = 6 then N 10 0 27 else if e = 7 then sumN (fun n => balS (LV N n)) c else if e = 8 then N 10 0 64 else if e = 9 then N 10 0 14 else if e = 10 then (if wI (N 10 0 67) = 0 then 0 else 1) else N 10 0 66) := by
      intro e ea'
      have : e = e0 := by clear hx; omega
      rw [this]
      exact hx
    clear hx
    refine vc_X10_count ?_
    rw [IR_id h1]
    exact ⟨fun z => ⟨congrArg wI (q 0 z), I'⟩, fun z => ⟨congrArg wI (q 1 z), I'⟩, fun z => ⟨congrArg wI (q 2 z), I'⟩, fun z => ⟨congrArg wI (q 3 z), I'⟩, fun z => ⟨congrArg wI (q 4 z), I'⟩, fun z => ⟨congrArg wI (q 5 z), I'⟩, fun z => ⟨congrArg wI (q 6 z), I'⟩, fun z => pl ⟨congrArg wI (q 7 z), I'⟩, fun z => ⟨congrArg wI (q 8 z), I'⟩, fun z => ⟨congrArg wI (q 9 z), I'⟩, fun z => ⟨fun s => ⟨congrArg wI ((q 10 z).trans (if_pos s)), I'⟩, fun s => ⟨congrArg wI ((q 10 z).trans (if_neg s)), I'⟩⟩, fun z => ⟨congrArg wI (q 11 z), I'⟩, fun z => absurd z (by clear q; omega)⟩
  refine vc_X9_count ?_
  rw [IR_id h1]
  obtain ⟨o1, o2, -⟩ := O
  obtain ⟨t1, t2, t3, t4, t5, t6, t7, t8, t9⟩ := T
  obtain ⟨s1, s2, s3, s4⟩ := P
  refine ⟨fun q => ref 0 _ q (by decide) (b1.trans r1.symm), fun q => ref 1 _ q (by decide) (p1.trans p2.symm), fun q => ref 2 _ q (by decide) (t1.trans t2.symm), fun q => ref 3 _ q (by decide) (o1.trans o2.symm), fun q => ref 4 _ q (by decide) (s2.trans s3.symm), fun q => ref 5 _ q (by decide) (m9.trans m10.symm), fun q => ref 6 _ q (by decide) (t7.trans t8.symm), fun q => s_balances (by decide) b1 c12 (fun n hn => LK_LBv (by omega) (b3 n hn)) (ref 7 _ q (by decide) bal), fun q => ref 8 _ q (by decide) e64, fun q => ref 9 _ q (by decide) l2.symm, fun q => ?_, fun q => ref 11 _ q (by decide) e66, refB⟩
  rw [e67]
  exact ⟨fun s => ref 10 0 q (by decide) (if_pos s).symm, fun s => ref 10 1 q (by decide) (if_neg s).symm⟩
end RDO
