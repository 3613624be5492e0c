/-! a kind among its kinds, and a paper's life -/
section ASK
variable {G : GT} {N : NN}
def dpt (x : Int) : Nat := if x < 0 then 0 else if x = 0 then 1 else if x = 1 ∨ x = 3 then 2 else if x = 4 then 4 else 3
theorem s_over {x : Int} {K : Int → NN → Prop} (h : 0 ≤ x ∧ x ≤ 5) (k : K (above x.toNat) N) : C_X10_over G x N K := by
  refine vc_X10_over ?_
  rw [wI_id (x := x) (by omega) (by omega)]
  rcases (by omega : x = 0 ∨ x = 1 ∨ x = 2 ∨ x = 3 ∨ x = 4 ∨ x = 5) with rfl | rfl | rfl | rfl | rfl | rfl
  · rw [show above (Int.toNat 0) = -1 by decide +kernel] at k
    exact ⟨fun q => absurd rfl q, fun _ => k⟩
  · rw [show above (Int.toNat 1) = 0 by decide +kernel] at k
    exact ⟨fun _ => ⟨fun _ => ⟨fun _ => ⟨fun _ => k, fun q => absurd q (by decide)⟩, fun q => absurd q (by decide)⟩, fun q => absurd q (by decide)⟩, fun q => absurd q (by decide)⟩
  · rw [show above (Int.toNat 2) = 1 by decide +kernel] at k
    exact ⟨fun _ => ⟨fun q => absurd rfl q, fun _ => k⟩, fun q => absurd q (by decide)⟩
  · rw [show above (Int.toNat 3) = 0 by decide +kernel] at k
    exact ⟨fun _ => ⟨fun _ => ⟨fun _ => ⟨fun _ => k, fun q => absurd q (by decide)⟩, fun q => absurd q (by decide)⟩, fun q => absurd q (by decide)⟩, fun q => absurd q (by decide)⟩
  · rw [show above (Int.toNat 4) = 2 by decide +kernel] at k
    exact ⟨fun _ => ⟨fun _ => ⟨fun q => absurd rfl q, fun _ => k⟩, fun q => absurd q (by decide)⟩, fun q => absurd q (by decide)⟩
  · rw [show above (Int.toNat 5) = 3 by decide +kernel] at k
    exact ⟨fun _ => ⟨fun _ => ⟨fun _ => ⟨fun q => absurd rfl q, fun _ => k⟩, fun q => absurd q (by decide)⟩, fun q => absurd q (by decide)⟩, fun q => absurd q (by decide)⟩
theorem above_r {x : Int} (h : 0 ≤ x ∧ x ≤ 5) : -1 ≤ above x.toNat ∧ above x.toNat ≤ 5 ∧ dpt (above x.toNat) < dpt x := by
  rcases (by omega : x = 0 ∨ x = 1 ∨ x = 2 ∨ x = 3 ∨ x = 4 ∨ x = 5) with rfl | rfl | rfl | rfl | rfl | rfl <;> decide +kernel
theorem s_takenW {a1 m : Int} {j : Nat} {K : Int → NN → Prop} (ea : wI a1 = (j : Int)) (hj : j < 12) (hm : 0 ≤ m ∧ m ≤ 5) : ∀ (f : Nat) (x : Int), -1 ≤ x → x ≤ 5 → dpt x < f → (kS f x m = 0 → K (-13) N) → (¬ kS f x m = 0 → K (N 41 0 j) N) → W_X10_taken G K 30 [(0, vR 10 0), (1, vI a1), (2, vI m), (3, vI x)] [] N
  | 0, x, _, _, h, _, _ => absurd h (by omega)
  | f + 1, x, x1, x2, hd, k0, k1 => by
    unfold kS at k0 k1
    refine vc_X10_taken_30 ?_
    rw [wI_id (x := x) (by omega) (by omega), wI_id (x := m) (by omega) (by omega)]
    by_cases e : x = -1
    · rw [if_pos (by omega)] at k0
      exact ⟨fun _ => ⟨fun _ => k0 rfl, fun q => absurd q (by omega)⟩, fun q => absurd e q⟩
    · refine ⟨fun q => absurd q e, fun _ => ?_⟩
      rw [if_neg (by omega)] at k0 k1
      by_cases e2 : x = m
      · rw [if_pos e2] at k1
        exact ⟨fun _ => ⟨fun q => absurd e2 q, fun _ => ⟨j, ea, hj, k1 (by decide)⟩⟩, fun q => absurd e2 q⟩
      · rw [if_neg e2] at k0 k1
        obtain ⟨r1, r2, r3⟩ := above_r (x := x) (by omega)
        exact ⟨fun q => absurd q e2, fun _ => s_over (by omega) (s_takenW ea hj hm f _ r1 r2 (by omega) k0 k1)⟩
theorem op_taken {a1 a2 : Int} (I : Inv N) (h1 : IR a1) (h2 : IR a2) : C_X9_taken G a1 a2 N (fun r N1 => C_X10_taken G a1 a2 N1 (fun r' N2 => wI r = wI r' ∧ Inv N2)) := by
  have I' := I
  obtain ⟨k, c, cp, oo, to, t, sz, k60, m9, m10, L, F, M, O, T, P, H⟩ := I
  obtain ⟨⟨b1, c12, b3, b4, b5, b6, b7⟩, ⟨r1, r2, r3, r4⟩, ⟨l1, l2⟩, l4⟩ := L
  refine vc_X9_taken (t_in h2 IR0 ⟨by decide, by decide⟩ (fun g => tn1 ?_) (fun g => tn0 (vc_X10_taken (t_min h2 IR0 ⟨by decide, by decide⟩ (fun n => absurd n g) (fun _ => tn0 ⟨rfl, I'⟩)))))
  rw [b1]
  refine t_in h1 IR0 ⟨by omega, by omega⟩ (fun g1 => tn1 ⟨a1.toNat, by rw [IR_id h1]; omega, by omega, ?_⟩) (fun g1 => tn0 (vc_X10_taken (t_min h2 IR0 ⟨by decide, by decide⟩ (fun _ => tn1 (t_isLoan h1 r1 c12 (fun n => absurd n g1) (fun _ => tn0 ⟨rfl, I'⟩))) (fun n => absurd g n))))
  have ea : wI a1 = ((a1.toNat : Nat) : Int) := by rw [IR_id h1]; omega
  have hj : a1.toNat < c := by omega
  generalize a1.toNat = j at ea hj
  have e0 := l1 j hj 0 (by decide)
  have e1 := l1 j hj 1 (by decide)
  have bj := b3 j hj
  rw [Nat.mul_zero, Nat.zero_add] at e0 e1 bj
  have B : LB N j := LK_LBv (by omega) bj
  have e0' : N 40 0 j = N 2 j 0 := e0
  have ref : ∀ x : Int, (kS 6 (N 2 j 0) a2 = 0 → x = -13) → (¬ kS 6 (N 2 j 0) a2 = 0 → x = N 2 j 1) → C_X10_taken G a1 a2 N (fun r' N2 => wI x = wI r' ∧ Inv N2) := by
    intro x k0 k1
    refine vc_X10_taken (t_min h2 IR0 ⟨by decide, by decide⟩ (fun _ => tn1 (t_isLoan h1 r1 c12 (fun _ => tn1 ⟨j, ea, by omega, ?_⟩) (fun n => absurd g1 n))) (fun n => absurd g n))
    rw [e0']
    refine s_takenW ea (by omega) g 6 _ (by have := B.1; omega) B.2.1 ?_ (fun z => ⟨by rw [k0 z], I'⟩) (fun z => ⟨by rw [k1 z, show N 41 0 j = N 2 j 1 from e1], I'⟩)
    unfold dpt
    split
    · decide
    · split
      · decide
      · split
        · decide
        · split <;> decide
  refine s_isKind (by omega) B g ⟨fun q => ref _ (fun _ => rfl) (fun z => absurd ?_ z), fun q => ref _ (fun z => absurd (by rw [z]; rfl) q) (fun _ => rfl)⟩
  have kr : ∀ f x m, kS f x m = 0 ∨ kS f x m = 1 := by
    intro f
    induction f with
    | zero => exact fun _ _ => .inl rfl
    | succ f ih =>
      intro x m
      unfold kS
      split
      · exact .inl rfl
      · split
        · exact .inr rfl
        · exact ih _ _
  rcases kr 6 (N 2 j 0) a2 with z | z
  · exact z
  · rw [z] at q; exact absurd q (by decide)
/-! a common divisor -/
theorem lp_cd {K : Int → NN → Prop} {B : Nat} (hB : B ≤ 1000000000000) : ∀ (d x y i : Nat), y < 2 ^ d → i + 2 * d < 200 → x ≤ B → y ≤ B → K ((Nat.gcd x y : Nat) : Int) N → W_X9_commonDivisor G K 3 [(0, vL (x : Int)), (2, vL (y : Int)), (4, vI (i : Int))] [] N
  | 0, x, y, i, hy, hi, hx, hyB, k => by
    have : y = 0 := by omega
    subst this
    rw [Nat.gcd_zero_right] at k
    refine vc_X9_commonDivisor_3 ⟨fun _ => k, fun _ => ⟨fun _ => k, fun q => absurd rfl q⟩⟩
  | d + 1, x, y, i, hy, hi, hx, hyB, k => by
    have wi := fun _ : Unit => wI_id (x := (i : Int)) (by omega) (by omega)
    have wx := fun _ : Unit => wL_id (x := (x : Int)) (by omega) (by omega)
    have wy := fun _ : Unit => wL_id (x := (y : Int)) (by omega) (by omega)
    refine vc_X9_commonDivisor_3 ?_
    rw [wi (), wx (), wy ()]
    refine ⟨fun q => absurd q (by omega), fun _ => ⟨fun q => ?_, fun q => ⟨q, ?_⟩⟩⟩
    · have : y = 0 := by omega
      subst this
      rw [Nat.gcd_zero_right] at k
      exact k
    · have y0 : 0 < y := by omega
      rw [show (x : Int).tmod (y : Int) = ((x % y : Nat) : Int) from rfl, show (i : Int) + 1 = ((i + 1 : Nat) : Int) from rfl]
      have hr : x % y < y := Nat.mod_lt _ y0
      rw [Nat.gcd_comm, Nat.gcd_rec] at k
      generalize x % y = r at hr k
      have wi2 := fun _ : Unit => wI_id (x := ((i + 1 : Nat) : Int)) (by omega) (by omega)
      have wr := fun _ : Unit => wL_id (x := (r : Int)) (by omega) (by omega)
      refine vc_X9_commonDivisor_3 ?_
      rw [wi2 (), wy (), wr ()]
      refine ⟨fun q => absurd q (by omega), fun _ => ⟨fun q => ?_, fun q => ⟨q, ?_⟩⟩⟩
      · have : r = 0 := by omega
        subst this
        rw [Nat.gcd_zero_left] at k
        exact k
      · have r0 : 0 < r := by omega
        rw [show (y : Int).tmod (r : Int) = ((y % r : Nat) : Int) from rfl, show ((i + 1 : Nat) : Int) + 1 = ((i + 2 : Nat) : Int) from rfl]
        have hs : y % r < r := Nat.mod_lt _ r0
        have h2 : y % r + r ≤ y := by
          have := Nat.div_add_mod y r
          have d1 : 1 ≤ y / r := (Nat.le_div_iff_mul_le r0).mpr (by omega)
          have := Nat.mul_le_mul_left r d1
          omega
        rw [Nat.gcd_rec] at k
        refine lp_cd hB d r (y % r) (i + 2) (by rw [Nat.pow_succ] at hy; omega) (by omega) (by omega) (by omega) ?_
        rw [Nat.gcd_comm]
        exact k
theorem lp_div {K : Int → NN → Prop} {B : Nat} (hB : B ≤ 1000000000000) : ∀ (y x : Nat), x ≤ B → y ≤ B → K ((Nat.gcd x y : Nat) : Int) N → W_X10_divisor G K 6 [(4, vL (x : Int)), (6, vL (y : Int))] [] N := by
  intro y
  induction y using Nat.strongRecOn with
  | ind y ih =>
    intro x hx hy k
    have wx := fun _ : Unit => wL_id (x := (x : Int)) (by omega) (by omega)
    have wy := fun _ : Unit => wL_id (x := (y : Int)) (by omega) (by omega)
    refine vc_X10_divisor_6 ?_
    rw [wx (), wy ()]
    refine ⟨fun q => ?_, fun q => ⟨q, ?_⟩⟩
    · have : y = 0 := by omega
      subst this
      rw [Nat.gcd_zero_right] at k
      exact k
    · have y0 : 0 < y := by omega
      rw [show (x : Int).tmod (y : Int) = ((x % y : Nat) : Int) from rfl]
      have hr : x % y < y := Nat.mod_lt _ y0
      rw [Nat.gcd_comm, Nat.gcd_rec, Nat.gcd_comm] at k
      exact ih (x % y) hr y hy (by omega) k
theorem op_life {a1 a2 : Int} (I : Inv N) (h1 : IR a1) (h2 : IR a2) : C_X9_life G a1 a2 N (fun r N1 => C_X10_life G a1 a2 N1 (fun r' N2 => wL r = wL r' ∧ Inv N2)) := by
  have I' := I
  obtain ⟨k, c, cp, oo, to, t, sz, k60, m9, m10, L, F, M, O, T, P, H⟩ := I
  obtain ⟨c5, p1, p2⟩ := iF_c F
  refine vc_X9_life ?_
  rw [p1]
  refine t_in h1 IR0 ⟨by omega, by omega⟩ (fun g => tt1 (t_in h2 IR0 ⟨by decide, by decide⟩ (fun g2 => tn1 ⟨a1.toNat, by rw [IR_id h1]; omega, by omega, ?_⟩) (fun g2 => tn0 (vc_X10_life (t_isPaper h1 p2 c5 (fun _ => tt1 (t_min h2 IR0 ⟨by decide, by decide⟩ (fun n => absurd n g2) (fun _ => tn0 ⟨rfl, I'⟩))) (fun n => absurd (by omega) n)))))) (fun g => tt0 (vc_X10_life (t_isPaper h1 p2 c5 (fun n => absurd (by omega) g) (fun _ => tt0 ⟨rfl, I'⟩))))
  have ea : wI a1 = ((a1.toNat : Nat) : Int) := by rw [IR_id h1]; omega
  have hq : a1.toNat < cp := by omega
  generalize a1.toNat = q at ea hq
  have e5 : N 5 q 5 = N 72 0 q := iF_p F hq (by decide)
  have e7 : N 5 q 7 = N 73 0 q := iF_p F hq (by decide)
  have po := F.1.2.2.1 q hq
  unfold pOK at po
  rw [show VF N 0 q 0 = N 5 q 0 by rw [VF5 (by omega), Nat.mul_zero, Nat.zero_add], show VF N 0 q 1 = N 5 q 1 by rw [VF5 (by omega), Nat.mul_zero, Nat.zero_add], show VF N 0 q 2 = N 5 q 2 by rw [VF5 (by omega), Nat.mul_zero, Nat.zero_add], show VF N 0 q 3 = N 5 q 3 by rw [VF5 (by omega), Nat.mul_zero, Nat.zero_add], show VF N 0 q 4 = N 5 q 4 by rw [VF5 (by omega), Nat.mul_zero, Nat.zero_add], show VF N 0 q 5 = N 5 q 5 by rw [VF5 (by omega), Nat.mul_zero, Nat.zero_add], show VF N 0 q 6 = N 5 q 6 by rw [VF5 (by omega), Nat.mul_zero, Nat.zero_add], show VF N 0 q 7 = N 5 q 7 by rw [VF5 (by omega), Nat.mul_zero, Nat.zero_add]] at po
  obtain ⟨x, ex⟩ : ∃ x : Nat, N 5 q 5 = (x : Int) := ⟨(N 5 q 5).toNat, by omega⟩
  obtain ⟨y, ey⟩ : ∃ y : Nat, N 5 q 7 = (y : Int) := ⟨(N 5 q 7).toNat, by omega⟩
  rw [ex] at po e5 ⊢
  rw [ey] at po e7 ⊢
  have hx : x ≤ 9999999 := by omega
  have hy : y ≤ 599999940 := by omega
  have xy : x ≤ y := by omega
  clear po
  have wx := fun _ : Unit => wL_id (x := (x : Int)) (by omega) (by omega)
  have wy := fun _ : Unit => wL_id (x := (y : Int)) (by omega) (by omega)
  have l5 : q < 5 := by omega
  have ref : ∀ z : Int, (x = 0 → z = wI a2) → (¬ x = 0 → z = if a2 = 0 then (y : Int).tdiv ((Nat.gcd y x : Nat) : Int) else (x : Int).tdiv ((Nat.gcd y x : Nat) : Int)) → C_X10_life G a1 a2 N (fun r' N2 => wL z = wL r' ∧ Inv N2) := by
    intro z k0 k1
    refine vc_X10_life (t_isPaper h1 p2 c5 (fun _ => tt1 (t_min h2 IR0 ⟨by decide, by decide⟩ (fun _ => tn1 ⟨q, ea, l5, ?_⟩) (fun n => absurd g2 n))) (fun n => absurd (by omega) n))
    rw [← e5, wx ()]
    refine ⟨fun s => ⟨q, ea, l5, q, ea, l5, ?_⟩, fun s => ⟨by rw [k0 (by omega)], I'⟩⟩
    rw [← e7, ← e5]
    refine vc_X10_divisor (lp_div (B := 599999940) (by decide) x y hy (by omega) ?_)
    have gp : 0 < Nat.gcd y x := Nat.gcd_pos_of_pos_right _ (by omega)
    have gl : Nat.gcd y x ≤ x := Nat.gcd_le_right _ (by omega)
    have wg := fun _ : Unit => wL_id (x := ((Nat.gcd y x : Nat) : Int)) (by omega) (by omega)
    have kk := k1 (by omega)
    clear k0 k1
    rw [wg (), IR_id h2]
    refine ⟨fun s2 => ⟨q, ea, l5, by omega, ?_⟩, fun s2 => ⟨q, ea, l5, by omega, ?_⟩⟩
    · rw [← e5, wx (), kk, if_neg s2]
      exact ⟨rfl, I'⟩
    · rw [← e7, wy (), kk, if_pos (Decidable.not_not.mp s2)]
      exact ⟨rfl, I'⟩
  rw [wx ()]
  refine ⟨fun s => vc_X9_commonDivisor (lp_cd (B := 599999940) (by decide) 40 x y 0 (by omega) (by decide) (by omega) hy ?_), fun s => ref _ (fun _ => rfl) (fun n => absurd (by omega) n)⟩
  have gp : 0 < Nat.gcd x y := Nat.gcd_pos_of_pos_left _ (by omega)
  have gl : Nat.gcd x y ≤ x := Nat.gcd_le_left _ (by omega)
  have wg := fun _ : Unit => wL_id (x := ((Nat.gcd x y : Nat) : Int)) (by omega) (by omega)
  rw [wg (), ex, ey, wx (), wy (), IR_id h2]
  refine ⟨fun _ => ⟨fun s2 => ⟨by omega, ref _ (fun n => absurd n (by omega)) (fun _ => ?_)⟩, fun s2 => ⟨by omega, ref _ (fun n => absurd n (by omega)) (fun _ => ?_)⟩⟩, fun n => absurd (by omega) n⟩
  · rw [if_neg s2, Nat.gcd_comm]
  · rw [if_pos (Decidable.not_not.mp s2), Nat.gcd_comm]
end ASK
