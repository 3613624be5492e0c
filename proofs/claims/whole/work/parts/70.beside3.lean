section BE3
variable {G : GT} {c cp : Nat}
theorem cell_of {x e : Nat} (h : (41 ≤ x ∧ x ≤ 47 ∧ e < c) ∨ (69 ≤ x ∧ x ≤ 74 ∧ e < cp) ∨ (x = 10 ∧ (e = 1 ∨ e = 11 ∨ e = 14 ∨ (64 ≤ e ∧ e ≤ 68)))) : ∃ r, r < 7 * c + 6 * cp + 8 ∧ x = cX c cp r ∧ e = cK c cp r := by
  rcases h with ⟨h1, h2, h3⟩ | ⟨h1, h2, h3⟩ | ⟨h1, h2⟩
  · obtain ⟨a, b⟩ := cell_L (cp := cp) (e := x - 41) h3 (by omega)
    exact ⟨_, by omega, by rw [a]; omega, b.symm⟩
  · obtain ⟨a, b⟩ := cell_P (c := c) (e := x - 69) h3 (by omega)
    exact ⟨_, by omega, by rw [a]; omega, b.symm⟩
  · have s : ∀ y, y < 8 → e = xL y → ∃ r, r < 7 * c + 6 * cp + 8 ∧ x = cX c cp r ∧ e = cK c cp r := fun y hy he => by
      obtain ⟨a, b⟩ := cell_S (c := c) (cp := cp) (e := y)
      exact ⟨7 * c + 6 * cp + y, by omega, by rw [a]; exact h1, by rw [b]; exact he⟩
    rcases (by omega : e = 1 ∨ e = 11 ∨ e = 14 ∨ e = 64 ∨ e = 65 ∨ e = 66 ∨ e = 68 ∨ e = 67) with h | h | h | h | h | h | h | h
    · exact s 0 (by decide) h
    · exact s 1 (by decide) h
    · exact s 2 (by decide) h
    · exact s 3 (by decide) h
    · exact s 4 (by decide) h
    · exact s 5 (by decide) h
    · exact s 6 (by decide) h
    · exact s 7 (by decide) h
theorem LK_IR {k : Int} {v : Nat → Int} (hk : 0 ≤ k ∧ k ≤ 60) (lk : LK k v) {g : Nat} (h1 : 1 ≤ g) (h2 : g < 8) : IR (v g) := by
  unfold LK at lk
  rcases (by omega : g = 1 ∨ g = 2 ∨ g = 3 ∨ g = 4 ∨ g = 5 ∨ g = 6 ∨ g = 7) with h | h | h | h | h | h | h <;> subst h <;> exact ⟨by omega, by omega⟩
theorem iF_fr2 {kk : Nat} {N N' : NN} (h : iF c kk N) (f : ∀ x i e, (x = 0 ∧ i = 0) ∨ (x = 5 ∧ i < 5) ∨ (67 ≤ x ∧ x ≤ 74 ∧ i = 0 ∧ e < 5) ∨ (x = 53 ∧ i = 0 ∧ e = 1 ∧ 1 ≤ kk) ∨ (x = 10 ∧ i = 0 ∧ (e = 53 ∨ (64 ≤ e ∧ e ≤ 70))) → N' x i e = N x i e) : iF c kk N' := by
  have e1 : VF N' 0 = VF N 0 := VF_un fun x i e d => f _ _ _ (by omega)
  have c5 := h.1.1
  unfold iF
  rw [e1]
  refine ⟨h.1, fun q e d => ?_, fun q q1 q2 => ?_⟩
  · rw [h.2.1 q e d]
    rcases d with ⟨d1, d2⟩ | ⟨d1, d2, d3, d4⟩
    · rw [VMp (by omega) (by omega), VMp (by omega) (by omega)]
      have : 67 ≤ mK e ∧ mK e ≤ 74 := by
        unfold mK
        repeat' split
        all_goals omega
      exact (f _ _ _ (by omega)).symm
    · subst d1
      by_cases h8 : e = 8
      · subst h8
        have := d4 rfl
        exact (f 53 0 1 (by omega)).symm
      · rw [VMs (by omega) (by omega) h8, VMs (by omega) (by omega) h8]
        have : mS e = 53 ∨ (64 ≤ mS e ∧ mS e ≤ 70) := by
          unfold mS
          repeat' split
          all_goals omega
        exact (f _ _ _ (by omega)).symm
  · rw [f 70 _ _ (by omega), f 71 _ _ (by omega), f 72 _ _ (by omega), f 73 _ _ (by omega), f 74 _ _ (by omega)]
    exact h.2.2 q q1 q2
theorem TR_own {N M : NN} (T : TR c cp (fun q => N (cX c cp q) 0 (cK c cp q)) (7 * c + 6 * cp + 8) N M) : ∀ x i e, ¬ (x = 81 ∧ i = 0) → ¬ (x = 10 ∧ i = 0 ∧ e = 76) → M x i e = N x i e := by
  intro x i e d1 d2
  by_cases y : i = 0 ∧ ∃ r, r < 7 * c + 6 * cp + 8 ∧ x = cX c cp r ∧ e = cK c cp r
  · obtain ⟨y1, r, hr, e1, e2⟩ := y
    subst y1 e1 e2
    exact (T.1 r hr).1
  · exact T.2.2 x i e y (by omega) d2
section BDF
variable {k n : Nat} {Z B B' D : NN}
theorem D_low (TD : TR c cp (fun q => Z (cX c cp q) 0 (cK c cp q)) (7 * c + 6 * cp + 8) B' D) (fB : FrB c k n B B') (fB0 : ∀ x i e, ¬ (x = 81 ∧ i = 0) → ¬ (x = 10 ∧ i = 0 ∧ (e = 76 ∨ e = 11)) → B x i e = Z x i e) {x i e : Nat} (h : x < 35) (h10 : x ≠ 10) : D x i e = Z x i e := by
  rw [TD.2.2 x i e (fun y => by
    obtain ⟨_, r, hr, e1, _⟩ := y
    have := cell_r (c := c) (cp := cp) (q := r) hr
    omega) (by omega) (by omega), fB x i e (by omega) (by omega) (by omega) (by omega) (by omega) (by omega), fB0 _ _ _ (by omega) (by omega)]
theorem D_10 (TD : TR c cp (fun q => Z (cX c cp q) 0 (cK c cp q)) (7 * c + 6 * cp + 8) B' D) (fB : FrB c k n B B') (fB0 : ∀ x i e, ¬ (x = 81 ∧ i = 0) → ¬ (x = 10 ∧ i = 0 ∧ (e = 76 ∨ e = 11)) → B x i e = Z x i e) {e : Nat} (h : ¬ (e = 76 ∨ (30 ≤ e ∧ e ≤ 44))) : D 10 0 e = Z 10 0 e := by
  by_cases y : e = 1 ∨ e = 11 ∨ e = 14 ∨ (64 ≤ e ∧ e ≤ 68)
  · obtain ⟨r, hr, e1, e2⟩ := cell_of (c := c) (cp := cp) (.inr (.inr ⟨rfl, y⟩))
    have := (TD.1 r hr).1
    dsimp only at this
    rw [← e1, ← e2] at this
    exact this
  · rw [TD.2.2 10 0 e (fun z => by
      obtain ⟨_, r, hr, e1, e2⟩ := z
      have := cell_r (c := c) (cp := cp) (q := r) hr
      omega) (by omega) (by omega), fB 10 0 e (by omega) (by omega) (by omega) (by omega) (by omega) (by omega), fB0 _ _ _ (by omega) (by omega)]
theorem D_hi (TD : TR c cp (fun q => Z (cX c cp q) 0 (cK c cp q)) (7 * c + 6 * cp + 8) B' D) (fB : FrB c k n B B') (fB0 : ∀ x i e, ¬ (x = 81 ∧ i = 0) → ¬ (x = 10 ∧ i = 0 ∧ (e = 76 ∨ e = 11)) → B x i e = Z x i e) (kind : ∀ q, q < c → B' 40 0 q = Z 40 0 q) (pB : ∀ q e, cp ≤ q → q < 5 → e < 9 → B' (mK e) 0 q = B (mK e) 0 q) {x i e : Nat} (h : 35 ≤ x) (h81 : ¬ (x = 81 ∧ i = 0)) (h48 : ¬ (48 ≤ x ∧ x ≤ 56 ∧ i = 0 ∧ k < e)) (h77 : ¬ (77 ≤ x ∧ x ≤ 79 ∧ i = 0 ∧ k < e)) (h75 : ¬ (x = 75 ∧ i = 0)) (h69 : ¬ (69 ≤ x ∧ x ≤ 74 ∧ i = 0 ∧ 5 ≤ e)) (h80 : ¬ (x = 80 ∧ i = 0 ∧ 10 * k + 10 ≤ e)) : D x i e = Z x i e := by
  have hx10 : x ≠ 10 := by clear h81 h48 h77 h75 h69 h80; omega
  by_cases y : i = 0 ∧ ((41 ≤ x ∧ x ≤ 47 ∧ e < c) ∨ (69 ≤ x ∧ x ≤ 74 ∧ e < cp))
  · obtain ⟨y1, y2⟩ := y
    subst y1
    obtain ⟨r, hr, e1, e2⟩ := cell_of (c := c) (cp := cp) (x := x) (e := e) (y2.elim .inl (fun z => .inr (.inl z)))
    have := (TD.1 r hr).1
    dsimp only at this
    rw [← e1, ← e2] at this
    exact this
  · rw [TD.2.2 x i e (fun z => by
      obtain ⟨z1, r, hr, e1, e2⟩ := z
      have := cell_r (c := c) (cp := cp) (q := r) hr
      rw [← e1, ← e2] at this
      exact y ⟨z1, this.elim (fun w => .inl w) (fun w => w.elim .inr (fun w => absurd w.1 hx10))⟩) (fun z => h81 ⟨z.1, z.2.1⟩) (fun z => hx10 z.1)]
    by_cases z40 : x = 40 ∧ i = 0 ∧ e < c
    · obtain ⟨z1, z2, z3⟩ := z40
      subst z1 z2
      exact kind e z3
    · by_cases z69 : 69 ≤ x ∧ x ≤ 74 ∧ i = 0
      · obtain ⟨z1, z2, z3⟩ := z69
        subst z3
        have hc : ¬ e < cp := fun w => y ⟨rfl, .inr ⟨z1, z2, w⟩⟩
        have h5 : ¬ 5 ≤ e := fun w => h69 ⟨z1, z2, rfl, w⟩
        clear h81 h48 h77 h75 h69 h80 y z40
        have w : ∀ f, f < 9 → x = mK f → B' x 0 e = Z x 0 e := fun f hf hx => by
          rw [hx, pB e f (by omega) (by omega) hf, ← hx]
          exact fB0 _ _ _ (by omega) (by omega)
        rcases (by omega : x = 69 ∨ x = 70 ∨ x = 71 ∨ x = 72 ∨ x = 73 ∨ x = 74) with h | h | h | h | h | h
        · exact w 2 (by decide) h
        · exact w 3 (by decide) h
        · exact w 4 (by decide) h
        · exact w 5 (by decide) h
        · exact w 7 (by decide) h
        · exact w 6 (by decide) h
      · rw [fB x i e (fun z => ?_) (fun z => h48 ⟨z.1, z.2.1, z.2.2.1, z.2.2.2.1⟩) (fun z => h77 ⟨z.1, z.2.1, z.2.2.1, z.2.2.2.1⟩) (fun z => hx10 z.1) (fun z => ?_) (fun z => h80 ⟨z.1, z.2.1, z.2.2.1⟩), fB0 _ _ _ h81 (fun z => hx10 z.1)]
        · clear h81 h48 h77 h75 h69 h80 z69
          by_cases w : x = 40
          · exact z40 ⟨w, z.2.2.1, z.2.2.2⟩
          · exact y ⟨z.2.2.1, .inl ⟨by omega, by omega, z.2.2.2⟩⟩
        · clear h81 h48 h77 h69 h80 z40 y
          by_cases w : x = 75
          · exact h75 ⟨w, z.2.2⟩
          · exact z69 ⟨z.1, by omega, z.2.2⟩
end BDF
theorem back_inv {N D : NN} {k cp oo to t sz : Nat} (k60 : k ≤ 60) (m9 : N 9 0 11 = (k : Int)) (m10 : N 10 0 1 = (k : Int)) (L : iL c k N) (F : iF cp k N) (M : iM k N) (O : iO oo N) (T : iT to t N) (P : iP sz N) (H : iH N)
    (lz : ∀ x i e, x < 35 → x ≠ 10 → ¬ (x = 2 ∧ 12 ≤ i ∧ i < 24) → ¬ (x = 3 ∧ i = 61) → ¬ (x = 6 ∧ i = 1) → x ≠ 31 → ¬ (x = 0 ∧ i = 1) → ¬ (x = 5 ∧ 5 ≤ i ∧ i < 10) → ¬ (x = 28 ∧ i = 61) → D x i e = N x i e)
    (te : ∀ e, ¬ (e = 76 ∨ (30 ≤ e ∧ e ≤ 44)) → D 10 0 e = N 10 0 e)
    (hi : ∀ x i e, 35 ≤ x → x ≤ 90 → ¬ (x = 81 ∧ i = 0) → ¬ (48 ≤ x ∧ x ≤ 56 ∧ i = 0 ∧ k < e) → ¬ (77 ≤ x ∧ x ≤ 79 ∧ i = 0 ∧ k < e) → ¬ (x = 75 ∧ i = 0) → ¬ (69 ≤ x ∧ x ≤ 74 ∧ i = 0 ∧ 5 ≤ e) → ¬ (x = 80 ∧ i = 0 ∧ 10 * k + 10 ≤ e) → D x i e = N x i e) : Inv D := by
  refine ⟨k, c, cp, oo, to, t, sz, k60, (lz _ _ _ (by omega) (by omega) (by omega) (by omega) (by omega) (by omega) (by omega) (by omega) (by omega)).trans m9, (te _ (by omega)).trans m10, iL_fr L fun x i e d => ?_, iF_fr2 F fun x i e d => ?_, iM_fr M fun x i e d => ?_, iO_fr O fun x i e d => ?_, iT_fr T fun x i e d => ?_, iP_fr P fun x i e d => ?_, iH_fr H fun x i e d => ?_⟩
  · rcases d with d | d | d | ⟨d1, d2, d⟩
    · exact lz _ _ _ (by omega) (by omega) (by omega) (by omega) (by omega) (by omega) (by omega) (by omega) (by omega)
    · exact lz _ _ _ (by omega) (by omega) (by omega) (by omega) (by omega) (by omega) (by omega) (by omega) (by omega)
    · exact hi _ _ _ (by omega) (by omega) (by omega) (by omega) (by omega) (by omega) (by omega) (by omega)
    · subst d1 d2
      exact te _ (by omega)
  · rcases d with d | d | d | d | ⟨d1, d2, d⟩
    · exact lz _ _ _ (by omega) (by omega) (by omega) (by omega) (by omega) (by omega) (by omega) (by omega) (by omega)
    · exact lz _ _ _ (by omega) (by omega) (by omega) (by omega) (by omega) (by omega) (by omega) (by omega) (by omega)
    · exact hi _ _ _ (by omega) (by omega) (by omega) (by omega) (by omega) (by omega) (by omega) (by omega)
    · exact hi _ _ _ (by omega) (by omega) (by omega) (by omega) (by omega) (by omega) (by omega) (by omega)
    · subst d1 d2
      exact te _ (by omega)
  · rcases d with d | d | d | d | d | d
    · exact lz _ _ _ (by omega) (by omega) (by omega) (by omega) (by omega) (by omega) (by omega) (by omega) (by omega)
    · exact lz _ _ _ (by omega) (by omega) (by omega) (by omega) (by omega) (by omega) (by omega) (by omega) (by omega)
    · exact hi _ _ _ (by omega) (by omega) (by omega) (by omega) (by omega) (by omega) (by omega) (by omega)
    · exact hi _ _ _ (by omega) (by omega) (by omega) (by omega) (by omega) (by omega) (by omega) (by omega)
    · exact lz _ _ _ (by omega) (by omega) (by omega) (by omega) (by omega) (by omega) (by omega) (by omega) (by omega)
    · exact lz _ _ _ (by omega) (by omega) (by omega) (by omega) (by omega) (by omega) (by omega) (by omega) (by omega)
  · rcases d with d | ⟨d1, d2, d⟩ | d | d | d | d | d
    · exact lz _ _ _ (by omega) (by omega) (by omega) (by omega) (by omega) (by omega) (by omega) (by omega) (by omega)
    · subst d1 d2
      exact te _ (by omega)
    · exact lz _ _ _ (by omega) (by omega) (by omega) (by omega) (by omega) (by omega) (by omega) (by omega) (by omega)
    · exact hi _ _ _ (by omega) (by omega) (by omega) (by omega) (by omega) (by omega) (by omega) (by omega)
    · exact lz _ _ _ (by omega) (by omega) (by omega) (by omega) (by omega) (by omega) (by omega) (by omega) (by omega)
    · exact lz _ _ _ (by omega) (by omega) (by omega) (by omega) (by omega) (by omega) (by omega) (by omega) (by omega)
    · exact hi _ _ _ (by omega) (by omega) (by omega) (by omega) (by omega) (by omega) (by omega) (by omega)
  · rcases d with d | ⟨d1, d2, d⟩ | d | d | d | d | d
    · exact lz _ _ _ (by omega) (by omega) (by omega) (by omega) (by omega) (by omega) (by omega) (by omega) (by omega)
    · subst d1 d2
      exact te _ (by omega)
    · exact lz _ _ _ (by omega) (by omega) (by omega) (by omega) (by omega) (by omega) (by omega) (by omega) (by omega)
    · exact lz _ _ _ (by omega) (by omega) (by omega) (by omega) (by omega) (by omega) (by omega) (by omega) (by omega)
    · exact lz _ _ _ (by omega) (by omega) (by omega) (by omega) (by omega) (by omega) (by omega) (by omega) (by omega)
    · exact hi _ _ _ (by omega) (by omega) (by omega) (by omega) (by omega) (by omega) (by omega) (by omega)
    · exact hi _ _ _ (by omega) (by omega) (by omega) (by omega) (by omega) (by omega) (by omega) (by omega)
  · rcases d with d | ⟨d1, d2, d⟩ | d | d
    · exact lz _ _ _ (by omega) (by omega) (by omega) (by omega) (by omega) (by omega) (by omega) (by omega) (by omega)
    · subst d1 d2
      exact te _ (by omega)
    · exact lz _ _ _ (by omega) (by omega) (by omega) (by omega) (by omega) (by omega) (by omega) (by omega) (by omega)
    · exact hi _ _ _ (by omega) (by omega) (by omega) (by omega) (by omega) (by omega) (by omega) (by omega)
  · rcases d with d | d | d
    · exact lz _ _ _ (by omega) (by omega) (by omega) (by omega) (by omega) (by omega) (by omega) (by omega) (by omega)
    · exact lz _ _ _ (by omega) (by omega) (by omega) (by omega) (by omega) (by omega) (by omega) (by omega) (by omega)
    · exact hi _ _ _ (by omega) (by omega) (by omega) (by omega) (by omega) (by omega) (by omega) (by omega)
theorem op_beside {a1 a2 a3 : Int} {N : NN} (I : Inv N) (h1 : IR a1) (h2 : IR a2) (h3 : IR a3) : C_X9_beside G a1 a2 a3 N (fun r N1 => C_X10_beside G a1 a2 a3 N1 (fun r' N2 => wL r = wL r' ∧ Inv N2)) := by
  have I' := I
  obtain ⟨k, c, cp, oo, to, t, sz, k60, m9, m10, L, F, M, O, T, P, H⟩ := I
  have L' := L
  have O' := O
  have T' := T
  obtain ⟨⟨b1, c12, b3, b4, b5, b6, b7⟩, ⟨r1, r2, r3, r4⟩, ⟨l1, l2⟩, l4⟩ := L'
  obtain ⟨o1, o2, o3, o4, o5, o6⟩ := O'
  obtain ⟨t1, t2, t3, t4, t5, t6, t7, t8, t9⟩ := T'
  obtain ⟨c5, p1, p2⟩ := iF_c F
  have refB : ¬ (1 ≤ a1 ∧ a1 ≤ 12) ∨ ¬ (0 ≤ a2 ∧ a2 ≤ 99999) ∨ ¬ (0 ≤ a3 ∧ a3 ≤ 2 + (cp : Int)) ∨ 60 < wI ((k : Int) + a1) → C_X10_beside G a1 a2 a3 N (fun r' N2 => wL (-4611686018427387904) = wL r' ∧ Inv N2) := by
    intro h
    refine vc_X10_beside (t_min h1 ⟨by decide, by decide⟩ ⟨by decide, by decide⟩ (fun g1 => tt1 ?_) (fun _ => tt0 ⟨rfl, I'⟩))
    rw [m10]
    refine ⟨fun _ => ⟨rfl, I'⟩, fun z => t_min h2 IR0 ⟨by decide, by decide⟩ (fun g2 => tt1 ?_) (fun _ => tt0 ⟨rfl, I'⟩)⟩
    rw [p2]
    exact t_min h3 IR0 ⟨by omega, by omega⟩ (fun g3 => absurd h (fun y => y.elim (fun y => y g1) (fun y => y.elim (fun y => y g2) (fun y => y.elim (fun y => y g3) (fun y => z y))))) (fun _ => tn0 ⟨rfl, I'⟩)
  refine vc_X9_beside (t_in h1 ⟨by decide, by decide⟩ ⟨by decide, by decide⟩ (fun g1 => tt1 (t_in h2 IR0 ⟨by decide, by decide⟩ (fun g2 => tt1 ?_) (fun g => tt0 (refB (.inr (.inl g)))))) (fun g => tt0 (refB (.inl g))))
  rw [p1]
  refine t_in h3 IR0 ⟨by omega, by omega⟩ (fun g3 => tt1 ?_) (fun g => tt0 (refB (.inr (.inr (.inl g)))))
  obtain ⟨n, e1⟩ : ∃ n : Nat, a1 = (n : Int) := ⟨a1.toNat, by omega⟩
  subst e1
  have ws' := fun _ : Unit => wI_id (x := (k : Int) + (n : Int)) (by omega) (by omega)
  rw [m9]
  refine ⟨fun q => ?_, fun q => refB (.inr (.inr (.inr (by rw [ws' ()] at q ⊢; omega))))⟩
  rw [ws' ()] at q
  have n12 : n ≤ 12 := by omega
  have kn : k + n ≤ 60 := by omega
  refine vc_X6_copy (by decide) (by decide) (lp_copyPool (N := N) b6 (by omega) (fun N4 u2 u6 fu => ?_) 12 0 N rfl (fun q hq => absurd hq (by omega)) (fun _ _ _ _ => rfl))
  have sS := F.1.2.2.2
  unfold sOK at sS
  rw [show VF N 0 9 2 = N 0 0 2 from rfl, show VF N 0 9 3 = N 0 0 3 from rfl, show VF N 0 9 4 = N 0 0 4 from rfl, show VF N 0 9 5 = N 0 0 5 from rfl, show VF N 0 9 6 = N 0 0 6 from rfl, show VF N 0 9 7 = N 0 0 7 from rfl, show VF N 0 9 8 = N 0 0 8 from rfl, show VF N 0 9 9 = N 0 0 9 from rfl] at sS
  have s5 : N4 0 0 5 = 0 ∨ N4 0 0 5 = 1 := by rw [fu _ _ _ (by omega) (by omega)]; omega
  have s67 : N 10 0 67 = 0 ∨ N 10 0 67 = 1 := by
    have := iF_s F (e := 5) (by decide) (by decide) (by decide)
    rw [show mS 5 = 67 from rfl] at this
    omega
  have s68 : IR (N 10 0 68) := by
    have := iF_s F (e := 6) (by decide) (by decide) (by decide)
    rw [show mS 6 = 68 from rfl] at this
    exact ⟨by omega, by omega⟩
  clear sS
  refine vc_X0_copy (by decide) (by decide) (lp_copyFall (N := N4) s5 (fun N5 v5 v0 fv A0 e0 => ?_) 5 0 N4 rfl (fun q hq => absurd hq (by omega)) (fun _ _ _ _ => rfl))
  -- the class's other pool and fall
  have fA : ∀ x i e, ¬ (x = 2 ∧ 12 ≤ i ∧ i < 24) → ¬ (x = 6 ∧ i = 1) → ¬ (x = 5 ∧ 5 ≤ i ∧ i < 10) → ¬ (x = 0 ∧ i = 1) → A0 x i e = N x i e := fun x i e d1 d2 d3 d4 => by rw [e0, up3_o' (by omega), fv _ _ _ d3 d4, fu _ _ _ d1 d2]
  have a2' : ∀ q, q < 12 → ∀ e, e < 8 → A0 2 (12 + q) e = N 2 q e := fun q hq e he => by rw [e0, up3_o' (by omega), fv _ _ _ (by omega) (by omega)]; exact u2 q hq e he
  have a6 : ∀ e, 1 ≤ e → e ≤ 6 → e ≠ 2 → A0 6 1 e = N 6 0 e := fun e x1 x2 x3 => by rw [e0, up3_o' (by omega), fv _ _ _ (by omega) (by omega)]; exact u6 e x1 x2
  have a62 : A0 6 1 2 = a2 := by rw [e0, up3_s]
  have a5 : ∀ q, q < 5 → ∀ e, e < 9 → A0 5 (5 + q) e = N 5 q e := fun q hq e he => by rw [e0, up3_o' (by omega), v5 q hq e he, fu _ _ _ (by omega) (by omega)]
  have a0 : ∀ e, 1 ≤ e → e ≤ 9 → A0 0 1 e = N 0 0 e := fun e x1 x2 => by rw [e0, up3_o' (by omega), v0 e x1 x2, fu _ _ _ (by omega) (by omega)]
  have eVF : ∀ q e, (q < cp ∧ e < 9) ∨ (q = 9 ∧ 1 ≤ e ∧ e ≤ 9) → VF A0 1 q e = VF N 0 q e := by
    intro q e d
    rcases d with ⟨d1, d2⟩ | ⟨d1, d2, d3⟩
    · rw [VF5 (by omega), VF5 (by omega), show 5 * 1 + q = 5 + q by omega, show 5 * 0 + q = q by omega]
      exact a5 q (by omega) e d2
    · subst d1
      exact a0 e d2 d3
  have CS : CSp c cp 1 1 oo t (N 29 t) (N 30 t) N k A0 := by
    refine ⟨⟨(a6 1 (by decide) (by decide) (by decide)).trans b1, c12, fun q hq => LK_8 (fun e he => ?_) (b3 q hq), by rw [a62]; exact g2, by rw [a6 3 (by decide) (by decide) (by decide)]; exact b5, by rw [a6 4 (by decide) (by decide) (by decide)]; exact b6, by rw [a6 5 (by decide) (by decide) (by decide)]; exact b7⟩, OKF_9 eVF F.1, (a6 6 (by decide) (by decide) (by decide)).trans t6, funext fun e => fA _ _ _ (by omega) (by omega) (by omega) (by omega), funext fun e => fA _ _ _ (by omega) (by omega) (by omega) (by omega), (fA _ _ _ (by omega) (by omega) (by omega) (by omega)).trans o1, fun m m1 m2 => ?_⟩
    · rw [show 12 * 1 + q = 12 + q by omega, show 12 * 0 + q = q by omega]
      exact a2' q (by omega) e he
    · obtain ⟨o, ho, x1, x2⟩ := o5 m m1 m2
      exact ⟨o, ho, (fA _ _ _ (by omega) (by omega) (by omega) (by omega)).trans x1, relO_fr2 (o6 o ho) (fun x i e d => fA _ _ _ (by omega) (by omega) (by omega) (by omega)) (fun _ _ _ _ => rfl)⟩
  have a9 : A0 9 0 11 = (k : Int) := (fA _ _ _ (by omega) (by omega) (by omega) (by omega)).trans m9
  rw [a9]
  obtain ⟨lv, lC, V, Vm⟩ := V_of (G := G) (N := N) (t := t) (by omega) (t9 t t5)
  refine c_besW h3 V o4 n12 kn g3 c5 n k 0 A0 rfl CS a9 (fun Z vs hc hz9 => ?_)
  have fz := ChL_fr n k A0 Z vs hc
  have fZ : ∀ x i e, ¬ (x = 2 ∧ 12 ≤ i ∧ i < 24) → ¬ (x = 3 ∧ i = 61) → ¬ (x = 6 ∧ i = 1) → x ≠ 31 → ¬ (x = 0 ∧ i = 1) → ¬ (x = 5 ∧ 5 ≤ i ∧ i < 10) → ¬ (x = 28 ∧ i = 61) → Z x i e = N x i e := fun x i e d1 d2 d3 d4 d5 d6 d7 => by
    by_cases y : x = 9 ∧ i = 0 ∧ e = 11
    · obtain ⟨y1, y2, y3⟩ := y
      subst y1 y2 y3
      rw [hz9, m9]
    · rw [fz x i e (by omega) (fun y => y.2.elim fun m z => by omega) (by omega) d4 d5 (by omega) (fun y => y.2.elim fun m z => by omega) y]
      exact fA _ _ _ d1 d3 d6 d5
  have tZ : ∀ x i e, (x = 10 ∨ (35 ≤ x ∧ x ≤ 90)) → Z x i e = N x i e := fun x i e d => fZ _ _ _ (by omega) (by omega) (by omega) (by omega) (by omega) (by omega) (by omega)
  have kn' := fun _ : Unit => wI_id (x := (k : Int) + (n : Int)) (by omega) (by omega)
  -- the reference
  refine vc_X10_beside (t_min h1 ⟨by decide, by decide⟩ ⟨by decide, by decide⟩ (fun _ => tt1 ?_) (fun y => absurd g1 y))
  rw [tZ 10 0 1 (by omega), m10, kn' ()]
  refine ⟨fun y => absurd y (by omega), fun _ => t_min h2 IR0 ⟨by decide, by decide⟩ (fun _ => tt1 ?_) (fun y => absurd g2 y)⟩
  rw [tZ 10 0 53 (by omega), p2]
  refine t_min h3 IR0 ⟨by omega, by omega⟩ (fun _ => tn1 ?_) (fun y => absurd g3 y)
  have vS : ∀ e, Z (cX c cp (7 * c + 6 * cp + e)) 0 (cK c cp (7 * c + 6 * cp + e)) = N 10 0 (xL e) := fun e => by
    rw [cell_S.1, cell_S.2]; exact tZ _ _ _ (by omega)
  have iv : ∀ q, q < 7 * c → IR (Z (cX c cp q) 0 (cK c cp q)) := by
    intro q hq
    obtain ⟨x1, x2⟩ := cell_L (c := c) (cp := cp) (n := q / 7) (e := q % 7) (by omega) (by omega)
    rw [show 7 * (q / 7) + q % 7 = q by omega] at x1 x2
    rw [x1, x2, tZ _ _ _ (by omega)]
    have lk := b3 (q / 7) (by omega)
    have e := l1 (q / 7) (by omega) (q % 7 + 1) (by omega)
    rw [show 40 + (q % 7 + 1) = 41 + q % 7 by omega] at e
    rw [e]
    exact LK_IR (by omega) lk (by omega) (by omega)
  have hv1 : HV c cp (fun q => Z (cX c cp q) 0 (cK c cp q)) 1 Z := by
    refine ⟨.inr ⟨by decide, fun _ _ => rfl⟩, iv, ?_, ?_, ?_, ?_, ?_⟩
    · have := vS 0
      rw [Nat.add_zero, show xL 0 = 1 from rfl, m10] at this
      dsimp only
      rw [this]
      exact ⟨by omega, by omega⟩
    · dsimp only
      rw [vS 1, show xL 1 = 11 from rfl, r2]
      exact ⟨by omega, by omega⟩
    · dsimp only
      rw [vS 2, show xL 2 = 14 from rfl, l2]
      exact ⟨by omega, by omega⟩
    · dsimp only
      rw [vS 6, show xL 6 = 68 from rfl]
      exact s68
    · dsimp only
      rw [vS 7, show xL 7 = 67 from rfl]
      exact s67
  refine s_turn c12 c5 hv1 ((tZ _ _ _ (by omega)).trans r1) ((tZ _ _ _ (by omega)).trans p2) (fun W TW => ?_)
  have fW := TR_own TW
  have tW : ∀ x i e, (x = 10 ∨ (35 ≤ x ∧ x ≤ 80)) → ¬ (x = 10 ∧ i = 0 ∧ e = 76) → W x i e = N x i e := fun x i e d d2 => (fW _ _ _ (by omega) d2).trans (tZ _ _ _ (by omega))
  rw [tW 10 0 1 (by omega) (by omega), m10]
  -- what comes of it
  have main : ∀ (l5 : Int), (3 ≤ a3 → l5 = N 71 0 (a3 - 3).toNat + N 72 0 (a3 - 3).toNat) → ∀ B : NN, B = up3 W 10 0 11 a2 → W_X10_beside G (fun r' N2 => wL (if 2 < a3 then (Z 5 (5 + (a3 - 3).toNat) 4 + Z 5 (5 + (a3 - 3).toNat) 5) - (Z 5 (a3 - 3).toNat 4 + Z 5 (a3 - 3).toNat 5) else lsum 0 vs) = wL r' ∧ Inv N2) 96 [(0, vR 10 0), (1, vI (n : Int)), (3, vI a3), (4, vI (k : Int)), (5, vL l5), (7, vI 0)] [] B := by
    intro l5 hl5 B eB
    have fB0 : ∀ x i e, ¬ (x = 81 ∧ i = 0) → ¬ (x = 10 ∧ i = 0 ∧ (e = 76 ∨ e = 11)) → B x i e = Z x i e := fun x i e d1 d2 => by rw [eB, up3_o' (by omega), fW _ _ _ d1 (by omega)]
    have tB : ∀ x i e, (x = 10 ∨ (35 ≤ x ∧ x ≤ 80)) → ¬ (x = 10 ∧ i = 0 ∧ (e = 76 ∨ e = 11)) → B x i e = N x i e := fun x i e d d2 => (fB0 _ _ _ (by omega) d2).trans (tZ _ _ _ (by omega))
    have hg : gW a3 < 12 := by
      unfold gW
      repeat' split
      all_goals omega
    refine m_96 n12 rfl n 0 B (by omega) (m_months (p := 1) (f := 1) (jf := fun _ => 61) (g := gW a3) (t := t) (tx := fun j => N 57 0 (160 * t + j)) (ts := N 58 0 t) lC hg Vm n k A0 Z B vs hc kn CS.1 CS.2.1 ?_ ?_ ?_ ((tB _ _ _ (by omega) (by omega)).trans m10) ((tB _ _ _ (by omega) (by omega)).trans t8) (fun j hj => tB _ _ _ (by omega) (by omega)) (tB _ _ _ (by omega) (by omega)) (fun m m1 m2 => ?_) (fun B' S R E b1' fB pB ms _ => ?_))
    · exact ⟨(tB _ _ _ (by omega) (by omega)).trans r1, by rw [a62, eB, up3_s], by rw [a6 3 (by decide) (by decide) (by decide), tB _ _ _ (by omega) (by omega)]; exact r3, by rw [a6 4 (by decide) (by decide) (by decide), tB _ _ _ (by omega) (by omega)]; exact r4⟩
    · refine ⟨fun q hq e he => ?_, by rw [a6 5 (by decide) (by decide) (by decide), tB _ _ _ (by omega) (by omega)]; exact l2⟩
      have := l1 q hq e he
      rw [show 12 * 0 + q = q by omega] at this
      rw [show 12 * 1 + q = 12 + q by omega, tB _ _ _ (by omega) (by omega), a2' q (by omega) e he]
      exact this
    · intro q e d
      rw [eVF q e (by omega), VM_un (M := B) (N := N) fun x i e d => tB _ _ _ (by omega) (by omega)]
      exact F.2.1 q e d
    · obtain ⟨o, ho, x1, x2⟩ := o5 m m1 m2
      exact ⟨o, by omega, (fA _ _ _ (by omega) (by omega) (by omega) (by omega)).trans x1, by rw [tB _ _ _ (by omega) (by omega)]; exact x2, relO_fr2 (o6 o ho) (fun x i e d => fA _ _ _ (by omega) (by omega) (by omega) (by omega)) (fun x i e d => tB _ _ _ (by omega) (by omega))⟩
    · -- taken back
      have V81 : ∀ q, q < 7 * c + 6 * cp + 8 → B' 81 0 q = Z (cX c cp q) 0 (cK c cp q) := fun q hq => by
        rw [fB _ _ _ (by omega) (by omega) (by omega) (by omega) (by omega) (by omega), eB, up3_o' (by omega)]
        exact (TW.1 q hq).2
      have hv0 : HV c cp (fun q => Z (cX c cp q) 0 (cK c cp q)) 0 B' := ⟨.inl ⟨by decide, V81⟩, hv1.2⟩
      have back : ∀ D : NN, TR c cp (fun q => Z (cX c cp q) 0 (cK c cp q)) (7 * c + 6 * cp + 8) B' D → Inv D := by
        intro D TD
        have kind : ∀ q, q < c → B' 40 0 q = N 40 0 q := fun q hq => by
          have x1 := R.1 q hq 0 (by decide)
          have x2 := ChL_kind n k A0 Z vs hc q hq
          have x3 := l1 q hq 0 (by decide)
          rw [show 12 * 0 + q = q by omega] at x3
          rw [show 12 * 1 + q = 12 + q by omega] at x1 x2
          rw [show (40 : Nat) = 40 + 0 from rfl, x1, x2, a2' q (by omega) 0 (by decide), x3]
        have kindZ : ∀ q, q < c → B' 40 0 q = Z 40 0 q := fun q hq => (kind q hq).trans (tZ _ _ _ (.inr ⟨by decide, by decide⟩)).symm
        have lo : ∀ x i e, x < 35 → x ≠ 10 → D x i e = Z x i e := fun x i e d1 d2 => D_low TD fB fB0 d1 d2
        have te : ∀ e, ¬ (e = 76 ∨ (30 ≤ e ∧ e ≤ 44)) → D 10 0 e = N 10 0 e := fun e d => (D_10 TD fB fB0 d).trans (tZ _ _ _ (.inl rfl))
        have hi : ∀ x i e, 35 ≤ x → x ≤ 90 → ¬ (x = 81 ∧ i = 0) → ¬ (48 ≤ x ∧ x ≤ 56 ∧ i = 0 ∧ k < e) → ¬ (77 ≤ x ∧ x ≤ 79 ∧ i = 0 ∧ k < e) → ¬ (x = 75 ∧ i = 0) → ¬ (69 ≤ x ∧ x ≤ 74 ∧ i = 0 ∧ 5 ≤ e) → ¬ (x = 80 ∧ i = 0 ∧ 10 * k + 10 ≤ e) → D x i e = N x i e := fun x i e d0 d1 d2 d3 d4 d5 d6 d7 => (D_hi TD fB fB0 kindZ pB d0 d2 d3 d4 d5 d6 d7).trans (tZ _ _ _ (.inr ⟨d0, d1⟩))
        have lz : ∀ x i e, x < 35 → x ≠ 10 → ¬ (x = 2 ∧ 12 ≤ i ∧ i < 24) → ¬ (x = 3 ∧ i = 61) → ¬ (x = 6 ∧ i = 1) → x ≠ 31 → ¬ (x = 0 ∧ i = 1) → ¬ (x = 5 ∧ 5 ≤ i ∧ i < 10) → ¬ (x = 28 ∧ i = 61) → D x i e = N x i e := fun x i e q1 q2 d1 d2 d3 d4 d5 d6 d7 => (lo x i e q1 q2).trans (fZ _ _ _ d1 d2 d3 d4 d5 d6 d7)
        refine back_inv k60 m9 m10 L F M O T P H ?_ ?_ ?_
        · exact lz
        · exact te
        · exact hi
      have c2 : B' 10 0 2 = (c : Int) := S.1
      have c53 : B' 10 0 53 = (cp : Int) := by rw [fB _ _ _ (by omega) (by omega) (by omega) (by omega) (by omega) (by omega), tB _ _ _ (by omega) (by omega)]; exact p2
      rw [IR_id h3]
      refine ⟨fun y => ?_, fun y => ?_⟩
      · rw [if_neg (by omega)]
        refine m_149 kn h3 ⟨by omega, y⟩ vs (k + 1) 0 (by omega) (by rw [ChL_len n k A0 Z vs hc]; omega) (fun i hi => ms i (by rw [ChL_len n k A0 Z vs hc] at hi; exact hi)) (s_turn c12 c5 hv0 c2 c53 (fun D TD => ⟨rfl, back D TD⟩))
      · rw [if_pos (by omega)]
        have w3 : wI (a3 - 3) = (((a3 - 3).toNat : Nat) : Int) := by rw [wI_id (by omega) (by omega)]; omega
        have lj : (a3 - 3).toNat < cp := by omega
        generalize (a3 - 3).toNat = j at w3 lj hl5 ⊢
        refine ⟨j, w3, by omega, j, w3, by omega, m_149s kn h3 (by omega) (s_turn c12 c5 hv0 c2 c53 (fun D TD => ⟨?_, back D TD⟩))⟩
        have x4 := E j 4 (.inl ⟨lj, by decide⟩)
        have x5 := E j 5 (.inl ⟨lj, by decide⟩)
        rw [VF5 (by omega), VMp (by omega) (by decide), show 5 * 1 + j = 5 + j by omega] at x4 x5
        have y4 : N 5 j 4 = N 71 0 j := iF_p F lj (by decide)
        have y5 : N 5 j 5 = N 72 0 j := iF_p F lj (by decide)
        rw [hl5 (by omega), x4, x5, fZ 5 j 4 (by omega) (by omega) (by omega) (by omega) (by omega) (by omega) (by omega), fZ 5 j 5 (by omega) (by omega) (by omega) (by omega) (by omega) (by omega) (by omega), y4, y5]
        rfl
  rw [IR_id h3]
  refine ⟨fun y M5 e5 => main 0 (fun z => absurd z (by omega)) M5 e5, fun y => ?_⟩
  have w3 : wI (a3 - 3) = (((a3 - 3).toNat : Nat) : Int) := by rw [wI_id (by omega) (by omega)]; omega
  refine ⟨(a3 - 3).toNat, w3, by omega, (a3 - 3).toNat, w3, by omega, fun M8 e8 => main _ (fun _ => ?_) M8 e8⟩
  rw [tW 71 _ _ (by omega) (by omega), tW 72 _ _ (by omega) (by omega)]
end BE3
