section AM2
variable {G : GT}
theorem op_amend {a1 a2 : Int} {N : NN} (I : Inv N) (h1 : IR a1) (h2 : IR a2) : C_X9_amend G a1 a2 N (fun r N1 => C_X10_amend G a1 a2 N1 (fun r' N2 => wI r = wI r' ∧ Inv N2)) := by
  have I' := I
  obtain ⟨k, c, cp, oo, to, t, sz, k60, m9, m10, L, F, M, O, T, P, H⟩ := I
  have O' := O
  obtain ⟨o1, o2, o3, o4, o5, o6⟩ := O'
  refine vc_X9_amend ?_
  rw [o1]
  refine t_in h2 IR0 ⟨by omega, by omega⟩ (fun g2 => tt1 ?_) (fun g => tt0 (vc_X10_amend ?_))
  rotate_left
  · rw [o2]
    exact t_min h2 IR0 ⟨by omega, by omega⟩ (fun n => absurd n g) (fun _ => tt0 ⟨rfl, I'⟩)
  rw [m9]
  refine t_in h1 ⟨by decide, by decide⟩ ⟨by omega, by omega⟩ (fun g1 => tn1 ?_) (fun g => tn0 (vc_X10_amend ?_))
  rotate_left
  · rw [o2]
    refine t_min h2 IR0 ⟨by omega, by omega⟩ (fun _ => tt1 ?_) (fun n => absurd g2 n)
    rw [m10]
    exact t_min h1 ⟨by decide, by decide⟩ ⟨by omega, by omega⟩ (fun n => absurd n g) (fun _ => tn0 ⟨rfl, I'⟩)
  obtain ⟨m0, e1⟩ : ∃ m0 : Nat, a1 = (m0 : Int) := ⟨a1.toNat, by omega⟩
  obtain ⟨on, e2⟩ : ∃ on : Nat, a2 = (on : Int) := ⟨a2.toNat, by omega⟩
  subst e1 e2
  -- the orders of the months, from m0 on
  refine c_am33 (62 - m0) m0 N (by omega) (fun A1 n1 f1 => s_restart (f := 0) (by decide) (fun A2 v2 f2 => ?_))
  have f12 : ∀ x i e, ¬ (x = 23 ∧ i = 0 ∧ m0 ≤ e) → ¬ (x = 0 ∧ i = 0) → ¬ (x = 5 ∧ i < 5) → A2 x i e = N x i e := fun x i e d1 d2 d3 => by rw [f2 _ _ _ d2 (by omega), f1 _ _ _ d1]
  have c23 : ∀ m, m < 62 → A2 23 0 m = if m0 ≤ m then (on : Int) else N 23 0 m := fun m hm => by
    by_cases y : m0 ≤ m
    · rw [if_pos y, f2 _ _ _ (by omega) (by omega), n1 m y hm]
    · rw [if_neg y, f12 _ _ _ (by omega) (by omega) (by omega)]
  have eV1 : VF A1 0 = VF N 0 := VF_un fun x i e d => f1 _ _ _ (by omega)
  have F0 : OKF cp 0 (VF A2 0) := by rw [v2, eV1]; exact restF_ok F.1
  have hO : ∀ m, 1 ≤ m → m ≤ 61 → ∃ o : Nat, o < oo ∧ A2 23 0 m = (o : Int) ∧ relO o A2 N := fun m m1 m2 => by
    have fo : ∀ o, o < oo → relO o A2 N := fun o ho => relO_fr2 (o6 o ho) (fun x i e d => f12 _ _ _ (by omega) (by omega) (by omega)) (fun _ _ _ _ => rfl)
    rw [c23 m (by omega)]
    by_cases y : m0 ≤ m
    · rw [if_pos y]; exact ⟨on, by omega, rfl, fo _ (by omega)⟩
    · rw [if_neg y]
      obtain ⟨o, ho, c1, _⟩ := o5 m m1 m2
      exact ⟨o, ho, c1, fo o ho⟩
  have a9 : A2 9 0 11 = (k : Int) := (f12 _ _ _ (by omega) (by omega) (by omega)).trans m9
  refine c_am64 (oo := oo) (cp := cp) (B0 := N) k60 o4 k 0 A2 (by omega) a9 ((f12 _ _ _ (by omega) (by omega) (by omega)).trans o1) F0 hO (fun m m1 m2 => OKm_10 (fun e _ => f12 _ _ _ (by omega) (by omega) (by omega)) (M m (by omega) m2).2.1) (fun Z hc => ?_)
  have fz := ChP_fr k 0 A2 Z hc
  have fZ : ∀ x i e, ¬ (x = 23 ∧ i = 0 ∧ m0 ≤ e) → ¬ (x = 0 ∧ i = 0) → ¬ (x = 5 ∧ i < 5) → ¬ (x = 28 ∧ 0 < i ∧ i ≤ k ∧ e < 10) → ¬ (x = 3 ∧ 0 < i ∧ i ≤ k ∧ (e = 5 ∨ e = 10 ∨ e = 11)) → Z x i e = N x i e := fun x i e d1 d2 d3 d4 d5 => by rw [fz _ _ _ d2 d3 (by omega) (by omega), f12 _ _ _ d1 d2 d3]
  have hFZ := ChP_F k 0 A2 Z hc F0
  rw [Nat.zero_add] at hFZ
  refine vc_X10_amend ?_
  rw [fZ 10 0 45 (by omega) (by omega) (by omega) (by omega) (by omega), o2]
  refine t_min h2 IR0 ⟨by omega, by omega⟩ (fun _ => tt1 ?_) (fun n => absurd g2 n)
  rw [fZ 10 0 1 (by omega) (by omega) (by omega) (by omega) (by omega), m10]
  refine t_min h1 ⟨by decide, by decide⟩ ⟨by omega, by omega⟩ (fun _ => tn1 ?_) (fun n => absurd g1 n)
  refine m_am33 (62 - m0) m0 Z (by omega) (fun B1 b1 fb1 => vc_X10_anew ?_)
  obtain ⟨c5, p1, p2⟩ := iF_c F
  have toB1 : ∀ x i e, (x = 10 ∨ (40 ≤ x ∧ x ≤ 90 ∧ x ≠ 76)) → B1 x i e = N x i e := fun x i e d => by rw [fb1 _ _ _ (by omega), fZ _ _ _ (by omega) (by omega) (by omega) (by omega) (by omega)]
  refine m_anew (cp := cp) (B0 := B1) c5 ((toB1 _ _ _ (by omega)).trans p2) (fun B2 b2 b2s fb2 => ?_) cp 0 B1 (by omega) (fun q hq => absurd hq (by omega)) (fun _ _ _ _ => rfl)
  have fB2 : ∀ x i e, (x = 10 ∨ (40 ≤ x ∧ x ≤ 90 ∧ x ≠ 76)) → ¬ (69 ≤ x ∧ x ≤ 74 ∧ i = 0 ∧ e < cp) → ¬ (x = 10 ∧ i = 0 ∧ 64 ≤ e ∧ e ≤ 68) → B2 x i e = N x i e := fun x i e d d1 d2 => (fb2 _ _ _ d1 d2).trans (toB1 _ _ _ d)
  have E0 : EqF cp ((0 : Nat) : Int) (VF A2 0) (VM B2) := by
    have EF := F.2.1
    rw [v2, eV1]
    intro q e d
    rcases d with ⟨d1, d2⟩ | ⟨d1, d2, d3, d4⟩
    · have l : q < 5 := by omega
      have er : restF (VF N 0) q e = if e = 2 then VF N 0 q 1 else if 3 ≤ e ∧ e ≤ 8 then 0 else VF N 0 q e := by unfold restF restN; rw [if_neg (by omega), if_pos l]
      rw [er, VMp l (by omega)]
      obtain ⟨g69, g70, g71, g72, g73, g74⟩ := b2 q d1
      have s67 : VF N 0 q 1 = N 67 0 q := by
        have := EF q 1 (.inl ⟨d1, by decide⟩)
        rw [VMp l (by decide)] at this
        exact this
      have s68 : VF N 0 q 0 = N 68 0 q := by
        have := EF q 0 (.inl ⟨d1, by decide⟩)
        rw [VMp l (by decide)] at this
        exact this
      rcases (by omega : e = 0 ∨ e = 1 ∨ e = 2 ∨ e = 3 ∨ e = 4 ∨ e = 5 ∨ e = 6 ∨ e = 7) with rfl | rfl | rfl | rfl | rfl | rfl | rfl | rfl
      · exact s68.trans (fB2 68 0 q (by omega) (by omega) (by omega)).symm
      · exact s67.trans (fB2 67 0 q (by omega) (by omega) (by omega)).symm
      · exact s67.trans (g69.trans (toB1 67 0 q (by omega))).symm
      · exact g70.symm
      · exact g71.symm
      · exact g72.symm
      · exact g74.symm
      · exact g73.symm
    · subst d1
      have er : restF (VF N 0) 9 e = if 4 ≤ e ∧ e ≤ 9 then 0 else VF N 0 9 e := by
        unfold restF restN
        by_cases y : 4 ≤ e ∧ e ≤ 9
        · rw [if_pos ⟨rfl, y⟩, if_pos y]
        · rw [if_neg (by omega), if_neg (by decide), if_neg y]
      by_cases h8 : e = 8
      · exact absurd (d4 h8) (by decide)
      · rw [er, VMs (by omega) (by omega) h8]
        by_cases y : 4 ≤ e ∧ e ≤ 9
        · rw [if_pos y]
          rcases (by omega : e = 4 ∨ e = 5 ∨ e = 6 ∨ e = 7 ∨ e = 9) with rfl | rfl | rfl | rfl | rfl
          · exact (b2s 64 (by decide) (by decide)).symm
          · exact (b2s 67 (by decide) (by decide)).symm
          · exact (b2s 68 (by decide) (by decide)).symm
          · exact (b2s 65 (by decide) (by decide)).symm
          · exact (b2s 66 (by decide) (by decide)).symm
        · rw [if_neg y, EF 9 e (by omega), VMs (by omega) (by omega) h8]
          rcases (by omega : e = 1 ∨ e = 2 ∨ e = 3) with rfl | rfl | rfl
          · exact (fB2 10 0 53 (by omega) (by omega) (by omega)).symm
          · exact (fB2 10 0 69 (by omega) (by omega) (by omega)).symm
          · exact (fB2 10 0 70 (by omega) (by omega) (by omega)).symm
  have c76 : ∀ m, m < 62 → B2 76 0 m = if m0 ≤ m then (on : Int) else N 76 0 m := fun m hm => by
    rw [fb2 _ _ _ (by omega) (by omega)]
    by_cases y : m0 ≤ m
    · rw [if_pos y, b1 m y hm]
    · rw [if_neg y, fb1 _ _ _ (by omega), fZ _ _ _ (by omega) (by omega) (by omega) (by omega) (by omega)]
  have gB2 : ∀ x i e, x < 40 → x ≠ 10 → B2 x i e = Z x i e := fun x i e d d2 => by rw [fb2 _ _ _ (by omega) (by omega), fb1 _ _ _ (by omega)]
  refine m_am58 (cp := cp) k60 k 0 A2 Z B2 (by omega) hc ((fB2 _ _ _ (by omega) (by omega) (by omega)).trans m10) F0 E0 (fun m m1 m2 => ?_) (fun m m1 m2 => ?_) (fun B E' T' f' p' => ⟨rfl, ?_⟩)
  · obtain ⟨o, ho, c1, rO⟩ := hO m m1 m2
    refine ⟨o, by omega, c1, ?_, relO_fr2 rO (fun _ _ _ _ => rfl) (fun x i e d => fB2 _ _ _ (by omega) (by omega) (by omega))⟩
    rw [c23 m (by omega)] at c1
    rw [c76 m (by omega)]
    by_cases y : m0 ≤ m
    · rw [if_pos y] at c1 ⊢; exact c1
    · rw [if_neg y] at c1 ⊢
      obtain ⟨o', ho', y1, y2⟩ := o5 m m1 m2
      exact y2.trans (y1.symm.trans c1)
  · obtain ⟨⟨mm, tk⟩, ok, zz⟩ := M m (by omega) m2
    refine ⟨fun e he h5 => ?_, OKm_10 (fun e _ => f12 _ _ _ (by omega) (by omega) (by omega)) ok⟩
    have q := mF_in (f := e) (by omega)
    rw [f12 _ _ _ (by omega) (by omega) (by omega)]
    exact (fB2 _ _ _ (by omega) (by omega) (by omega)).trans (mm e (by omega))
  · have f : ∀ x i e, ¬ (x = 23 ∧ i = 0 ∧ m0 ≤ e) → ¬ (x = 76 ∧ i = 0 ∧ m0 ≤ e) → ¬ (x = 0 ∧ i = 0) → ¬ (x = 5 ∧ i < 5) → ¬ (x = 28 ∧ 0 < i ∧ i ≤ k ∧ e < 10) → ¬ (x = 3 ∧ 0 < i ∧ i ≤ k ∧ (e = 5 ∨ e = 10 ∨ e = 11)) → ¬ (69 ≤ x ∧ x ≤ 75 ∧ i = 0) → ¬ (x = 10 ∧ i = 0 ∧ 64 ≤ e ∧ e ≤ 68) → ¬ (77 ≤ x ∧ x ≤ 79 ∧ i = 0 ∧ 0 < e ∧ e ≤ k) → ¬ (x = 80 ∧ i = 0 ∧ 10 ≤ e ∧ e < 10 * k + 10) → B x i e = N x i e := fun x i e d1 d2 d3 d4 d5 d6 q1 q2 q3 q4 => by rw [f' _ _ _ q1 q2 q3 (by omega), fb2 _ _ _ (by omega) q2, fb1 _ _ _ (by omega), fZ _ _ _ d1 d3 d4 d5 d6]
    have gB : ∀ x i e, x < 40 → x ≠ 10 → B x i e = Z x i e := fun x i e d d2 => by rw [f' _ _ _ (by omega) (by omega) (by omega) (by omega), gB2 _ _ _ d d2]
    refine ⟨k, c, cp, oo, to, t, sz, k60, ?_, ?_, iL_fr L fun x i e d => f _ _ _ (by omega) (by omega) (by omega) (by omega) (by omega) (by omega) (by omega) (by omega) (by omega) (by omega), ⟨?_, ?_, fun q q1 q2 => ?_⟩, fun m m1 m2 => ?_, ⟨?_, ?_, o3, o4, fun m m1 m2 => ?_, fun o ho => relO_fr (o6 o ho) fun x i e d => f _ _ _ (by omega) (by omega) (by omega) (by omega) (by omega) (by omega) (by omega) (by omega) (by omega) (by omega)⟩, iT_fr T fun x i e d => f _ _ _ (by omega) (by omega) (by omega) (by omega) (by omega) (by omega) (by omega) (by omega) (by omega) (by omega), iP_fr P fun x i e d => f _ _ _ (by omega) (by omega) (by omega) (by omega) (by omega) (by omega) (by omega) (by omega) (by omega) (by omega), iH_fr H fun x i e d => f _ _ _ (by omega) (by omega) (by omega) (by omega) (by omega) (by omega) (by omega) (by omega) (by omega) (by omega)⟩
    · rw [f _ _ _ (by omega) (by omega) (by omega) (by omega) (by omega) (by omega) (by omega) (by omega) (by omega) (by omega)]; exact m9
    · rw [f _ _ _ (by omega) (by omega) (by omega) (by omega) (by omega) (by omega) (by omega) (by omega) (by omega) (by omega)]; exact m10
    · rw [VF_un (M := B) (N := Z) fun x i e d => gB _ _ _ (by omega) (by omega)]; exact hFZ
    · rw [VF_un (M := B) (N := Z) fun x i e d => gB _ _ _ (by omega) (by omega)]; exact E'
    · obtain ⟨z0, z1, z2, z3, z4⟩ := F.2.2 q q1 q2
      have w : ∀ e, e < 9 → B (mK e) 0 q = N (mK e) 0 q := fun e he => by
        have := mK_r e he
        rw [p' q e q1 q2 he, fB2 _ _ _ (by omega) (by omega) (by omega)]
      exact ⟨(w 3 (by decide)).trans z0, (w 4 (by decide)).trans z1, (w 5 (by decide)).trans z2, (w 7 (by decide)).trans z3, (w 6 (by decide)).trans z4⟩
    · obtain ⟨w1, w2⟩ := T' m (by omega) m2
      obtain ⟨_, ok, _⟩ := M m m1 m2
      refine ⟨⟨fun e he => by rw [gB 3 _ _ (by omega) (by omega)]; exact w1 e he, fun i hi => by rw [gB 28 _ _ (by omega) (by omega)]; exact w2 i hi⟩, OKm_n5 (fun e e1 e2 => (gB _ _ _ (by omega) (by omega)).trans (fZ _ _ _ (by omega) (by omega) (by omega) (by omega) (by omega))) ok, fun o ho i hi hl => ?_⟩
      rw [gB 28 _ _ (by omega) (by omega)]
      refine ChP_row k 0 A2 Z hc (fun m m1 m2 o ho => ?_) m (by omega) (by omega) o ((gB 23 _ _ (by omega) (by omega)).symm.trans ho) i hi (by rw [← gB 4 _ _ (by omega) (by omega)]; exact hl)
      obtain ⟨o', ho', c1, rO⟩ := hO m (by omega) (by omega)
      have : o = o' := by omega
      subst this
      exact ⟨rO.2.1, rO.2.2.1⟩
    · rw [f _ _ _ (by omega) (by omega) (by omega) (by omega) (by omega) (by omega) (by omega) (by omega) (by omega) (by omega)]; exact o1
    · rw [f _ _ _ (by omega) (by omega) (by omega) (by omega) (by omega) (by omega) (by omega) (by omega) (by omega) (by omega)]; exact o2
    · have e23 : B 23 0 m = if m0 ≤ m then (on : Int) else N 23 0 m := by rw [gB _ _ _ (by omega) (by omega), fz _ _ _ (by omega) (by omega) (by omega) (by omega), c23 m (by omega)]
      have e76 : B 76 0 m = if m0 ≤ m then (on : Int) else N 76 0 m := by rw [f' _ _ _ (by omega) (by omega) (by omega) (by omega), c76 m (by omega)]
      rw [e23, e76]
      by_cases y : m0 ≤ m
      · rw [if_pos y, if_pos y]; exact ⟨on, by omega, rfl, rfl⟩
      · rw [if_neg y, if_neg y]; exact o5 m m1 m2
end AM2
