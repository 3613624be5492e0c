/-! what is told: loans, papers, seed, back, advances, trip, law, bought back, tape -/
def okL (a1 a2 a3 a4 : Int) : Prop := 0 ≤ a1 ∧ a1 ≤ 5 ∧ 1000 ≤ a2 ∧ a2 ≤ 999999 ∧ 0 ≤ a3 ∧ a3 ≤ 200 ∧ 1 ≤ a4 ∧ a4 ≤ 60
section WRI
variable {G : GT} {N : NN}
theorem IR0 : IR 0 := ⟨by decide, by decide⟩
theorem c_loan {a1 a2 a3 a4 : Int} {k c : Nat} {K : Int → NN → Prop} (h1 : IR a1) (h2 : IR a2) (h3 : IR a3) (h4 : IR a4) (hk : N 9 0 11 = (k : Int)) (k60 : k ≤ 60) (hc : N 6 0 1 = (c : Int)) (c12 : c ≤ 12)
    (kB : ¬ okL a1 a2 a3 a4 → K (-2) N) (kS : okL a1 a2 a3 a4 → 0 < k → K (-3) N) (kF : okL a1 a2 a3 a4 → k = 0 → c = 12 → K (-4) N)
    (kk : okL a1 a2 a3 a4 → k = 0 → c < 12 → ∀ N', (∀ x i f, ¬ (x = 2 ∧ i = c ∧ f < 4) → ¬ (x = 6 ∧ i = 0 ∧ f = 1) → N' x i f = N x i f) → N' 2 c 0 = a1 → N' 2 c 1 = a2 → N' 2 c 2 = a3 → N' 2 c 3 = a4 → N' 6 0 1 = ((c + 1 : Nat) : Int) → K (c : Int) N') : C_X9_loan G a1 a2 a3 a4 N K := by
  unfold okL at *
  refine vc_X9_loan (t_in h1 IR0 ⟨by decide, by decide⟩ (fun g1 => tt1 (t_in h2 ⟨by decide, by decide⟩ ⟨by decide, by decide⟩ (fun g2 => tt1 (t_in h3 IR0 ⟨by decide, by decide⟩ (fun g3 => tt1 (t_in h4 ⟨by decide, by decide⟩ ⟨by decide, by decide⟩ (fun g4 => tn1 ?_) (fun g => tn0 (kB (fun z => g ⟨z.2.2.2.2.2.2.1, z.2.2.2.2.2.2.2⟩))))) (fun g => tt0 (kB (fun z => g ⟨z.2.2.2.2.1, z.2.2.2.2.2.1⟩))))) (fun g => tt0 (kB (fun z => g ⟨z.2.2.1, z.2.2.2.1⟩))))) (fun g => tt0 (kB (fun z => g ⟨z.1, z.2.1⟩))))
  have ok : 0 ≤ a1 ∧ a1 ≤ 5 ∧ 1000 ≤ a2 ∧ a2 ≤ 999999 ∧ 0 ≤ a3 ∧ a3 ≤ 200 ∧ 1 ≤ a4 ∧ a4 ≤ 60 := ⟨g1.1, g1.2, g2.1, g2.2, g3.1, g3.2, g4.1, g4.2⟩
  have kS' := kS ok
  have kF' := kF ok
  have kk' := kk ok
  clear kB kS kF kk
  rw [hk, hc, wI_id (x := (k : Int)) (by omega) (by omega), wI_id (x := (c : Int)) (by omega) (by omega)]
  refine ⟨fun q => ⟨fun q2 => ⟨c, rfl, by omega, vc_X2_open (by omega) (fun M1 e1 M2 e2 M3 e3 M4 e4 M7 e7 => ?_)⟩, fun q2 => kF' (by omega) (by omega)⟩, fun q => kS' (by omega)⟩
  have f4 : ∀ x i f, ¬ (x = 2 ∧ i = c ∧ f < 4) → M4 x i f = N x i f := fun x i f a => by rw [e4, up3_o' (by omega), e3, up3_o' (by omega), e2, up3_o' (by omega), e1, up3_o' (by omega)]
  have v : M7 6 0 1 = (c : Int) + 1 := by rw [e7, up3_s, f4 _ _ _ (by omega), hc]
  rw [v, show (c : Int) + 1 - 1 = (c : Int) by omega]
  refine kk' (by omega) (by omega) M7 (fun x i f a b => ?_) ?_ ?_ ?_ ?_ (by rw [v]; omega)
  · rw [e7, up3_o' (by omega), f4 _ _ _ a]
  · rw [e7, up3_o' (by omega), e4, up3_o' (by omega), e3, up3_o' (by omega), e2, up3_o' (by omega), e1, up3_s]
  · rw [e7, up3_o' (by omega), e4, up3_o' (by omega), e3, up3_o' (by omega), e2, up3_s, IR_id h2]
  · rw [e7, up3_o' (by omega), e4, up3_o' (by omega), e3, up3_s]
  · rw [e7, up3_o' (by omega), e4, up3_s]
theorem m_isTold {a1 a2 a3 a4 : Int} {K : Int → NN → Prop} (h1 : IR a1) (h2 : IR a2) (h3 : IR a3) (h4 : IR a4) (k1 : okL a1 a2 a3 a4 → K 1 N) (k0 : ¬ okL a1 a2 a3 a4 → K 0 N) : C_X10_isTold G a1 a2 a3 a4 N K := by
  unfold okL at *
  exact vc_X10_isTold (t_min h1 IR0 ⟨by decide, by decide⟩ (fun g1 => tt1 (t_min h2 ⟨by decide, by decide⟩ ⟨by decide, by decide⟩ (fun g2 => tt1 (t_min h3 IR0 ⟨by decide, by decide⟩ (fun g3 => tt1 (t_min h4 ⟨by decide, by decide⟩ ⟨by decide, by decide⟩ (fun g4 => tt1 (k1 ⟨g1.1, g1.2, g2.1, g2.2, g3.1, g3.2, g4.1, g4.2⟩)) (fun g => tt0 (k0 (fun z => g ⟨z.2.2.2.2.2.2.1, z.2.2.2.2.2.2.2⟩))))) (fun g => tt0 (k0 (fun z => g ⟨z.2.2.2.2.1, z.2.2.2.2.2.1⟩))))) (fun g => tt0 (k0 (fun z => g ⟨z.2.2.1, z.2.2.2.1⟩))))) (fun g => tt0 (k0 (fun z => g ⟨z.1, z.2.1⟩))))
theorem m_loan {a1 a2 a3 a4 : Int} {k c : Nat} {K : Int → NN → Prop} (h1 : IR a1) (h2 : IR a2) (h3 : IR a3) (h4 : IR a4) (hk : N 10 0 1 = (k : Int)) (k60 : k ≤ 60) (hc : N 10 0 2 = (c : Int)) (c12 : c ≤ 12)
    (kB : ¬ okL a1 a2 a3 a4 → K (-2) N) (kS : okL a1 a2 a3 a4 → 0 < k → K (-3) N) (kF : okL a1 a2 a3 a4 → k = 0 → c = 12 → K (-4) N)
    (kk : okL a1 a2 a3 a4 → k = 0 → c < 12 → ∀ N', (∀ x i f, ¬ (40 ≤ x ∧ x < 47 ∧ i = 0 ∧ f = c) → ¬ (x = 10 ∧ i = 0 ∧ f = 2) → N' x i f = N x i f) → N' 40 0 c = a1 → N' 41 0 c = a2 → N' 42 0 c = a3 → N' 43 0 c = a4 → N' 44 0 c = 0 → N' 45 0 c = 0 → N' 46 0 c = 0 → N' 10 0 2 = ((c + 1 : Nat) : Int) → K (c : Int) N') : C_X10_loan G a1 a2 a3 a4 N K := by
  refine vc_X10_loan (m_isTold h1 h2 h3 h4 (fun ok => tn1 ?_) (fun ok => tn0 (kB ok)))
  have kS' := kS ok
  have kF' := kF ok
  have kk' := kk ok
  clear kB kS kF kk
  have wc := fun _ : Unit => wI_id (x := (c : Int)) (by omega) (by omega)
  rw [hk, hc, wI_id (x := (k : Int)) (by omega) (by omega), wc ()]
  refine ⟨fun q => ⟨fun q2 => ⟨c, rfl, by omega, fun M3 e3 => ⟨c, by rw [e3, up3_o' (by omega), hc, wc ()], by omega, fun M5 e5 => ⟨c, by rw [e5, up3_o' (by omega), e3, up3_o' (by omega), hc, wc ()], by omega, fun M7 e7 => ⟨c, by rw [e7, up3_o' (by omega), e5, up3_o' (by omega), e3, up3_o' (by omega), hc, wc ()], by omega, fun M9 e9 => ⟨c, by rw [e9, up3_o' (by omega), e7, up3_o' (by omega), e5, up3_o' (by omega), e3, up3_o' (by omega), hc, wc ()], by omega, fun M11 e11 => ⟨c, by rw [e11, up3_o' (by omega), e9, up3_o' (by omega), e7, up3_o' (by omega), e5, up3_o' (by omega), e3, up3_o' (by omega), hc, wc ()], by omega, fun M13 e13 => ⟨c, by rw [e13, up3_o' (by omega), e11, up3_o' (by omega), e9, up3_o' (by omega), e7, up3_o' (by omega), e5, up3_o' (by omega), e3, up3_o' (by omega), hc, wc ()], by omega, fun M15 e15 M16 e16 => ?_⟩⟩⟩⟩⟩⟩⟩, fun q2 => kF' (by omega) (by omega)⟩, fun q => kS' (by omega)⟩
  have f15 : ∀ x i f, ¬ (40 ≤ x ∧ x < 47 ∧ i = 0 ∧ f = c) → M15 x i f = N x i f := fun x i f a => by rw [e15, up3_o' (by omega), e13, up3_o' (by omega), e11, up3_o' (by omega), e9, up3_o' (by omega), e7, up3_o' (by omega), e5, up3_o' (by omega), e3, up3_o' (by omega)]
  have v : M16 10 0 2 = (c : Int) + 1 := by rw [e16, up3_s, f15 _ _ _ (by omega), hc]
  rw [v, show (c : Int) + 1 - 1 = (c : Int) by omega]
  refine kk' (by omega) (by omega) M16 (fun x i f a b => ?_) ?_ ?_ ?_ ?_ ?_ ?_ ?_ (by rw [v]; omega)
  · rw [e16, up3_o' (by omega), f15 _ _ _ a]
  · rw [e16, up3_o' (by omega), e15, up3_o' (by omega), e13, up3_o' (by omega), e11, up3_o' (by omega), e9, up3_o' (by omega), e7, up3_o' (by omega), e5, up3_o' (by omega), e3, up3_s]
  · rw [e16, up3_o' (by omega), e15, up3_o' (by omega), e13, up3_o' (by omega), e11, up3_o' (by omega), e9, up3_o' (by omega), e7, up3_o' (by omega), e5, up3_s]
  · rw [e16, up3_o' (by omega), e15, up3_o' (by omega), e13, up3_o' (by omega), e11, up3_o' (by omega), e9, up3_o' (by omega), e7, up3_s]
  · rw [e16, up3_o' (by omega), e15, up3_o' (by omega), e13, up3_o' (by omega), e11, up3_o' (by omega), e9, up3_s]
  · rw [e16, up3_o' (by omega), e15, up3_o' (by omega), e13, up3_o' (by omega), e11, up3_s]
  · rw [e16, up3_o' (by omega), e15, up3_o' (by omega), e13, up3_s]
  · rw [e16, up3_o' (by omega), e15, up3_s]
/-- one loan more -/
theorem iL_more {c : Nat} {a1 a2 a3 a4 : Int} {N' : NN} (L : iL c 0 N) (c12 : c < 12) (ok : okL a1 a2 a3 a4)
    (f : ∀ x i g, ¬ (x = 2 ∧ i = c ∧ g < 4) → ¬ (x = 6 ∧ i = 0 ∧ g = 1) → ¬ (40 ≤ x ∧ x < 47 ∧ i = 0 ∧ g = c) → ¬ (x = 10 ∧ i = 0 ∧ g = 2) → N' x i g = N x i g)
    (v0 : N' 2 c 0 = a1) (v1 : N' 2 c 1 = a2) (v2 : N' 2 c 2 = a3) (v3 : N' 2 c 3 = a4) (vc : N' 6 0 1 = ((c + 1 : Nat) : Int)) (w0 : N' 40 0 c = a1) (w1 : N' 41 0 c = a2) (w2 : N' 42 0 c = a3) (w3 : N' 43 0 c = a4) (w4 : N' 44 0 c = 0) (w5 : N' 45 0 c = 0) (w6 : N' 46 0 c = 0) (wc : N' 10 0 2 = ((c + 1 : Nat) : Int)) : iL (c + 1) 0 N' := by
  obtain ⟨⟨b1, _, b3, b4, b5, b6, b7⟩, ⟨r1, r2, r3, r4⟩, ⟨l1, l2⟩, l4⟩ := L
  obtain ⟨z1, z2⟩ := l4 c (Nat.le_refl _) c12
  have zz : ∀ g, 4 ≤ g → g < 8 → N' 2 c g = 0 := fun g g1 g2 => by rw [f _ _ _ (by omega) (by omega) (by omega) (by omega)]; exact z1 g g1 g2
  have z47 : N' 47 0 c = 0 := by rw [f _ _ _ (by omega) (by omega) (by omega) (by omega)]; exact z2
  refine ⟨⟨vc, by omega, fun n hn => ?_, ?_, ?_, ?_, ?_⟩, ⟨wc, ?_, ?_, ?_⟩, ⟨fun n hn g hg => ?_, ?_⟩, fun n h1 h2 => ⟨fun g g1 g2 => ?_, ?_⟩⟩
  · by_cases e : n = c
    · subst e
      rw [Nat.mul_zero, Nat.zero_add]
      unfold okL at ok
      exact LK_of v0 v1 v2 v3 (zz 4 (by decide) (by decide)) (zz 5 (by decide) (by decide)) (zz 6 (by decide) (by decide)) (zz 7 (by decide) (by decide)) (by omega)
    · exact LK_8 (fun g hg => f _ _ _ (by omega) (by omega) (by omega) (by omega)) (b3 n (by omega))
  · rw [f _ _ _ (by omega) (by omega) (by omega) (by omega)]; exact b4
  · rw [f _ _ _ (by omega) (by omega) (by omega) (by omega)]; exact b5
  · rw [f _ _ _ (by omega) (by omega) (by omega) (by omega)]; exact b6
  · rw [f _ _ _ (by omega) (by omega) (by omega) (by omega)]; exact b7
  · rw [f _ _ _ (by omega) (by omega) (by omega) (by omega), f 6 _ _ (by omega) (by omega) (by omega) (by omega)]; exact r2
  · rw [f _ _ _ (by omega) (by omega) (by omega) (by omega), f 6 _ _ (by omega) (by omega) (by omega) (by omega)]; exact r3
  · rw [f _ _ _ (by omega) (by omega) (by omega) (by omega), f 6 _ _ (by omega) (by omega) (by omega) (by omega)]; exact r4
  · by_cases e : n = c
    · subst e
      rw [Nat.mul_zero, Nat.zero_add]
      rcases (by omega : g = 0 ∨ g = 1 ∨ g = 2 ∨ g = 3 ∨ g = 4 ∨ g = 5 ∨ g = 6 ∨ g = 7) with rfl | rfl | rfl | rfl | rfl | rfl | rfl | rfl
      · exact w0.trans v0.symm
      · exact w1.trans v1.symm
      · exact w2.trans v2.symm
      · exact w3.trans v3.symm
      · exact w4.trans (zz 4 (by decide) (by decide)).symm
      · exact w5.trans (zz 5 (by decide) (by decide)).symm
      · exact w6.trans (zz 6 (by decide) (by decide)).symm
      · exact z47.trans (zz 7 (by decide) (by decide)).symm
    · rw [f _ _ _ (by omega) (by omega) (by omega) (by omega), f 2 _ _ (by omega) (by omega) (by omega) (by omega)]
      exact l1 n (by omega) g hg
  · rw [f _ _ _ (by omega) (by omega) (by omega) (by omega), f 6 _ _ (by omega) (by omega) (by omega) (by omega)]; exact l2
  · rw [f _ _ _ (by omega) (by omega) (by omega) (by omega)]
    exact (l4 n (by omega) h2).1 g g1 g2
  · rw [f _ _ _ (by omega) (by omega) (by omega) (by omega)]
    exact (l4 n (by omega) h2).2
theorem op_loan {a1 a2 a3 a4 : Int} (I : Inv N) (h1 : IR a1) (h2 : IR a2) (h3 : IR a3) (h4 : IR a4) : C_X9_loan G a1 a2 a3 a4 N (fun r N1 => C_X10_loan G a1 a2 a3 a4 N1 (fun r' N2 => wI r = wI r' ∧ Inv N2)) := by
  have I' := I
  obtain ⟨k, c, cp, oo, to, t, sz, k60, m9, m10, L, F, M, O, T, P, H⟩ := I
  have c12 := L.1.2.1
  have r1 := L.2.1.1
  refine c_loan h1 h2 h3 h4 m9 k60 L.1.1 c12 (fun n => ?_) (fun y hk => ?_) (fun y hk hc => ?_) (fun y hk hc A fA v0 v1 v2 v3 vc => ?_)
  · exact m_loan h1 h2 h3 h4 m10 k60 r1 c12 (fun _ => ⟨rfl, I'⟩) (fun y => absurd y n) (fun y => absurd y n) (fun y => absurd y n)
  · exact m_loan h1 h2 h3 h4 m10 k60 r1 c12 (fun n => absurd y n) (fun _ _ => ⟨rfl, I'⟩) (fun _ z => absurd hk (by omega)) (fun _ z => absurd hk (by omega))
  · exact m_loan h1 h2 h3 h4 m10 k60 r1 c12 (fun n => absurd y n) (fun _ z => absurd hk (by omega)) (fun _ _ _ => ⟨rfl, I'⟩) (fun _ _ z => absurd hc (by omega))
  · subst hk
    refine m_loan (k := 0) (c := c) h1 h2 h3 h4 (by rw [fA _ _ _ (by omega) (by omega)]; exact m10) k60 (by rw [fA _ _ _ (by omega) (by omega)]; exact r1) c12 (fun n => absurd y n) (fun _ z => absurd z (by omega)) (fun _ _ z => absurd hc (by omega)) (fun _ _ _ B fB w0 w1 w2 w3 w4 w5 w6 wc => ⟨rfl, ?_⟩)
    have f : ∀ x i g, ¬ (x = 2 ∧ i = c ∧ g < 4) → ¬ (x = 6 ∧ i = 0 ∧ g = 1) → ¬ (40 ≤ x ∧ x < 47 ∧ i = 0 ∧ g = c) → ¬ (x = 10 ∧ i = 0 ∧ g = 2) → B x i g = N x i g := fun x i g a b d e => by rw [fB _ _ _ d e, fA _ _ _ a b]
    refine ⟨0, c + 1, cp, oo, to, t, sz, by omega, by rw [f _ _ _ (by omega) (by omega) (by omega) (by omega)]; exact m9, by rw [f _ _ _ (by omega) (by omega) (by omega) (by omega)]; exact m10, iL_more L hc y f (by rw [fB _ _ _ (by omega) (by omega)]; exact v0) (by rw [fB _ _ _ (by omega) (by omega)]; exact v1) (by rw [fB _ _ _ (by omega) (by omega)]; exact v2) (by rw [fB _ _ _ (by omega) (by omega)]; exact v3) (by rw [fB _ _ _ (by omega) (by omega)]; exact vc) w0 w1 w2 w3 w4 w5 w6 wc, iF_fr F fun x i g d => f _ _ _ (by omega) (by omega) (by omega) (by omega), iM_fr M fun x i g d => f _ _ _ (by omega) (by omega) (by omega) (by omega), iO_fr O fun x i g d => f _ _ _ (by omega) (by omega) (by omega) (by omega), iT_fr T fun x i g d => f _ _ _ (by omega) (by omega) (by omega) (by omega), iP_fr P fun x i g d => f _ _ _ (by omega) (by omega) (by omega) (by omega), iH_fr H fun x i g d => f _ _ _ (by omega) (by omega) (by omega) (by omega)⟩
/-- what a paper's opening leaves -/
theorem op_paper {a1 a2 : Int} (I : Inv N) (h1 : IR a1) (h2 : IR a2) : C_X9_paper G a1 a2 N (fun r N1 => C_X10_paper G a1 a2 N1 (fun r' N2 => wI r = wI r' ∧ Inv N2)) := by
  have I' := I
  obtain ⟨k, c, cp, oo, to, t, sz, k60, m9, m10, L, F, M, O, T, P, H⟩ := I
  obtain ⟨c5, p1, p2⟩ := iF_c F
  have refB : ∀ x : Int, (¬ ((1 ≤ a1 ∧ a1 ≤ 9999999) ∧ 0 ≤ a2 ∧ a2 ≤ 200) ∧ x = -2 ∨ ((1 ≤ a1 ∧ a1 ≤ 9999999) ∧ 0 ≤ a2 ∧ a2 ≤ 200) ∧ 0 < k ∧ x = -3 ∨ ((1 ≤ a1 ∧ a1 ≤ 9999999) ∧ 0 ≤ a2 ∧ a2 ≤ 200) ∧ k = 0 ∧ cp = 5 ∧ x = -4) → C_X10_paper G a1 a2 N (fun r' N2 => wI x = wI r' ∧ Inv N2) := by
    intro x h
    refine vc_X10_paper (t_min h1 ⟨by decide, by decide⟩ ⟨by decide, by decide⟩ (fun g1 => tt1 (t_min h2 IR0 ⟨by decide, by decide⟩ (fun g2 => tn1 ?_) (fun g => tn0 ⟨by rw [show x = -2 by omega], I'⟩))) (fun g => tt0 ⟨by rw [show x = -2 by omega], I'⟩))
    rw [m10, p2, wI_id (x := (k : Int)) (by omega) (by omega), wI_id (x := (cp : Int)) (by omega) (by omega)]
    exact ⟨fun q => ⟨fun q2 => absurd h (by omega), fun q2 => ⟨by rw [show x = -4 by omega], I'⟩⟩, fun q => ⟨by rw [show x = -3 by omega], I'⟩⟩
  refine vc_X9_paper (t_in h1 ⟨by decide, by decide⟩ ⟨by decide, by decide⟩ (fun g1 => tt1 (t_in h2 IR0 ⟨by decide, by decide⟩ (fun g2 => tn1 ?_) (fun g => tn0 (refB _ (by omega))))) (fun g => tt0 (refB _ (by omega))))
  rw [m9, p1, wI_id (x := (k : Int)) (by omega) (by omega), wI_id (x := (cp : Int)) (by omega) (by omega)]
  refine ⟨fun q => ⟨fun q2 => ⟨cp, rfl, by omega, vc_X5_open (by omega) (fun M1 e1 M2 e2 => ?_)⟩, fun q2 => refB _ (by omega)⟩, fun q => refB _ (by omega)⟩
  have k0 : k = 0 := by omega
  subst k0
  have rs := s_paperRestart (G := G) (N := M2) (p := cp) (f := 0) (K := fun N3 => (∀ M5 : NN, M5 = up3 N3 0 0 1 ((N3 0 0 1) + 1) → C_X10_paper G a1 a2 M5 (fun r' N2 => wI ((M5 0 0 1) - 1) = wI r' ∧ Inv N2))) (by omega) (by decide)
  rw [Nat.mul_zero, Nat.zero_add] at rs
  refine rs (fun N3 g3 f3 M5 e5 => ?_)
  have b2 : ∀ x i f, ¬ (x = 5 ∧ i = cp) → M2 x i f = N x i f := fun x i f a => by rw [e2, up3_o' (by omega), e1, up3_o' (by omega)]
  have a0 : M2 5 cp 0 = a2 := by rw [e2, up3_o' (by omega), e1, up3_s]
  have a1' : M2 5 cp 1 = a1 := by rw [e2, up3_s, IR_id h1]
  have fA : ∀ x i f, ¬ (x = 5 ∧ i = cp) → ¬ (x = 0 ∧ i = 0 ∧ f = 1) → M5 x i f = N x i f := fun x i f a b => by rw [e5, up3_o' (by omega), f3 _ _ _ a, b2 _ _ _ a]
  have v : M5 0 0 1 = (cp : Int) + 1 := by rw [e5, up3_s, f3 _ _ _ (by omega), b2 _ _ _ (by omega), p1]
  have vp : ∀ f, M5 5 cp f = if f = 2 then a1 else if 3 ≤ f ∧ f ≤ 8 then 0 else M2 5 cp f := fun f => by rw [e5, up3_o' (by omega), g3, a1']
  rw [v, show (cp : Int) + 1 - 1 = (cp : Int) by omega]
  have wcp := fun _ : Unit => wI_id (x := (cp : Int)) (by omega) (by omega)
  have q10 : M5 10 0 1 = ((0 : Nat) : Int) := by rw [fA _ _ _ (by omega) (by omega)]; exact m10
  have q53 : M5 10 0 53 = (cp : Int) := by rw [fA _ _ _ (by omega) (by omega)]; exact p2
  refine vc_X10_paper (t_min h1 ⟨by decide, by decide⟩ ⟨by decide, by decide⟩ (fun _ => tt1 (t_min h2 IR0 ⟨by decide, by decide⟩ (fun _ => tn1 ?_) (fun g => absurd g2 g))) (fun g => absurd g1 g))
  rw [q10, q53, wcp ()]
  refine ⟨fun _ => ⟨fun _ => ⟨cp, rfl, by omega, fun M4 e4 => ⟨cp, by rw [e4, up3_o' (by omega), q53, wcp ()], by omega, fun M6 e6 => ⟨cp, by rw [e6, up3_o' (by omega), e4, up3_o' (by omega), q53, wcp ()], by omega, fun M8 e8 M9 e9 => ?_⟩⟩⟩, fun z => absurd z (by omega)⟩, fun z => absurd (by decide) z⟩
  have f8 : ∀ x i f, ¬ (67 ≤ x ∧ x ≤ 69 ∧ i = 0 ∧ f = cp) → M8 x i f = M5 x i f := fun x i f a => by rw [e8, up3_o' (by omega), e6, up3_o' (by omega), e4, up3_o' (by omega)]
  have v9 : M9 10 0 53 = (cp : Int) + 1 := by rw [e9, up3_s, f8 _ _ _ (by omega), q53]
  rw [v9, show (cp : Int) + 1 - 1 = (cp : Int) by omega]
  suffices hI : Inv M9 from ⟨(wcp ()).symm, hI⟩
  have f9 : ∀ x i f, ¬ (67 ≤ x ∧ x ≤ 69 ∧ i = 0 ∧ f = cp) → ¬ (x = 10 ∧ i = 0 ∧ f = 53) → M9 x i f = M5 x i f := fun x i f a b => by rw [e9, up3_o' (by omega), f8 _ _ _ a]
  have f : ∀ x i g, ¬ (x = 5 ∧ i = cp) → ¬ (x = 0 ∧ i = 0 ∧ g = 1) → ¬ (67 ≤ x ∧ x ≤ 69 ∧ i = 0 ∧ g = cp) → ¬ (x = 10 ∧ i = 0 ∧ g = 53) → M9 x i g = N x i g := fun x i g a b d e => by rw [f9 _ _ _ d e, fA _ _ _ a b]
  have w67 : M9 67 0 cp = a1 := by rw [e9, up3_o' (by omega), e8, up3_o' (by omega), e6, up3_o' (by omega), e4, up3_s, IR_id h1]
  have w68 : M9 68 0 cp = a2 := by rw [e9, up3_o' (by omega), e8, up3_o' (by omega), e6, up3_s]
  have w69 : M9 69 0 cp = a1 := by rw [e9, up3_o' (by omega), e8, up3_s, IR_id h1]
  have u : ∀ g, M9 5 cp g = if g = 2 then a1 else if 3 ≤ g ∧ g ≤ 8 then 0 else M2 5 cp g := fun g => by rw [f9 _ _ _ (by omega) (by omega), vp]
  obtain ⟨⟨_, o1, o2, o3⟩, E, Z⟩ := F
  obtain ⟨z70, z71, z72, z73, z74⟩ := Z cp (Nat.le_refl _) (by omega)
  have y : ∀ x : Nat, 70 ≤ x → x ≤ 74 → N x 0 cp = 0 → M9 x 0 cp = 0 := fun x x1 x2 h => by rw [f _ _ _ (by omega) (by omega) (by omega) (by omega)]; exact h
  have V9 : ∀ e, e ≠ 1 → VF M9 0 9 e = VF N 0 9 e := fun e he => f 0 0 e (by omega) (by omega) (by omega) (by omega)
  have V9' : ∀ e, e ≠ 1 → VM M9 9 e = VM N 9 e := by
    intro e he
    by_cases h8 : e = 8
    · subst h8
      exact f 53 0 1 (by omega) (by omega) (by omega) (by omega)
    · by_cases h0 : e ≠ 0 ∧ e < 10
      · rw [VMs h0.1 h0.2 h8, VMs h0.1 h0.2 h8]
        have := mS_inj (b := e) (k := 1) h0.2 (by decide) h0.1 h8 (by decide) (by decide)
        exact f _ _ _ (by omega) (by omega) (by omega) (fun z => he (this z.2.2))
      · rw [VM0 (by omega) (by omega), VM0 (by omega) (by omega)]
  have Vq : ∀ q e, q < 5 → q ≠ cp → VF M9 0 q e = VF N 0 q e := fun q e h1 h2 => by
    rw [VF5 h1, VF5 h1]
    exact f _ _ _ (by omega) (by omega) (by omega) (by omega)
  have Vq' : ∀ q e, q < 5 → q ≠ cp → e < 9 → VM M9 q e = VM N q e := fun q e h1 h2 h3 => by
    rw [VMp h1 h3, VMp h1 h3]
    have := mK_r e h3
    exact f _ _ _ (by omega) (by omega) (by omega) (by omega)
  have c1 : VF M9 0 9 1 = ((cp + 1 : Nat) : Int) := by
    show M9 0 0 1 = _
    rw [f9 _ _ _ (by omega) (by omega), v]
    omega
  have Vc : ∀ e, VF M9 0 cp e = if e = 2 then a1 else if 3 ≤ e ∧ e ≤ 8 then 0 else M2 5 cp e := fun e => by
    rw [VF5 (by omega), Nat.mul_zero, Nat.zero_add]
    exact u e
  have x0 : VF M9 0 cp 0 = a2 := (Vc 0).trans a0
  have x1 : VF M9 0 cp 1 = a1 := (Vc 1).trans a1'
  refine ⟨0, c, cp + 1, oo, to, t, sz, by omega, by rw [f _ _ _ (by omega) (by omega) (by omega) (by omega)]; exact m9, by rw [f _ _ _ (by omega) (by omega) (by omega) (by omega)]; exact m10, iL_fr L fun x i g d => f _ _ _ (by omega) (by omega) (by omega) (by omega), ⟨⟨by omega, c1, fun q hq => ?_, ?_⟩, fun q e hd => ?_, fun q q1 q2 => ?_⟩, iM_fr M fun x i g d => f _ _ _ (by omega) (by omega) (by omega) (by omega), iO_fr O fun x i g d => f _ _ _ (by omega) (by omega) (by omega) (by omega), iT_fr T fun x i g d => f _ _ _ (by omega) (by omega) (by omega) (by omega), iP_fr P fun x i g d => f _ _ _ (by omega) (by omega) (by omega) (by omega), iH_fr H fun x i g d => f _ _ _ (by omega) (by omega) (by omega) (by omega)⟩
  · by_cases e : q = cp
    · subst e
      unfold pOK
      rw [x0, x1, Vc 2, Vc 3, Vc 4, Vc 5, Vc 6, Vc 7]
      simp only [Nat.reduceEqDiff, Nat.reduceLeDiff, ↓reduceIte, and_self]
      omega
    · have := o2 q (by omega)
      unfold pOK at *
      rw [Vq q 0 (by omega) e, Vq q 1 (by omega) e, Vq q 2 (by omega) e, Vq q 3 (by omega) e, Vq q 4 (by omega) e, Vq q 5 (by omega) e, Vq q 6 (by omega) e, Vq q 7 (by omega) e]
      exact this
  · unfold sOK at *
    rw [V9 2 (by decide), V9 3 (by decide), V9 4 (by decide), V9 5 (by decide), V9 6 (by decide), V9 7 (by decide), V9 8 (by decide), V9 9 (by decide)]
    exact o3
  · rcases hd with ⟨d1, d2⟩ | ⟨d1, d2, d3, d4⟩
    · by_cases e0 : q = cp
      · subst e0
        rw [Vc e, VMp (by omega) (by omega)]
        rcases (by omega : e = 0 ∨ e = 1 ∨ e = 2 ∨ e = 3 ∨ e = 4 ∨ e = 5 ∨ e = 6 ∨ e = 7) with rfl | rfl | rfl | rfl | rfl | rfl | rfl | rfl
        · exact a0.trans w68.symm
        · exact a1'.trans w67.symm
        · exact w69.symm
        · exact (y 70 (by decide) (by decide) z70).symm
        · exact (y 71 (by decide) (by decide) z71).symm
        · exact (y 72 (by decide) (by decide) z72).symm
        · exact (y 74 (by decide) (by decide) z74).symm
        · exact (y 73 (by decide) (by decide) z73).symm
      · rw [Vq q e (by omega) e0, Vq' q e (by omega) e0 (by omega)]
        exact E q e (by omega)
    · subst d1
      by_cases e1' : e = 1
      · subst e1'
        rw [c1]
        show _ = M9 10 0 53
        rw [v9]
        omega
      · rw [V9 e e1', V9' e e1']
        exact E 9 e (by omega)
  · obtain ⟨y70, y71, y72, y73, y74⟩ := Z q (by omega) q2
    rw [f 70 _ _ (by omega) (by omega) (by omega) (by omega), f 71 _ _ (by omega) (by omega) (by omega) (by omega), f 72 _ _ (by omega) (by omega) (by omega) (by omega), f 73 _ _ (by omega) (by omega) (by omega) (by omega), f 74 _ _ (by omega) (by omega) (by omega) (by omega)]
    exact ⟨y70, y71, y72, y73, y74⟩
end WRI
