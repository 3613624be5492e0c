/-! told: seed, back, advances; the trip; the law in force; a loan bought back -/
section WR2
variable {G : GT} {N : NN}
/-- the pool's settings changed -/
theorem iL_set {c : Nat} {k : Int} {N' : NN} (L : iL c k N)
    (f : ∀ x i g, ¬ (x = 6 ∧ i = 0 ∧ 2 ≤ g ∧ g ≤ 4) → ¬ (x = 10 ∧ i = 0 ∧ 11 ≤ g ∧ g ≤ 13) → N' x i g = N x i g)
    (v2 : 0 ≤ N' 6 0 2 ∧ N' 6 0 2 ≤ 99999) (v3 : 0 ≤ N' 6 0 3 ∧ N' 6 0 3 ≤ 100) (v4 : N' 6 0 4 = 0 ∨ N' 6 0 4 = 1) (w2 : N' 10 0 11 = N' 6 0 2) (w3 : N' 10 0 12 = N' 6 0 3) (w4 : N' 10 0 13 = N' 6 0 4) : iL c k N' := by
  obtain ⟨⟨b1, c12, b3, b4, b5, b6, b7⟩, ⟨r1, r2, r3, r4⟩, ⟨l1, l2⟩, l4⟩ := L
  refine ⟨⟨by rw [f _ _ _ (by omega) (by omega)]; exact b1, c12, fun n hn => LK_8 (fun g hg => f _ _ _ (by omega) (by omega)) (b3 n hn), v2, v3, v4, by rw [f _ _ _ (by omega) (by omega)]; exact b7⟩, ⟨by rw [f _ _ _ (by omega) (by omega)]; exact r1, w2, w3, w4⟩, ⟨fun n hn g hg => by rw [f _ _ _ (by omega) (by omega), f 2 _ _ (by omega) (by omega)]; exact l1 n hn g hg, by rw [f _ _ _ (by omega) (by omega), f 6 _ _ (by omega) (by omega)]; exact l2⟩, fun n h1 h2 => ⟨fun g g1 g2 => by rw [f _ _ _ (by omega) (by omega)]; exact (l4 n h1 h2).1 g g1 g2, by rw [f _ _ _ (by omega) (by omega)]; exact (l4 n h1 h2).2⟩⟩
def tellT (e : Nat) : Int := if e = 0 then 99999 else if e = 1 then 100 else 1
theorem c_tell {a1 a2 : Int} {K : Int → NN → Prop} (h1 : IR a1) (h2 : IR a2) (h4 : N 6 0 4 = 0 ∨ N 6 0 4 = 1) (kk : ∀ e : Nat, a1 = (e : Int) → e < 3 → 0 ≤ a2 ∧ a2 ≤ tellT e → ∀ M, M = up3 N 6 0 (2 + e) a2 → K (N 6 0 (2 + e)) M) (kB : (∀ e : Nat, a1 = (e : Int) → e < 3 → ¬ (0 ≤ a2 ∧ a2 ≤ tellT e)) → K (-2) N) : C_X9_tell G a1 a2 N K := by
  have t0 : ∀ e : Nat, e = 0 → tellT e = 99999 := fun e h => by subst h; rfl
  have t1 : ∀ e : Nat, e = 1 → tellT e = 100 := fun e h => by subst h; rfl
  have t2 : ∀ e : Nat, e = 2 → tellT e = 1 := fun e h => by subst h; rfl
  have k0 := kk 0
  have k1 := kk 1
  have k2 := kk 2
  clear kk
  refine vc_X9_tell ?_
  rw [IR_id h1]
  refine ⟨fun q => ?_, fun q => t_in h2 IR0 ⟨by decide, by decide⟩ (fun g => tt1 (k0 (Decidable.not_not.mp q) (by decide) g)) (fun g => tt0 (vc_X9_tell_32 ?_))⟩
  · refine vc_X9_tell_32 ?_
    rw [IR_id h1, IR_id h2]
    have two : a1 = 2 → 0 ≤ a2 ∧ a2 ≤ 1 → (wI (N 6 0 4) = 0 → ((a2 ≠ 1 → (∀ M2 : NN, M2 = up3 N 6 0 4 0 → K 0 M2)) ∧ (¬ (a2 ≠ 1) → (∀ M3 : NN, M3 = up3 N 6 0 4 1 → K 0 M3)))) ∧ (¬ (wI (N 6 0 4) = 0) → ((a2 ≠ 1 → (∀ M4 : NN, M4 = up3 N 6 0 4 0 → K 1 M4)) ∧ (¬ (a2 ≠ 1) → (∀ M5 : NN, M5 = up3 N 6 0 4 1 → K 1 M5)))) := by
      intro e g
      have k := k2 e (by decide) g
      rcases h4 with h4 | h4
      · rw [show (2 + 2 : Nat) = 4 from rfl, h4] at k
        rw [h4]
        refine ⟨fun _ => ⟨fun z M hM => k M (by rw [hM, show a2 = 0 by omega]), fun z M hM => k M (by rw [hM, show a2 = 1 by omega])⟩, fun z => absurd (by decide) z⟩
      · rw [show (2 + 2 : Nat) = 4 from rfl, h4] at k
        rw [h4]
        refine ⟨fun z => absurd z (by decide), fun _ => ⟨fun z M hM => k M (by rw [hM, show a2 = 0 by omega]), fun z M hM => k M (by rw [hM, show a2 = 1 by omega])⟩⟩
    refine ⟨fun q1 => ⟨fun q2 => kB (fun e he hl => absurd he (by omega)), fun q2 => t_in h2 IR0 ⟨by decide, by decide⟩ (fun g => tt1 (two (Decidable.not_not.mp q2) g)) (fun g => tt0 (kB (fun e he hl => by rw [t2 e (by omega)]; exact g)))⟩, fun q1 => t_in h2 IR0 ⟨by decide, by decide⟩ (fun g => tt1 (k1 (Decidable.not_not.mp q1) (by decide) g)) (fun g => tt0 ⟨fun q2 => kB (fun e he hl => by rw [t1 e (by omega)]; exact g), fun q2 => absurd q1 (by omega)⟩)⟩
  · rw [IR_id h1]
    exact ⟨fun q1 => ⟨fun q2 => kB (fun e he hl => by rw [t0 e (by omega)]; exact g), fun q2 => absurd q (by omega)⟩, fun q1 => absurd q (by omega)⟩
theorem m_tell {a1 a2 : Int} {K : Int → NN → Prop} (h1 : IR a1) (h2 : IR a2) (kk : ∀ e : Nat, a1 = (e : Int) → e < 3 → 0 ≤ a2 ∧ a2 ≤ tellT e → ∀ M, M = up3 N 10 0 (11 + e) a2 → K (N 10 0 (11 + e)) M) (kB : (∀ e : Nat, a1 = (e : Int) → e < 3 → ¬ (0 ≤ a2 ∧ a2 ≤ tellT e)) → K (-2) N) : C_X10_tell G a1 a2 N K := by
  have t0 : ∀ e : Nat, e = 0 → tellT e = 99999 := fun e h => by subst h; rfl
  have t1 : ∀ e : Nat, e = 1 → tellT e = 100 := fun e h => by subst h; rfl
  have t2 : ∀ e : Nat, e = 2 → tellT e = 1 := fun e h => by subst h; rfl
  have k0 := kk 0
  have k1 := kk 1
  have k2 := kk 2
  clear kk
  refine vc_X10_tell (t_min h1 IR0 ⟨by decide, by decide⟩ (fun g => tt1 ?_) (fun g => tt0 (kB (fun e he hl => absurd he (by omega)))))
  rw [IR_id h1]
  refine ⟨fun q => ⟨fun q1 => vc_X10_tell_31 (t_min h2 IR0 ⟨by decide, by decide⟩ (fun g2 => tn1 ?_) (fun g2 => tn0 (kB (fun e he hl => by rw [t2 e (by omega)]; exact g2)))), fun q1 => vc_X10_tell_31 (t_min h2 IR0 ⟨by decide, by decide⟩ (fun g2 => tn1 ?_) (fun g2 => tn0 (kB (fun e he hl => by rw [t1 e (by omega)]; exact g2))))⟩, fun q => vc_X10_tell_31 (t_min h2 IR0 ⟨by decide, by decide⟩ (fun g2 => tn1 ?_) (fun g2 => tn0 (kB (fun e he hl => by rw [t0 e (by omega)]; exact g2))))⟩
  · rw [IR_id h1]
    refine ⟨fun _ => ⟨fun _ => vc_X10_tell_67 ?_, fun z => absurd q1 z⟩, fun z => absurd q z⟩
    rw [IR_id h1]
    exact ⟨fun _ => ⟨fun _ => ⟨fun z => absurd g (by omega), fun _ M hM => k2 (by omega) (by decide) g2 M hM⟩, fun z => absurd q1 z⟩, fun z => absurd q z⟩
  · rw [IR_id h1]
    refine ⟨fun _ => ⟨fun z => absurd z q1, fun _ => vc_X10_tell_67 ?_⟩, fun z => absurd q z⟩
    rw [IR_id h1]
    exact ⟨fun _ => ⟨fun z => absurd z q1, fun _ M hM => ⟨fun _ => k1 (by omega) (by decide) g2 M hM, fun z => absurd z (by omega)⟩⟩, fun z => absurd q z⟩
  · rw [IR_id h1]
    refine ⟨fun z => absurd z q, fun _ => vc_X10_tell_67 ?_⟩
    rw [IR_id h1]
    exact ⟨fun z => absurd z q, fun _ M hM => ⟨fun _ => ⟨fun _ => k0 (by omega) (by decide) g2 M hM, fun z => absurd z (by omega)⟩, fun z => absurd z (by omega)⟩⟩
theorem op_tell {a1 a2 : Int} (I : Inv N) (h1 : IR a1) (h2 : IR a2) : C_X9_tell G a1 a2 N (fun r N1 => C_X10_tell G a1 a2 N1 (fun r' N2 => wI r = wI r' ∧ Inv N2)) := by
  have I' := I
  obtain ⟨k, c, cp, oo, to, t, sz, k60, m9, m10, L, F, M, O, T, P, H⟩ := I
  have b := L.1
  obtain ⟨r1, r2, r3, r4⟩ := L.2.1
  refine c_tell h1 h2 b.2.2.2.2.2.1 (fun e he hl hg A hA => m_tell h1 h2 (fun e' he' hl' hg' B hB => ?_) (fun n => absurd hg (n e he hl))) (fun n => m_tell h1 h2 (fun e he hl hg => absurd hg (n e he hl)) (fun _ => ⟨rfl, I'⟩))
  have : e' = e := by omega
  subst this
  have hg2 : 0 ≤ a2 ∧ (e' = 0 → a2 ≤ 99999) ∧ (e' = 1 → a2 ≤ 100) ∧ (e' = 2 → a2 ≤ 1) := by
    refine ⟨hg.1, fun h => ?_, fun h => ?_, fun h => ?_⟩ <;> · subst h; exact hg.2
  have f : ∀ x i g, ¬ (x = 6 ∧ i = 0 ∧ g = 2 + e') → ¬ (x = 10 ∧ i = 0 ∧ g = 11 + e') → B x i g = N x i g := fun x i g d1 d2 => by rw [hB, up3_o' (by omega), hA, up3_o' (by omega)]
  have v : B 6 0 (2 + e') = a2 := by rw [hB, up3_o' (by omega), hA, up3_s]
  have w : B 10 0 (11 + e') = a2 := by rw [hB, up3_s]
  have old : A 10 0 (11 + e') = N 6 0 (2 + e') := by
    rw [hA, up3_o' (by omega)]
    rcases (by omega : e' = 0 ∨ e' = 1 ∨ e' = 2) with rfl | rfl | rfl
    · exact r2
    · exact r3
    · exact r4
  rw [old]
  have b4 := b.2.2.2.1
  have b5 := b.2.2.2.2.1
  have b6 := b.2.2.2.2.1
  refine ⟨rfl, k, c, cp, oo, to, t, sz, k60, by rw [f _ _ _ (by omega) (by omega)]; exact m9, by rw [f _ _ _ (by omega) (by omega)]; exact m10, ?_, iF_fr F fun x i g d => f _ _ _ (by omega) (by omega), iM_fr M fun x i g d => f _ _ _ (by omega) (by omega), iO_fr O fun x i g d => f _ _ _ (by omega) (by omega), iT_fr T fun x i g d => f _ _ _ (by omega) (by omega), iP_fr P fun x i g d => f _ _ _ (by omega) (by omega), iH_fr H fun x i g d => f _ _ _ (by omega) (by omega)⟩
  refine iL_set L (fun x i g d1 d2 => f _ _ _ (by omega) (by omega)) ?_ ?_ ?_ ?_ ?_ ?_
  · by_cases h : e' = 0
    · subst h; rw [v]; omega
    · rw [f _ _ _ (by omega) (by omega)]; exact b.2.2.2.1
  · by_cases h : e' = 1
    · subst h; rw [v]; omega
    · rw [f _ _ _ (by omega) (by omega)]; exact b.2.2.2.2.1
  · by_cases h : e' = 2
    · subst h; rw [v]; omega
    · rw [f _ _ _ (by omega) (by omega)]; exact b.2.2.2.2.2.1
  · by_cases h : e' = 0
    · subst h; exact w.trans v.symm
    · rw [f _ _ _ (by omega) (by omega), f 6 _ _ (by omega) (by omega)]; exact r2
  · by_cases h : e' = 1
    · subst h; exact w.trans v.symm
    · rw [f _ _ _ (by omega) (by omega), f 6 _ _ (by omega) (by omega)]; exact r3
  · by_cases h : e' = 2
    · subst h; exact w.trans v.symm
    · rw [f _ _ _ (by omega) (by omega), f 6 _ _ (by omega) (by omega)]; exact r4
theorem op_trip {a1 a2 : Int} (I : Inv N) (h1 : IR a1) (h2 : IR a2) : C_X9_trip G a1 a2 N (fun r N1 => C_X10_trip G a1 a2 N1 (fun r' N2 => wI r = wI r' ∧ Inv N2)) := by
  have I' := I
  obtain ⟨k, c, cp, oo, to, t, sz, k60, m9, m10, L, F, M, O, T, P, H⟩ := I
  have refB : ¬ (0 ≤ a1 ∧ a1 ≤ 1000) ∨ ¬ (1 ≤ a2 ∧ a2 ≤ 12) → C_X10_trip G a1 a2 N (fun r' N2 => wI (-2) = wI r' ∧ Inv N2) := fun h => vc_X10_trip (t_min h1 IR0 ⟨by decide, by decide⟩ (fun g1 => tt1 (t_min h2 ⟨by decide, by decide⟩ ⟨by decide, by decide⟩ (fun g2 => absurd h (by omega)) (fun _ => tn0 ⟨rfl, I'⟩))) (fun _ => tt0 ⟨rfl, I'⟩))
  refine vc_X9_trip (t_in h1 IR0 ⟨by decide, by decide⟩ (fun g1 => tt1 (t_in h2 ⟨by decide, by decide⟩ ⟨by decide, by decide⟩ (fun g2 => tn1 (fun M3 e3 M4 e4 => ?_)) (fun g => tn0 (refB (.inr g))))) (fun g => tt0 (refB (.inl g))))
  refine vc_X10_trip (t_min h1 IR0 ⟨by decide, by decide⟩ (fun _ => tt1 (t_min h2 ⟨by decide, by decide⟩ ⟨by decide, by decide⟩ (fun _ => tn1 (fun M5 e5 M6 e6 => ⟨rfl, ?_⟩)) (fun g => absurd g2 g))) (fun g => absurd g1 g))
  have f : ∀ x i g, ¬ (x = 0 ∧ i = 0 ∧ (g = 2 ∨ g = 3)) → ¬ (x = 10 ∧ i = 0 ∧ (g = 69 ∨ g = 70)) → M6 x i g = N x i g := fun x i g d1 d2 => by rw [e6, up3_o' (by omega), e5, up3_o' (by omega), e4, up3_o' (by omega), e3, up3_o' (by omega)]
  have v2 : M6 0 0 2 = a1 := by rw [e6, up3_o' (by omega), e5, up3_o' (by omega), e4, up3_o' (by omega), e3, up3_s]
  have v3 : M6 0 0 3 = a2 := by rw [e6, up3_o' (by omega), e5, up3_o' (by omega), e4, up3_s]
  have w2 : M6 10 0 69 = a1 := by rw [e6, up3_o' (by omega), e5, up3_s]
  have w3 : M6 10 0 70 = a2 := by rw [e6, up3_s]
  refine ⟨k, c, cp, oo, to, t, sz, k60, by rw [f _ _ _ (by omega) (by omega)]; exact m9, by rw [f _ _ _ (by omega) (by omega)]; exact m10, iL_fr L fun x i g d => f _ _ _ (by omega) (by omega), ?_, iM_fr M fun x i g d => f _ _ _ (by omega) (by omega), iO_fr O fun x i g d => f _ _ _ (by omega) (by omega), iT_fr T fun x i g d => f _ _ _ (by omega) (by omega), iP_fr P fun x i g d => f _ _ _ (by omega) (by omega), iH_fr H fun x i g d => f _ _ _ (by omega) (by omega)⟩
  obtain ⟨⟨c5, o1, o2, o3⟩, E, Z⟩ := F
  have V9 : ∀ e, e ≠ 2 → e ≠ 3 → VF M6 0 9 e = VF N 0 9 e := fun e e1 e2 => f 0 0 e (by omega) (by omega)
  have V9' : ∀ e, e ≠ 2 → e ≠ 3 → VM M6 9 e = VM N 9 e := by
    intro e h2' h3'
    by_cases h8 : e = 8
    · subst h8
      exact f 53 0 1 (by omega) (by omega)
    · by_cases h0 : e ≠ 0 ∧ e < 10
      · rw [VMs h0.1 h0.2 h8, VMs h0.1 h0.2 h8]
        have i2 := mS_inj (b := e) (k := 2) h0.2 (by decide) h0.1 h8 (by decide) (by decide)
        have i3 := mS_inj (b := e) (k := 3) h0.2 (by decide) h0.1 h8 (by decide) (by decide)
        exact f _ _ _ (by omega) (fun z => z.2.2.elim (fun y => h2' (i2 y)) (fun y => h3' (i3 y)))
      · rw [VM0 (by omega) (by omega), VM0 (by omega) (by omega)]
  have Vq : ∀ q e, q < 5 → VF M6 0 q e = VF N 0 q e := fun q e h1 => by
    rw [VF5 h1, VF5 h1]
    exact f _ _ _ (by omega) (by omega)
  have Vq' : ∀ q e, q < 5 → e < 9 → VM M6 q e = VM N q e := fun q e h1 h3 => by
    rw [VMp h1 h3, VMp h1 h3]
    have := mK_r e h3
    exact f _ _ _ (by omega) (by omega)
  have x2 : VF M6 0 9 2 = a1 := v2
  have x3 : VF M6 0 9 3 = a2 := v3
  refine ⟨⟨c5, by rw [V9 1 (by decide) (by decide)]; exact o1, fun q hq => ?_, ?_⟩, fun q e hd => ?_, fun q q1 q2 => ?_⟩
  · have := o2 q hq
    rw [show VF M6 0 q = VF N 0 q from funext fun e => Vq q e (by omega)]
    exact this
  · unfold sOK at *
    rw [x2, x3, V9 4 (by decide) (by decide), V9 5 (by decide) (by decide), V9 6 (by decide) (by decide), V9 7 (by decide) (by decide), V9 8 (by decide) (by decide), V9 9 (by decide) (by decide)]
    omega
  · rcases hd with ⟨d1, d2⟩ | ⟨d1, d2, d3, d4⟩
    · rw [Vq q e (by omega), Vq' q e (by omega) (by omega)]
      exact E q e (by omega)
    · subst d1
      by_cases h2' : e = 2
      · subst h2'
        exact v2.trans w2.symm
      · by_cases h3' : e = 3
        · subst h3'
          exact v3.trans w3.symm
        · rw [V9 e h2' h3', V9' e h2' h3']
          exact E 9 e (by omega)
  · rw [f 70 _ _ (by omega) (by omega), f 71 _ _ (by omega) (by omega), f 72 _ _ (by omega) (by omega), f 73 _ _ (by omega) (by omega), f 74 _ _ (by omega) (by omega)]
    exact Z q q1 q2
theorem op_force {a1 : Int} (I : Inv N) (h1 : IR a1) : C_X9_force G a1 N (fun r N1 => C_X10_force G a1 N1 (fun r' N2 => wI r = wI r' ∧ Inv N2)) := by
  have I' := I
  obtain ⟨k, c, cp, oo, to, t, sz, k60, m9, m10, L, F, M, O, T, P, H⟩ := I
  obtain ⟨t1, t2, t3, t4, t5, t6, t7, t8, t9⟩ := T
  refine vc_X9_force ?_
  rw [t1]
  refine t_in h1 IR0 ⟨by omega, by omega⟩ (fun g => tn1 (fun M2 e2 => ⟨a1.toNat, by rw [IR_id h1]; omega, by omega, fun M4 e4 => vc_X10_force ?_⟩)) (fun g => tn0 (vc_X10_force ?_))
  · have f4 : ∀ x i f, ¬ (x = 9 ∧ i = 0 ∧ f = 14) → ¬ (x = 6 ∧ i = 0 ∧ f = 6) → M4 x i f = N x i f := fun x i f d1 d2 => by rw [e4, up3_o' (by omega), e2, up3_o' (by omega)]
    rw [f4 10 0 26 (by omega) (by omega), t2, t7]
    refine t_min h1 IR0 ⟨by omega, by omega⟩ (fun _ => tn1 (fun M5 e5 => ⟨by rw [f4 _ _ _ (by omega) (by omega), t8], ?_⟩)) (fun n => absurd g n)
    have f : ∀ x i f, ¬ (x = 9 ∧ i = 0 ∧ f = 14) → ¬ (x = 6 ∧ i = 0 ∧ f = 6) → ¬ (x = 10 ∧ i = 0 ∧ f = 27) → M5 x i f = N x i f := fun x i f d1 d2 d3 => by rw [e5, up3_o' (by omega), f4 _ _ _ d1 d2]
    refine ⟨k, c, cp, oo, to, a1.toNat, sz, k60, by rw [f _ _ _ (by omega) (by omega) (by omega)]; exact m9, by rw [f _ _ _ (by omega) (by omega) (by omega)]; exact m10, iL_fr L fun x i g d => f _ _ _ (by omega) (by omega) (by omega), iF_fr F fun x i g d => f _ _ _ (by omega) (by omega) (by omega), iM_fr M fun x i g d => f _ _ _ (by omega) (by omega) (by omega), iO_fr O fun x i g d => f _ _ _ (by omega) (by omega) (by omega), ⟨by rw [f _ _ _ (by omega) (by omega) (by omega)]; exact t1, by rw [f _ _ _ (by omega) (by omega) (by omega)]; exact t2, t3, t4, by omega, ?_, ?_, ?_, fun u hu => TXT_fr (t9 u hu) fun x i g d => f _ _ _ (by omega) (by omega) (by omega)⟩, iP_fr P fun x i g d => f _ _ _ (by omega) (by omega) (by omega), iH_fr H fun x i g d => f _ _ _ (by omega) (by omega) (by omega)⟩
    · rw [e5, up3_o' (by omega), e4, up3_s]
    · rw [e5, up3_o' (by omega), e4, up3_o' (by omega), e2, up3_s]; omega
    · rw [e5, up3_s]; omega
  · rw [t2]
    exact t_min h1 IR0 ⟨by omega, by omega⟩ (fun n => absurd n g) (fun _ => tn0 ⟨rfl, I'⟩)
theorem op_buy {a1 : Int} (I : Inv N) (h1 : IR a1) : C_X9_buy G a1 N (fun r N1 => C_X10_buy G a1 N1 (fun r' N2 => wI r = wI r' ∧ Inv N2)) := by
  have I' := I
  obtain ⟨k, c, cp, oo, to, t, sz, k60, m9, m10, L, F, M, O, T, P, H⟩ := I
  obtain ⟨⟨b1, c12, b3, b4, b5, b6, b7⟩, ⟨r1, r2, r3, r4⟩, ⟨l1, l2⟩, l4⟩ := L
  refine vc_X9_buy ?_
  rw [b1]
  refine t_in h1 IR0 ⟨by omega, by omega⟩ (fun g => tn1 ⟨a1.toNat, by rw [IR_id h1]; omega, by omega, ?_⟩) (fun g => tn0 (vc_X10_buy (t_isLoan h1 r1 c12 (fun n => absurd n g) (fun _ => tn0 ⟨rfl, I'⟩))))
  have ea : wI a1 = ((a1.toNat : Nat) : Int) := by rw [IR_id h1]; omega
  have hj : a1.toNat < c := by omega
  generalize a1.toNat = j at ea hj
  have e5 := l1 j hj 5 (by decide)
  have e1 := l1 j hj 1 (by decide)
  have e4 := l1 j hj 4 (by decide)
  have bj := b3 j hj
  rw [Nat.mul_zero, Nat.zero_add] at e5 e1 e4 bj
  have B : LB N j := LK_LBv (by omega) bj
  have e5' : N 45 0 j = N 2 j 5 := e5
  have w5 : wI (N 2 j 5) = N 2 j 5 := by unfold LK at bj; exact wI_id (by omega) (by omega)
  have l12 : j < 12 := by omega
  refine s_goesOn (by omega) B ?_
  by_cases h : N 2 j 5 = 0 ∨ N 2 j 5 = 1
  · rw [bI_t h]
    refine tn1 (fun M4 e4' => ?_)
    have f4 : ∀ x i f, ¬ (x = 2 ∧ i = j ∧ f = 5) → M4 x i f = N x i f := fun x i f d => by rw [e4', up3_o' (by omega)]
    rw [f4 2 j 1 (by omega), f4 2 j 4 (by omega)]
    have fin : ∀ M9 : NN, M9 = up3 M4 45 0 j 6 → wI (N 2 j 1 + N 2 j 4) = wI (M9 41 0 j + M9 44 0 j) ∧ Inv M9 := by
      intro M9 e9
      have f : ∀ x i f, ¬ (x = 2 ∧ i = j ∧ f = 5) → ¬ (x = 45 ∧ i = 0 ∧ f = j) → M9 x i f = N x i f := fun x i f d d2 => by rw [e9, up3_o' (by omega), f4 _ _ _ d]
      have v5 : M9 2 j 5 = 6 := by rw [e9, up3_o' (by omega), e4', up3_s]
      have w5' : M9 45 0 j = 6 := by rw [e9, up3_s]
      refine ⟨by rw [f 41 _ _ (by omega) (by omega), f 44 _ _ (by omega) (by omega), show N 41 0 j = N 2 j 1 from e1, show N 44 0 j = N 2 j 4 from e4], k, c, cp, oo, to, t, sz, k60, by rw [f _ _ _ (by omega) (by omega)]; exact m9, by rw [f _ _ _ (by omega) (by omega)]; exact m10, ?_, iF_fr F fun x i g d => f _ _ _ (by omega) (by omega), iM_fr M fun x i g d => f _ _ _ (by omega) (by omega), iO_fr O fun x i g d => f _ _ _ (by omega) (by omega), iT_fr T fun x i g d => f _ _ _ (by omega) (by omega), iP_fr P fun x i g d => f _ _ _ (by omega) (by omega), iH_fr H fun x i g d => f _ _ _ (by omega) (by omega)⟩
      refine ⟨⟨by rw [f _ _ _ (by omega) (by omega)]; exact b1, c12, fun n hn => ?_, by rw [f _ _ _ (by omega) (by omega)]; exact b4, by rw [f _ _ _ (by omega) (by omega)]; exact b5, by rw [f _ _ _ (by omega) (by omega)]; exact b6, by rw [f _ _ _ (by omega) (by omega)]; exact b7⟩, ⟨by rw [f _ _ _ (by omega) (by omega)]; exact r1, by rw [f _ _ _ (by omega) (by omega), f 6 _ _ (by omega) (by omega)]; exact r2, by rw [f _ _ _ (by omega) (by omega), f 6 _ _ (by omega) (by omega)]; exact r3, by rw [f _ _ _ (by omega) (by omega), f 6 _ _ (by omega) (by omega)]; exact r4⟩, ⟨fun n hn g hg => ?_, by rw [f _ _ _ (by omega) (by omega), f 6 _ _ (by omega) (by omega)]; exact l2⟩, fun n h1 h2 => ⟨fun g g1 g2 => ?_, ?_⟩⟩
      · by_cases e : n = j
        · subst e
          rw [Nat.mul_zero, Nat.zero_add]
          unfold LK at bj
          refine LK_of (f _ _ _ (by omega) (by omega)) (f _ _ _ (by omega) (by omega)) (f _ _ _ (by omega) (by omega)) (f _ _ _ (by omega) (by omega)) (f _ _ _ (by omega) (by omega)) v5 (f _ _ _ (by omega) (by omega)) (f _ _ _ (by omega) (by omega)) ?_
          omega
        · exact LK_8 (fun g hg => f _ _ _ (by omega) (by omega)) (b3 n hn)
      · by_cases e : n = j ∧ g = 5
        · obtain ⟨e, e'⟩ := e
          subst e e'
          rw [Nat.mul_zero, Nat.zero_add]
          exact w5'.trans v5.symm
        · rw [f _ _ _ (by omega) (by omega), f 2 _ _ (by omega) (by omega)]
          exact l1 n hn g hg
      · rw [f _ _ _ (by omega) (by omega)]
        exact (l4 n h1 h2).1 g g1 g2
      · rw [f _ _ _ (by omega) (by omega)]
        exact (l4 n h1 h2).2
    refine vc_X10_buy (t_isLoan h1 (by rw [f4 _ _ _ (by omega)]; exact r1) c12 (fun _ => tn1 ⟨j, ea, l12, ?_⟩) (fun n => absurd g n))
    have x5 : M4 45 0 j = N 2 j 5 := (f4 _ _ _ (by omega)).trans e5'
    rw [x5, w5]
    refine ⟨fun _ => ⟨j, ea, l12, fun M9 e9 => ⟨j, ea, l12, j, ea, l12, fin M9 e9⟩⟩, fun z => ⟨j, ea, l12, ?_⟩⟩
    rw [x5, w5]
    exact ⟨fun _ => ⟨j, ea, l12, fun M9 e9 => ⟨j, ea, l12, j, ea, l12, fin M9 e9⟩⟩, fun z2 => absurd h (fun y => y.elim z z2)⟩
  · rw [bI_f h]
    refine tn0 (vc_X10_buy (t_isLoan h1 r1 c12 (fun _ => tn1 ⟨j, ea, l12, ?_⟩) (fun n => absurd g n)))
    rw [e5', w5]
    refine ⟨fun z => absurd (.inl z) h, fun z => ⟨j, ea, l12, ?_⟩⟩
    rw [e5', w5]
    exact ⟨fun z => absurd (.inr z) h, fun _ => ⟨rfl, I'⟩⟩
end WR2
