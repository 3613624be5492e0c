/-! the first of a sheet's numbers that a month's steps did not take -/
def unl (S V : Nat → Int) : Nat → Nat → Int
  | 0, _ => -1
  | d + 1, i => if S i = V i then unl S V d (i + 1) else (i : Int)
section REP
variable {G : GT} {N : NN}
theorem lp_unlike {s n m p : Nat} {cnt : Int} {S : Nat → Int} {K : Int → NN → Prop} (hs : s < 4) (hm : m ≤ 60) (hn : n ≤ 10) (hp : 0 < n → p + n ≤ 40) (h34 : ∀ i, i < n → wL (wI (N 34 s (p + i))) = S i) (hc : 1 ≤ cnt ∧ cnt ≤ 10) (hz : ∀ i : Nat, i < 10 → cnt ≤ (i : Int) → N 28 m i = 0) {a : Int} (ia : IR a) (ha : 0 < n → a = (p : Int)) : ∀ (d i : Nat), i + d = n → K (unl S (fun i => wL (N 28 m i)) d i) N → W_X9_firstUnlike G K 14 [(0, vR 9 0), (1, vR 34 s), (2, vI a), (3, vI (n : Int)), (4, vI (m : Int)), (5, vI cnt), (6, vI (i : Int))] [] N
  | 0, i, hd, k => by
    have : i = n := by omega
    subst this
    exact vc_X9_firstUnlike_14 hs ⟨fun _ => k, fun q => absurd (Int.le_refl _) q⟩
  | d + 1, i, hd, k => by
    have wn := fun _ : Unit => wI_id (x := (n : Int)) (by omega) (by omega)
    have wi := fun _ : Unit => wI_id (x := (i : Int)) (by omega) (by omega)
    have hp' := hp (by omega)
    have ha' := ha (by omega)
    refine vc_X9_firstUnlike_14 hs ?_
    rw [wn (), wi (), wI_id (x := cnt) (by omega) (by omega)]
    refine ⟨fun q => absurd q (by omega), fun _ => t_in ⟨by omega, by omega⟩ IR0 ⟨by decide, by decide⟩ (fun _ => tt1 ?_) (fun g => absurd (by omega) g)⟩
    have wj : wI (a + (i : Int)) = ((p + i : Nat) : Int) := by rw [ha', wI_id (by omega) (by omega)]; omega
    have lj : p + i < 40 := by omega
    have S' := h34 i (by omega)
    unfold unl at k
    have zero : N 28 m i = 0 → ∃ j2 : Nat, wI (a + (i : Int)) = (j2 : Int) ∧ j2 < 40 ∧ (((wL (wI (N 34 s j2))) = 0 → W_X9_firstUnlike G K 14 [(0, vR 9 0), (1, vR 34 s), (2, vI a), (3, vI (n : Int)), (4, vI (m : Int)), (5, vI cnt), (6, vI ((i : Int) + 1))] [] N) ∧ (¬ ((wL (wI (N 34 s j2))) = 0) → K (i : Int) N)) := by
      intro z
      refine ⟨_, wj, lj, ?_⟩
      rw [S']
      rw [z, show wL 0 = 0 from rfl] at k
      exact ⟨fun q => lp_unlike hs hm hn hp h34 hc hz ia ha d (i + 1) (by omega) (by rwa [if_pos q] at k), fun q => by rwa [if_neg q] at k⟩
    refine ⟨fun q => zero (hz i (by omega) q), fun q => ⟨fun q2 => zero (hz i (by omega) (by omega)), fun q2 => ⟨m, wI_id (by omega) (by omega), by omega, i, rfl, by omega, _, wj, lj, ?_⟩⟩⟩
    rw [S']
    exact ⟨fun q => lp_unlike hs hm hn hp h34 hc hz ia ha d (i + 1) (by omega) (by rwa [if_pos q] at k), fun q => by rwa [if_neg q] at k⟩
theorem lp_mreport {s n m p : Nat} {S V : Nat → Int} {K : Int → NN → Prop} (hs : s < 4) (hm : m ≤ 60) (hn : n ≤ 10) (hp : 0 < n → p + n ≤ 40) (h85 : ∀ i, i < n → wL (wI (N 85 0 (40 * s + (p + i)))) = S i) (hV : ∀ i, i < 10 → wL (N 80 0 (10 * m + i)) = V i) {a : Int} (ia : IR a) (ha : 0 < n → a = (p : Int)) : ∀ (d i : Nat), i + d = n → K (unl S V d i) N → W_X10_report G K 65 [(0, vR 10 0), (1, vI (m : Int)), (2, vI (s : Int)), (4, vI a), (5, vI (n : Int)), (7, vI (i : Int))] [] N
  | 0, i, hd, k => by
    have : i = n := by omega
    subst this
    exact vc_X10_report_65 ⟨fun _ => k, fun q => absurd (Int.le_refl _) q⟩
  | d + 1, i, hd, k => by
    have wn := fun _ : Unit => wI_id (x := (n : Int)) (by omega) (by omega)
    have wi := fun _ : Unit => wI_id (x := (i : Int)) (by omega) (by omega)
    have hp' := hp (by omega)
    have ha' := ha (by omega)
    refine vc_X10_report_65 ?_
    rw [wn (), wi ()]
    refine ⟨fun q => absurd q (by omega), fun _ => ⟨40 * s + (p + i), by rw [ha', wI_id (by omega) (by omega)]; omega, by omega, 10 * m + i, by rw [wI_id (by omega) (by omega)]; omega, by omega, ?_⟩⟩
    rw [h85 i (by omega), hV i (by omega)]
    unfold unl at k
    exact ⟨fun q => lp_mreport hs hm hn hp h85 hV ia ha d (i + 1) (by omega) (by rwa [if_pos q] at k), fun q => by rwa [if_neg q] at k⟩
theorem op_report {a1 a2 a3 a4 a5 : Int} (I : Inv N) (h1 : IR a1) (h2 : IR a2) (h3 : IR a3) (h4 : IR a4) (h5 : IR a5) : C_X9_report G a1 a2 a3 a4 a5 N (fun r N1 => C_X10_report G a1 a2 a3 a4 a5 N1 (fun r' N2 => wI r = wI r' ∧ Inv N2)) := by
  have I' := I
  obtain ⟨k, c, cp, oo, to, t, sz, k60, m9, m10, L, F, M, O, T, P, H⟩ := I
  have wr : wI (rfS a2 a3 a5 N) = rfS a2 a3 a5 N := by
    rcases rfS_neg (a1 := a2) (a2 := a3) (a4 := a5) (N := N) with h | h
    · rw [h]; rfl
    · exact wI_id (by omega) (by omega)
  -- the reference, from its answer
  have ref : ∀ (x : Int), (¬ (1 ≤ a1 ∧ a1 ≤ (k : Int)) → x = -2) → (1 ≤ a1 ∧ a1 ≤ (k : Int) → rfS a2 a3 a5 N ≠ 0 → x = rfS a2 a3 a5 N) → (1 ≤ a1 ∧ a1 ≤ (k : Int) → rfS a2 a3 a5 N = 0 → ¬ (a5 ≤ 0 ∨ (0 ≤ a4 ∧ a4 + a5 ≤ N 7 a2.toNat 2)) → x = -12) → (1 ≤ a1 ∧ a1 ≤ (k : Int) → rfS a2 a3 a5 N = 0 → (a5 ≤ 0 ∨ (0 ≤ a4 ∧ a4 + a5 ≤ N 7 a2.toNat 2)) → W_X10_report G (fun r' N2 => wI x = wI r' ∧ Inv N2) 65 [(0, vR 10 0), (1, vI a1), (2, vI a2), (4, vI a4), (5, vI a5), (7, vI 0)] [] N) → C_X10_report G a1 a2 a3 a4 a5 N (fun r' N2 => wI x = wI r' ∧ Inv N2) := by
    intro x kB kR kO kk
    refine vc_X10_report ?_
    rw [m10]
    refine t_min h1 ⟨by decide, by decide⟩ ⟨by omega, by omega⟩ (fun g1 => tt1 (t_isSheet h2 (fun g2 => tt1 (t_min h3 IR0 ⟨by decide, by decide⟩ (fun g3 => tt1 (t_min h5 IR0 ⟨by decide, by decide⟩ (fun g5 => tn1 ?_) (fun y => tn0 ⟨?_, I'⟩))) (fun y => tt0 ⟨?_, I'⟩))) (fun y => tt0 ⟨?_, I'⟩))) (fun y => tt0 ⟨by rw [kB y], I'⟩)
    · refine s_noRow h2 h3 h4 h5 g2 g3 g5 H (fun y => ?_) (fun y y2 => ⟨fun _ => kk g1 y y2, fun z => absurd (by decide) z⟩) (fun y y2 => ⟨fun z => absurd z (by decide), fun _ => ⟨by rw [kO g1 y y2], I'⟩⟩)
      rw [wr]
      rcases rfS_neg (a1 := a2) (a2 := a3) (a4 := a5) (N := N) with h | h
      · exact absurd h y
      · exact ⟨fun z => absurd h.1 (by omega), fun _ => ⟨by rw [kR g1 y, wr], I'⟩⟩
    · have e : rfS a2 a3 a5 N = -2 := by unfold rfS; rw [if_pos (.inr (.inr y))]
      rw [kR g1 (by rw [e]; decide), e]
    · have e : rfS a2 a3 a5 N = -2 := by unfold rfS; rw [if_pos (.inr (.inl y))]
      rw [kR g1 (by rw [e]; decide), e]
    · have e : rfS a2 a3 a5 N = -2 := by unfold rfS; rw [if_pos (.inl y)]
      rw [kR g1 (by rw [e]; decide), e]
  refine vc_X9_report ?_
  rw [m9]
  refine t_in h1 ⟨by decide, by decide⟩ ⟨by omega, by omega⟩ (fun g1 => tn1 (s_refusal h2 h3 h5 H ?_)) (fun g1 => tn0 (ref _ (fun _ => rfl) (fun y => absurd y g1) (fun y => absurd y g1) (fun y => absurd y g1)))
  rw [wr]
  refine ⟨fun q => ?_, fun q => by have := ref _ (fun y => absurd g1 y) (fun _ _ => rfl) (fun _ y => absurd y q) (fun _ y => absurd y q); rw [wr] at this; exact this⟩
  obtain ⟨g2, g3, g5, g7⟩ := rfS_in q
  obtain ⟨s, es⟩ : ∃ s : Nat, a2 = (s : Int) := ⟨a2.toNat, by omega⟩
  obtain ⟨n, en⟩ : ∃ n : Nat, a5 = (n : Int) := ⟨a5.toNat, by omega⟩
  obtain ⟨m, em⟩ : ∃ m : Nat, a1 = (m : Int) := ⟨a1.toNat, by omega⟩
  have hs : s < 4 := by omega
  have w2 : wI a2 = (s : Int) := by rw [IR_id h2]; exact es
  have tn : a2.toNat = s := by omega
  subst en em es
  rw [tn] at g7
  rcases H s hs with ⟨x1, x2⟩ | ⟨z, z40, y1, y2, y3, y4, y5, y6, y7⟩
  · exact absurd x1 g7
  obtain ⟨o1, o2, o3, o4, o5, o6⟩ := O
  obtain ⟨o, ho, c1, c2⟩ := o5 m (by omega) (by omega)
  obtain ⟨⟨mm, tk⟩, ok, zz⟩ := M m (by omega) (by omega)
  obtain ⟨q1, q2, q3, q4⟩ := o6 o ho
  have good : (n = 0 ∨ (0 ≤ a4 ∧ a4 + (n : Int) ≤ (z : Int))) → C_X9_firstUnlike G s a4 (n : Int) (m : Int) N (fun x4 N4 => C_X10_report G (m : Int) (s : Int) a3 a4 (n : Int) N4 (fun r' N2 => wI x4 = wI r' ∧ Inv N2)) := by
    intro y
    refine vc_X9_firstUnlike hs (t_orderIn (by omega) o1 o4 c1 ho ?_)
    have h34 : ∀ i, i < n → wL (wI (N 34 s (a4.toNat + i))) = (fun i => wL (wI (N 34 s (a4.toNat + i)))) i := fun _ _ => rfl
    refine lp_unlike (p := a4.toNat) (S := fun i => wL (wI (N 34 s (a4.toNat + i)))) hs (by omega) (by omega) (fun _ => by omega) h34 ⟨q2, q3⟩ (zz o c1) h4 (fun _ => by omega) n 0 (by omega) (ref _ (fun y => absurd g1 y) (fun _ y => absurd q y) (fun _ _ y3 => absurd ?_ y3) (fun _ _ _ => lp_mreport (p := a4.toNat) hs (by omega) (by omega) (fun _ => by omega) (fun i hi => ?_) (fun i hi => ?_) h4 (fun _ => by omega) n 0 (by omega) ⟨rfl, I'⟩))
    · rw [tn, y5]; omega
    · rw [(y7 (a4.toNat + i) (by omega)).1]
    · rw [tk i hi]
  rw [IR_id h5, IR_id h4]
  refine ⟨fun q2 => ⟨s, w2, hs, good (.inl (by omega))⟩, fun q2 => ⟨s, w2, hs, ?_⟩⟩
  have out : ¬ (0 ≤ a4 ∧ a4 + (n : Int) ≤ (z : Int)) → C_X10_report G (m : Int) (s : Int) a3 a4 (n : Int) N (fun r' N2 => wI (-12) = wI r' ∧ Inv N2) := fun y => ref _ (fun y => absurd g1 y) (fun _ y => absurd q y) (fun _ _ _ => rfl) (fun _ _ y3 => absurd (by rw [tn, y5] at y3; omega) y)
  have h4' := h4
  obtain ⟨u1, u2⟩ := h4'
  refine s_holds hs y5 z40 ⟨by omega, by omega⟩ (fun g => tt1 ⟨s, w2, hs, s_holds hs y5 z40 ⟨by omega, by omega⟩ (fun g' => tn1 ⟨s, w2, hs, good (.inr (by omega))⟩) (fun g' => tn0 (out (by omega)))⟩) (fun g => tt0 (out (by omega)))
end REP
