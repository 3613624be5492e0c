/-! loans out of a sheet's rows -/
def okB (a1 a2 a3 a4 : Int) : Bool := decide (0 ≤ a1 ∧ a1 ≤ 5 ∧ 1000 ≤ a2 ∧ a2 ≤ 999999 ∧ 0 ≤ a3 ∧ a3 ≤ 200 ∧ 1 ≤ a4 ∧ a4 ≤ 60)
theorem okB_iff {a1 a2 a3 a4 : Int} : okB a1 a2 a3 a4 = true ↔ okL a1 a2 a3 a4 := decide_eq_true_iff
def lnR (S : Nat → Int) (a : Int) (sz k : Nat) : Nat → Nat → Nat → (Nat → Nat → Int) → Bool × Nat × (Nat → Nat → Int)
  | 0, _, cc, T => (true, cc, T)
  | d + 1, i, cc, T => if 0 ≤ a + 4 * (i : Int) ∧ a + 4 * (i : Int) + 3 < (sz : Int) then
      (if okB (S ((a + 4 * (i : Int)).toNat)) (S ((a + 4 * (i : Int)).toNat + 1)) (S ((a + 4 * (i : Int)).toNat + 2)) (S ((a + 4 * (i : Int)).toNat + 3)) = true ∧ k = 0 ∧ cc < 12 then lnR S a sz k d (i + 1) (cc + 1) (fun q f => if q = cc then S ((a + 4 * (i : Int)).toNat + f) else T q f) else lnR S a sz k d (i + 1) cc T)
    else (false, cc, T)
def okTb (c cc : Nat) (T : Nat → Nat → Int) : Prop := ∀ q, c ≤ q → q < cc → okL (T q 0) (T q 1) (T q 2) (T q 3)
theorem lnR_ok {S : Nat → Int} {a : Int} {sz k c : Nat} : ∀ (d i cc : Nat) (T : Nat → Nat → Int), c ≤ cc → cc ≤ 12 → okTb c cc T → (0 < k → cc = c) → c ≤ (lnR S a sz k d i cc T).2.1 ∧ (lnR S a sz k d i cc T).2.1 ≤ 12 ∧ okTb c (lnR S a sz k d i cc T).2.1 (lnR S a sz k d i cc T).2.2 ∧ (0 < k → (lnR S a sz k d i cc T).2.1 = c)
  | 0, i, cc, T, h1, h2, h3, h4 => ⟨h1, h2, h3, h4⟩
  | d + 1, i, cc, T, h1, h2, h3, h4 => by
    unfold lnR
    by_cases g : 0 ≤ a + 4 * (i : Int) ∧ a + 4 * (i : Int) + 3 < (sz : Int)
    · rw [if_pos g]
      by_cases g2 : okB (S ((a + 4 * (i : Int)).toNat)) (S ((a + 4 * (i : Int)).toNat + 1)) (S ((a + 4 * (i : Int)).toNat + 2)) (S ((a + 4 * (i : Int)).toNat + 3)) = true ∧ k = 0 ∧ cc < 12
      · rw [if_pos g2]
        refine lnR_ok d (i + 1) (cc + 1) _ (by omega) (by omega) (fun q q1 q2 => ?_) (fun z => absurd g2.2.1 (by omega))
        by_cases e : q = cc
        · rw [if_pos e, if_pos e, if_pos e, if_pos e]
          exact okB_iff.mp g2.1
        · rw [if_neg e, if_neg e, if_neg e, if_neg e]
          exact h3 q q1 (by omega)
      · rw [if_neg g2]
        exact lnR_ok d (i + 1) cc T h1 h2 h3 h4
    · rw [if_neg g]
      exact ⟨h1, h2, h3, h4⟩
def cT (c cc : Nat) (T : Nat → Nat → Int) (N0 N : NN) : Prop := (∀ x i f, ¬ (x = 2 ∧ c ≤ i ∧ i < cc ∧ f < 4) → ¬ (x = 6 ∧ i = 0 ∧ f = 1) → N x i f = N0 x i f) ∧ (∀ q, c ≤ q → q < cc → ∀ f, f < 4 → N 2 q f = T q f) ∧ N 6 0 1 = (cc : Int)
def mT (c cc : Nat) (T : Nat → Nat → Int) (N0 N : NN) : Prop := (∀ x i f, ¬ (40 ≤ x ∧ x < 47 ∧ i = 0 ∧ c ≤ f ∧ f < cc) → ¬ (x = 10 ∧ i = 0 ∧ f = 2) → N x i f = N0 x i f) ∧ (∀ q, c ≤ q → q < cc → (∀ f, f < 4 → N (40 + f) 0 q = T q f) ∧ N 44 0 q = 0 ∧ N 45 0 q = 0 ∧ N 46 0 q = 0) ∧ N 10 0 2 = (cc : Int)
section ROW
variable {G : GT} {N0 : NN}
theorem lp_loans {s sz n k c : Nat} {a : Int} {K : Int → NN → Prop} (hs : s < 4) (ha : IR a) (hn : n ≤ 10) (hz : sz ≤ 40) (h7 : N0 7 s 2 = (sz : Int)) (hr : ∀ j, j < sz → IR (N0 34 s j)) (hk : N0 9 0 11 = (k : Int)) (k60 : k ≤ 60) : ∀ (d i cc : Nat) (T : Nat → Nat → Int) (N : NN), i + d = n → c ≤ cc → cc ≤ 12 → cT c cc T N0 N →
    (∀ N', cT c (lnR (N0 34 s) a sz k d i cc T).2.1 (lnR (N0 34 s) a sz k d i cc T).2.2 N0 N' → K (if (lnR (N0 34 s) a sz k d i cc T).1 = true then ((lnR (N0 34 s) a sz k d i cc T).2.1 : Int) - (c : Int) else -12) N') →
    W_X9_loans G K 32 [(0, vR 9 0), (3, vI a), (4, vI (n : Int)), (6, vR 7 s), (7, vI ((cc : Int) - (c : Int))), (8, vI (i : Int))] [] N
  | 0, i, cc, T, N, hd, c1, c2, hc, kk => by
    have : i = n := by omega
    subst this
    refine vc_X9_loans_32 hs ⟨fun _ => ?_, fun q => absurd (Int.le_refl _) q⟩
    have := kk N hc
    unfold lnR at this
    rw [if_pos rfl] at this
    exact this
  | d + 1, i, cc, T, N, hd, c1, c2, hc, kk => by
    have wn := fun _ : Unit => wI_id (x := (n : Int)) (by omega) (by omega)
    have wi := fun _ : Unit => wI_id (x := (i : Int)) (by omega) (by omega)
    have w4 := fun _ : Unit => wI_id (x := 4 * (i : Int)) (by omega) (by omega)
    have ha' := ha
    obtain ⟨x1, x2⟩ := ha'
    obtain ⟨f, tb, cn⟩ := hc
    have f7 : N 7 s 2 = (sz : Int) := (f _ _ _ (by omega) (by omega)).trans h7
    have f34 : ∀ j, N 34 s j = N0 34 s j := fun j => f _ _ _ (by omega) (by omega)
    have f9 : N 9 0 11 = (k : Int) := (f _ _ _ (by omega) (by omega)).trans hk
    refine vc_X9_loans_32 hs ?_
    rw [wn (), wi (), w4 (), IR_id ha]
    refine ⟨fun q => absurd q (by omega), fun _ => ?_⟩
    have out : ¬ (0 ≤ a + 4 * (i : Int) ∧ a + 4 * (i : Int) + 3 < (sz : Int)) → K (-12) N := by
      intro g
      have := kk N
      unfold lnR at this
      rw [if_neg g] at this
      exact this ⟨f, tb, cn⟩
    refine s_holds hs f7 hz ⟨by omega, by omega⟩ (fun g1 => tt1 (s_holds hs f7 hz ⟨by omega, by omega⟩ (fun g2 => tn1 ?_) (fun g2 => tn0 (out (by omega))))) (fun g1 => tt0 (out (by omega)))
    have g : 0 ≤ a + 4 * (i : Int) ∧ a + 4 * (i : Int) + 3 < (sz : Int) := by omega
    clear out
    unfold lnR at kk
    rw [if_pos g] at kk
    obtain ⟨p, ep⟩ : ∃ p : Nat, a + 4 * (i : Int) = (p : Int) := ⟨(a + 4 * (i : Int)).toNat, by omega⟩
    rw [ep] at g kk ⊢
    rw [Int.toNat_natCast] at kk
    have wp : ∀ e : Nat, e < 4 → wI ((p : Int) + (e : Int)) = ((p + e : Nat) : Int) := fun e he => by rw [wI_id (by omega) (by omega)]; omega
    refine ⟨p, by rw [wI_id (by omega) (by omega)], by omega, p + 1, wp 1 (by decide), by omega, p + 2, wp 2 (by decide), by omega, p + 3, wp 3 (by decide), by omega, ?_⟩
    rw [f34, f34, f34, f34]
    have same : ¬ (okB (N0 34 s p) (N0 34 s (p + 1)) (N0 34 s (p + 2)) (N0 34 s (p + 3)) = true ∧ k = 0 ∧ cc < 12) → W_X9_loans G K 32 [(0, vR 9 0), (3, vI a), (4, vI (n : Int)), (6, vR 7 s), (7, vI ((cc : Int) - (c : Int))), (8, vI ((i : Int) + 1))] [] N := by
      intro g2
      rw [if_neg g2] at kk
      exact lp_loans hs ha hn hz h7 hr hk k60 d (i + 1) cc T N (by omega) c1 c2 ⟨f, tb, cn⟩ kk
    refine c_loan (hr _ (by omega)) (hr _ (by omega)) (hr _ (by omega)) (hr _ (by omega)) f9 k60 cn c2 (fun h => ⟨fun _ => same (fun z => h (okB_iff.mp z.1)), fun q => absurd (by decide) q⟩) (fun h h2 => ⟨fun _ => same (fun z => by omega), fun q => absurd (by decide) q⟩) (fun h h2 h3 => ⟨fun _ => same (fun z => by omega), fun q => absurd (by decide) q⟩) (fun h h2 h3 N' fN v0 v1 v2 v3 vc => ⟨fun q => absurd q (by rw [wI_id (by omega) (by omega)]; omega), fun _ => ?_⟩)
    rw [if_pos ⟨okB_iff.mpr h, h2, h3⟩] at kk
    rw [show (cc : Int) - (c : Int) + 1 = ((cc + 1 : Nat) : Int) - (c : Int) by omega]
    refine lp_loans hs ha hn hz h7 hr hk k60 d (i + 1) (cc + 1) _ N' (by omega) (by omega) (by omega) ⟨fun x r g d1 d2 => ?_, fun q q1 q2 g hg => ?_, vc⟩ kk
    · rw [fN _ _ _ (by omega) d2, f _ _ _ (by omega) d2]
    · by_cases e : q = cc
      · subst e
        rw [if_pos rfl]
        rcases (by omega : g = 0 ∨ g = 1 ∨ g = 2 ∨ g = 3) with rfl | rfl | rfl | rfl
        · exact v0
        · exact v1
        · exact v2
        · exact v3
      · rw [if_neg e, fN _ _ _ (by omega) (by omega)]
        exact tb q q1 (by omega) g hg
theorem lp_mloans {s sz n k c : Nat} {a a1 : Int} {S : Nat → Int} {K : Int → NN → Prop} (hs : s < 4) (e1 : wI a1 = (s : Int)) (i1 : IR a1) (ha : IR a) (ha0 : 0 < n → 0 ≤ a) (hn : n ≤ 10) (hz : sz ≤ 40) (h7 : N0 84 0 s = (sz : Int)) (hS : ∀ j, j < sz → N0 85 0 (40 * s + j) = S j) (hr : ∀ j, j < sz → IR (S j)) (hk : N0 10 0 1 = (k : Int)) (k60 : k ≤ 60) : ∀ (d i cc : Nat) (T : Nat → Nat → Int) (N : NN), i + d = n → c ≤ cc → cc ≤ 12 → mT c cc T N0 N →
    (∀ N', mT c (lnR S a sz k d i cc T).2.1 (lnR S a sz k d i cc T).2.2 N0 N' → K (if (lnR S a sz k d i cc T).1 = true then ((lnR S a sz k d i cc T).2.1 : Int) - (c : Int) else -12) N') →
    W_X10_loans G K 66 [(0, vR 10 0), (1, vI a1), (3, vI a), (4, vI (n : Int)), (6, vI ((cc : Int) - (c : Int))), (7, vI (i : Int))] [] N
  | 0, i, cc, T, N, hd, c1, c2, hc, kk => by
    have : i = n := by omega
    subst this
    refine vc_X10_loans_66 ⟨fun _ => ?_, fun q => absurd (Int.le_refl _) q⟩
    have := kk N hc
    unfold lnR at this
    rw [if_pos rfl] at this
    exact this
  | d + 1, i, cc, T, N, hd, c1, c2, hc, kk => by
    have wn := fun _ : Unit => wI_id (x := (n : Int)) (by omega) (by omega)
    have wi := fun _ : Unit => wI_id (x := (i : Int)) (by omega) (by omega)
    have ha' := ha
    obtain ⟨x1, x2⟩ := ha'
    have e1' : a1 = (s : Int) := by rw [IR_id i1] at e1; exact e1
    have ha1 := ha0 (by omega)
    obtain ⟨f, tb, cn⟩ := hc
    have f84 : N 84 0 s = (sz : Int) := (f _ _ _ (by omega) (by omega)).trans h7
    have f85 : ∀ j, j < sz → N 85 0 (40 * s + j) = S j := fun j hj => (f _ _ _ (by omega) (by omega)).trans (hS j hj)
    have f9 : N 10 0 1 = (k : Int) := (f _ _ _ (by omega) (by omega)).trans hk
    refine vc_X10_loans_66 ?_
    rw [wn (), wi ()]
    refine ⟨fun q => absurd q (by omega), fun _ => ⟨s, e1, hs, ?_⟩⟩
    rw [f84, IR_id ha, wI_id (x := (sz : Int) - 4 * (i : Int) - 4) (by omega) (by omega)]
    refine ⟨fun g' => ?_, fun g' => ?_⟩
    · have g : 0 ≤ a + 4 * (i : Int) ∧ a + 4 * (i : Int) + 3 < (sz : Int) := by omega
      unfold lnR at kk
      rw [if_pos g] at kk
      obtain ⟨p, ep⟩ : ∃ p : Nat, a + 4 * (i : Int) = (p : Int) := ⟨(a + 4 * (i : Int)).toNat, by omega⟩
      rw [ep] at kk
      rw [Int.toNat_natCast] at kk
      have wp : ∀ e : Nat, e < 4 → wI (((40 * a1 + a) + 4 * (i : Int)) + (e : Int)) = ((40 * s + (p + e) : Nat) : Int) := fun e he => by rw [e1', wI_id (by omega) (by omega)]; omega
      have wp0 : wI ((40 * a1 + a) + 4 * (i : Int)) = ((40 * s + p : Nat) : Int) := by rw [e1', wI_id (by omega) (by omega)]; omega
      refine ⟨40 * s + p, wp0, by omega, 40 * s + (p + 1), wp 1 (by decide), by omega, 40 * s + (p + 2), wp 2 (by decide), by omega, 40 * s + (p + 3), wp 3 (by decide), by omega, ?_⟩
      rw [f85 _ (by omega), f85 _ (by omega), f85 _ (by omega), f85 _ (by omega)]
      have same : ¬ (okB (S p) (S (p + 1)) (S (p + 2)) (S (p + 3)) = true ∧ k = 0 ∧ cc < 12) → W_X10_loans G K 66 [(0, vR 10 0), (1, vI a1), (3, vI a), (4, vI (n : Int)), (6, vI ((cc : Int) - (c : Int))), (7, vI ((i : Int) + 1))] [] N := by
        intro g2
        rw [if_neg g2] at kk
        exact lp_mloans hs e1 i1 ha ha0 hn hz h7 hS hr hk k60 d (i + 1) cc T N (by omega) c1 c2 ⟨f, tb, cn⟩ kk
      refine m_loan (hr _ (by omega)) (hr _ (by omega)) (hr _ (by omega)) (hr _ (by omega)) f9 k60 cn c2 (fun h => ⟨fun _ => same (fun z => h (okB_iff.mp z.1)), fun q => absurd (by decide) q⟩) (fun h h2 => ⟨fun _ => same (fun z => by omega), fun q => absurd (by decide) q⟩) (fun h h2 h3 => ⟨fun _ => same (fun z => by omega), fun q => absurd (by decide) q⟩) (fun h h2 h3 N' fN v0 v1 v2 v3 v4 v5 v6 vc => ⟨fun q => absurd q (by rw [wI_id (by omega) (by omega)]; omega), fun _ => ?_⟩)
      rw [if_pos ⟨okB_iff.mpr h, h2, h3⟩] at kk
      rw [show (cc : Int) - (c : Int) + 1 = ((cc + 1 : Nat) : Int) - (c : Int) by omega]
      refine lp_mloans hs e1 i1 ha ha0 hn hz h7 hS hr hk k60 d (i + 1) (cc + 1) _ N' (by omega) (by omega) (by omega) ⟨fun x r g d1 d2 => ?_, fun q q1 q2 => ?_, vc⟩ kk
      · rw [fN _ _ _ (by omega) d2, f _ _ _ (by omega) d2]
      · by_cases e : q = cc
        · subst e
          refine ⟨fun g hg => ?_, v4, v5, v6⟩
          rw [if_pos rfl]
          rcases (by omega : g = 0 ∨ g = 1 ∨ g = 2 ∨ g = 3) with rfl | rfl | rfl | rfl
          · exact v0
          · exact v1
          · exact v2
          · exact v3
        · obtain ⟨t1, t2, t3, t4⟩ := tb q q1 (by omega)
          rw [fN 44 _ _ (by omega) (by omega), fN 45 _ _ (by omega) (by omega), fN 46 _ _ (by omega) (by omega)]
          refine ⟨fun g hg => ?_, t2, t3, t4⟩
          rw [if_neg e, fN _ _ _ (by omega) (by omega)]
          exact t1 g hg
    · have := kk N
      unfold lnR at this
      rw [if_neg (by omega)] at this
      exact this ⟨f, tb, cn⟩
theorem iL_many {c c' k : Nat} {T : Nat → Nat → Int} {N N' : NN} (L : iL c k N) (h1 : c ≤ c') (h2 : c' ≤ 12) (hk : c < c' → k = 0) (ok : okTb c c' T)
    (f : ∀ x i g, ¬ (x = 2 ∧ c ≤ i ∧ i < c' ∧ g < 4) → ¬ (x = 6 ∧ i = 0 ∧ g = 1) → ¬ (40 ≤ x ∧ x < 47 ∧ i = 0 ∧ c ≤ g ∧ g < c') → ¬ (x = 10 ∧ i = 0 ∧ g = 2) → N' x i g = N x i g)
    (v : ∀ q, c ≤ q → q < c' → ∀ g, g < 4 → N' 2 q g = T q g) (vc : N' 6 0 1 = (c' : Int)) (w : ∀ q, c ≤ q → q < c' → (∀ g, g < 4 → N' (40 + g) 0 q = T q g) ∧ N' 44 0 q = 0 ∧ N' 45 0 q = 0 ∧ N' 46 0 q = 0) (wc : N' 10 0 2 = (c' : Int)) : iL c' k N' := by
  obtain ⟨⟨b1, _, b3, b4, b5, b6, b7⟩, ⟨r1, r2, r3, r4⟩, ⟨l1, l2⟩, l4⟩ := L
  have zz : ∀ q, c ≤ q → q < 12 → (∀ g, 4 ≤ g → g < 8 → N' 2 q g = 0) ∧ N' 47 0 q = 0 := fun q q1 q2 => by
    obtain ⟨z1, z2⟩ := l4 q q1 q2
    exact ⟨fun g g1 g2 => by rw [f _ _ _ (by omega) (by omega) (by omega) (by omega)]; exact z1 g g1 g2, by rw [f _ _ _ (by omega) (by omega) (by omega) (by omega)]; exact z2⟩
  refine ⟨⟨vc, by omega, fun n hn => ?_, ?_, ?_, ?_, ?_⟩, ⟨wc, ?_, ?_, ?_⟩, ⟨fun n hn g hg => ?_, ?_⟩, fun n h1 h2 => zz n (by omega) h2⟩
  · by_cases e : c ≤ n
    · rw [Nat.mul_zero, Nat.zero_add, hk (by omega)]
      have o := ok n e hn
      unfold okL at o
      obtain ⟨z, _⟩ := zz n e (by omega)
      exact LK_of (v n e hn 0 (by decide)) (v n e hn 1 (by decide)) (v n e hn 2 (by decide)) (v n e hn 3 (by decide)) (z 4 (by decide) (by decide)) (z 5 (by decide) (by decide)) (z 6 (by decide) (by decide)) (z 7 (by decide) (by decide)) (by omega)
    · exact LK_8 (fun g hg => f _ _ _ (by omega) (by omega) (by omega) (by omega)) (b3 n (by omega))
  · rw [f _ _ _ (by omega) (by omega) (by omega) (by omega)]; exact b4
  · rw [f _ _ _ (by omega) (by omega) (by omega) (by omega)]; exact b5
  · rw [f _ _ _ (by omega) (by omega) (by omega) (by omega)]; exact b6
  · rw [f _ _ _ (by omega) (by omega) (by omega) (by omega)]; exact b7
  · rw [f _ _ _ (by omega) (by omega) (by omega) (by omega), f 6 _ _ (by omega) (by omega) (by omega) (by omega)]; exact r2
  · rw [f _ _ _ (by omega) (by omega) (by omega) (by omega), f 6 _ _ (by omega) (by omega) (by omega) (by omega)]; exact r3
  · rw [f _ _ _ (by omega) (by omega) (by omega) (by omega), f 6 _ _ (by omega) (by omega) (by omega) (by omega)]; exact r4
  · by_cases e : c ≤ n
    · rw [Nat.mul_zero, Nat.zero_add]
      obtain ⟨z, z47⟩ := zz n e (by omega)
      obtain ⟨w1, w2, w3, w4⟩ := w n e hn
      by_cases g4 : g < 4
      · exact (w1 g g4).trans (v n e hn g g4).symm
      · rcases (by omega : g = 4 ∨ g = 5 ∨ g = 6 ∨ g = 7) with rfl | rfl | rfl | rfl
        · exact w2.trans (z 4 (by decide) (by decide)).symm
        · exact w3.trans (z 5 (by decide) (by decide)).symm
        · exact w4.trans (z 6 (by decide) (by decide)).symm
        · exact z47.trans (z 7 (by decide) (by decide)).symm
    · rw [f _ _ _ (by omega) (by omega) (by omega) (by omega), f 2 _ _ (by omega) (by omega) (by omega) (by omega)]
      exact l1 n (by omega) g hg
  · rw [f _ _ _ (by omega) (by omega) (by omega) (by omega), f 6 _ _ (by omega) (by omega) (by omega) (by omega)]; exact l2
/-- why a sheet can't be read as rows of a sort -/
def rfS (a1 a2 a4 : Int) (N : NN) : Int := if ¬ (0 ≤ a1 ∧ a1 ≤ 3) ∨ ¬ (0 ≤ a2 ∧ a2 ≤ 2) ∨ ¬ (0 ≤ a4 ∧ a4 ≤ 10) then -2 else if N 7 a1.toNat 1 = -1 then -11 else if N 7 a1.toNat 1 = a2 then 0 else -13
theorem s_refusal {a1 a2 a4 : Int} {N : NN} {K : Int → NN → Prop} (h1 : IR a1) (h2 : IR a2) (h4 : IR a4) (H : iH N) (k : K (rfS a1 a2 a4 N) N) : C_X9_refusalOf G a1 a2 a4 N K := by
  have kb : ¬ (0 ≤ a1 ∧ a1 ≤ 3) ∨ ¬ (0 ≤ a2 ∧ a2 ≤ 2) ∨ ¬ (0 ≤ a4 ∧ a4 ≤ 10) → K (-2) N := fun g => by unfold rfS at k; rwa [if_pos g] at k
  refine vc_X9_refusalOf (t_in h1 IR0 ⟨by decide, by decide⟩ (fun g1 => tt1 (t_in h2 IR0 ⟨by decide, by decide⟩ (fun g2 => tt1 (t_in h4 IR0 ⟨by decide, by decide⟩ (fun g3 => tn1 ?_) (fun g => tn0 (kb (.inr (.inr g)))))) (fun g => tt0 (kb (.inr (.inl g)))))) (fun g => tt0 (kb (.inl g))))
  have w1 : wI a1 = ((a1.toNat : Nat) : Int) := by rw [IR_id h1]; omega
  have wk : wI (N 7 a1.toNat 1) = N 7 a1.toNat 1 := by
    rcases H a1.toNat (by omega) with ⟨x1, x2⟩ | ⟨n, n40, y1, y2, _⟩
    · rw [x1]; rfl
    · exact wI_id (by omega) (by omega)
  unfold rfS at k
  rw [if_neg (by omega)] at k
  refine ⟨_, w1, by omega, ?_⟩
  rw [wk]
  refine ⟨fun q => ⟨_, w1, by omega, ?_⟩, fun q => by rwa [if_pos (by omega)] at k⟩
  rw [wk, IR_id h2]
  rw [if_neg q] at k
  exact ⟨fun q2 => by rwa [if_neg q2] at k, fun q2 => by rwa [if_pos (by omega)] at k⟩
/-- the reference's: whether the rows lie there -/
theorem s_noRow {a1 a2 a3 a4 : Int} {N : NN} {K : Int → NN → Prop} (h1 : IR a1) (h2 : IR a2) (h3 : IR a3) (h4 : IR a4) (g1 : 0 ≤ a1 ∧ a1 ≤ 3) (g2 : 0 ≤ a2 ∧ a2 ≤ 2) (g4 : 0 ≤ a4 ∧ a4 ≤ 10) (H : iH N) (kr : rfS a1 a2 a4 N ≠ 0 → K (rfS a1 a2 a4 N) N) (k0 : rfS a1 a2 a4 N = 0 → a4 ≤ 0 ∨ (0 ≤ a3 ∧ a3 + a4 ≤ N 7 a1.toNat 2) → K 0 N) (kO : rfS a1 a2 a4 N = 0 → ¬ (a4 ≤ 0 ∨ (0 ≤ a3 ∧ a3 + a4 ≤ N 7 a1.toNat 2)) → K (-12) N) : C_X10_noRow G a1 a2 a3 a4 N K := by
  have w1 : wI a1 = ((a1.toNat : Nat) : Int) := by rw [IR_id h1]; omega
  have l : a1.toNat < 4 := by omega
  unfold rfS at *
  rw [if_neg (by omega)] at kr k0 kO
  refine vc_X10_noRow ⟨_, w1, l, ?_⟩
  rw [IR_id h2, IR_id h3, IR_id h4]
  rcases H a1.toNat (by omega) with ⟨x1, x2⟩ | ⟨n, n40, y1, y2, y3, y4, y5, y6, y7⟩
  · rw [x2]
    rw [if_pos x1] at kr
    refine ⟨fun _ => ⟨_, w1, l, ?_⟩, fun q => absurd (by decide) q⟩
    rw [x2]
    exact ⟨fun q => absurd (by decide) q, fun _ => kr (by decide)⟩
  · rw [if_neg (by omega)] at kr k0 kO
    rw [y3]
    refine ⟨fun q => absurd q (by decide), fun _ => ⟨_, w1, l, ?_⟩⟩
    rw [y4, wI_id (x := N 7 a1.toNat 1) (by omega) (by omega)]
    refine ⟨fun q => ⟨_, w1, l, ?_⟩, fun q => by rw [if_neg q] at kr; exact kr (by decide)⟩
    rw [if_pos q] at kr k0 kO
    rw [y3]
    refine ⟨fun _ => ⟨fun q2 => k0 rfl (.inl q2), fun q2 => ⟨fun q3 => kO rfl (by omega), fun q3 => ⟨_, w1, l, ?_⟩⟩⟩, fun q => absurd (by decide) q⟩
    rw [y6, wI_id (x := (n : Int) - a4) (by omega) (by omega)]
    exact ⟨fun q4 => k0 rfl (.inr (by omega)), fun q4 => kO rfl (by omega)⟩
theorem rfS_fr {a1 a2 a4 : Int} {N N' : NN} (h : ∀ k, N' 7 a1.toNat k = N 7 a1.toNat k) : rfS a1 a2 a4 N' = rfS a1 a2 a4 N := by unfold rfS; rw [h]
theorem rfS_0 {a1 a2 b : Int} {a4 : Int} {N : NN} (hb : 0 ≤ b ∧ b ≤ 10) (h : 0 ≤ a4 ∧ a4 ≤ 10) : rfS a1 a2 b N = rfS a1 a2 a4 N := by
  unfold rfS
  by_cases g : ¬ (0 ≤ a1 ∧ a1 ≤ 3) ∨ ¬ (0 ≤ a2 ∧ a2 ≤ 2)
  · rw [if_pos (by omega), if_pos (by omega)]
  · rw [if_neg (show ¬ (¬ (0 ≤ a1 ∧ a1 ≤ 3) ∨ ¬ (0 ≤ a2 ∧ a2 ≤ 2) ∨ ¬ (0 ≤ b ∧ b ≤ 10)) by omega), if_neg (show ¬ (¬ (0 ≤ a1 ∧ a1 ≤ 3) ∨ ¬ (0 ≤ a2 ∧ a2 ≤ 2) ∨ ¬ (0 ≤ a4 ∧ a4 ≤ 10)) by omega)]
theorem rfS_in {a1 a2 a4 : Int} {N : NN} (h : rfS a1 a2 a4 N = 0) : (0 ≤ a1 ∧ a1 ≤ 3) ∧ (0 ≤ a2 ∧ a2 ≤ 2) ∧ (0 ≤ a4 ∧ a4 ≤ 10) ∧ N 7 a1.toNat 1 ≠ -1 := by
  unfold rfS at h
  by_cases g : ¬ (0 ≤ a1 ∧ a1 ≤ 3) ∨ ¬ (0 ≤ a2 ∧ a2 ≤ 2) ∨ ¬ (0 ≤ a4 ∧ a4 ≤ 10)
  · rw [if_pos g] at h; exact absurd h (by decide)
  · rw [if_neg g] at h
    by_cases g2 : N 7 a1.toNat 1 = -1
    · rw [if_pos g2] at h; exact absurd h (by decide)
    · exact ⟨by omega, by omega, by omega, g2⟩
/-- a refusal, in the reference -/
theorem rfS_neg {a1 a2 a4 : Int} {N : NN} : rfS a1 a2 a4 N = 0 ∨ (rfS a1 a2 a4 N < 0 ∧ -20 < rfS a1 a2 a4 N) := by
  unfold rfS
  split
  · exact .inr (by decide)
  · split
    · exact .inr (by decide)
    · split
      · exact .inl rfl
      · exact .inr (by decide)
theorem op_loans {a1 a2 a3 a4 : Int} {N : NN} (I : Inv N) (h1 : IR a1) (h2 : IR a2) (h3 : IR a3) (h4 : IR a4) : C_X9_loans G a1 a2 a3 a4 N (fun r N1 => C_X10_loans G a1 a2 a3 a4 N1 (fun r' N2 => wI r = wI r' ∧ Inv N2)) := by
  have I' := I
  obtain ⟨k, c, cp, oo, to, t, sz, k60, m9, m10, L, F, M, O, T, P, H⟩ := I
  have wr : wI (rfS a1 a2 a4 N) = rfS a1 a2 a4 N := by
    rcases rfS_neg (a1 := a1) (a2 := a2) (a4 := a4) (N := N) with h | h
    · rw [h]; rfl
    · exact wI_id (by omega) (by omega)
  refine vc_X9_loans (s_refusal h1 h2 h4 H ?_)
  rw [wr]
  refine ⟨fun q => ?_, fun q => ?_⟩
  · obtain ⟨g1, g2, g4, g7⟩ := rfS_in q
    obtain ⟨s, es⟩ : ∃ s : Nat, a1 = (s : Int) := ⟨a1.toNat, by omega⟩
    obtain ⟨n, en⟩ : ∃ n : Nat, a4 = (n : Int) := ⟨a4.toNat, by omega⟩
    have hs : s < 4 := by omega
    have w1 : wI a1 = (s : Int) := by rw [IR_id h1]; exact es
    have q0 : rfS a1 a2 0 N = 0 := by rw [rfS_0 (a4 := a4) (by omega) g4]; exact q
    subst en
    have tn : a1.toNat = s := by omega
    rw [tn] at g7
    refine ⟨s, w1, hs, ?_⟩
    rcases H s hs with ⟨x1, x2⟩ | ⟨z, z40, y1, y2, y3, y4, y5, y6, y7⟩
    · exact absurd x1 g7
    have c12 := L.1.2.1
    have lo := lnR_ok (S := N 34 s) (a := a3) (sz := z) (k := k) (c := c) n 0 c (fun _ _ => 0) (Nat.le_refl _) c12 (fun q q1 q2 => absurd q1 (by omega)) (fun _ => rfl)
    have h := lp_loans (G := G) (K := fun r N1 => C_X10_loans G a1 a2 a3 (n : Int) N1 (fun r' N2 => wI r = wI r' ∧ Inv N2)) (N0 := N) (s := s) (sz := z) (n := n) (k := k) (c := c) (a := a3) hs h3 (by omega) z40 y5 (fun j hj => (y7 j hj).2) m9 k60 n 0 c (fun _ _ => 0) N (by omega) (Nat.le_refl _) c12 ⟨fun _ _ _ _ _ => rfl, fun q q1 q2 => absurd q1 (by omega), L.1.1⟩ ?_
    · rw [Int.sub_self] at h
      exact h
    · generalize hR : lnR (N 34 s) a3 z k n 0 c (fun _ _ => 0) = R at lo ⊢
      intro A hA
      have HA : iH A := iH_fr H fun x i g d => hA.1 _ _ _ (by omega) (by omega)
      have fin : ∀ B : NN, mT c R.2.1 R.2.2 A B → Inv B := by
        intro B hB
        have f : ∀ x i g, ¬ (x = 2 ∧ c ≤ i ∧ i < R.2.1 ∧ g < 4) → ¬ (x = 6 ∧ i = 0 ∧ g = 1) → ¬ (40 ≤ x ∧ x < 47 ∧ i = 0 ∧ c ≤ g ∧ g < R.2.1) → ¬ (x = 10 ∧ i = 0 ∧ g = 2) → B x i g = N x i g := fun x i g d1 d2 d3 d4 => by rw [hB.1 _ _ _ d3 d4, hA.1 _ _ _ d1 d2]
        refine ⟨k, R.2.1, cp, oo, to, t, sz, k60, by rw [f _ _ _ (by omega) (by omega) (by omega) (by omega)]; exact m9, by rw [f _ _ _ (by omega) (by omega) (by omega) (by omega)]; exact m10, iL_many L lo.1 lo.2.1 (fun z => Decidable.byContradiction fun y => absurd (lo.2.2.2 (by omega)) (by omega)) lo.2.2.1 f (fun q q1 q2 g hg => ?_) ?_ hB.2.1 hB.2.2, iF_fr F fun x i g d => f _ _ _ (by omega) (by omega) (by omega) (by omega), iM_fr M fun x i g d => f _ _ _ (by omega) (by omega) (by omega) (by omega), iO_fr O fun x i g d => f _ _ _ (by omega) (by omega) (by omega) (by omega), iT_fr T fun x i g d => f _ _ _ (by omega) (by omega) (by omega) (by omega), iP_fr P fun x i g d => f _ _ _ (by omega) (by omega) (by omega) (by omega), iH_fr H fun x i g d => f _ _ _ (by omega) (by omega) (by omega) (by omega)⟩
        · rw [hB.1 _ _ _ (by omega) (by omega)]
          exact hA.2.1 q q1 q2 g hg
        · rw [hB.1 _ _ _ (by omega) (by omega)]
          exact hA.2.2
      have qA : rfS a1 a2 0 A = 0 := by rw [rfS_fr (N := N) (N' := A) (fun k => by rw [tn]; exact hA.1 _ _ _ (by omega) (by omega))]; exact q0
      refine vc_X10_loans (t_isSheet h1 (fun _ => tt1 (t_min h2 IR0 ⟨by decide, by decide⟩ (fun _ => tt1 (t_min h4 IR0 ⟨by decide, by decide⟩ (fun _ => tn1 (s_noRow h1 h2 h3 IR0 g1 g2 ⟨by decide, by decide⟩ HA (fun y => absurd qA y) (fun _ _ => ?_) (fun _ y => absurd (.inl (by decide)) y))) (fun y => absurd g4 y))) (fun y => absurd g2 y))) (fun y => absurd g1 y))
      refine ⟨fun _ => ?_, fun y => absurd (by decide) y⟩
      have loop : (0 < n → 0 ≤ a3) → W_X10_loans G (fun r' N2 => wI (if R.1 = true then (R.2.1 : Int) - (c : Int) else -12) = wI r' ∧ Inv N2) 66 [(0, vR 10 0), (1, vI a1), (3, vI a3), (4, vI (n : Int)), (6, vI 0), (7, vI 0)] [] A := by
        intro hn
        have h := lp_mloans (G := G) (K := fun r' N2 => wI (if R.1 = true then (R.2.1 : Int) - (c : Int) else -12) = wI r' ∧ Inv N2) (N0 := A) (s := s) (sz := z) (n := n) (k := k) (c := c) (a := a3) (a1 := a1) (S := N 34 s) hs w1 h1 h3 hn (by omega) z40 ((hA.1 _ _ _ (by omega) (by omega)).trans y6) (fun j hj => ((hA.1 _ _ _ (by omega) (by omega)).trans (y7 j hj).1.symm)) (fun j hj => (y7 j hj).2) ((hA.1 _ _ _ (by omega) (by omega)).trans m10) k60 n 0 c (fun _ _ => 0) A (by omega) (Nat.le_refl _) c12 ⟨fun _ _ _ _ _ => rfl, fun q q1 q2 => absurd q1 (by omega), (hA.1 _ _ _ (by omega) (by omega)).trans L.2.1.1⟩ ?_
        · rw [Int.sub_self] at h
          exact h
        · rw [hR]
          exact fun B hB => ⟨rfl, fin B hB⟩
      rw [IR_id h4, IR_id h3]
      refine ⟨fun y => loop (fun y2 => absurd y (by omega)), fun y => ⟨fun y2 => loop (fun _ => y2), fun y2 => ?_⟩⟩
      have e : R = (false, c, fun _ _ => 0) := by
        rw [← hR]
        obtain ⟨n', en⟩ : ∃ n', n = n' + 1 := ⟨n - 1, by omega⟩
        subst en
        unfold lnR
        rw [if_neg (by omega)]
      subst e
      exact ⟨rfl, fin A ⟨fun _ _ _ _ _ => rfl, fun q q1 q2 => absurd q1 (by dsimp only at q2; omega), (hA.1 _ _ _ (by omega) (by omega)).trans L.2.1.1⟩⟩
  · refine vc_X10_loans (t_isSheet h1 (fun g1 => tt1 (t_min h2 IR0 ⟨by decide, by decide⟩ (fun g2 => tt1 (t_min h4 IR0 ⟨by decide, by decide⟩ (fun g4 => tn1 ?_) (fun y => tn0 ⟨?_, I'⟩))) (fun y => tt0 ⟨?_, I'⟩))) (fun y => tt0 ⟨?_, I'⟩))
    · have e := rfS_0 (a1 := a1) (a2 := a2) (b := 0) (a4 := a4) (N := N) ⟨by decide, by decide⟩ g4
      refine s_noRow h1 h2 h3 IR0 g1 g2 ⟨by decide, by decide⟩ H (fun y => ?_) (fun y _ => absurd (e.symm.trans y) q) (fun y _ => absurd (e.symm.trans y) q)
      rw [e, wr]
      rcases rfS_neg (a1 := a1) (a2 := a2) (a4 := a4) (N := N) with h | h
      · exact absurd h q
      · exact ⟨fun y => absurd h.1 (by omega), fun _ => ⟨rfl, I'⟩⟩
    · unfold rfS; rw [if_pos (.inr (.inr y))]; rfl
    · unfold rfS; rw [if_pos (.inr (.inl y))]; rfl
    · unfold rfS; rw [if_pos (.inl y)]; rfl
end ROW
