/-! the class's fall begins anew -/
def restN (n : Nat) (F : Nat → Nat → Int) : Nat → Nat → Int := fun q k => if q < n then (if k = 2 then F q 1 else if 3 ≤ k ∧ k ≤ 8 then 0 else F q k) else F q k
def restF (F : Nat → Nat → Int) : Nat → Nat → Int := fun q k => if q = 9 ∧ 4 ≤ k ∧ k ≤ 9 then 0 else restN 5 F q k
section RS
variable {G : GT} {f : Nat} {N : NN} {K : NN → Prop}
theorem s_paperRestart {p : Nat} (hp : p < 5) (hf : f < 2) (k : ∀ N', (∀ k, N' 5 (5 * f + p) k = if k = 2 then N 5 (5 * f + p) 1 else if 3 ≤ k ∧ k ≤ 8 then 0 else N 5 (5 * f + p) k) → (∀ c i k, ¬ (c = 5 ∧ i = 5 * f + p) → N' c i k = N c i k) → K N') : C_X5_restart G (5 * f + p) N K := by
  refine vc_X5_restart (by omega) ?_
  intro M1 h1 M2 h2 M3 h3 M4 h4 M5 h5 M6 h6 M7 h7
  subst h1 h2 h3 h4 h5 h6 h7
  refine k _ (fun i => ?_) (fun c i k h => ?_)
  · by_cases e2 : i = 2
    · subst e2; simp [up3]
    · rw [if_neg e2]
      by_cases e : 3 ≤ i ∧ i ≤ 8
      · rw [if_pos e]
        rcases (by omega : i = 3 ∨ i = 4 ∨ i = 5 ∨ i = 6 ∨ i = 7 ∨ i = 8) with rfl | rfl | rfl | rfl | rfl | rfl <;> simp [up3]
      · rw [if_neg e]
        simp only [up3]
        repeat rw [if_neg (by omega)]
  · simp only [up3]
    repeat rw [if_neg (by omega)]
theorem s_restart (hf : f < 2) (k : ∀ N', VF N' f = restF (VF N f) → (∀ c i k, ¬ (c = 0 ∧ i = f) → ¬ (c = 5 ∧ 5 * f ≤ i ∧ i < 5 * f + 5) → N' c i k = N c i k) → K N') : C_X0_restart G f N K := by
  refine vc_X0_restart hf ?_
  have key : ∀ (d n : Nat) (M : NN), n + d = 5 → VF M f = restN n (VF N f) → (∀ c i k, ¬ (c = 5 ∧ 5 * f ≤ i ∧ i < 5 * f + 5) → M c i k = N c i k) → W_X0_restart G K 2 [(0, vR 0 f), (1, vI (n : Int))] [] M := by
    intro d
    induction d with
    | zero =>
      intro n M hn hV fr
      have en : n = 5 := by omega
      subst en
      refine vc_X0_restart_2 hf ?_
      rw [wlitI (k := ((5 : Nat) : Int)) (by decide) (by decide)]
      refine ⟨fun _ M1 h1 M2 h2 M3 h3 M4 h4 M5 h5 M6 h6 => k M6 ?_ (fun c i k a b => ?_), fun q => absurd (by decide) q⟩
      · rw [h6, VF_u9, h5, VF_u9, h4, VF_u9, h3, VF_u9, h2, VF_u9, h1, VF_u9, hV]
        funext q i
        unfold restF
        by_cases e : q = 9 ∧ 4 ≤ i ∧ i ≤ 9
        · rw [if_pos e]
          obtain ⟨rfl, e⟩ := e
          rcases (by omega : i = 4 ∨ i = 5 ∨ i = 6 ∨ i = 7 ∨ i = 8 ∨ i = 9) with rfl | rfl | rfl | rfl | rfl | rfl <;> simp [up2]
        · rw [if_neg e]
          simp only [up2]
          repeat rw [if_neg (by omega)]
      · rw [← fr _ _ _ b]
        subst h1 h2 h3 h4 h5 h6
        simp only [up3]
        repeat rw [if_neg (by omega)]
    | succ d ih =>
      intro n M hn hV fr
      have h5 : n < 5 := by omega
      refine vc_X0_restart_2 hf ?_
      rw [wI_id (x := (n : Int)) (by omega) (by omega)]
      refine ⟨fun q => by omega, fun _ => ⟨n, rfl, h5, s_paperRestart h5 hf (fun N' v' f' => ih (n + 1) N' (by omega) ?_ (fun c i k a => by rw [f' _ _ _ (by omega), fr _ _ _ a]))⟩⟩
      funext q i
      have hq : ∀ q i, VF M f q i = restN n (VF N f) q i := fun q i => by rw [hV]
      by_cases e : q < 5
      · rw [VF5 e]
        by_cases en : q = n
        · subst en
          rw [v']
          have a : ∀ i, M 5 (5 * f + q) i = VF N f q i := by
            intro i
            rw [← VF5 (N := M) (f := f) (q := q) e, hq]
            unfold restN
            rw [if_neg (by omega)]
          rw [a, a]
          unfold restN
          rw [if_pos (show q < q + 1 by omega)]
        · rw [f' _ _ _ (by omega), ← VF5 (N := M) (f := f) (q := q) e, hq]
          unfold restN
          by_cases l : q < n
          · rw [if_pos l, if_pos (show q < n + 1 by omega)]
          · rw [if_neg l, if_neg (show ¬ q < n + 1 by omega)]
      · have : VF N' f q i = VF M f q i := by
          by_cases e9 : q = 9
          · subst e9
            rw [VF9, VF9, f' _ _ _ (by omega)]
          · rw [VF0 e e9, VF0 e e9]
        rw [this, hq]
        unfold restN
        rw [if_neg (by omega), if_neg (by omega)]
  exact key 5 0 N (by omega) (by funext q i; unfold restN; rw [if_neg (by omega)]) (fun _ _ _ _ => rfl)
end RS
