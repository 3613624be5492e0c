/-! the class's pool: a loan's month -/
/-- loan a is v, row j got w; else nothing (but a law's stack) -/
def UpdL (N N' : NN) (a j : Nat) (v w : Nat → Int) : Prop :=
  (∀ k, k < 8 → N' 2 a k = v k) ∧ (N' 3 j 0 = N 3 j 0 + w 0 ∧ N' 3 j 1 = N 3 j 1 + w 1 ∧ N' 3 j 2 = N 3 j 2 + w 2 ∧ N' 3 j 3 = N 3 j 3 + w 3 ∧ N' 3 j 8 = N 3 j 8 + w 8) ∧
  (∀ c i k, ¬ (c = 2 ∧ i = a) → ¬ (c = 3 ∧ i = j) → c ≠ 31 → N' c i k = N c i k) ∧ (∀ k, k ≠ 0 → k ≠ 1 → k ≠ 2 → k ≠ 3 → k ≠ 8 → N' 3 j k = N 3 j k)
theorem k8 {P : Nat → Prop} (h0 : P 0) (h1 : P 1) (h2 : P 2) (h3 : P 3) (h4 : P 4) (h5 : P 5) (h6 : P 6) (h7 : P 7) : ∀ k, k < 8 → P k := by
  intro k hk
  rcases (by omega : k = 0 ∨ k = 1 ∨ k = 2 ∨ k = 3 ∨ k = 4 ∨ k = 5 ∨ k = 6 ∨ k = 7) with rfl | rfl | rfl | rfl | rfl | rfl | rfl | rfl <;> assumption
def vAll (st : Int) (v : Nat → Int) : Nat → Int := fun k => if k = 1 then 0 else if k = 4 then 0 else if k = 5 then st else v k
def wAll (i : Int) (v : Nat → Int) : Nat → Int := fun k => if k = 0 then i + v 4 else if k = 1 then v 1 else 0
def freeB (m : Int) (v : Nat → Int) : Bool := decide (v 0 = 4 ∧ m % 6 = 0 ∧ m < v 3)
theorem freeB_iff {m : Int} {v : Nat → Int} : freeB m v = true ↔ v 0 = 4 ∧ m % 6 = 0 ∧ m < v 3 := decide_eq_true_iff
def vMon (m : Int) (v : Nat → Int) : Nat → Int := fun k =>
  if k = 4 then 0 else if k = 5 then (if v 3 ≤ m then 5 else 0) else if k = 1 then (if freeB m v = true then v 1 + iS (v 1) (v 2) else v 1 - pS (v 0) (v 1) (v 2) (v 3) (v 6) m) else v k
def wMon (m : Int) (v : Nat → Int) : Nat → Int := fun k =>
  if k = 0 then (if freeB m v = true then v 4 else v 4 + iS (v 1) (v 2)) else if k = 1 then (if freeB m v = true then 0 else pS (v 0) (v 1) (v 2) (v 3) (v 6) m) else 0
def vLate (m : Int) (v : Nat → Int) : Nat → Int := fun k => if k = 4 then v 4 + iS (v 1) (v 2) else if k = 5 then 1 else if k = 3 then (if v 3 ≤ m then v 3 + 1 else v 3) else v k
def wLate (adv : Int) (v : Nat → Int) : Nat → Int := fun k => if k = 3 then (if adv = 0 then 0 else iS (v 1) (v 2)) else 0
def vSell (v : Nat → Int) : Nat → Int := fun k => if k = 1 then 0 else if k = 5 then 4 else v k
def wSell (back : Int) (v : Nat → Int) : Nat → Int := fun k => if k = 2 then v 1 * back / 100 else if k = 8 then v 1 - v 1 * back / 100 else 0
def vFail (m : Int) (v : Nat → Int) : Nat → Int := fun k => if k = 4 then 0 else if k = 5 then 3 else if k = 7 then m else v k
section PN
variable {G : GT} {a j : Nat} {N : NN} {K : NN → Prop}
theorem s_payAll {i st : Int} (ha : a < 24) (hj : j < 62) (k : ∀ N', UpdL N N' a j (vAll st (N 2 a)) (wAll i (N 2 a)) → K N') : C_X6_payAll G a j i st N K := by
  refine vc_X6_payAll ha hj ?_
  intro M1 e1 M2 e2 M3 e3 M4 e4 M5 e5
  apply k
  subst e1; subst e2; subst e3; subst e4; subst e5
  refine ⟨k8 ?_ ?_ ?_ ?_ ?_ ?_ ?_ ?_, ⟨?_, ?_, ?_, ?_, ?_⟩, ?_, ?_⟩
  all_goals try (simp [up3, vAll, wAll]; done)
  · intro c i k h1 h2 h3
    simp only [up3]
    repeat rw [if_neg (by omega)]
  · intro k h0 h1 h2 h3 h8
    simp only [up3]
    repeat rw [if_neg (by omega)]
theorem s_sell {p : Nat} (hp : p < 2) (ha : a < 24) (hj : j < 62) (B : LB N a) (hb : 0 ≤ N 6 p 3 ∧ N 6 p 3 ≤ 100) (k : ∀ N', UpdL N N' a j (vSell (N 2 a)) (wSell (N 6 p 3) (N 2 a)) → K N') : C_X6_sell G p a j N K := by
  obtain ⟨b0, b1, b2, b3, -⟩ := B
  have hm := mul_rng b2 b3 hb.1 hb.2
  refine vc_X6_sell hp ha hj ?_
  rw [wI_id (x := N 6 p 3) (by omega) (by omega), wL_id (x := N 2 a 1 * N 6 p 3) (by omega) (by omega), td_n hm.1]
  intro M1 e1 M2 e2 M3 e3 M4 e4
  apply k
  subst e1; subst e2; subst e3; subst e4
  refine ⟨k8 ?_ ?_ ?_ ?_ ?_ ?_ ?_ ?_, ⟨?_, ?_, ?_, ?_, ?_⟩, ?_, ?_⟩
  all_goals try (simp [up3, vSell, wSell]; done)
  · intro c i k h1 h2 h3
    simp only [up3]
    repeat rw [if_neg (by omega)]
  · intro k h0 h1 h2 h3 h8
    simp only [up3]
    repeat rw [if_neg (by omega)]
theorem s_fallLate {p : Nat} {m : Int} (hp : p < 2) (ha : a < 24) (hj : j < 62) (B : LB N a) (hm : 0 ≤ m ∧ m ≤ 70) (hb : 0 ≤ N 6 p 4 ∧ N 6 p 4 ≤ 1) (k : ∀ N', UpdL N N' a j (vLate m (N 2 a)) (wLate (N 6 p 4) (N 2 a)) → K N') : C_X6_fallLate G p a m j N K := by
  have B' := B
  obtain ⟨b0, b1, b2, b3, b4, b5, b6, b7, b8, b9, b10, b11, b12, b13, b14, b15⟩ := B
  refine vc_X6_fallLate hp ha hj (s_interest ha B' ?_)
  have hi := iS_rng b2 b3 b4 b5
  intro M2 e2 M3 e3
  have f : ∀ c i k, ¬ (c = 2 ∧ i = a) → M3 c i k = N c i k := by
    intro c i k h
    subst e2; subst e3
    simp only [up3]
    repeat rw [if_neg (by omega)]
  have g : ∀ k, M3 2 a k = if k = 5 then 1 else if k = 4 then N 2 a 4 + iS (N 2 a 1) (N 2 a 2) else N 2 a k := by
    intro k
    subst e2; subst e3
    simp [up3]
  have B3 : ∀ b, (b = 0 ∨ b = 1) → wI b = b := fun b h => wI_id (by omega) (by omega)
  have L3 : N 2 a 3 = M3 2 a 3 := by rw [g]; simp
  refine vcr_isLast ha (by rw [← L3]; omega) hm ?_
  rw [← L3]
  have e6 : M3 6 p 4 = N 6 p 4 := f _ _ _ (by omega)
  by_cases h : N 2 a 3 ≤ m
  · rw [bI_t h, wlitI (by decide) (by decide)]
    refine ⟨fun q => absurd q (by decide), fun _ M6 e6' => ?_⟩
    have e7 : M6 6 p 4 = N 6 p 4 := by rw [e6']; simp only [up3]; rw [if_neg (by omega), e6]
    rw [e7, wI_id (by omega) (by omega)]
    refine ⟨fun q => k _ ?_, fun q M7 e8 => k _ ?_⟩
    · refine ⟨k8 ?_ ?_ ?_ ?_ ?_ ?_ ?_ ?_, ⟨?_, ?_, ?_, ?_, ?_⟩, ?_, ?_⟩
      all_goals try (subst e6'; simp [up3, vLate, wLate, g, f, h, q]; done)
      · intro c i k h1 h2 h3
        subst e6'
        simp only [up3]
        rw [if_neg (by omega), f _ _ _ h1]
    · refine ⟨k8 ?_ ?_ ?_ ?_ ?_ ?_ ?_ ?_, ⟨?_, ?_, ?_, ?_, ?_⟩, ?_, ?_⟩
      all_goals try (subst e8; subst e6'; simp [up3, vLate, wLate, g, f, h, q]; done)
      · intro c i k h1 h2 h3
        subst e8; subst e6'
        simp only [up3]
        rw [if_neg (by omega), if_neg (by omega), f _ _ _ h1]
      · intro k h0 h1 h2 h3 h8
        subst e8; subst e6'
        simp only [up3]
        rw [if_neg (by omega), if_neg (by omega), f _ _ _ (by omega)]
  · rw [bI_f h, wlitI (by decide) (by decide), e6, wI_id (x := N 6 p 4) (by omega) (by omega)]
    refine ⟨fun _ => ⟨fun q => k _ ?_, fun q M7 e8 => k _ ?_⟩, fun q => absurd rfl q⟩
    · refine ⟨k8 ?_ ?_ ?_ ?_ ?_ ?_ ?_ ?_, ⟨?_, ?_, ?_, ?_, ?_⟩, ?_, ?_⟩
      all_goals try (simp [vLate, wLate, g, f, h, q]; done)
      · intro c i k h1 h2 h3
        exact f _ _ _ h1
    · refine ⟨k8 ?_ ?_ ?_ ?_ ?_ ?_ ?_ ?_, ⟨?_, ?_, ?_, ?_, ?_⟩, ?_, ?_⟩
      all_goals try (subst e8; simp [up3, vLate, wLate, g, f, h, q]; done)
      · intro c i k h1 h2 h3
        subst e8
        simp only [up3]
        rw [if_neg (by omega), f _ _ _ h1]
      · intro k h0 h1 h2 h3 h8
        subst e8
        simp only [up3]
        rw [if_neg (by omega), f _ _ _ (by omega)]
theorem LB_of {M : NN} (B : LB N a) (h0 : M 2 a 0 = N 2 a 0) (h1 : M 2 a 1 = N 2 a 1) (h2 : M 2 a 2 = N 2 a 2) (h3 : M 2 a 3 = N 2 a 3) (h4 : 0 ≤ M 2 a 4 ∧ M 2 a 4 ≤ 5000000) (h5 : 0 ≤ M 2 a 5 ∧ M 2 a 5 ≤ 6) (h6 : M 2 a 6 = N 2 a 6) (h7 : M 2 a 7 = N 2 a 7) : LB M a := by
  unfold LB at *
  omega
theorem s_payMonth {m : Int} (ha : a < 24) (hj : j < 62) (B : LB N a) (hm : 0 ≤ m ∧ m ≤ 70) (k : ∀ N', UpdL N N' a j (vMon m (N 2 a)) (wMon m (N 2 a)) → K N') : C_X6_payMonth G a m j N K := by
  have B' := B
  obtain ⟨b0, b1, b2, b3, b4, b5, b6, b7, b8, b9, b10, b11, b12, b13, b14, b15⟩ := B
  refine vc_X6_payMonth ha hj (s_interest ha B' ?_)
  intro M2 e2 M3 e3
  have f : ∀ c i k, ¬ (c = 2 ∧ i = a) → ¬ (c = 3 ∧ i = j) → M3 c i k = N c i k := by
    intro c i k h h2
    subst e2; subst e3
    simp only [up3]
    repeat rw [if_neg (by omega)]
  have fj : ∀ k, M3 3 j k = if k = 0 then N 3 j 0 + N 2 a 4 else N 3 j k := by
    intro k
    subst e2; subst e3
    simp [up3]
  have g : ∀ k, M3 2 a k = if k = 4 then 0 else N 2 a k := by
    intro k
    subst e2; subst e3
    simp [up3]
  refine vcr_isLast ha (by rw [g]; simp; omega) hm ?_
  have L3 : M3 2 a 3 = N 2 a 3 := by rw [g]; simp
  rw [L3]
  have both : ∀ (s : Int) (M5 : NN), M5 = up3 M3 2 a 5 s → 0 ≤ s ∧ s ≤ 6 → (∀ k, M5 2 a k = if k = 5 then s else if k = 4 then 0 else N 2 a k) ∧ LB M5 a ∧ (∀ c i k, ¬ (c = 2 ∧ i = a) → M5 c i k = M3 c i k) := by
    intro s M5 e5 hs
    have g5 : ∀ k, M5 2 a k = if k = 5 then s else if k = 4 then 0 else N 2 a k := by
      intro k
      subst e5
      simp [up3, g]
    refine ⟨g5, LB_of B' ?_ ?_ ?_ ?_ ?_ ?_ ?_ ?_, ?_⟩
    all_goals try (simp [g5]; done)
    · simp [g5]; exact hs
    · intro c i k h
      subst e5
      simp only [up3]
      rw [if_neg (by omega)]
  by_cases h : N 2 a 3 ≤ m
  · rw [bI_t h, wlitI (by decide) (by decide)]
    refine ⟨fun q => absurd q (by decide), fun _ M5 e5 => ?_⟩
    obtain ⟨g5, B5, f5⟩ := both 5 M5 e5 (by decide)
    refine s_rests ha B5 hm ?_
    have hf : ¬ (M5 2 a 0 = 4 ∧ m % 6 = 0 ∧ m < M5 2 a 3) := by simp [g5]; omega
    have hf2 : ¬ freeB m (N 2 a) = true := by rw [freeB_iff]; omega
    rw [bI_f hf, wlitI (by decide) (by decide)]
    refine ⟨fun _ => s_principal ha B5 hm ?_, fun q => absurd rfl q⟩
    have ep : pS (M5 2 a 0) (M5 2 a 1) (M5 2 a 2) (M5 2 a 3) (M5 2 a 6) m = pS (N 2 a 0) (N 2 a 1) (N 2 a 2) (N 2 a 3) (N 2 a 6) m := by simp [g5]
    rw [ep]
    intro M8 e8 M9 e9 M10 e10
    apply k
    subst e8; subst e9; subst e10
    refine ⟨k8 ?_ ?_ ?_ ?_ ?_ ?_ ?_ ?_, ⟨?_, ?_, ?_, ?_, ?_⟩, ?_, ?_⟩
    all_goals try (simp [up3, vMon, wMon, g5, f5, fj, h, hf2]; done)
    · simp [up3, vMon, wMon, g5, f5, fj, h, hf2]; omega
    · intro c i k h1 h2 h3
      simp only [up3]
      rw [if_neg (by omega), if_neg (by omega), if_neg (by omega), f5 _ _ _ h1, f _ _ _ h1 h2]
    · intro k h0 h1 h2 h3 h8
      simp only [up3]
      rw [if_neg (by omega), if_neg (by omega), if_neg (by omega), f5 _ _ _ (by omega), fj, if_neg h0]
  · rw [bI_f h, wlitI (by decide) (by decide)]
    refine ⟨fun _ M5 e5 => ?_, fun q => absurd rfl q⟩
    obtain ⟨g5, B5, f5⟩ := both 0 M5 e5 (by decide)
    refine s_rests ha B5 hm ?_
    by_cases hf2 : freeB m (N 2 a) = true
    · have hf : (M5 2 a 0 = 4 ∧ m % 6 = 0 ∧ m < M5 2 a 3) := by simp [g5]; exact freeB_iff.mp hf2
      rw [bI_t hf, wlitI (by decide) (by decide)]
      refine ⟨fun q => absurd q (by decide), fun _ M11 e11 => ?_⟩
      apply k
      subst e11
      refine ⟨k8 ?_ ?_ ?_ ?_ ?_ ?_ ?_ ?_, ⟨?_, ?_, ?_, ?_, ?_⟩, ?_, ?_⟩
      all_goals try (simp [up3, vMon, wMon, g5, f5, fj, h, hf2]; done)
      · intro c i k h1 h2 h3
        simp only [up3]
        rw [if_neg (by omega), f5 _ _ _ h1, f _ _ _ h1 h2]
      · intro k h0 h1 h2 h3 h8
        simp only [up3]
        rw [if_neg (by omega), f5 _ _ _ (by omega), fj, if_neg h0]
    · have hf : ¬ (M5 2 a 0 = 4 ∧ m % 6 = 0 ∧ m < M5 2 a 3) := by simp [g5]; rw [freeB_iff] at hf2; omega
      rw [bI_f hf, wlitI (by decide) (by decide)]
      refine ⟨fun _ => s_principal ha B5 hm ?_, fun q => absurd rfl q⟩
      have ep : pS (M5 2 a 0) (M5 2 a 1) (M5 2 a 2) (M5 2 a 3) (M5 2 a 6) m = pS (N 2 a 0) (N 2 a 1) (N 2 a 2) (N 2 a 3) (N 2 a 6) m := by simp [g5]
      rw [ep]
      intro M8 e8 M9 e9 M10 e10
      apply k
      subst e8; subst e9; subst e10
      refine ⟨k8 ?_ ?_ ?_ ?_ ?_ ?_ ?_ ?_, ⟨?_, ?_, ?_, ?_, ?_⟩, ?_, ?_⟩
      all_goals try (simp [up3, vMon, wMon, g5, f5, fj, h, hf2]; done)
      · simp [up3, vMon, wMon, g5, f5, fj, h, hf2]; omega
      · intro c i k h1 h2 h3
        simp only [up3]
        rw [if_neg (by omega), if_neg (by omega), if_neg (by omega), f5 _ _ _ h1, f _ _ _ h1 h2]
      · intro k h0 h1 h2 h3 h8
        simp only [up3]
        rw [if_neg (by omega), if_neg (by omega), if_neg (by omega), f5 _ _ _ (by omega), fj, if_neg h0]
/-- a month begins -/
def vBeg (m : Int) (v : Nat → Int) : Nat → Int := fun k => if k = 2 then bgR (v 0) (v 2) (v 5) m else if k = 6 then bgP (v 0) (v 1) (v 2) (v 3) (v 5) (v 6) m else v k
theorem vBeg_0 {m : Int} {v : Nat → Int} (h1 : ¬ (m = 13 ∧ (v 0 = 2 ∨ v 0 = 4) ∧ (v 5 = 0 ∨ v 5 = 1))) (h2 : ¬ (m = 1 ∧ (v 0 = 1 ∨ v 0 = 2 ∨ v 0 = 4))) (k : Nat) : vBeg m v k = v k := by
  unfold vBeg bgR bgP
  rw [if_neg h1, if_neg h1, if_neg h2]
  by_cases e : k = 2
  · rw [if_pos e, e]
  · rw [if_neg e]
    by_cases e6 : k = 6
    · rw [if_pos e6, e6]
    · rw [if_neg e6]
theorem vBeg_13 {m : Int} {v : Nat → Int} (h1 : m = 13 ∧ (v 0 = 2 ∨ v 0 = 4) ∧ (v 5 = 0 ∨ v 5 = 1)) (k : Nat) : vBeg m v k = if k = 2 then min 200 (2 * v 2) else if k = 6 then payS (min 200 (2 * v 2)) (v 1) (v 3 + 1 - m).toNat 64 0 (v 1 + iS (v 1) (min 200 (2 * v 2))) else v k := by
  unfold vBeg bgR bgP
  rw [if_pos h1, if_pos h1]
theorem vBeg_1 {m : Int} {v : Nat → Int} (h2 : m = 1 ∧ (v 0 = 1 ∨ v 0 = 2 ∨ v 0 = 4)) (k : Nat) : vBeg m v k = if k = 6 then payS (v 2) (v 1) (v 3 + 1 - m).toNat 64 0 (v 1 + iS (v 1) (v 2)) else v k := by
  unfold vBeg bgR bgP
  have h1 : ¬ (m = 13 ∧ (v 0 = 2 ∨ v 0 = 4) ∧ (v 5 = 0 ∨ v 5 = 1)) := by omega
  rw [if_neg h1, if_neg h1, if_pos h2]
  by_cases e : k = 2
  · rw [if_pos e, e, if_neg (by decide)]
  · rw [if_neg e]
theorem payS_rng {r b : Int} {n : Nat} : ∀ (f : Nat) (lo hi : Int), lo ≤ hi → lo ≤ payS r b n f lo hi ∧ payS r b n f lo hi ≤ hi := by
  intro f
  induction f with
  | zero => intro lo hi h; exact ⟨h, Int.le_refl _⟩
  | succ f ih =>
    intro lo hi h
    unfold payS
    split
    · exact ⟨h, Int.le_refl _⟩
    · split
      · have := ih lo ((lo + hi) / 2) (by omega); omega
      · have := ih ((lo + hi) / 2 + 1) hi (by omega); omega
theorem s_begin {m : Int} (ha : a < 24) (B : LB N a) (hm : 1 ≤ m ∧ m ≤ 60) (hk : N 2 a 5 = 0 ∨ N 2 a 5 = 1 → m ≤ N 2 a 3) (hk1 : m = 1 → 1 ≤ N 2 a 3) (k : ∀ N', (∀ k, N' 2 a k = vBeg m (N 2 a) k) → (∀ c i k, ¬ (c = 2 ∧ i = a) → N' c i k = N c i k) → K N') : C_X2_begin G a m N K := by
  have B' := B
  obtain ⟨b0, b1, b2, b3, b4, b5, b6, b7, b8, b9, b10, b11, b12, b13, b14, b15⟩ := B
  refine vc_X2_begin ha ?_
  rw [wI_id (x := m) (by omega) (by omega)]
  refine ⟨fun q => ⟨fun q2 => k _ ?_ (fun _ _ _ _ => rfl), fun q2 => s_isKind ha B' (by decide) ?_⟩, fun q => s_isKind ha B' (by decide) ?_⟩
  · exact fun i => (vBeg_0 (by omega) (by omega) i).symm
  · rw [kS_2 b0 b1]
    by_cases h : N 2 a 0 = 2 ∨ N 2 a 0 = 4
    · rw [bI_t h, wlitI (by decide) (by decide)]
      refine ⟨fun q => absurd q (by decide), fun _ => s_goesOn ha B' ?_⟩
      by_cases h5 : N 2 a 5 = 0 ∨ N 2 a 5 = 1
      · rw [bI_t h5, wlitI (by decide) (by decide)]
        refine ⟨fun q => absurd q (by decide), fun _ M3 e3 => ?_⟩
        have hm13 : m = 13 := by omega
        have hmo := hk h5
        rw [wI_id (x := 2 * N 2 a 2) (by omega) (by omega)] at e3
        have g : ∀ k, M3 2 a k = if k = 2 then min 200 (2 * N 2 a 2) else N 2 a k := by
          intro k
          subst e3
          simp [up3]
        have B3 : LB M3 a := by
          unfold LB
          simp [g]
          omega
        refine s_findPay (left := (N 2 a 3 + 1 - m).toNat) ha B3 (by omega) (by rw [g]; simp; omega) ?_
        apply k
        · intro i
          have e : up3 M3 2 a 6 (payS (M3 2 a 2) (M3 2 a 1) (N 2 a 3 + 1 - m).toNat 64 0 (M3 2 a 1 + iS (M3 2 a 1) (M3 2 a 2))) 2 a i = if i = 6 then payS (min 200 (2 * N 2 a 2)) (N 2 a 1) (N 2 a 3 + 1 - m).toNat 64 0 (N 2 a 1 + iS (N 2 a 1) (min 200 (2 * N 2 a 2))) else if i = 2 then min 200 (2 * N 2 a 2) else N 2 a i := by
            simp [up3, g]
          rw [e, vBeg_13 ⟨hm13, h, h5⟩]
          by_cases i6 : i = 6
          · subst i6; simp
          · by_cases i2 : i = 2
            · subst i2; simp
            · simp [i6, i2]
        · intro c i k h1
          subst e3
          simp only [up3]
          repeat rw [if_neg (by omega)]
      · rw [bI_f h5, wlitI (by decide) (by decide)]
        refine ⟨fun _ => k _ ?_ (fun _ _ _ _ => rfl), fun q => absurd rfl q⟩
        exact fun i => (vBeg_0 (by omega) (by omega) i).symm
    · rw [bI_f h, wlitI (by decide) (by decide)]
      refine ⟨fun _ => k _ ?_ (fun _ _ _ _ => rfl), fun q => absurd rfl q⟩
      exact fun i => (vBeg_0 (by omega) (by omega) i).symm
  · have hm1 : m = 1 := by omega
    have hmo := hk1 hm1
    rw [kS_1 b0 b1]
    by_cases h : N 2 a 0 = 1 ∨ N 2 a 0 = 2 ∨ N 2 a 0 = 4
    · rw [bI_t h, wlitI (by decide) (by decide)]
      refine ⟨fun q => absurd q (by decide), fun _ => s_findPay (left := (N 2 a 3 + 1 - m).toNat) ha B' (by omega) (by omega) ⟨fun _ => k _ ?_ ?_, fun q => absurd (by omega) q⟩⟩
      · intro i
        rw [vBeg_1 ⟨hm1, h⟩]
        by_cases i6 : i = 6
        · subst i6; simp [up3]
        · simp [up3, i6]
      · intro c i k h1
        simp only [up3]
        rw [if_neg (by omega)]
    · rw [bI_f h, wlitI (by decide) (by decide)]
      refine ⟨fun _ => ⟨fun _ => k _ ?_ (fun _ _ _ _ => rfl), fun q => absurd (by omega) q⟩, fun q => absurd rfl q⟩
      exact fun i => (vBeg_0 (by omega) (by omega) i).symm
end PN
