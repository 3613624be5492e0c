/-! the class's loans: what each method answers and does -/
theorem mul_rng {a b A B : Int} (h1 : 0 ≤ a) (h2 : a ≤ A) (h3 : 0 ≤ b) (h4 : b ≤ B) : 0 ≤ a * b ∧ a * b ≤ A * B :=
  ⟨Int.mul_nonneg h1 h3, Int.le_trans (Int.mul_le_mul_of_nonneg_right h2 h3) (Int.mul_le_mul_of_nonneg_left h4 (Int.le_trans h1 h2))⟩
theorem td_n {a b : Int} (h : 0 ≤ a) : a.tdiv b = a / b := Int.tdiv_eq_ediv_of_nonneg h
theorem tm_n {a b : Int} (h : 0 ≤ a) : a.tmod b = a % b := Int.tmod_eq_emod_of_nonneg h
def LB (N : NN) (a : Nat) : Prop := 0 ≤ N 2 a 0 ∧ N 2 a 0 ≤ 5 ∧ 0 ≤ N 2 a 1 ∧ N 2 a 1 ≤ 4000000 ∧ 0 ≤ N 2 a 2 ∧ N 2 a 2 ≤ 200 ∧ 0 ≤ N 2 a 3 ∧ N 2 a 3 ≤ 70 ∧ 0 ≤ N 2 a 4 ∧ N 2 a 4 ≤ 5000000 ∧ 0 ≤ N 2 a 5 ∧ N 2 a 5 ≤ 6 ∧ 0 ≤ N 2 a 6 ∧ N 2 a 6 ≤ 5000000 ∧ 0 ≤ N 2 a 7 ∧ N 2 a 7 ≤ 60
def bI (p : Prop) [Decidable p] : Int := if p then 1 else 0
theorem bI_t {p : Prop} [Decidable p] (h : p) : bI p = 1 := if_pos h
theorem bI_f {p : Prop} [Decidable p] (h : ¬ p) : bI p = 0 := if_neg h
/-- interest -/
def iS (b r : Int) : Int := b * r / 10000
theorem iS_rng {b r : Int} (h1 : 0 ≤ b) (h2 : b ≤ 4000000) (h3 : 0 ≤ r) (h4 : r ≤ 200) : 0 ≤ iS b r ∧ iS b r ≤ 80000 := by
  have := mul_rng h1 h2 h3 h4
  unfold iS
  omega
theorem iS_eq {b r : Int} (h1 : 0 ≤ b) (h2 : b ≤ 4000000) (h3 : 0 ≤ r) (h4 : r ≤ 200) : (wL (b * (wI r))).tdiv 10000 = iS b r := by
  have := mul_rng h1 h2 h3 h4
  rw [wI_id (x := r) (by omega) (by omega), wL_id (by omega) (by omega), td_n (by omega)]
  rfl
section LN
variable {G : GT} {a : Nat} {N : NN}
theorem s_interest {K : Int → NN → Prop} (ha : a < 24) (B : LB N a) (k : K (iS (N 2 a 1) (N 2 a 2)) N) : C_X2_interest G a N K := by
  obtain ⟨b0, b1, b2, b3, b4, b5, -⟩ := B
  refine vc_X2_interest ha ?_
  rw [iS_eq b2 b3 b4 b5]
  exact k
theorem s_goesOn {K : Int → NN → Prop} (ha : a < 24) (B : LB N a) (k : K (bI (N 2 a 5 = 0 ∨ N 2 a 5 = 1)) N) : C_X2_goesOn G a N K := by
  obtain ⟨b0, b1, b2, b3, b4, b5, b6, b7, b8, b9, b10, b11, -⟩ := B
  refine vc_X2_goesOn ha ?_
  rw [wI_id (by omega) (by omega)]
  refine ⟨fun q => ?_, fun q => ⟨fun q2 => ?_, fun q2 => ?_⟩⟩
  · rwa [bI_t (by omega)] at k
  · rwa [bI_f (by omega)] at k
  · rwa [bI_t (by omega)] at k
theorem s_isPooled {K : Int → NN → Prop} (ha : a < 24) (B : LB N a) (k : K (bI (N 2 a 5 = 0 ∨ N 2 a 5 = 1 ∨ N 2 a 5 = 3)) N) : C_X2_isPooled G a N K := by
  refine vc_X2_isPooled ha (s_goesOn ha B ?_)
  obtain ⟨b0, b1, b2, b3, b4, b5, b6, b7, b8, b9, b10, b11, -⟩ := B
  rw [wI_id (x := N 2 a 5) (by omega) (by omega)]
  by_cases h : N 2 a 5 = 0 ∨ N 2 a 5 = 1
  · rw [bI_t h, wlitI (by decide) (by decide)]
    rw [bI_t (by omega)] at k
    exact ⟨fun _ => k, fun q => absurd (by decide) q⟩
  · rw [bI_f h, wlitI (by decide) (by decide)]
    refine ⟨fun q => absurd rfl q, fun _ => ⟨fun q => ?_, fun q => ?_⟩⟩
    · rwa [bI_f (by omega)] at k
    · rwa [bI_t (by omega)] at k
theorem s_isSoldIn {K : Int → NN → Prop} {m : Int} (ha : a < 24) (B : LB N a) (hm : 0 ≤ m ∧ m ≤ 70) (k : K (bI (N 2 a 5 = 3 ∧ N 2 a 7 + 3 ≤ m)) N) : C_X2_isSoldIn G a m N K := by
  obtain ⟨b0, b1, b2, b3, b4, b5, b6, b7, b8, b9, b10, b11, b12, b13, b14, b15⟩ := B
  refine vc_X2_isSoldIn ha ?_
  rw [wI_id (x := N 2 a 5) (by omega) (by omega), wI_id (x := m) (by omega) (by omega), wI_id (x := N 2 a 7 + 3) (by omega) (by omega)]
  refine ⟨fun q => ?_, fun q => ⟨fun q2 => ?_, fun q2 => ?_⟩⟩
  · rwa [bI_f (by omega)] at k
  · rwa [bI_f (by omega)] at k
  · rwa [bI_t (by omega)] at k
theorem s_left {K : Int → NN → Prop} {m : Int} (ha : a < 24) (k : K (N 2 a 3 + 1 - m) N) : C_X2_left G a m N K := vc_X2_left ha k
theorem s_isLast {K : Int → NN → Prop} {m : Int} (ha : a < 24) (B : LB N a) (hm : 0 ≤ m ∧ m ≤ 70) (k : K (bI (N 2 a 3 ≤ m)) N) : C_X2_isLast G a m N K := by
  obtain ⟨b0, b1, b2, b3, b4, b5, b6, b7, b8, b9, b10, b11, b12, b13, b14, b15⟩ := B
  refine vc_X2_isLast ha ?_
  rw [wI_id (x := N 2 a 3) (by omega) (by omega), wI_id (x := m) (by omega) (by omega)]
  refine ⟨fun q => ?_, fun q => ?_⟩
  · rwa [bI_f (by omega)] at k
  · rwa [bI_t (by omega)] at k
theorem vcr_isLast {K : Int → NN → Prop} {m : Int} (ha : a < 24) (hb : 0 ≤ N 2 a 3 ∧ N 2 a 3 ≤ 70) (hm : 0 ≤ m ∧ m ≤ 70) (k : K (bI (N 2 a 3 ≤ m)) N) : C_X2_isLast G a m N K := by
  refine vc_X2_isLast ha ?_
  rw [wI_id (x := N 2 a 3) (by omega) (by omega), wI_id (x := m) (by omega) (by omega)]
  refine ⟨fun q => ?_, fun q => ?_⟩
  · rwa [bI_f (by omega)] at k
  · rwa [bI_t (by omega)] at k
theorem s_rests {K : Int → NN → Prop} {m : Int} (ha : a < 24) (B : LB N a) (hm : 0 ≤ m ∧ m ≤ 70) (k : K (bI (N 2 a 0 = 4 ∧ m % 6 = 0 ∧ m < N 2 a 3)) N) : C_X2_rests G a m N K := by
  refine vc_X2_rests ha ?_
  have B' := B
  obtain ⟨b0, b1, b2, b3, b4, b5, b6, b7, b8, b9, b10, b11, b12, b13, b14, b15⟩ := B
  rw [wI_id (x := N 2 a 0) (by omega) (by omega), wI_id (x := m) (by omega) (by omega), tm_n (by omega), wI_id (x := m % 6) (by omega) (by omega)]
  refine ⟨fun q => ?_, fun q => ⟨fun q2 => ?_, fun q2 => s_isLast ha B' hm ?_⟩⟩
  · rwa [bI_f (by omega)] at k
  · rwa [bI_f (by omega)] at k
  · by_cases h : N 2 a 3 ≤ m
    · rw [bI_t h, wlitI (by decide) (by decide)]
      rw [bI_f (by omega)] at k
      exact ⟨fun _ => k, fun q => absurd (by decide) q⟩
    · rw [bI_f h, wlitI (by decide) (by decide)]
      rw [bI_t (by omega)] at k
      exact ⟨fun q => absurd rfl q, fun _ => k⟩
/-- the kinds under which a kind stands -/
def kS : Nat → Int → Int → Int
  | 0, _, _ => 0
  | f + 1, x, k => if x < 0 ∨ 6 ≤ x then 0 else if x = k then 1 else kS f (above x.toNat) k
theorem s_isKind {K : Int → NN → Prop} {m : Int} (ha : a < 24) (B : LB N a) (hm : 0 ≤ m ∧ m ≤ 5) (k : K (kS 6 (N 2 a 0) m) N) : C_X2_isKind G a m N K := by
  refine vc_X2_isKind ha ?_
  have key : ∀ (f : Nat) (x i : Int), i + f = 6 → 0 ≤ i → -1 ≤ x → x ≤ 5 → K (kS f x m) N → W_X2_isKind G K 7 [(1, vI m), (2, vI x), (3, vI i)] [] N := by
    intro f
    induction f with
    | zero =>
      intro x i h1 h2 h3 h4 hk
      refine vc_X2_isKind_7 ?_
      rw [wI_id (x := i) (by omega) (by omega)]
      exact ⟨fun _ => hk, fun q => absurd (by omega) q⟩
    | succ f ih =>
      intro x i h1 h2 h3 h4 hk
      refine vc_X2_isKind_7 ?_
      rw [wI_id (x := i) (by omega) (by omega), wI_id (x := x) (by omega) (by omega), wI_id (x := m) (by omega) (by omega)]
      unfold kS at hk
      refine ⟨fun q => by omega, fun q => ⟨fun q2 => ?_, fun q2 => ⟨fun q3 => by omega, fun q3 => ⟨fun q4 => ?_, fun q4 => ?_⟩⟩⟩⟩
      · rwa [if_pos (Or.inl q2)] at hk
      · rw [if_neg (by omega), if_neg q4] at hk
        refine ⟨x.toNat, by omega, by omega, ih _ _ (by omega) (by omega) ?_ ?_ hk⟩
        · have : ∀ j, j < 6 → -1 ≤ above j := by decide +kernel
          exact this _ (by omega)
        · have : ∀ j, j < 6 → above j ≤ 5 := by decide +kernel
          exact this _ (by omega)
      · rwa [if_neg (by omega), if_pos (by omega)] at hk
  exact key 6 _ 0 (by decide) (by decide) (by have := B.1; omega) B.2.1 k
/-- what is left of a balance behind n months, paid so each month -/
def restS (pay r : Int) : Nat → Int → Int
  | 0, b => b
  | n + 1, b => restS pay r n (b - min b (max 0 (pay - iS b r)))
theorem restS_rng {pay r : Int} (hr : 0 ≤ r) : ∀ (n : Nat) (b : Int), 0 ≤ b → 0 ≤ restS pay r n b ∧ restS pay r n b ≤ b
  | 0, b, h => ⟨h, Int.le_refl _⟩
  | n + 1, b, h => by
    have := restS_rng (pay := pay) hr n (b - min b (max 0 (pay - iS b r))) (by omega)
    unfold restS
    omega
theorem s_wouldEnd {K : Int → NN → Prop} {pay : Int} {left : Nat} (ha : a < 24) (B : LB N a) (hp : 0 ≤ pay ∧ pay ≤ 10000000) (hl : left ≤ 100) (k : K (bI (restS pay (N 2 a 2) left (N 2 a 1) = 0)) N) : C_X2_wouldEnd G a pay (left : Int) N K := by
  refine vc_X2_wouldEnd ha ?_
  obtain ⟨b0, b1, b2, b3, b4, b5, -⟩ := B
  have key : ∀ (f : Nat) (b i : Int), i + f = left → 0 ≤ i → 0 ≤ b → b ≤ 4000000 → K (bI (restS pay (N 2 a 2) f b = 0)) N → W_X2_wouldEnd G K 9 [(0, vR 2 a), (1, vL pay), (3, vI left), (4, vL b), (6, vI i)] [] N := by
    intro f
    induction f with
    | zero =>
      intro b i h1 h2 h3 h4 hk
      refine vc_X2_wouldEnd_9 ha ?_
      rw [wI_id (x := i) (by omega) (by omega), wI_id (x := (left : Int)) (by omega) (by omega), wL_id (x := b) (by omega) (by omega)]
      refine ⟨fun _ => ⟨fun q => ?_, fun q => ?_⟩, fun q => absurd (by omega) q⟩
      · rwa [bI_f (by unfold restS; omega)] at hk
      · rwa [bI_t (by unfold restS; omega)] at hk
    | succ f ih =>
      intro b i h1 h2 h3 h4 hk
      refine vc_X2_wouldEnd_9 ha ?_
      have hi := iS_rng h3 h4 b4 b5
      rw [wI_id (x := i) (by omega) (by omega), wI_id (x := (left : Int)) (by omega) (by omega), iS_eq h3 h4 b4 b5, wL_id (x := b) (by omega) (by omega), wL_id (x := pay - iS b (N 2 a 2)) (by omega) (by omega), wL_id (x := max 0 (pay - iS b (N 2 a 2))) (by omega) (by omega)]
      refine ⟨fun q => by omega, fun _ => ih _ _ (by omega) (by omega) (by omega) (by omega) ?_⟩
      unfold restS at hk
      exact hk
  exact key left _ 0 (by omega) (by decide) b2 b3 k
/-- the least that ends it -/
def payS (r b : Int) (n : Nat) : Nat → Int → Int → Int
  | 0, _, hi => hi
  | f + 1, lo, hi => if hi ≤ lo then hi else if restS ((lo + hi) / 2) r n b = 0 then payS r b n f lo ((lo + hi) / 2) else payS r b n f ((lo + hi) / 2 + 1) hi
theorem s_findPay {K : NN → Prop} {m : Int} {left : Nat} (ha : a < 24) (B : LB N a) (hm : 0 ≤ m ∧ m ≤ 70) (hl : N 2 a 3 + 1 - m = left) (k : K (up3 N 2 a 6 (payS (N 2 a 2) (N 2 a 1) left 64 0 (N 2 a 1 + iS (N 2 a 1) (N 2 a 2))))) : C_X2_findPay G a m N K := by
  have B' := B
  obtain ⟨b0, b1, b2, b3, b4, b5, b6, b7, -⟩ := B
  have hi := iS_rng b2 b3 b4 b5
  refine vc_X2_findPay ha (s_interest ha B' ?_)
  have key : ∀ (f : Nat) (lo hi i : Int), i + f = 64 → 0 ≤ i → 0 ≤ lo → lo ≤ 4100001 → 0 ≤ hi → hi ≤ 4100000 → K (up3 N 2 a 6 (payS (N 2 a 2) (N 2 a 1) left f lo hi)) → W_X2_findPay G K 16 [(0, vR 2 a), (1, vI m), (2, vL lo), (4, vL hi), (6, vI i)] [] N := by
    intro f
    induction f with
    | zero =>
      intro lo hi i h1 h2 h3 h4 h5 h6 hk
      refine vc_X2_findPay_16 ha ?_
      rw [wI_id (x := i) (by omega) (by omega)]
      refine ⟨fun _ M e => by rw [e]; exact hk, fun q => absurd (by omega) q⟩
    | succ f ih =>
      intro lo hi i h1 h2 h3 h4 h5 h6 hk
      refine vc_X2_findPay_16 ha ?_
      unfold payS at hk
      rw [wI_id (x := i) (by omega) (by omega), wL_id (x := lo) (by omega) (by omega), wL_id (x := hi) (by omega) (by omega), wL_id (x := lo + hi) (by omega) (by omega), td_n (by omega)]
      refine ⟨fun q => by omega, fun _ => ⟨fun q M e => ?_, fun q => s_left ha ?_⟩⟩
      · rw [if_pos q] at hk
        rw [e]
        exact hk
      · rw [if_neg q] at hk
        rw [hl]
        refine s_wouldEnd ha B' (by omega) (by omega) ?_
        by_cases h : restS ((lo + hi) / 2) (N 2 a 2) left (N 2 a 1) = 0
        · rw [if_pos h] at hk
          rw [bI_t h, wlitI (by decide) (by decide)]
          exact ⟨fun q => absurd q (by decide), fun _ => ih _ _ _ (by omega) (by omega) h3 (by omega) (by omega) (by omega) hk⟩
        · rw [if_neg h] at hk
          rw [bI_f h, wlitI (by decide) (by decide)]
          exact ⟨fun _ => ih _ _ _ (by omega) (by omega) (by omega) (by omega) h5 h6 hk, fun q => absurd rfl q⟩
  exact key 64 0 _ 0 (by decide) (by decide) (by decide) (by decide) (by omega) (by omega) k
/-- principal -/
def pS (kd b r mo pay k : Int) : Int :=
  if mo ≤ k then b else if kd = 1 ∨ kd = 2 ∨ kd = 4 then min b (max 0 (pay - iS b r)) else if kd = 0 ∨ (kd = 5 ∧ 2 * mo < 3 * k) then (b + (mo + 1 - k) - 1) / (mo + 1 - k) else 0
theorem kS_1 {x : Int} (h1 : 0 ≤ x) (h2 : x ≤ 5) : kS 6 x 1 = bI (x = 1 ∨ x = 2 ∨ x = 4) := by
  rcases (by omega : x = 0 ∨ x = 1 ∨ x = 2 ∨ x = 3 ∨ x = 4 ∨ x = 5) with rfl | rfl | rfl | rfl | rfl | rfl <;> decide +kernel
theorem kS_2 {x : Int} (h1 : 0 ≤ x) (h2 : x ≤ 5) : kS 6 x 2 = bI (x = 2 ∨ x = 4) := by
  rcases (by omega : x = 0 ∨ x = 1 ∨ x = 2 ∨ x = 3 ∨ x = 4 ∨ x = 5) with rfl | rfl | rfl | rfl | rfl | rfl <;> decide +kernel
theorem s_principal {K : Int → NN → Prop} {m : Int} (ha : a < 24) (B : LB N a) (hm : 0 ≤ m ∧ m ≤ 70) (k : K (pS (N 2 a 0) (N 2 a 1) (N 2 a 2) (N 2 a 3) (N 2 a 6) m) N) : C_X2_principal G a m N K := by
  have B' := B
  obtain ⟨b0, b1, b2, b3, b4, b5, b6, b7, b8, b9, b10, b11, b12, b13, b14, b15⟩ := B
  have hi := iS_rng b2 b3 b4 b5
  refine vc_X2_principal ha (s_isLast ha B' hm ?_)
  unfold pS at k
  by_cases h : N 2 a 3 ≤ m
  · rw [if_pos h] at k
    rw [bI_t h, wlitI (by decide) (by decide)]
    exact ⟨fun q => absurd q (by decide), fun _ => k⟩
  · rw [if_neg h] at k
    rw [bI_f h, wlitI (by decide) (by decide)]
    refine ⟨fun _ => s_isKind ha B' (by decide) ?_, fun q => absurd rfl q⟩
    rw [kS_1 b0 b1]
    by_cases h1 : N 2 a 0 = 1 ∨ N 2 a 0 = 2 ∨ N 2 a 0 = 4
    · rw [if_pos h1] at k
      rw [bI_t h1, wlitI (by decide) (by decide)]
      refine ⟨fun q => absurd q (by decide), fun _ => s_interest ha B' ?_⟩
      rw [wL_id (x := N 2 a 1) (by omega) (by omega), wL_id (x := N 2 a 6 - iS (N 2 a 1) (N 2 a 2)) (by omega) (by omega), wL_id (x := max 0 (N 2 a 6 - iS (N 2 a 1) (N 2 a 2))) (by omega) (by omega)]
      exact k
    · rw [if_neg h1] at k
      have e3 : wI (N 2 a 3 + 1 - m) = N 2 a 3 + 1 - m := wI_id (by omega) (by omega)
      have e4 : wL (N 2 a 3 + 1 - m) = N 2 a 3 + 1 - m := wL_id (by omega) (by omega)
      have e5 : wL (N 2 a 1 + (N 2 a 3 + 1 - m) - 1) = N 2 a 1 + (N 2 a 3 + 1 - m) - 1 := wL_id (by omega) (by omega)
      rw [bI_f h1, wlitI (by decide) (by decide), wI_id (x := N 2 a 0) (by omega) (by omega), wI_id (x := 3 * m) (by omega) (by omega), wI_id (x := 2 * N 2 a 3) (by omega) (by omega)]
      refine ⟨fun _ => ⟨fun q => s_left ha ?_, fun q => ⟨fun q2 => s_left ha ?_, fun q2 => ⟨fun q3 => s_left ha ?_, fun q3 => s_left ha ?_⟩⟩⟩, fun q => absurd rfl q⟩
      · rw [if_pos (Or.inl q)] at k
        rw [e3, e4, e5, td_n (by omega)]
        exact ⟨fun q => by omega, fun _ => ⟨by omega, k⟩⟩
      · rwa [if_neg (by omega)] at k
      · rwa [if_neg (by omega)] at k
      · rw [if_pos (by omega)] at k
        rw [e3, e4, e5, td_n (by omega)]
        exact ⟨fun q => by omega, fun _ => ⟨by omega, k⟩⟩
/-- a month begins: kind, balance, rate, months, state, pay: the new rate and pay -/
def bgR (kd r st k : Int) : Int := if k = 13 ∧ (kd = 2 ∨ kd = 4) ∧ (st = 0 ∨ st = 1) then min 200 (2 * r) else r
def bgP (kd b r mo st pay k : Int) : Int :=
  if k = 13 ∧ (kd = 2 ∨ kd = 4) ∧ (st = 0 ∨ st = 1) then payS (min 200 (2 * r)) b (mo + 1 - k).toNat 64 0 (b + iS b (min 200 (2 * r)))
  else if k = 1 ∧ (kd = 1 ∨ kd = 2 ∨ kd = 4) then payS r b (mo + 1 - k).toNat 64 0 (b + iS b r) else pay
end LN
