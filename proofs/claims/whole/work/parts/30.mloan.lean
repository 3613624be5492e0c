/-! the reference's loans, told as the class's -/
def LV (N : NN) (l : Nat) : Nat → Int := fun k => if k < 8 then N (40 + k) 0 l else 0
def EqSc (N N' : NN) : Prop := ∀ c i k, ¬ (c = 10 ∧ i = 0 ∧ 30 ≤ k ∧ k ≤ 44) → N' c i k = N c i k
theorem EqSc.tr {N N' N'' : NN} (h1 : EqSc N N') (h2 : EqSc N' N'') : EqSc N N'' := fun c i k h => (h2 c i k h).trans (h1 c i k h)
theorem EqSc_LV {N N' : NN} (h : EqSc N N') (l : Nat) : LV N' l = LV N l := by
  funext k
  unfold LV
  by_cases e : k < 8
  · rw [if_pos e, if_pos e]
    exact h _ _ _ (by omega)
  · rw [if_neg e, if_neg e]
/-- what the reference's reading of a law comes to, for any picture with these texts -/
def VOKm (G : GT) (t : Nat) (tx : Nat → Int) (ts : Int) (lv : Nat → (Nat → Int) → Int → Int) : Prop :=
  t < 6 ∧ ∀ N : NN, N 10 0 27 = t → (∀ j, j < 160 → N 57 0 (160 * t + j) = tx j) → N 58 0 t = ts → ∀ part, part < 3 → ∀ l, l < 12 → LBv (LV N l) → ∀ m : Int, 1 ≤ m → m ≤ 61 → ∀ K : Int → NN → Prop, (∀ x N', wI x = lv part (LV N l) m → EqSc N N' → K x N') → C_X10_saysOf G (l : Int) m (part : Int) N K
def UpdM (N N' : NN) (l kk : Nat) (v w : Nat → Int) : Prop :=
  (∀ k, k < 8 → N' (40 + k) 0 l = v k) ∧ (N' 48 0 kk = N 48 0 kk + w 0 ∧ N' 49 0 kk = N 49 0 kk + w 1 ∧ N' 50 0 kk = N 50 0 kk + w 2 ∧ N' 51 0 kk = N 51 0 kk + w 3 ∧ N' 55 0 kk = N 55 0 kk + w 8) ∧
  (∀ c i k, ¬ (40 ≤ c ∧ c < 48 ∧ i = 0 ∧ k = l) → ¬ ((c = 48 ∨ c = 49 ∨ c = 50 ∨ c = 51 ∨ c = 55) ∧ i = 0 ∧ k = kk) → ¬ (c = 10 ∧ i = 0 ∧ 30 ≤ k ∧ k ≤ 44) → N' c i k = N c i k)
theorem UpdM_sc {N N' N'' : NN} {l kk : Nat} {v w : Nat → Int} (h : EqSc N N') (u : UpdM N' N'' l kk v w) : UpdM N N'' l kk v w := by
  obtain ⟨u1, u2, u3⟩ := u
  refine ⟨u1, ?_, fun c i k h1 h2 h3 => (u3 c i k h1 h2 h3).trans (h c i k h3)⟩
  rw [h 48 0 kk (by omega), h 49 0 kk (by omega), h 50 0 kk (by omega), h 51 0 kk (by omega), h 55 0 kk (by omega)] at u2
  exact u2
theorem restS_0 {pay r : Int} : ∀ n, restS pay r n 0 = 0
  | 0 => rfl
  | n + 1 => by
    unfold restS
    rw [show (0 : Int) - min 0 (max 0 (pay - iS 0 r)) = 0 by omega]
    exact restS_0 n
section MO
variable {G : GT} {N : NN} {l kk : Nat}
theorem s_mInterest {b r : Int} {K : Int → NN → Prop} (h1 : 0 ≤ b) (h2 : b ≤ 4000000) (h3 : 0 ≤ r) (h4 : r ≤ 200) (k : K (iS b r) N) : C_X10_interest G b r N K := by
  refine vc_X10_interest ?_
  have m := mul_rng h1 h2 h3 h4
  rw [wI_id (x := b * r) (by omega) (by omega), td_n m.1]
  exact k
theorem s_mLeftBy {b r pay : Int} {n : Nat} {K : Int → NN → Prop} (h1 : 0 ≤ b) (h2 : b ≤ 4000000) (h3 : 0 ≤ r) (h4 : r ≤ 200) (hp : 0 ≤ pay ∧ pay ≤ 10000000) (hn : n ≤ 100) (k : K (restS pay r n b) N) : C_X10_leftBy G b r (n : Int) pay N K := by
  refine vc_X10_leftBy ?_
  have key : ∀ (f : Nat) (b i : Int), i + f = n → 0 ≤ i → 0 ≤ b → b ≤ 4000000 → K (restS pay r f b) N → W_X10_leftBy G K 6 [(1, vI r), (2, vI n), (3, vI pay), (4, vI b), (5, vI i)] [] N := by
    intro f
    induction f with
    | zero =>
      intro b i h1 h2 h3 h4 hk
      refine vc_X10_leftBy_6 ?_
      rw [wI_id (x := i) (by omega) (by omega), wI_id (x := (n : Int)) (by omega) (by omega), wI_id (x := b) (by omega) (by omega)]
      exact ⟨fun _ => hk, fun q => absurd (by omega) q⟩
    | succ f ih =>
      intro b i e1 e2 e3 e4 hk
      refine vc_X10_leftBy_6 ?_
      have hi := iS_rng e3 e4 h3 h4
      rw [wI_id (x := i) (by omega) (by omega), wI_id (x := (n : Int)) (by omega) (by omega), wI_id (x := b) (by omega) (by omega)]
      refine ⟨fun q => by omega, fun _ => ⟨fun q => ?_, fun q => s_mInterest e3 e4 h3 h4 ?_⟩⟩
      · have : b = 0 := by omega
        rw [this, restS_0] at hk
        rw [this]
        exact hk
      · rw [wI_id (x := pay - iS b r) (by omega) (by omega)]
        unfold restS at hk
        refine ⟨fun q1 => ⟨fun q2 => ih _ _ (by omega) (by omega) (by omega) (by omega) ?_, fun q2 => ih _ _ (by omega) (by omega) (by omega) (by omega) ?_⟩, fun q1 => ⟨fun q2 => by omega, fun q2 => ih _ _ (by omega) (by omega) (by omega) (by omega) ?_⟩⟩
        · rwa [show b - min b (max 0 (pay - iS b r)) = b - b by omega] at hk
        · rwa [show b - min b (max 0 (pay - iS b r)) = b - (pay - iS b r) by omega] at hk
        · rwa [show b - min b (max 0 (pay - iS b r)) = b - 0 by omega] at hk
  exact key n b 0 (by omega) (by decide) h1 h2 k
theorem s_mPayFor {b r : Int} {n : Nat} {K : Int → NN → Prop} (h1 : 0 ≤ b) (h2 : b ≤ 4000000) (h3 : 0 ≤ r) (h4 : r ≤ 200) (hn : n ≤ 100) (k : K (payS r b n 64 0 (b + iS b r)) N) : C_X10_payFor G b r (n : Int) N K := by
  have hi := iS_rng h1 h2 h3 h4
  refine vc_X10_payFor (s_mInterest h1 h2 h3 h4 ?_)
  have key : ∀ (f : Nat) (lo hi : Int), 0 ≤ lo → lo ≤ hi → hi ≤ 4100000 → hi - lo < 2 ^ f → K (payS r b n f lo hi) N → W_X10_payFor G K 11 [(0, vI b), (1, vI r), (2, vI n), (3, vI lo), (4, vI hi)] [] N := by
    intro f
    induction f with
    | zero =>
      intro lo hi e1 e2 e3 e4 hk
      refine vc_X10_payFor_11 ?_
      rw [wI_id (x := lo) (by omega) (by omega), wI_id (x := hi) (by omega) (by omega)]
      have e : lo = hi := by
        have : (2 : Int) ^ 0 = 1 := rfl
        omega
      refine ⟨fun _ => ?_, fun q => by omega⟩
      rw [e]
      exact hk
    | succ f ih =>
      intro lo hi e1 e2 e3 e4 hk
      refine vc_X10_payFor_11 ?_
      rw [wI_id (x := lo) (by omega) (by omega), wI_id (x := hi) (by omega) (by omega), wI_id (x := lo + hi) (by omega) (by omega), td_n (by omega)]
      unfold payS at hk
      refine ⟨fun q => ?_, fun q => s_mLeftBy h1 h2 h3 h4 (by omega) hn ?_⟩
      · rw [if_pos q] at hk
        have : lo = hi := by omega
        rw [this]
        exact hk
      · rw [if_neg q] at hk
        have rr := restS_rng (pay := (lo + hi) / 2) h3 n b h1
        have p2 : (2 : Int) ^ (f + 1) = 2 * 2 ^ f := by rw [Int.pow_succ]; omega
        rw [p2] at e4
        rw [wI_id (x := restS ((lo + hi) / 2) r n b) (by omega) (by omega)]
        by_cases h : restS ((lo + hi) / 2) r n b = 0
        · rw [if_pos h] at hk
          exact ⟨fun q2 => absurd h q2, fun _ => ih _ _ (by omega) (by omega) (by omega) (by omega) hk⟩
        · rw [if_neg h] at hk
          exact ⟨fun _ => ih _ _ (by omega) (by omega) (by omega) (by omega) hk, fun q2 => absurd q2 (fun x => x h)⟩
  exact key 64 0 _ (by decide) (by omega) (by omega) (by have : (2 : Int) ^ 64 = 18446744073709551616 := rfl; omega) k
theorem s_mIsFixed {a : Int} {K : Int → NN → Prop} (ha : 0 ≤ a ∧ a ≤ 5) (k : K (bI (a = 1 ∨ a = 2 ∨ a = 4)) N) : C_X10_isFixed G a N K := by
  refine vc_X10_isFixed ?_
  rw [wI_id (x := a) (by omega) (by omega)]
  refine ⟨fun q => ?_, fun q => ⟨fun q2 => ?_, fun q2 => ⟨fun q3 => ?_, fun q3 => ?_⟩⟩⟩
  · rwa [bI_t (by omega)] at k
  · rwa [bI_t (by omega)] at k
  · rwa [bI_f (by omega)] at k
  · rwa [bI_t (by omega)] at k
theorem s_mIsReset {a : Int} {K : Int → NN → Prop} (ha : 0 ≤ a ∧ a ≤ 5) (k : K (bI (a = 2 ∨ a = 4)) N) : C_X10_isReset G a N K := by
  refine vc_X10_isReset ?_
  rw [wI_id (x := a) (by omega) (by omega)]
  refine ⟨fun q => ?_, fun q => ⟨fun q2 => ?_, fun q2 => ?_⟩⟩
  · rwa [bI_t (by omega)] at k
  · rwa [bI_f (by omega)] at k
  · rwa [bI_t (by omega)] at k
theorem LV_ {k : Nat} (h : k < 8) : LV N l k = N (40 + k) 0 l := if_pos h
theorem s_mPrincipal {m : Int} {K : Int → NN → Prop} (hl : l < 12) (B : LBv (LV N l)) (hm : 1 ≤ m ∧ m ≤ 70) (hmo : m ≤ LV N l 3) (k : K (pS (LV N l 0) (LV N l 1) (LV N l 2) (LV N l 3) (LV N l 6) m) N) : C_X10_principal G (l : Int) m (iS (LV N l 1) (LV N l 2)) N K := by
  have e0 : LV N l 0 = N 40 0 l := rfl
  have e1 : LV N l 1 = N 41 0 l := rfl
  have e3 : LV N l 3 = N 43 0 l := rfl
  have e6 : LV N l 6 = N 46 0 l := rfl
  obtain ⟨b0, b1, b2, b3, b4, b5, b6, b7, b8, b9, b10, b11, b12, b13, b14, b15⟩ := B
  have hi := iS_rng b2 b3 b4 b5
  unfold pS at k
  generalize iS (LV N l 1) (LV N l 2) = ii at *
  have k' := k
  clear k
  rw [e0, e1, e3, e6] at k'
  rw [e0] at b0 b1
  rw [e1] at b2 b3
  rw [e3] at b6 b7 hmo
  rw [e6] at b12 b13
  have el := wI_id (x := (l : Int)) (by omega) (by omega)
  have last : ∀ x : Int, 0 ≤ x ∨ x < 0 → -2147483648 ≤ x → x < 2147483648 → K (min (N 41 0 l) (max 0 x)) N → W_X10_principal G K 106 [(4, vI (N 41 0 l)), (5, vI x)] [] N := by
    intro x _ x1 x2 hk
    refine vc_X10_principal_106 ?_
    rw [wI_id (x := x) (by omega) (by omega), wI_id (x := N 41 0 l) (by omega) (by omega)]
    refine ⟨fun q => ⟨fun q2 => ?_, fun q2 => ?_⟩, fun q => ?_⟩
    · rwa [show min (N 41 0 l) (max 0 x) = N 41 0 l by omega] at hk
    · rwa [show min (N 41 0 l) (max 0 x) = x by omega] at hk
    · rwa [show min (N 41 0 l) (max 0 x) = 0 by omega] at hk
  have part : N 43 0 l > m → K ((N 41 0 l + (N 43 0 l + 1 - m) - 1) / (N 43 0 l + 1 - m)) N → (wI (N 43 0 l + 1 - m) ≠ 0 ∧ W_X10_principal G K 106 [(4, vI (N 41 0 l)), (5, vI ((wI (N 41 0 l + (N 43 0 l + 1 - m) - 1)).tdiv (wI (N 43 0 l + 1 - m))))] [] N) := by
    intro h hk
    rw [wI_id (x := N 43 0 l + 1 - m) (by omega) (by omega), wI_id (x := N 41 0 l + (N 43 0 l + 1 - m) - 1) (by omega) (by omega), td_n (by omega)]
    generalize hd : N 43 0 l + 1 - m = d at *
    have q1 : 0 ≤ (N 41 0 l + d - 1) / d := Int.ediv_nonneg (by omega) (by omega)
    have q2 : (N 41 0 l + d - 1) / d ≤ N 41 0 l := by
      have : (N 41 0 l + d - 1) / d < N 41 0 l + 1 := by
        refine Int.ediv_lt_of_lt_mul (by omega) ?_
        have : 0 ≤ N 41 0 l * (d - 1) := Int.mul_nonneg (by omega) (by omega)
        have e : (N 41 0 l + 1) * d = N 41 0 l * (d - 1) + N 41 0 l + d := by
          rw [Int.add_mul, Int.mul_sub, Int.mul_one, Int.one_mul]
          omega
        omega
      omega
    refine ⟨by omega, last _ (by omega) (by omega) (by omega) ?_⟩
    rwa [show min (N 41 0 l) (max 0 ((N 41 0 l + d - 1) / d)) = (N 41 0 l + d - 1) / d by omega]
  refine vc_X10_principal ?_
  rw [el, wI_id (x := m) (by omega) (by omega)]
  refine ⟨l, rfl, hl, l, rfl, hl, ?_⟩
  rw [wI_id (x := N 43 0 l) (by omega) (by omega)]
  refine ⟨fun q => ⟨l, rfl, hl, s_mIsFixed ⟨b0, b1⟩ ?_⟩, fun q => ?_⟩
  · rw [if_neg (by omega)] at k'
    by_cases h : N 40 0 l = 1 ∨ N 40 0 l = 2 ∨ N 40 0 l = 4
    · rw [if_pos h] at k'
      rw [bI_t h, wlitI (by decide) (by decide)]
      exact ⟨fun x => absurd x (by decide), fun _ => ⟨l, rfl, hl, last _ (by omega) (by omega) (by omega) k'⟩⟩
    · rw [if_neg h] at k'
      rw [bI_f h, wlitI (by decide) (by decide), wI_id (x := 3 * m) (by omega) (by omega)]
      refine ⟨fun _ => ⟨l, rfl, hl, ?_⟩, fun x => absurd rfl x⟩
      rw [wI_id (x := N 40 0 l) (by omega) (by omega)]
      have none : ¬ (N 40 0 l = 0 ∨ (N 40 0 l = 5 ∧ 2 * N 43 0 l < 3 * m)) → W_X10_principal G K 106 [(4, vI (N 41 0 l)), (5, vI 0)] [] N := by
        intro h2
        rw [if_neg h2] at k'
        refine last 0 (by omega) (by omega) (by omega) ?_
        rwa [show min (N 41 0 l) (max 0 (0 : Int)) = 0 by omega]
      refine ⟨fun q1 => ⟨l, rfl, hl, part (by omega) ?_⟩, fun q1 => ⟨l, rfl, hl, ?_⟩⟩
      · rwa [if_pos (.inl q1)] at k'
      · rw [wI_id (x := N 40 0 l) (by omega) (by omega)]
        refine ⟨fun q2 => none (by omega), fun q2 => ⟨l, rfl, hl, ?_⟩⟩
        rw [wI_id (x := 2 * N 43 0 l) (by omega) (by omega)]
        refine ⟨fun q3 => none (by omega), fun q3 => ⟨l, rfl, hl, part (by omega) ?_⟩⟩
        rwa [if_pos (.inr ⟨by omega, by omega⟩)] at k'
  · rwa [if_pos (by omega)] at k'
end MO
