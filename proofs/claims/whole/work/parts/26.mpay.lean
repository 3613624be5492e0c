/-! the reference's month of paying, told as the class's -/
def mK (k : Nat) : Nat := if k = 0 then 68 else if k = 1 then 67 else if k = 6 then 74 else if k = 7 then 73 else if k = 8 then 75 else 67 + k
def mS (k : Nat) : Nat := if k = 1 then 53 else if k = 2 then 69 else if k = 3 then 70 else if k = 4 then 64 else if k = 5 then 67 else if k = 6 then 68 else if k = 7 then 65 else 66
theorem mK_inj : ∀ b, b < 9 → ∀ k, k < 9 → mK b = mK k → b = k := by decide
theorem mS_inj' : ∀ b, b < 10 → ∀ k, k < 10 → (b = 0 ∨ b = 8 ∨ k = 0 ∨ k = 8) ∨ (mS b = mS k → b = k) := by decide
theorem mS_inj {b k : Nat} (h1 : b < 10) (h2 : k < 10) (h3 : b ≠ 0) (h4 : b ≠ 8) (h5 : k ≠ 0) (h6 : k ≠ 8) (e : mS b = mS k) : b = k := (mS_inj' b h1 k h2).elim (fun h => by omega) fun h => h e
theorem mK_r : ∀ b, b < 9 → 67 ≤ mK b ∧ mK b ≤ 75 := by decide
theorem mS_r : ∀ b, b < 10 → (mS b = 53 ∨ (64 ≤ mS b ∧ mS b ≤ 70)) := by decide
def VM (N : NN) : Nat → Nat → Int := fun q k => if q < 5 then (if k < 9 then N (mK k) 0 q else 0) else if q = 9 then (if k = 8 then N 53 0 1 else if k = 0 ∨ 9 < k then 0 else N 10 0 (mS k)) else 0
theorem VMp {N : NN} {q k : Nat} (h : q < 5) (h2 : k < 9) : VM N q k = N (mK k) 0 q := by
  unfold VM
  rw [if_pos h, if_pos h2]
theorem VMs {N : NN} {k : Nat} (h : k ≠ 0) (h2 : k < 10) (h8 : k ≠ 8) : VM N 9 k = N 10 0 (mS k) := by
  unfold VM
  rw [if_neg (by decide), if_pos rfl, if_neg h8, if_neg (by omega)]
theorem VM8 {N : NN} : VM N 9 8 = N 53 0 1 := rfl
theorem VM0 {N : NN} {q k : Nat} (h : ¬ (q < 5 ∧ k < 9)) (h2 : ¬ (q = 9 ∧ k ≠ 0 ∧ k < 10)) : VM N q k = 0 := by
  unfold VM
  by_cases a : q < 5
  · rw [if_pos a, if_neg (by omega)]
  · rw [if_neg a]
    by_cases b : q = 9
    · rw [if_pos b, if_neg (by omega), if_pos (by omega)]
    · rw [if_neg b]
theorem VM_uK {N : NN} {q k : Nat} {v : Int} (hq : q < 5) (hk : k < 9) : VM (up3 N (mK k) 0 q v) = up2 (VM N) q k v := by
  have r := mK_r k hk
  funext a b
  show _ = if a = q ∧ b = k then v else VM N a b
  by_cases h : a < 5 ∧ b < 9
  · rw [VMp h.1 h.2, VMp h.1 h.2]
    simp only [up3]
    have := mK_inj b h.2 k hk
    by_cases e : a = q ∧ b = k
    · obtain ⟨rfl, rfl⟩ := e
      simp
    · rw [if_neg e, if_neg (fun x => e ⟨x.2.1, this x.1⟩)]
  · rw [if_neg (by omega)]
    by_cases h9 : a = 9 ∧ b ≠ 0 ∧ b < 10
    · obtain ⟨rfl, b0, b1⟩ := h9
      by_cases b8 : b = 8
      · subst b8
        rw [VM8, VM8]
        simp only [up3]
        rw [if_neg (by omega)]
      · rw [VMs b0 b1 b8, VMs b0 b1 b8]
        simp only [up3]
        rw [if_neg (by omega)]
    · rw [VM0 h h9, VM0 h h9]
theorem VM_uS {N : NN} {k : Nat} {v : Int} (h0 : k ≠ 0) (hk : k < 10) (h8 : k ≠ 8) : VM (up3 N 10 0 (mS k) v) = up2 (VM N) 9 k v := by
  funext a b
  show _ = if a = 9 ∧ b = k then v else VM N a b
  by_cases h : a < 5 ∧ b < 9
  · have r := mK_r b h.2
    rw [VMp h.1 h.2, VMp h.1 h.2, if_neg (by omega)]
    simp only [up3]
    rw [if_neg (by omega)]
  · by_cases h9 : a = 9 ∧ b ≠ 0 ∧ b < 10
    · obtain ⟨rfl, b0, b1⟩ := h9
      by_cases b8 : b = 8
      · subst b8
        rw [VM8, VM8, if_neg (by omega)]
        simp only [up3]
        rw [if_neg (by omega)]
      · rw [VMs b0 b1 b8, VMs b0 b1 b8]
        simp only [up3]
        have := mS_inj b1 hk b0 b8 h0 h8
        by_cases e : b = k
        · subst e
          simp
        · rw [if_neg (fun x => e (this x.2.1)), if_neg (fun x => e x.2)]
    · rw [VM0 h h9, VM0 h h9, if_neg (by omega)]
theorem VM_un {N M : NN} (h : ∀ c i k, (67 ≤ c ∧ c ≤ 75 ∧ i = 0) ∨ (c = 53 ∧ i = 0 ∧ k = 1) ∨ (c = 10 ∧ i = 0 ∧ (k = 53 ∨ (64 ≤ k ∧ k ≤ 70))) → M c i k = N c i k) : VM M = VM N := by
  funext a b
  by_cases h5 : a < 5 ∧ b < 9
  · have r := mK_r b h5.2
    rw [VMp h5.1 h5.2, VMp h5.1 h5.2]
    exact h _ _ _ (by omega)
  · by_cases h9 : a = 9 ∧ b ≠ 0 ∧ b < 10
    · obtain ⟨rfl, b0, b1⟩ := h9
      have r := mS_r b b1
      by_cases b8 : b = 8
      · subst b8
        rw [VM8, VM8]
        exact h _ _ _ (by omega)
      · rw [VMs b0 b1 b8, VMs b0 b1 b8]
        exact h _ _ _ (by omega)
    · rw [VM0 h5 h9, VM0 h5 h9]
/-- the facts of month k, and the rows of order o -/
def mF (f : Nat) : Nat := if f < 5 then 48 + f else if f = 5 then 77 else if f < 10 then 47 + f else if f = 10 then 78 else if f = 11 then 79 else 48
def MM (N : NN) (k : Nat) : Nat → Int := fun f => N (mF f) 0 k
def RM (N : NN) (o : Nat) : Nat → Nat → Int := fun i f => if f < 6 then N (61 + f) 0 (10 * o + i) else 0
section MN
variable {G : GT} {N : NN}
theorem s_in {a b c : Int} {K : Int → NN → Prop} (k : K (bI (wI b ≤ wI a ∧ wI a ≤ wI c)) N) : C_X10_in G a b c N K := by
  refine vc_X10_in ⟨fun q => ?_, fun q => ⟨fun q2 => ?_, fun q2 => ?_⟩⟩
  · rwa [bI_f (by omega)] at k
  · rwa [bI_f (by omega)] at k
  · rwa [bI_t (by omega)] at k
theorem s_mIsPaper {a : Int} {c : Nat} {K : Int → NN → Prop} (hc : N 10 0 53 = (c : Int)) (c5 : c ≤ 5) (ha : -2147483648 ≤ a ∧ a < 2147483648) (k : K (bI (0 ≤ a ∧ a < (c : Int))) N) : C_X10_isPaper G a N K := by
  refine vc_X10_isPaper (s_in ?_)
  rw [hc, wI_id (x := a) ha.1 ha.2, wI_id (x := (c : Int) - 1) (by omega) (by omega), wlitI (by decide) (by decide)]
  refine ⟨?_, ?_⟩
  · unfold bI
    split <;> simp
  · have : bI (0 ≤ a ∧ a ≤ (c : Int) - 1) = bI (0 ≤ a ∧ a < (c : Int)) := by
      unfold bI
      split
      · rw [if_pos (by omega)]
      · rw [if_neg (by omega)]
    rw [this]
    exact k
theorem s_mLost {K : Int → NN → Prop} (h : 0 ≤ VM N 9 8 ∧ VM N 9 8 ≤ 100000000) (k : K (lostP (VM N)) N) : C_X10_lostNow G N K := by
  refine vc_X10_lostNow ?_
  unfold lostP at k
  rw [VM8] at k h
  rw [VMs (by decide) (by decide) (by decide)] at k
  have e := wL_id (x := N 53 0 1) (by omega) (by omega)
  rw [e] at k ⊢
  refine ⟨fun q => ⟨q, ?_⟩, fun q => ?_⟩
  · rwa [if_neg (by omega)] at k
  · rwa [if_pos (by omega)] at k
theorem s_mField {a : Int} {c kk : Nat} {cash : Int} {K : Int → NN → Prop} (hk : 1 ≤ kk ∧ kk ≤ 60) (S : SPF c kk cash (VM N)) (hm : OKm (MM N kk)) (k : K (fieldP (VM N) a kk (MM N kk)) N) : C_X10_field G a kk N K := by
  obtain ⟨c5, h1, hq, hs⟩ := S
  unfold sOK at hs
  unfold OKm at hm
  obtain ⟨-, -, -, -, -, -, -, -, -, m7a, m7b, -⟩ := hm
  have hs8 : 0 ≤ VM N 9 8 ∧ VM N 9 8 ≤ 100000000 := by omega
  clear hs
  refine vc_X10_field ?_
  have ek := wI_id (x := (kk : Int)) (by omega) (by omega)
  unfold fieldP at k
  rw [ek] at k ⊢
  have e1 : VM N 9 1 = N 10 0 53 := rfl
  refine ⟨fun q => ?_, fun q => ⟨kk, rfl, by omega, ?_⟩, fun q => s_mLost hs8 ?_, fun q => ?_, fun q => ⟨fun q2 => ?_, fun q2 => ?_⟩⟩
  · rwa [if_pos q] at k
  · rwa [if_neg (by omega), if_pos q] at k
  · rwa [if_neg (by omega), if_neg (by omega), if_pos q] at k
  · rw [if_neg (by omega), if_neg (by omega), if_neg (by omega), if_pos q] at k
    unfold coverP at k
    rw [h1, wI_id (x := (c : Int)) (by omega) (by omega)] at k
    rw [← e1, h1, wI_id (x := (c : Int)) (by omega) (by omega)]
    refine ⟨fun q0 => ?_, fun q0 => ?_⟩
    · rwa [if_pos (by omega)] at k
    · rw [if_neg (by omega)] at k
      have p := hq 0 (by omega)
      unfold qOK at p
      have e2 : VM N 0 2 = N 69 0 0 := rfl
      have e7 : MM N kk 7 = N 54 0 kk := rfl
      rw [e2] at p k
      rw [e7] at k m7a m7b
      have ep := wL_id (x := N 69 0 0) (by omega) (by omega)
      rw [ep] at k ⊢
      refine ⟨fun q1 => ⟨kk, rfl, by omega, q1, ?_⟩, fun q1 => ?_⟩
      · rw [if_neg (by omega)] at k
        rw [wL_id (x := 100 * N 54 0 kk) (by omega) (by omega), td_n (by omega)] at k ⊢
        have d0 : 0 ≤ 100 * N 54 0 kk / N 69 0 0 := Int.ediv_nonneg (by omega) (by omega)
        have d1 : 100 * N 54 0 kk / N 69 0 0 ≤ 100 * N 54 0 kk := Int.ediv_le_self _ (by omega)
        rw [wL_id (x := 100 * N 54 0 kk / N 69 0 0) (by omega) (by omega)] at k ⊢
        refine ⟨fun q2 => ?_, fun q2 => ?_⟩
        · rwa [Int.min_eq_right q2] at k
        · rwa [Int.min_eq_left (by omega)] at k
      · rwa [if_pos (by omega)] at k
  · rwa [if_neg (by omega), if_neg (by omega), if_neg (by omega), if_neg (by omega), show VM N 9 5 = N 10 0 67 from rfl, if_pos q2] at k
  · rwa [if_neg (by omega), if_neg (by omega), if_neg (by omega), if_neg (by omega), show VM N 9 5 = N 10 0 67 from rfl, if_neg q2] at k
theorem s_mIsSo {c kk o i : Nat} {cash : Int} {K : Int → NN → Prop} (hk : 1 ≤ kk ∧ kk ≤ 60) (S : SPF c kk cash (VM N)) (hm : OKm (MM N kk)) (ho : o < 6) (hi : i < 10) (hr : okR (RM N o i)) {at' : Int} (ea : at' = ((10 * o + i : Nat) : Int)) (k1 : passP (VM N) (RM N o i) kk (MM N kk) = true → K 1 N) (k0 : ¬ passP (VM N) (RM N o i) kk (MM N kk) = true → K 0 N) : C_X10_isSo G at' kk N K := by
  subst ea
  refine vc_X10_isSo ?_
  have ea := wI_id (x := ((10 * o + i : Nat) : Int)) (by omega) (by omega)
  unfold okR at hr
  have e3 : RM N o i 3 = N 64 0 (10 * o + i) := rfl
  have e4 : RM N o i 4 = N 65 0 (10 * o + i) := rfl
  have e5 : RM N o i 5 = N 66 0 (10 * o + i) := rfl
  unfold passP at k1 k0
  rw [e3, e4, e5] at k1 k0
  rw [e3, e4, e5] at hr
  rw [ea]
  refine ⟨10 * o + i, rfl, by omega, ?_⟩
  have et := wI_id (x := N 64 0 (10 * o + i)) (by omega) (by omega)
  rw [et] at k1 k0 ⊢
  refine ⟨fun q => ⟨10 * o + i, rfl, by omega, s_mField hk S hm ?_⟩, fun q => k1 (if_pos (by omega))⟩
  rw [if_neg q] at k1 k0
  have e2 : wI ((N 64 0 (10 * o + i)).tmod 2) = N 64 0 (10 * o + i) % 2 := by rw [tm_n (by omega), wI_id (by omega) (by omega)]
  rw [e2]
  refine ⟨fun q1 => ⟨10 * o + i, rfl, by omega, ?_⟩, fun q1 => ⟨10 * o + i, rfl, by omega, ?_⟩⟩
  · rw [if_neg (by omega)] at k1 k0
    refine ⟨fun q2 => vc_X10_isSo_72 ?_, fun q2 => vc_X10_isSo_72 ?_⟩
    all_goals rw [et]
    all_goals first | rw [wlitI (k := 0) (by decide) (by decide)] | rw [wlitI (k := 1) (by decide) (by decide)]
    · refine ⟨fun q3 => ⟨fun h => absurd rfl h, fun _ => k1 ?_⟩, fun q3 => ⟨fun _ => k0 ?_, fun h => absurd (by decide) h⟩⟩
      · rw [if_neg (by omega), if_neg (by omega)]
        exact decide_eq_true_iff.mpr q2
      · rw [if_pos (by omega)]
        exact fun h => decide_eq_true_iff.mp h q2
    · refine ⟨fun q3 => ⟨fun _ => k0 ?_, fun h => absurd (by decide) h⟩, fun q3 => ⟨fun h => absurd rfl h, fun _ => k1 ?_⟩⟩
      · rw [if_neg (by omega), if_neg (by omega)]
        exact fun h => q2 (decide_eq_true_iff.mp h)
      · rw [if_pos (by omega)]
        exact decide_eq_true_iff.mpr q2
  · refine ⟨fun q2 => vc_X10_isSo_72 ?_, fun q2 => vc_X10_isSo_72 ?_⟩
    all_goals rw [et]
    all_goals first | rw [wlitI (k := 0) (by decide) (by decide)] | rw [wlitI (k := 1) (by decide) (by decide)]
    · refine ⟨fun q3 => ⟨fun h => absurd rfl h, fun _ => k1 ?_⟩, fun q3 => ⟨fun _ => k0 ?_, fun h => absurd (by decide) h⟩⟩
      · rw [if_neg (by omega), if_neg (by omega), if_pos (by omega)]
        exact decide_eq_true_iff.mpr (by omega)
      · rw [if_pos (by omega)]
        exact fun h => decide_eq_true_iff.mp h q2
    · refine ⟨fun q3 => ⟨fun _ => k0 ?_, fun h => absurd (by decide) h⟩, fun q3 => ⟨fun h => absurd rfl h, fun _ => k1 ?_⟩⟩
      · rw [if_neg (by omega), if_neg (by omega), if_pos (by omega)]
        exact fun h => decide_eq_true_iff.mp h (by omega)
      · rw [if_pos (by omega)]
        exact decide_eq_true_iff.mpr q2
theorem s_mWish {c kk o i : Nat} {cash : Int} {K : Int → NN → Prop} (hk : 1 ≤ kk ∧ kk ≤ 60) (S : SPF c kk cash (VM N)) (hm : OKm (MM N kk)) (ho : o < 6) (hi : i < 10) (hr : okR (RM N o i)) {at' : Int} (ea : at' = ((10 * o + i : Nat) : Int)) (k : K (wishP (VM N) (RM N o i) (MM N kk) cash) N) : C_X10_wish G at' kk cash N K := by
  subst ea
  refine vc_X10_wish ?_
  have ek := wI_id (x := (kk : Int)) (by omega) (by omega)
  have ea := wI_id (x := ((10 * o + i : Nat) : Int)) (by omega) (by omega)
  obtain ⟨c5, h1, hq, hs⟩ := S
  have pg := pg_ok c5 h1 hr
  unfold sOK at hs
  have s4 : 0 ≤ VM N 9 4 ∧ VM N 9 4 ≤ 9999 := by omega
  clear hs
  unfold okR at hr
  have e0 : RM N o i 0 = N 61 0 (10 * o + i) := rfl
  have e1 : RM N o i 1 = N 62 0 (10 * o + i) := rfl
  have e2 : RM N o i 2 = N 63 0 (10 * o + i) := rfl
  have hr0 : 0 ≤ RM N o i 0 ∧ RM N o i 0 ≤ 5 := ⟨hr.1, hr.2.1⟩
  have hr1 := hr.2.2.1
  have hr2 : -1 ≤ RM N o i 2 ∧ RM N o i 2 ≤ 9999 := ⟨hr.2.2.2.1, hr.2.2.2.2.1⟩
  clear hr
  have w0 := wI_id (x := N 61 0 (10 * o + i)) (by omega) (by omega)
  have w1 := wI_id (x := N 62 0 (10 * o + i)) (by omega) (by omega)
  have w2 := wI_id (x := N 63 0 (10 * o + i)) (by omega) (by omega)
  unfold wishP at k
  rw [e0, e2, w0, w2] at k
  rw [e0, e1] at hr1
  rw [e0] at hr0
  rw [ea]
  refine ⟨10 * o + i, rfl, by omega, ?_⟩
  rw [w1]
  have main : (N 61 0 (10 * o + i) = 1 ∨ N 61 0 (10 * o + i) = 2 ∨ N 61 0 (10 * o + i) = 3 → ∃ p : Nat, pgP (VM N) (RM N o i) = some p ∧ p < c ∧ N 62 0 (10 * o + i) = p) → W_X10_wish G K 25 [(0, vR 10 0), (1, vI ((10 * o + i : Nat) : Int)), (2, vI kk), (3, vL cash), (5, vI (N 62 0 (10 * o + i)))] [] N := by
    intro hp
    refine vc_X10_wish_25 ?_
    rw [ea, ek, w1]
    refine ⟨10 * o + i, rfl, by omega, 10 * o + i, rfl, by omega, ?_⟩
    rw [w0, w2]
    refine ⟨fun q => ⟨kk, rfl, by omega, ?_⟩, fun q => ?_, fun q => ?_, fun q => ⟨kk, rfl, by omega, ?_⟩, fun q => ?_, fun q => ?_⟩
    · rwa [if_pos q] at k
    · obtain ⟨p, g1, g2, g3⟩ := hp (.inl q)
      refine ⟨p, g3, by omega, ?_⟩
      rw [if_neg (by omega), if_pos q, g1] at k
      have e : VM N p 8 = N 75 0 p := VMp (by omega) (by decide)
      dsimp only at k
      rwa [e] at k
    · obtain ⟨p, g1, g2, g3⟩ := hp (.inr (.inl q))
      refine ⟨p, g3, by omega, ?_⟩
      rw [if_neg (by omega), if_neg (by omega), if_pos q, g1] at k
      have e : VM N p 2 = N 69 0 p := VMp (by omega) (by decide)
      dsimp only at k
      rwa [e] at k
    · obtain ⟨p, g1, g2, g3⟩ := hp (.inr (.inr q))
      rw [if_neg (by omega), if_neg (by omega), if_neg (by omega), if_pos q, g1] at k
      have e : VM N p 2 = N 69 0 p := VMp (by omega) (by decide)
      have em : MM N kk 1 = N 49 0 kk := rfl
      have b := hq p g2
      unfold qOK at b
      dsimp only at k
      unfold OKm at hm
      rw [em] at k hm
      rw [e] at k b
      have m := mul_rng (a := N 49 0 kk) (b := N 63 0 (10 * o + i) + 1) (A := 900000000) (B := 10000) (by omega) (by omega) (by omega) (by omega)
      have m' : N 49 0 kk * (N 63 0 (10 * o + i) + 1) = N 49 0 kk * N 63 0 (10 * o + i) + N 49 0 kk := by rw [Int.mul_add, Int.mul_one]
      have wp := wL_id (x := N 69 0 p) (by omega) (by omega)
      have wm := wL_id (x := N 49 0 kk * N 63 0 (10 * o + i)) (by omega) (by omega)
      rw [wp, wm] at k
      have d : (-9223372036854775808 : Int) ≤ (N 49 0 kk * N 63 0 (10 * o + i)).tdiv 100 ∧ (N 49 0 kk * N 63 0 (10 * o + i)).tdiv 100 < 9223372036854775808 := by
        have := Int.natAbs_tdiv_le_natAbs (N 49 0 kk * N 63 0 (10 * o + i)) 100
        omega
      rw [wL_id d.1 d.2] at k
      refine ⟨p, g3, by omega, ?_⟩
      rw [wp, wm, wL_id d.1 d.2]
      refine ⟨fun q2 => ⟨p, g3, by omega, ?_⟩, fun q2 => ?_⟩
      · rwa [Int.min_eq_left q2] at k
      · rwa [Int.min_eq_right (by omega)] at k
    · rw [if_neg (by omega), if_neg (by omega), if_neg (by omega), if_neg (by omega), if_pos q] at k
      have e : VM N 9 4 = N 10 0 64 := rfl
      rw [e] at k s4
      rw [e2] at hr2
      have w3 := wL_id (x := N 63 0 (10 * o + i)) (by omega) (by omega)
      have w4 := wL_id (x := N 10 0 64) (by omega) (by omega)
      have w5 := wL_id (x := N 63 0 (10 * o + i) - N 10 0 64) (by omega) (by omega)
      rw [w3, w4]
      rw [w5] at k
      refine ⟨fun q2 => ?_, fun q2 => ?_⟩
      · rwa [Int.max_eq_left (by omega)] at k
      · rwa [Int.max_eq_right (by omega)] at k
    · rwa [if_neg (by omega), if_neg (by omega), if_neg (by omega), if_neg (by omega), if_neg (by omega)] at k
  refine ⟨fun q => main fun h => by omega, fun q => s_mIsPaper (by have : VM N 9 1 = N 10 0 53 := rfl; rw [← this, h1]) c5 (by omega) ⟨fun q2 => main fun h => ?_, fun q2 => ?_⟩⟩
  · rcases pg with ⟨_, g⟩ | g
    · rw [e1] at g
      exfalso
      apply q2
      rw [bI_f (by omega)]
      rfl
    · exact g
  · rcases pg with ⟨g0, g⟩ | ⟨p, g1, g2, g3⟩
    · rw [g0] at k
      rcases (by omega : N 61 0 (10 * o + i) = 1 ∨ N 61 0 (10 * o + i) = 2 ∨ N 61 0 (10 * o + i) = 3) with h | h | h
      · rwa [if_neg (by omega), if_pos h] at k
      · rwa [if_neg (by omega), if_neg (by omega), if_pos h] at k
      · rwa [if_neg (by omega), if_neg (by omega), if_neg (by omega), if_pos h] at k
    · exfalso
      apply q2
      rw [e1] at g3
      rw [bI_t (by omega)]
      decide
end MN
