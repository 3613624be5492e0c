/-! the end of the reference's collecting: who is late, what is paid back, the pool behind -/
theorem sumN_rng {g : Nat → Int} {a : Int} : ∀ c : Nat, (∀ n, n < c → 0 ≤ g n ∧ g n ≤ a) → 0 ≤ sumN g c ∧ sumN g c ≤ a * c := by
  intro c
  induction c with
  | zero => intro _; unfold sumN; omega
  | succ c ih =>
    intro h
    have i := ih (fun n q => h n (by omega))
    have j := h c (by omega)
    have e : a * ((c + 1 : Nat) : Int) = a * (c : Int) + a := by
      rw [Int.natCast_add, Int.mul_add]
      omega
    unfold sumN
    rw [e]
    omega
section ML
variable {G : GT} {kk c : Nat} {K : NN → Prop}
theorem m_373 {B : NN} (hk : kk < 61) (hc : B 10 0 2 = (c : Int)) (c12 : c ≤ 12) (L : ∀ n, n < c → LBv (LV B n)) (h1 : 0 ≤ B 10 0 14 + B 51 0 kk ∧ B 10 0 14 + B 51 0 kk ≤ 1000000000) (h2 : 0 ≤ B 48 0 kk ∧ B 48 0 kk ≤ 1000000000)
    (k : ∀ N', N' 56 0 kk = B 56 0 kk + sumN (fun n => latS (LV B n)) c → N' 52 0 kk = min (B 10 0 14 + B 51 0 kk) (B 48 0 kk) → N' 10 0 14 = B 10 0 14 + B 51 0 kk - N' 52 0 kk → N' 54 0 kk = sumN (fun n => balS (LV B n)) c → (∀ c i k, ¬ ((c = 52 ∨ c = 54 ∨ c = 56) ∧ i = 0 ∧ k = kk) → ¬ (c = 10 ∧ i = 0 ∧ k = 14) → N' c i k = B c i k) → K N') :
    ∀ (d n : Nat) (M : NN), n + d = c → M 56 0 kk = B 56 0 kk + sumN (fun n => latS (LV B n)) n → (∀ c i k, ¬ (c = 56 ∧ i = 0 ∧ k = kk) → M c i k = B c i k) → W_X10_collect G K 373 [(0, vR 10 0), (1, vI kk), (2, vI (n : Int))] [] M := by
  intro d
  induction d with
  | zero =>
    intro n M hn h56 fr
    have en : n = c := by omega
    subst en
    refine vc_X10_collect_373 ?_
    rw [fr 10 0 2 (by omega), hc, wI_id (x := (n : Int)) (by omega) (by omega), wI_id (x := (kk : Int)) (by omega) (by omega)]
    refine ⟨fun _ => ⟨kk, rfl, hk, ?_⟩, fun q => by omega⟩
    rw [fr 10 0 14 (by omega), fr 51 0 kk (by omega)]
    intro M2 e2
    have a14 : M2 10 0 14 = B 10 0 14 + B 51 0 kk := by rw [e2]; exact up3_s
    have a48 : M2 48 0 kk = B 48 0 kk := by
      rw [e2, up3_o _ _ _ (by omega)]
      exact fr _ _ _ (by omega)
    refine ⟨kk, rfl, hk, ?_⟩
    rw [a14, a48, wI_id (x := B 10 0 14 + B 51 0 kk) (by omega) (by omega), wL_id (x := B 10 0 14 + B 51 0 kk) (by omega) (by omega), wL_id (x := B 48 0 kk) (by omega) (by omega)]
    have fin : ∀ (v : Int) (M5 M7 : NN), v = min (B 10 0 14 + B 51 0 kk) (B 48 0 kk) → M5 = up3 M2 52 0 kk v → M7 = up3 M5 10 0 14 (M5 10 0 14 - M5 52 0 kk) → C_X10_pool G M7 (fun x8 N8 => (∃ j9 : Nat, (kk : Int) = (j9 : Int) ∧ j9 < 61 ∧ (∀ M10 : NN, M10 = up3 N8 54 0 j9 (wI x8) → K M10))) := by
      intro v M5 M7 hv e5 e7
      have y14 : M5 10 0 14 = B 10 0 14 + B 51 0 kk := by rw [e5, up3_o _ _ _ (by omega), a14]
      have y52 : M5 52 0 kk = v := by rw [e5]; exact up3_s
      rw [y14, y52] at e7
      have o : ∀ c i k, ¬ ((c = 52 ∨ c = 56) ∧ i = 0 ∧ k = kk) → ¬ (c = 10 ∧ i = 0 ∧ k = 14) → M7 c i k = B c i k := by
        intro c' i' k' a b
        rw [← fr _ _ _ (by omega), e7, e5, e2]
        simp only [up3]
        rw [if_neg (by omega), if_neg (by omega), if_neg (by omega)]
      have lv : ∀ q, LV M7 q = LV B q := by
        intro q
        funext f
        unfold LV
        by_cases hf : f < 8
        · rw [if_pos hf, if_pos hf]
          exact o _ _ _ (by omega) (by omega)
        · rw [if_neg hf, if_neg hf]
      have es : sumN (fun n => balS (LV M7 n)) n = sumN (fun n => balS (LV B n)) n := sumN_congr n (fun q _ => by rw [lv])
      have rg := sumN_rng (g := fun n => balS (LV B n)) (a := 4000000) n (fun q hq => by
        have := L q hq
        unfold LBv at this
        show 0 ≤ balS (LV B q) ∧ balS (LV B q) ≤ 4000000
        unfold balS
        split <;> omega)
      refine s_mPool (c := n) (by rw [o _ _ _ (by omega) (by omega), hc]) c12 (fun q hq => ?_) ?_
      · have := L q hq
        unfold LBv at this
        have e : M7 45 0 q = LV B q 5 := by rw [o _ _ _ (by omega) (by omega)]; rfl
        rw [e]
        omega
      · rw [es, wI_id (x := sumN (fun n => balS (LV B n)) n) (by omega) (by omega)]
        refine ⟨kk, rfl, hk, fun M10 e10 => k M10 ?_ ?_ ?_ ?_ (fun c' i' k' a b => ?_)⟩
        · rw [e10, up3_o _ _ _ (by omega), e7, up3_o _ _ _ (by omega), e5, up3_o _ _ _ (by omega), e2, up3_o _ _ _ (by omega), h56]
        · rw [e10, up3_o _ _ _ (by omega), e7, up3_o _ _ _ (by omega), y52, hv]
        · rw [e10, up3_o _ _ _ (by omega), up3_o _ _ _ (by omega), e7, up3_s, up3_o _ _ _ (by omega), y52]
        · rw [e10]
          exact up3_s
        · rw [← o _ _ _ (by omega) b, e10]
          simp only [up3]
          rw [if_neg (by omega)]
    exact ⟨fun q => ⟨kk, rfl, hk, fun M5 e5 => ⟨kk, rfl, hk, fun M7 e7 => fin _ M5 M7 (by omega) e5 e7⟩⟩, fun q => ⟨kk, rfl, hk, kk, rfl, hk, fun M5 e5 => ⟨kk, rfl, hk, fun M7 e7 => fin (B 48 0 kk) M5 M7 (by omega) (by rw [e5, a48]) e7⟩⟩⟩
  | succ d ih =>
    intro n M hn h56 fr
    have hn12 : n < 12 := by omega
    have Ln := L n (by omega)
    unfold LBv at Ln
    have e5 : LV B n 5 = B 45 0 n := rfl
    rw [e5] at Ln
    refine vc_X10_collect_373 ?_
    rw [fr 10 0 2 (by omega), hc, wI_id (x := (n : Int)) (by omega) (by omega), wI_id (x := (kk : Int)) (by omega) (by omega), wI_id (x := (c : Int)) (by omega) (by omega)]
    refine ⟨fun q => by omega, fun _ => ⟨kk, rfl, hk, n, rfl, hn12, ?_⟩⟩
    rw [fr 45 0 n (by omega), wI_id (x := B 45 0 n) (by omega) (by omega), h56]
    have nx : ∀ (v : Int) (M' : NN), v = latS (LV B n) → M' = up3 M 56 0 kk (B 56 0 kk + sumN (fun n => latS (LV B n)) n + v) → W_X10_collect G K 373 [(0, vR 10 0), (1, vI kk), (2, vI ((n : Int) + 1))] [] M' := by
      intro v M' hv e
      refine ih (n + 1) M' (by omega) ?_ (fun c' i' k' a => ?_)
      · rw [e, up3_s, hv]
        show _ = B 56 0 kk + (sumN (fun n => latS (LV B n)) n + latS (LV B n))
        omega
      · rw [← fr _ _ _ a, e]
        simp only [up3]
        rw [if_neg (by omega)]
    refine ⟨fun q => ⟨kk, rfl, hk, fun M' e => nx 0 M' ?_ e⟩, fun q => ⟨kk, rfl, hk, fun M' e => nx 1 M' ?_ e⟩⟩
    · unfold latS
      rw [e5, if_neg q]
    · unfold latS
      rw [e5, if_pos (by omega)]
end ML
