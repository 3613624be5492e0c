/-! the reference's month of paying: its loops -/
section
variable {N : NN} {q : Nat} {v : Int}
theorem VM_69 (hq : q < 5) : VM (up3 N 69 0 q v) = up2 (VM N) q 2 v := VM_uK (k := 2) hq (by decide)
theorem VM_70 (hq : q < 5) : VM (up3 N 70 0 q v) = up2 (VM N) q 3 v := VM_uK (k := 3) hq (by decide)
theorem VM_71 (hq : q < 5) : VM (up3 N 71 0 q v) = up2 (VM N) q 4 v := VM_uK (k := 4) hq (by decide)
theorem VM_72 (hq : q < 5) : VM (up3 N 72 0 q v) = up2 (VM N) q 5 v := VM_uK (k := 5) hq (by decide)
theorem VM_73 (hq : q < 5) : VM (up3 N 73 0 q v) = up2 (VM N) q 7 v := VM_uK (k := 7) hq (by decide)
theorem VM_74 (hq : q < 5) : VM (up3 N 74 0 q v) = up2 (VM N) q 6 v := VM_uK (k := 6) hq (by decide)
theorem VM_75 (hq : q < 5) : VM (up3 N 75 0 q v) = up2 (VM N) q 8 v := VM_uK (k := 8) hq (by decide)
theorem VM_s64 : VM (up3 N 10 0 64 v) = up2 (VM N) 9 4 v := VM_uS (k := 4) (by decide) (by decide) (by decide)
theorem VM_s65 : VM (up3 N 10 0 65 v) = up2 (VM N) 9 7 v := VM_uS (k := 7) (by decide) (by decide) (by decide)
theorem VM_s66 : VM (up3 N 10 0 66 v) = up2 (VM N) 9 9 v := VM_uS (k := 9) (by decide) (by decide) (by decide)
theorem VM_s67 : VM (up3 N 10 0 67 v) = up2 (VM N) 9 5 v := VM_uS (k := 5) (by decide) (by decide) (by decide)
theorem VM_s68 : VM (up3 N 10 0 68 v) = up2 (VM N) 9 6 v := VM_uS (k := 6) (by decide) (by decide) (by decide)
theorem VM_ot {c k : Nat} (h : 76 ≤ c) : VM (up3 N c 0 k v) = VM N := VM_un fun c' i' k' e => by
  simp only [up3]
  rw [if_neg (by omega)]
end
theorem endP_9 {c : Nat} {F : Nat → Nat → Int} (h : c ≤ 5) : endP c F 9 = F 9 := funext fun i => if_neg (by omega)
theorem endP_2 {c q k : Nat} {F : Nat → Nat → Int} (h : k ≠ 3) : endP c F q k = F q k := if_neg (by omega)
theorem ovP_end {c : Nat} {F : Nat → Nat → Int} {b : Int} (h : c ≤ 5) : ∀ n, ovP (endP c F) b n = ovP F b n := by
  intro n
  induction n with
  | zero => unfold ovP; rw [endP_9 h]
  | succ n ih => unfold ovP; rw [ih, endP_2 (by decide)]
/-- what paying in month kk may change -/
def FrM (N N' : NN) (kk : Nat) : Prop := ∀ c i k, ¬ (69 ≤ c ∧ c ≤ 75 ∧ i = 0) → ¬ (c = 10 ∧ i = 0 ∧ 64 ≤ k ∧ k ≤ 68) → ¬ (77 ≤ c ∧ c ≤ 79 ∧ i = 0 ∧ k = kk) → ¬ (c = 80 ∧ i = 0 ∧ 10 * kk ≤ k ∧ k < 10 * kk + 10) → N' c i k = N c i k
section ML
variable {G : GT} {kk c o : Nat} {K : NN → Prop}
theorem VM_c {N : NN} : VM N 9 1 = N 10 0 53 := rfl
/-- what is written down -/
theorem m_down {B : NN} (hk : 1 ≤ kk ∧ kk ≤ 60) : ∀ (n : Nat) (M : NN) (ov l : Int), l = n - 1 → n ≤ c → -1000000000 ≤ ov ∧ ov ≤ 1000000000 → OKF c kk (VM M) → (∀ c i k, ¬ ((c = 69 ∨ c = 74) ∧ i = 0) → M c i k = B c i k) →
    (∀ N', VM N' = wdP n (VM M) ov → N' 78 0 kk = VM N' 9 4 → (∀ c i k, ¬ ((c = 69 ∨ c = 74) ∧ i = 0) → ¬ (c = 78 ∧ i = 0 ∧ k = kk) → N' c i k = B c i k) → K N') →
    W_X10_pay G K 571 [(0, vR 10 0), (1, vI kk), (5, vL ov), (7, vI l)] [] M := by
  have ek := wI_id (x := (kk : Int)) (by omega) (by omega)
  have fin : ∀ (M : NN), (∀ c i k, ¬ ((c = 69 ∨ c = 74) ∧ i = 0) → M c i k = B c i k) → (∀ N', VM N' = VM M → N' 78 0 kk = VM N' 9 4 → (∀ c i k, ¬ ((c = 69 ∨ c = 74) ∧ i = 0) → ¬ (c = 78 ∧ i = 0 ∧ k = kk) → N' c i k = B c i k) → K N') → (∃ j1 : Nat, (kk : Int) = (j1 : Int) ∧ j1 < 61 ∧ (∀ M2 : NN, M2 = up3 M 78 0 j1 (M 10 0 64) → K M2)) := by
    intro M fr k
    refine ⟨kk, rfl, by omega, fun M2 e2 => k M2 (by rw [e2, VM_ot (by decide)]) ?_ (fun c i k a b => ?_)⟩
    · rw [show VM M2 9 4 = M2 10 0 64 from rfl]
      subst e2
      rw [up3_s]
      exact (up3_o _ _ _ (by omega)).symm
    · rw [← fr _ _ _ a]
      subst e2
      exact if_neg (by omega)
  intro n
  induction n with
  | zero =>
    intro M ov l hl _ _ _ fr k
    refine vc_X10_pay_571 ?_
    rw [wI_id (x := l) (by omega) (by omega), ek]
    exact ⟨fun _ => fin M fr k, fun q => by omega⟩
  | succ n ih =>
    intro M ov l hl hn hov S fr k
    have S' := S
    obtain ⟨c5, h1, hq, hs⟩ := S
    have p := hq n (by omega)
    have e2 : VM M n 2 = M 69 0 n := VMp (by omega) (by decide)
    have e6 : VM M n 6 = M 74 0 n := VMp (by omega) (by decide)
    have pb : 0 ≤ M 69 0 n ∧ M 69 0 n ≤ 9999999 := by
      unfold pOK at p
      omega
    have wo := wL_id (x := ov) (by omega) (by omega)
    have wp := wL_id (x := M 69 0 n) (by omega) (by omega)
    refine vc_X10_pay_571 ?_
    rw [wI_id (x := l) (by omega) (by omega), ek, wo]
    refine ⟨fun q => by omega, fun _ => ⟨fun q => fin M fr (fun N' a b d => k N' ?_ b d), fun q => ⟨n, by omega, by omega, ?_⟩⟩⟩
    · rw [a]
      unfold wdP
      rw [wo, if_pos q]
    · rw [wp]
      have nxt : ∀ (v : Int) (M' M'' : NN), v = min ov (M 69 0 n) → M' = up3 M 69 0 n (M 69 0 n - v) → M'' = up3 M' 74 0 n (M' 74 0 n + v) → W_X10_pay G K 571 [(0, vR 10 0), (1, vI kk), (5, vL (ov - v)), (7, vI (l + -1))] [] M'' := by
        intro v M' M'' hv h1' h2'
        have e7 : M' 74 0 n = M 74 0 n := by subst h1'; exact up3_o _ _ _ (by omega)
        rw [e7] at h2'
        have V : VM M'' = up2 (up2 (VM M) n 2 (VM M n 2 - v)) n 6 (VM M n 6 + v) := by
          rw [h2', VM_74 (by omega), h1', VM_69 (by omega), e2, e6]
        refine ih M'' (ov - v) (l + -1) (by omega) (by omega) (by omega) ?_ (fun c i k a => ?_) (fun N' a b d => k N' ?_ b d)
        · rw [V]
          refine ⟨c5, by rw [up2_9 (by omega), up2_9 (by omega), h1], fun q hq' => ?_, by rw [up2_9 (by omega), up2_9 (by omega)]; exact hs⟩
          by_cases e : q = n
          · subst e
            unfold pOK at *
            simp [up2_s]
            omega
          · rw [up2_q e, up2_q e]
            exact hq q hq'
        · rw [← fr _ _ _ a]
          subst h2' h1'
          simp only [up3]
          rw [if_neg (by omega), if_neg (by omega)]
        · rw [a, V]
          conv => rhs; unfold wdP
          rw [wo, if_neg q, e2, wp, ← hv]
      refine ⟨fun q2 => ⟨n, by omega, by omega, n, by omega, by omega, n, by omega, by omega, fun M9 e9 => ⟨n, by omega, by omega, n, by omega, by omega, fun M12 e12 => nxt (M 69 0 n) M9 M12 (by omega) e9 e12⟩⟩, fun q2 => ⟨n, by omega, by omega, n, by omega, by omega, fun M9 e9 => ⟨n, by omega, by omega, n, by omega, by omega, fun M12 e12 => nxt ov M9 M12 (by omega) e9 e12⟩⟩⟩
/-- the papers end -/
theorem m_end {B : NN} {b : Int} (hk : 1 ≤ kk ∧ kk ≤ 60) (hb : 0 ≤ b ∧ b ≤ 100000000) (hB : B 10 0 53 = (c : Int)) (c5 : c ≤ 5) (S : OKF c kk (endP c (VM B)))
    (k : ∀ N', VM N' = wdP c (endP c (VM B)) (ovP (endP c (VM B)) b c) → N' 78 0 kk = VM N' 9 4 → (∀ c i k, ¬ ((c = 69 ∨ c = 70 ∨ c = 74) ∧ i = 0) → ¬ (c = 78 ∧ i = 0 ∧ k = kk) → N' c i k = B c i k) → K N') : ∀ (d n : Nat) (M : NN), n + d = c → VM M = endP n (VM B) → (∀ c i k, ¬ (c = 70 ∧ i = 0) → M c i k = B c i k) → W_X10_pay G K 522 [(0, vR 10 0), (1, vI kk), (5, vL (ovP (VM B) b n)), (7, vI (n : Int))] [] M := by
  intro d
  induction d with
  | zero =>
    intro n M hn hV fr
    have en : n = c := by omega
    subst en
    refine vc_X10_pay_522 ?_
    rw [fr 10 0 53 (by omega), hB, wI_id (x := (n : Int)) (by omega) (by omega)]
    refine ⟨fun _ => ?_, fun q => by omega⟩
    have o := ov_ok S hb n (by omega)
    rw [ovP_end c5] at o
    refine m_down (c := n) (B := M) hk n M _ _ rfl (Nat.le_refl _) (by omega) (by rw [hV]; exact S) (fun _ _ _ _ => rfl) (fun N' v1 v2 v3 => k N' ?_ v2 (fun c i k a1 a2 => ?_))
    · rw [v1, hV, ovP_end c5]
    · rw [v3 _ _ _ (by omega) a2, fr _ _ _ (by omega)]
  | succ d ih =>
    intro n M hn hV fr
    refine vc_X10_pay_522 ?_
    rw [fr 10 0 53 (by omega), hB, wI_id (x := (n : Int)) (by omega) (by omega), wI_id (x := (c : Int)) (by omega) (by omega)]
    refine ⟨fun q => by omega, fun _ => ⟨n, rfl, by omega, n, rfl, by omega, fun M3 e3 => ⟨n, rfl, by omega, ?_⟩⟩⟩
    have e69 : M3 69 0 n = VM B n 2 := by
      rw [VMp (by omega) (by decide)]
      have : M 69 0 n = B 69 0 n := fr _ _ _ (by omega)
      rw [show mK 2 = 69 from rfl, ← this]
      subst e3
      exact up3_o _ _ _ (by omega)
    rw [e69]
    have e75 : M 75 0 n = VM B n 8 := by
      rw [VMp (by omega) (by decide)]
      exact fr _ _ _ (by omega)
    refine ih (n + 1) M3 (by omega) ?_ (fun c i k a => ?_)
    · rw [e3, VM_70 (by omega), hV, e75, endP_s]
    · rw [← fr _ _ _ a]
      subst e3
      simp only [up3]
      rw [if_neg (by omega)]
end ML
