/-! months run -/
def ChL (lv : Nat → (Nat → Int) → Int → Int) (c cp p f : Nat) (jf : Nat → Nat) (g : Nat) : Nat → Nat → NN → NN → List Int → Prop
  | 0, _, A, Z, ws => Z = A ∧ ws = []
  | n + 1, kk, A, Z, ws => ∃ (A1 : NN) (r : List Int), ws = A1 3 (jf (kk + 1)) g :: r ∧ MoC lv c cp p f (jf (kk + 1)) (kk + 1) A A1 ∧ ChL lv c cp p f jf g n (kk + 1) A1 Z r
/-- n months of the reference's -/
def GoN (G : GT) (K : NN → Prop) : Nat → NN → Prop
  | 0, B => K B
  | n + 1, B => C_X10_goOn G B (GoN G K n)
section CHN
variable {G : GT} {lv : Nat → (Nat → Int) → Int → Int} {c cp p f : Nat} {jf : Nat → Nat} {g : Nat}
theorem ChL_fr : ∀ (n kk : Nat) (A Z : NN) (ws : List Int), ChL lv c cp p f jf g n kk A Z ws → ∀ x i e, ¬ (x = 2 ∧ 12 * p ≤ i ∧ i < 12 * p + c) → ¬ (x = 3 ∧ ∃ m, kk < m ∧ m ≤ kk + n ∧ i = jf m) → ¬ (x = 6 ∧ i = p ∧ e = 5) → x ≠ 31 → ¬ (x = 0 ∧ i = f) → ¬ (x = 5 ∧ 5 * f ≤ i ∧ i < 5 * f + 5) → ¬ (x = 28 ∧ ∃ m, kk < m ∧ m ≤ kk + n ∧ i = jf m) → ¬ (x = 9 ∧ i = 0 ∧ e = 11) → Z x i e = A x i e
  | 0, kk, A, Z, ws, h, x, i, e, _, _, _, _, _, _, _, _ => by rw [h.1]
  | n + 1, kk, A, Z, ws, h, x, i, e, d1, d2, d3, d4, d5, d6, d7, d8 => by
    obtain ⟨A1, r, _, hm, hc⟩ := h
    rw [ChL_fr n (kk + 1) A1 Z r hc x i e d1 (fun y => d2 ⟨y.1, y.2.elim fun m z => ⟨m, by omega, by omega, z.2.2⟩⟩) d3 d4 d5 d6 (fun y => d7 ⟨y.1, y.2.elim fun m z => ⟨m, by omega, by omega, z.2.2⟩⟩) d8]
    exact MoC_fr hm x i e d1 (fun y => d2 ⟨y.1, kk + 1, by omega, by omega, y.2⟩) d3 d4 d5 d6 (fun y => d7 ⟨y.1, kk + 1, by omega, by omega, y.2.1⟩) d8
theorem ChL_CS : ∀ (n kk : Nat) (A Z : NN) (ws : List Int), ChL lv c cp p f jf g n kk A Z ws → BL c p kk A → OKF cp kk (VF A f) → BL c p ((kk + n : Nat) : Int) Z ∧ OKF cp ((kk + n : Nat) : Int) (VF Z f)
  | 0, kk, A, Z, ws, h, hb, hf => by rw [h.1]; exact ⟨hb, hf⟩
  | n + 1, kk, A, Z, ws, h, hb, hf => by
    obtain ⟨A1, r, _, hm, hc⟩ := h
    have := ChL_CS n (kk + 1) A1 Z r hc (MoC_BL hm) (MoC_F hm)
    rw [show kk + 1 + n = kk + (n + 1) by omega] at this
    exact this
theorem ChL_len : ∀ (n kk : Nat) (A Z : NN) (ws : List Int), ChL lv c cp p f jf g n kk A Z ws → ws.length = n
  | 0, kk, A, Z, ws, h => by rw [h.2]; rfl
  | n + 1, kk, A, Z, ws, h => by
    obtain ⟨A1, r, e, hm, hc⟩ := h
    rw [e, List.length_cons, ChL_len n (kk + 1) A1 Z r hc]
/-- the months' rows that a run leaves -/
theorem ChL_row : ∀ (n kk : Nat) (A Z : NN) (ws : List Int), ChL lv c cp p f (fun m => m) g n kk A Z ws → (∀ m, kk < m → m ≤ kk + n → ∀ o : Nat, A 23 0 m = (o : Int) → 1 ≤ A 4 o 1 ∧ A 4 o 1 ≤ 10) → ∀ m, kk < m → m ≤ kk + n → OKm (Z 3 m) ∧ ∀ o : Nat, Z 23 0 m = (o : Int) → ∀ i : Nat, i < 10 → Z 4 o 1 ≤ (i : Int) → Z 28 m i = 0
  | 0, kk, A, Z, ws, h, _, m, m1, m2 => absurd m2 (by omega)
  | n + 1, kk, A, Z, ws, h, ho, m, m1, m2 => by
    obtain ⟨A1, r, e, hm, hc⟩ := h
    have f1 := MoC_fr hm
    have f2 := ChL_fr n (kk + 1) A1 Z r hc
    have e23 : ∀ m, A1 23 0 m = A 23 0 m := fun m => f1 _ _ _ (by omega) (by omega) (by omega) (by omega) (by omega) (by omega) (by omega) (by omega)
    have e4 : ∀ o, A1 4 o 1 = A 4 o 1 := fun o => f1 _ _ _ (by omega) (by omega) (by omega) (by omega) (by omega) (by omega) (by omega) (by omega)
    by_cases y : m = kk + 1
    · subst y
      obtain ⟨q1, q2⟩ := MoC_row hm
      have e3 : ∀ e, Z 3 (kk + 1) e = A1 3 (kk + 1) e := fun e => f2 _ _ _ (by omega) (fun y => y.2.elim fun m z => by omega) (by omega) (by omega) (by omega) (by omega) (by omega) (by omega)
      have e28 : ∀ e, Z 28 (kk + 1) e = A1 28 (kk + 1) e := fun e => f2 _ _ _ (by omega) (by omega) (by omega) (by omega) (by omega) (by omega) (fun y => y.2.elim fun m z => by omega) (by omega)
      refine ⟨OKm_10 (fun e _ => e3 e) q1, fun o h1 i hi h2 => ?_⟩
      rw [f2 23 _ _ (by omega) (by omega) (by omega) (by omega) (by omega) (by omega) (by omega) (by omega)] at h1
      rw [f2 4 _ _ (by omega) (by omega) (by omega) (by omega) (by omega) (by omega) (by omega) (by omega)] at h2
      rw [e28]
      exact q2 o h1 i hi h2 (fun o h => by rw [e23] at h; rw [e4]; exact ho _ m1 m2 o h)
    · exact ChL_row n (kk + 1) A1 Z r hc (fun m m1 m2 o h => by rw [e23] at h; rw [e4]; exact ho m (by omega) (by omega) o h) m (by omega) (by omega)
/-- the reference's months beside the class's -/
theorem m_months {K : NN → Prop} {t : Nat} {tx : Nat → Int} {ts : Int} (lC : lvC lv) (hg : g < 12) (V : VOKm G t tx ts lv) : ∀ (n kk : Nat) (A Z B : NN) (ws : List Int), ChL lv c cp p f jf g n kk A Z ws → kk + n ≤ 60 → BL c p kk A → OKF cp kk (VF A f) → relS c p A B → relL c p A B → EqF cp kk (VF A f) (VM B) → B 10 0 1 = (kk : Int) → B 10 0 27 = (t : Int) → (∀ j, j < 160 → B 57 0 (160 * t + j) = tx j) → B 58 0 t = ts →
    (∀ m, 1 ≤ m → m ≤ 61 → ∃ o : Nat, o < 6 ∧ A 23 0 m = (o : Int) ∧ B 76 0 m = (o : Int) ∧ relO o A B) →
    (∀ B', relS c p Z B' → relL c p Z B' → EqF cp ((kk + n : Nat) : Int) (VF Z f) (VM B') → B' 10 0 1 = ((kk + n : Nat) : Int) → FrB c kk n B B' → (∀ q e, cp ≤ q → q < 5 → e < 9 → B' (mK e) 0 q = B (mK e) 0 q) → (∀ i, i < n → MM B' (kk + 1 + i) g = ws.getD i 0) → ((∀ m, jf m = m) → ∀ m, kk < m → m ≤ kk + n → relT m m Z B') → K B') → GoN G K n B
  | 0, kk, A, Z, B, ws, h, hk, hb, hf, S, R, E, h1, h27, h57, h58, hO, k => by
    obtain ⟨e1, e2⟩ := h
    subst e1
    exact k B S R E h1 FrB_rf (fun _ _ _ _ _ => rfl) (fun i hi => absurd hi (by omega)) (fun _ m m1 m2 => absurd m2 (by omega))
  | n + 1, kk, A, Z, B, ws, h, hk, hb, hf, S, R, E, h1, h27, h57, h58, hO, k => by
    obtain ⟨A1, r, ew, hm, hc⟩ := h
    unfold GoN
    refine vc_X10_goOn (fun M1 e1 => ?_)
    have f1 : ∀ x i e, ¬ (x = 10 ∧ i = 0 ∧ e = 1) → M1 x i e = B x i e := fun x i e d => by rw [e1, up3_o' (by omega)]
    have v1 : M1 10 0 1 = ((kk + 1 : Nat) : Int) := by rw [e1, up3_s, h1]; omega
    rw [v1]
    have S1 : relS c p A M1 := by
      obtain ⟨s1, s2, s3, s4⟩ := S
      exact ⟨by rw [f1 _ _ _ (by omega)]; exact s1, by rw [f1 _ _ _ (by omega)]; exact s2, by rw [f1 _ _ _ (by omega)]; exact s3, by rw [f1 _ _ _ (by omega)]; exact s4⟩
    have R1 : relL c p A M1 := ⟨fun n hn g hg => by rw [f1 _ _ _ (by omega)]; exact R.1 n hn g hg, by rw [f1 _ _ _ (by omega)]; exact R.2⟩
    have E1 : EqF cp kk (VF A f) (VM M1) := by rw [VM_un (M := M1) (N := B) fun x i e d => f1 _ _ _ (by omega)]; exact E
    refine m_month (cc := kk + 1) rfl lC (by omega) hb S1 R1 hf E1 V (by rw [f1 _ _ _ (by omega)]; exact h27) (fun j hj => by rw [f1 _ _ _ (by omega)]; exact h57 j hj) (by rw [f1 _ _ _ (by omega)]; exact h58) hm ?_ (fun B2 S2 R2 E2 T2 fB pB v2 => ?_) (fun B1 b1 hpay => by rw [b1, v1]; exact hpay)
    · obtain ⟨o, o6, c1, c2, rO⟩ := hO (kk + 1) (by omega) (by omega)
      exact ⟨o, o6, c1, by rw [f1 _ _ _ (by omega)]; exact c2, relO_fr2 rO (fun _ _ _ _ => rfl) (fun x i e d => f1 _ _ _ (by omega))⟩
    · have fB' : FrB c kk 1 B B2 := fun x i e d1 d2 d3 d4 d5 d6 => by rw [fB x i e d1 d2 d3 d4 d5 d6, f1 _ _ _ (by omega)]
      have fA := MoC_fr hm
      refine m_months lC hg V n (kk + 1) A1 Z B2 r hc (by omega) (MoC_BL hm) (MoC_F hm) S2 R2 E2 (by rw [v2]; exact v1) ?_ (fun j hj => ?_) ?_ (fun m m1 m2 => ?_) (fun B' S' R' E' v' fB2 pB2 ms ts => ?_)
      · rw [fB' _ _ _ (by omega) (by omega) (by omega) (by omega) (by omega) (by omega)]; exact h27
      · rw [fB' _ _ _ (by omega) (by omega) (by omega) (by omega) (by omega) (by omega)]; exact h57 j hj
      · rw [fB' _ _ _ (by omega) (by omega) (by omega) (by omega) (by omega) (by omega)]; exact h58
      · obtain ⟨o, o6, c1, c2, rO⟩ := hO m m1 m2
        exact ⟨o, o6, by rw [fA _ _ _ (by omega) (by omega) (by omega) (by omega) (by omega) (by omega) (by omega) (by omega)]; exact c1, by rw [fB' _ _ _ (by omega) (by omega) (by omega) (by omega) (by omega) (by omega)]; exact c2, relO_fr2 rO (fun x i e d => fA _ _ _ (by omega) (by omega) (by omega) (by omega) (by omega) (by omega) (by omega) (by omega)) (fun x i e d => fB' _ _ _ (by omega) (by omega) (by omega) (by omega) (by omega) (by omega))⟩
      · have ekn : kk + 1 + n = kk + (n + 1) := by omega
        rw [ekn] at E' v' ts
        have mm1 : ∀ e, e < 12 → MM B' (kk + 1) e = MM B2 (kk + 1) e := fun e he => by
          have q := mF_in he
          exact fB2 _ _ _ (by omega) (by omega) (by omega) (by omega) (by omega) (by omega)
        refine k B' S' R' E' v' (FrB_tr fB' fB2) (fun q e q1 q2 q3 => ?_) (fun i hi => ?_) (fun hj m m1 m2 => ?_)
        · have := mK_r e q3
          rw [pB2 q e q1 q2 q3, pB q e q1 q2 q3, f1 _ _ _ (by omega)]
        · rw [ew]
          by_cases y : i = 0
          · subst y
            rw [Nat.add_zero, mm1 g hg, T2.1 g hg]
            rfl
          · obtain ⟨i', ei⟩ : ∃ i', i = i' + 1 := ⟨i - 1, by omega⟩
            subst ei
            rw [show kk + 1 + (i' + 1) = kk + 1 + 1 + i' by omega, ms i' (by omega)]
            rfl
        · by_cases y : m = kk + 1
          · subst y
            have fz := ChL_fr n (kk + 1) A1 Z r hc
            rw [hj] at T2
            refine ⟨fun e he => ?_, fun i hi => ?_⟩
            · rw [mm1 e he, T2.1 e he, fz 3 _ _ (by omega) (fun y => y.2.elim fun m z => by have := hj m; omega) (by omega) (by omega) (by omega) (by omega) (by omega) (by omega)]
            · rw [fB2 80 _ _ (by omega) (by omega) (by omega) (by omega) (by omega) (by omega), T2.2 i hi, fz 28 _ _ (by omega) (by omega) (by omega) (by omega) (by omega) (by omega) (fun y => y.2.elim fun m z => by have := hj m; omega) (by omega)]
          · exact ts hj m (by omega) m2
end CHN
