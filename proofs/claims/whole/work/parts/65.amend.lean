/-! another order: the months are paid anew -/
def ChP (cp : Nat) : Nat → Nat → NN → NN → Prop
  | 0, _, A, Z => Z = A
  | n + 1, kk, A, Z => ∃ (A1 : NN) (o : Nat), A 23 0 (kk + 1) = (o : Int) ∧ PourC cp 0 (kk + 1) o ((kk + 1 : Nat) : Int) A A1 ∧ OKF cp ((kk + 1 : Nat) : Int) (VF A1 0) ∧ ChP cp n (kk + 1) A1 Z
section AME
variable {G : GT} {cp oo : Nat} {B0 : NN}
theorem ChP_fr : ∀ (n kk : Nat) (A Z : NN), ChP cp n kk A Z → ∀ x i e, ¬ (x = 0 ∧ i = 0) → ¬ (x = 5 ∧ i < 5) → ¬ (x = 28 ∧ kk < i ∧ i ≤ kk + n ∧ e < 10) → ¬ (x = 3 ∧ kk < i ∧ i ≤ kk + n ∧ (e = 5 ∨ e = 10 ∨ e = 11)) → Z x i e = A x i e
  | 0, kk, A, Z, h, x, i, e, _, _, _, _ => by rw [show Z = A from h]
  | n + 1, kk, A, Z, h, x, i, e, d1, d2, d3, d4 => by
    obtain ⟨A1, o, _, hp, _, hc⟩ := h
    rw [ChP_fr n (kk + 1) A1 Z hc x i e d1 d2 (by omega) (by omega)]
    exact hp.2.2.2.2.2 _ _ _ d1 (by omega) (by omega) (by omega)
theorem ChP_F : ∀ (n kk : Nat) (A Z : NN), ChP cp n kk A Z → OKF cp kk (VF A 0) → OKF cp ((kk + n : Nat) : Int) (VF Z 0)
  | 0, kk, A, Z, h, hf => by rw [show Z = A from h]; exact hf
  | n + 1, kk, A, Z, h, hf => by
    obtain ⟨A1, o, _, _, h2, hc⟩ := h
    have := ChP_F n (kk + 1) A1 Z hc h2
    rw [show kk + 1 + n = kk + (n + 1) by omega] at this
    exact this
theorem ChP_row : ∀ (n kk : Nat) (A Z : NN), ChP cp n kk A Z → (∀ m, kk < m → m ≤ kk + n → ∀ o : Nat, A 23 0 m = (o : Int) → 1 ≤ A 4 o 1 ∧ A 4 o 1 ≤ 10) → ∀ m, kk < m → m ≤ kk + n → ∀ o : Nat, Z 23 0 m = (o : Int) → ∀ i : Nat, i < 10 → Z 4 o 1 ≤ (i : Int) → Z 28 m i = 0
  | 0, kk, A, Z, h, _, m, m1, m2 => absurd m2 (by omega)
  | n + 1, kk, A, Z, h, ho, m, m1, m2 => by
    obtain ⟨A1, o', o23, hp, _, hc⟩ := h
    have f1 := hp.2.2.2.2.2
    have f2 := ChP_fr n (kk + 1) A1 Z hc
    by_cases y : m = kk + 1
    · subst y
      intro o h1 i hi h2
      rw [f2 _ _ _ (by omega) (by omega) (by omega) (by omega), f1 _ _ _ (by omega) (by omega) (by omega) (by omega)] at h1
      rw [f2 _ _ _ (by omega) (by omega) (by omega) (by omega), f1 _ _ _ (by omega) (by omega) (by omega) (by omega)] at h2
      have : o' = o := by omega
      subst this
      rw [f2 _ _ _ (by omega) (by omega) (by omega) (by omega), hp.2.2.2.2.1 i hi]
      have := ho _ m1 m2 o' h1
      unfold tookP stepP
      rw [wI_id (by omega) (by omega), if_pos h2]
    · exact ChP_row n (kk + 1) A1 Z hc (fun m m1 m2 o h => by rw [f1 _ _ _ (by omega) (by omega) (by omega) (by omega)] at h ⊢; exact ho m (by omega) (by omega) o h) m (by omega) (by omega)
/-- the class pays its months anew -/
theorem c_am64 {K : Int → NN → Prop} {k : Nat} (k60 : k ≤ 60) (oo6 : oo ≤ 6) : ∀ (d kk : Nat) (A : NN), kk + d = k → A 9 0 11 = (k : Int) → A 9 0 13 = (oo : Int) → OKF cp kk (VF A 0) → (∀ m, 1 ≤ m → m ≤ 61 → ∃ o : Nat, o < oo ∧ A 23 0 m = (o : Int) ∧ relO o A B0) → (∀ m, kk < m → m ≤ k → OKm (A 3 m)) → (∀ Z, ChP cp d kk A Z → K (k : Int) Z) → W_X9_amend G K 64 [(0, vR 9 0), (3, vI ((kk + 1 : Nat) : Int))] [] A
  | 0, kk, A, hd, h9, h13, hf, hO, hm, kc => by
    have wk := fun _ : Unit => wI_id (x := (k : Int)) (by omega) (by omega)
    have w1 := fun _ : Unit => wI_id (x := ((kk + 1 : Nat) : Int)) (by omega) (by omega)
    refine vc_X9_amend_64 ?_
    rw [h9, wk (), w1 ()]
    exact ⟨fun _ => kc A rfl, fun q => absurd q (by omega)⟩
  | d + 1, kk, A, hd, h9, h13, hf, hO, hm, kc => by
    have wk := fun _ : Unit => wI_id (x := (k : Int)) (by omega) (by omega)
    have w1 := fun _ : Unit => wI_id (x := ((kk + 1 : Nat) : Int)) (by omega) (by omega)
    have k1 : (((kk + 1 : Nat) : Int)) - 1 = (kk : Int) := by omega
    obtain ⟨o, ho, c1, rO⟩ := hO (kk + 1) (by omega) (by omega)
    refine vc_X9_amend_64 ?_
    rw [h9, wk (), w1 ()]
    refine ⟨fun q => absurd q (by omega), fun _ => ⟨fun q => absurd q (by omega), fun _ => ⟨kk + 1, rfl, by omega, t_orderIn (oo := oo) (o := o) (by omega) h13 oo6 c1 ho ?_⟩⟩⟩
    refine c_pour (B := B0) (c := cp) (by decide) (by omega) (by omega) (by omega) (by rw [k1]; exact hf) (hm _ (by omega) (by omega)) rO (fun A1 hP hF => ?_)
    have f1 := hP.2.2.2.2.2
    refine c_am64 k60 oo6 d (kk + 1) A1 (by omega) ?_ ?_ hF (fun m m1 m2 => ?_) (fun m m1 m2 => ?_) (fun Z hc => kc Z ⟨A1, o, c1, hP, hF, hc⟩)
    · rw [f1 _ _ _ (by omega) (by omega) (by omega) (by omega)]; exact h9
    · rw [f1 _ _ _ (by omega) (by omega) (by omega) (by omega)]; exact h13
    · obtain ⟨o, ho, c1, rO⟩ := hO m m1 m2
      exact ⟨o, ho, by rw [f1 _ _ _ (by omega) (by omega) (by omega) (by omega)]; exact c1, relO_fr2 rO (fun x i e d => f1 _ _ _ (by omega) (by omega) (by omega) (by omega)) (fun _ _ _ _ => rfl)⟩
    · exact OKm_10 (fun e _ => f1 _ _ _ (by omega) (by omega) (by omega) (by omega)) (hm m (by omega) m2)
theorem m_am58 {K : Int → NN → Prop} {k : Nat} (k60 : k ≤ 60) : ∀ (d kk : Nat) (A Z B : NN), kk + d = k → ChP cp d kk A Z → B 10 0 1 = (k : Int) → OKF cp kk (VF A 0) → EqF cp kk (VF A 0) (VM B) → (∀ m, 1 ≤ m → m ≤ 61 → ∃ o : Nat, o < 6 ∧ A 23 0 m = (o : Int) ∧ B 76 0 m = (o : Int) ∧ relO o A B) → (∀ m, kk < m → m ≤ k → relM m m A B ∧ OKm (A 3 m)) →
    (∀ B', EqF cp k (VF Z 0) (VM B') → (∀ m, kk < m → m ≤ k → relT m m Z B') → (∀ x i e, ¬ (69 ≤ x ∧ x ≤ 75 ∧ i = 0) → ¬ (x = 10 ∧ i = 0 ∧ 64 ≤ e ∧ e ≤ 68) → ¬ (77 ≤ x ∧ x ≤ 79 ∧ i = 0 ∧ kk < e ∧ e ≤ k) → ¬ (x = 80 ∧ i = 0 ∧ 10 * kk + 10 ≤ e ∧ e < 10 * k + 10) → B' x i e = B x i e) → (∀ q e, cp ≤ q → q < 5 → e < 9 → B' (mK e) 0 q = B (mK e) 0 q) → K (k : Int) B') → W_X10_amend G K 58 [(0, vR 10 0), (3, vI ((kk + 1 : Nat) : Int))] [] B
  | 0, kk, A, Z, B, hd, hc, h1, hf, E, hO, hm, kc => by
    have wk := fun _ : Unit => wI_id (x := (k : Int)) (by omega) (by omega)
    have w1 := fun _ : Unit => wI_id (x := ((kk + 1 : Nat) : Int)) (by omega) (by omega)
    refine vc_X10_amend_58 ?_
    rw [h1, wk (), w1 ()]
    have ek : kk = k := hd
    subst ek
    have eZ : Z = A := hc
    subst eZ
    exact ⟨fun _ => kc B E (fun m m1 m2 => absurd m2 (by omega)) (fun _ _ _ _ _ _ _ => rfl) (fun _ _ _ _ _ => rfl), fun q => absurd q (by omega)⟩
  | d + 1, kk, A, Z, B, hd, hc, h1, hf, E, hO, hm, kc => by
    have wk := fun _ : Unit => wI_id (x := (k : Int)) (by omega) (by omega)
    have w1 := fun _ : Unit => wI_id (x := ((kk + 1 : Nat) : Int)) (by omega) (by omega)
    have k1 : (((kk + 1 : Nat) : Int)) - 1 = (kk : Int) := by omega
    obtain ⟨A1, o', o23, hp, hF1, hc'⟩ := hc
    obtain ⟨o, o6, c1, c2, rO⟩ := hO (kk + 1) (by omega) (by omega)
    have : o' = o := by omega
    subst this
    obtain ⟨rm, om⟩ := hm (kk + 1) (by omega) (by omega)
    refine vc_X10_amend_58 ?_
    rw [h1, wk (), w1 ()]
    refine ⟨fun q => absurd q (by omega), fun _ => ?_⟩
    have OF1 : OKF cp (((kk + 1 : Nat) : Int) - 1) (VF A 0) := by rw [k1]; exact hf
    have E1 : EqF cp (((kk + 1 : Nat) : Int) - 1) (VF A 0) (VM B) := by rw [k1]; exact E
    refine m_pay (A := A) (by omega) OF1 E1 om rm o6 rO c2 (fun B2 hB2 => ?_)
    obtain ⟨E2, T2⟩ := lock_pour (by omega) OF1 E1 rm rO hp hB2
    have vm := hB2.1
    have fB : FrM B B2 (kk + 1) := hB2.2.2.2.2.2
    have f1 := hp.2.2.2.2.2
    have fz := ChP_fr d (kk + 1) A1 Z hc'
    refine m_am58 k60 d (kk + 1) A1 Z B2 (by omega) hc' ?_ hF1 E2 (fun m m1 m2 => ?_) (fun m m1 m2 => ?_) (fun B' E' T' f' p' => ?_)
    · rw [fB _ _ _ (by omega) (by omega) (by omega) (by omega)]; exact h1
    · obtain ⟨o, o6, c1, c2, rO⟩ := hO m m1 m2
      exact ⟨o, o6, by rw [f1 _ _ _ (by omega) (by omega) (by omega) (by omega)]; exact c1, by rw [fB _ _ _ (by omega) (by omega) (by omega) (by omega)]; exact c2, relO_fr2 rO (fun x i e d => f1 _ _ _ (by omega) (by omega) (by omega) (by omega)) (fun x i e d => fB _ _ _ (by omega) (by omega) (by omega) (by omega))⟩
    · obtain ⟨rm, om⟩ := hm m (by omega) m2
      refine ⟨fun e he h5 => ?_, OKm_10 (fun e _ => f1 _ _ _ (by omega) (by omega) (by omega) (by omega)) om⟩
      have q := mF_in (f := e) (by omega)
      rw [f1 _ _ _ (by omega) (by omega) (by omega) (by omega)]
      exact (fB _ _ _ (by omega) (by omega) (by omega) (by omega)).trans (rm e he h5)
    · refine kc B' E' (fun m m1 m2 => ?_) (fun x i e d1 d2 d3 d4 => ?_) (fun q e q1 q2 q3 => ?_)
      · by_cases y : m = kk + 1
        · subst y
          refine ⟨fun e he => ?_, fun i hi => ?_⟩
          · have q := mF_in he
            have mm : MM B' (kk + 1) e = MM B2 (kk + 1) e := f' _ _ _ (by omega) (by omega) (by omega) (by omega)
            rw [mm, T2.1 e he, fz _ _ _ (by omega) (by omega) (by omega) (by omega)]
          · rw [f' 80 _ _ (by omega) (by omega) (by omega) (by omega), T2.2 i hi, fz 28 _ _ (by omega) (by omega) (by omega) (by omega)]
        · exact T' m (by omega) m2
      · rw [f' _ _ _ d1 d2 (by omega) (by omega), fB _ _ _ d1 d2 (by omega) (by omega)]
      · have c5 := OF1.1
        have h1' : VM B 9 1 = cp := by rw [← E1 9 1 (by omega)]; exact OF1.2.1
        have := congrFun (congrFun vm q) e
        rw [VMp q2 q3, pour_out c5 h1' q1 (by omega), VMp q2 q3] at this
        rw [p' q e q1 q2 q3, this]
/-- the months' orders changed -/
theorem c_am33 {K : Int → NN → Prop} {o : Int} : ∀ (d m : Nat) (A : NN), m + d = 62 → (∀ A' : NN, (∀ i, m ≤ i → i < 62 → A' 23 0 i = o) → (∀ x i e, ¬ (x = 23 ∧ i = 0 ∧ m ≤ e) → A' x i e = A x i e) → C_X0_restart G 0 A' (fun N1 => W_X9_amend G K 64 [(0, vR 9 0), (3, vI 1)] [] N1)) → W_X9_amend G K 33 [(0, vR 9 0), (2, vI o), (3, vI (m : Int))] [] A
  | 0, m, A, hd, k => by
    have wm := fun _ : Unit => wI_id (x := (m : Int)) (by omega) (by omega)
    refine vc_X9_amend_33 ?_
    rw [wm ()]
    exact ⟨fun _ => k A (fun i h1 h2 => by omega) (fun _ _ _ _ => rfl), fun q => absurd q (by omega)⟩
  | d + 1, m, A, hd, k => by
    have wm := fun _ : Unit => wI_id (x := (m : Int)) (by omega) (by omega)
    refine vc_X9_amend_33 ?_
    rw [wm ()]
    refine ⟨fun q => absurd q (by omega), fun _ => ⟨m, rfl, by omega, fun M3 e3 => c_am33 d (m + 1) M3 (by omega) (fun A' g1 g2 => k A' (fun i i1 i2 => ?_) (fun x i e d1 => ?_))⟩⟩
    · by_cases y : i = m
      · subst y
        rw [g2 _ _ _ (by omega), e3, up3_s]
      · exact g1 i (by omega) i2
    · rw [g2 _ _ _ (by omega), e3, up3_o' (by omega)]
theorem m_am33 {K : Int → NN → Prop} {o : Int} : ∀ (d m : Nat) (A : NN), m + d = 62 → (∀ A' : NN, (∀ i, m ≤ i → i < 62 → A' 76 0 i = o) → (∀ x i e, ¬ (x = 76 ∧ i = 0 ∧ m ≤ e) → A' x i e = A x i e) → C_X10_anew G A' (fun N1 => W_X10_amend G K 58 [(0, vR 10 0), (3, vI 1)] [] N1)) → W_X10_amend G K 33 [(0, vR 10 0), (2, vI o), (3, vI (m : Int))] [] A
  | 0, m, A, hd, k => by
    have wm := fun _ : Unit => wI_id (x := (m : Int)) (by omega) (by omega)
    refine vc_X10_amend_33 ?_
    rw [wm ()]
    exact ⟨fun _ => k A (fun i h1 h2 => by omega) (fun _ _ _ _ => rfl), fun q => absurd q (by omega)⟩
  | d + 1, m, A, hd, k => by
    have wm := fun _ : Unit => wI_id (x := (m : Int)) (by omega) (by omega)
    refine vc_X10_amend_33 ?_
    rw [wm ()]
    refine ⟨fun q => absurd q (by omega), fun _ => ⟨m, rfl, by omega, fun M3 e3 => m_am33 d (m + 1) M3 (by omega) (fun A' g1 g2 => k A' (fun i i1 i2 => ?_) (fun x i e d1 => ?_))⟩⟩
    · by_cases y : i = m
      · subst y
        rw [g2 _ _ _ (by omega), e3, up3_s]
      · exact g1 i (by omega) i2
    · rw [g2 _ _ _ (by omega), e3, up3_o' (by omega)]
/-- the reference's papers as they were told -/
theorem m_anew {K : NN → Prop} {B0 : NN} (c5 : cp ≤ 5) (h53 : B0 10 0 53 = (cp : Int)) (k : ∀ B' : NN, (∀ q, q < cp → B' 69 0 q = B0 67 0 q ∧ B' 70 0 q = 0 ∧ B' 71 0 q = 0 ∧ B' 72 0 q = 0 ∧ B' 73 0 q = 0 ∧ B' 74 0 q = 0) → (∀ e, 64 ≤ e → e ≤ 68 → B' 10 0 e = 0) → (∀ x i e, ¬ (69 ≤ x ∧ x ≤ 74 ∧ i = 0 ∧ e < cp) → ¬ (x = 10 ∧ i = 0 ∧ 64 ≤ e ∧ e ≤ 68) → B' x i e = B0 x i e) → K B') : ∀ (d i : Nat) (B : NN), i + d = cp → (∀ q, q < i → B 69 0 q = B0 67 0 q ∧ B 70 0 q = 0 ∧ B 71 0 q = 0 ∧ B 72 0 q = 0 ∧ B 73 0 q = 0 ∧ B 74 0 q = 0) → (∀ x j e, ¬ (69 ≤ x ∧ x ≤ 74 ∧ j = 0 ∧ e < i) → B x j e = B0 x j e) → W_X10_anew G K 2 [(0, vR 10 0), (1, vI (i : Int))] [] B
  | 0, i, B, hd, g, f => by
    have wi := fun _ : Unit => wI_id (x := (i : Int)) (by omega) (by omega)
    have wc := fun _ : Unit => wI_id (x := (cp : Int)) (by omega) (by omega)
    refine vc_X10_anew_2 ?_
    rw [f 10 0 53 (by omega), h53, wi (), wc ()]
    refine ⟨fun _ M1 e1 M2 e2 M3 e3 M4 e4 M5 e5 => k M5 (fun q hq => ?_) (fun e x1 x2 => ?_) (fun x j e d1 d2 => ?_), fun q => absurd q (by omega)⟩
    · have f5 : ∀ x, x ≠ 10 → M5 x 0 q = B x 0 q := fun x hx => by rw [e5, up3_o' (by omega), e4, up3_o' (by omega), e3, up3_o' (by omega), e2, up3_o' (by omega), e1, up3_o' (by omega)]
      rw [f5 69 (by decide), f5 70 (by decide), f5 71 (by decide), f5 72 (by decide), f5 73 (by decide), f5 74 (by decide)]
      exact g q (by omega)
    · rcases (by omega : e = 64 ∨ e = 65 ∨ e = 66 ∨ e = 67 ∨ e = 68) with rfl | rfl | rfl | rfl | rfl
      · rw [e5, up3_o' (by omega), e4, up3_o' (by omega), e3, up3_o' (by omega), e2, up3_o' (by omega), e1, up3_s]
      · rw [e5, up3_o' (by omega), e4, up3_o' (by omega), e3, up3_o' (by omega), e2, up3_s]
      · rw [e5, up3_o' (by omega), e4, up3_o' (by omega), e3, up3_s]
      · rw [e5, up3_o' (by omega), e4, up3_s]
      · rw [e5, up3_s]
    · rw [e5, up3_o' (by omega), e4, up3_o' (by omega), e3, up3_o' (by omega), e2, up3_o' (by omega), e1, up3_o' (by omega)]
      exact f _ _ _ (by omega)
  | d + 1, i, B, hd, g, f => by
    have wi := fun _ : Unit => wI_id (x := (i : Int)) (by omega) (by omega)
    have wc := fun _ : Unit => wI_id (x := (cp : Int)) (by omega) (by omega)
    refine vc_X10_anew_2 ?_
    rw [f 10 0 53 (by omega), h53, wi (), wc ()]
    have l : i < 5 := by omega
    refine ⟨fun q => absurd q (by omega), fun _ => ⟨i, rfl, l, i, rfl, l, fun M8 e8 => ⟨i, rfl, l, fun M10 e10 => ⟨i, rfl, l, fun M12 e12 => ⟨i, rfl, l, fun M14 e14 => ⟨i, rfl, l, fun M16 e16 => ⟨i, rfl, l, fun M18 e18 => ?_⟩⟩⟩⟩⟩⟩⟩
    have fM : ∀ x j e, ¬ (69 ≤ x ∧ x ≤ 74 ∧ j = 0 ∧ e = i) → M18 x j e = B x j e := fun x j e d => by rw [e18, up3_o' (by omega), e16, up3_o' (by omega), e14, up3_o' (by omega), e12, up3_o' (by omega), e10, up3_o' (by omega), e8, up3_o' (by omega)]
    refine m_anew c5 h53 k d (i + 1) M18 (by omega) (fun q hq => ?_) (fun x j e d1 => ?_)
    · by_cases y : q = i
      · subst y
        refine ⟨?_, ?_, ?_, ?_, ?_, ?_⟩
        · rw [e18, up3_o' (by omega), e16, up3_o' (by omega), e14, up3_o' (by omega), e12, up3_o' (by omega), e10, up3_o' (by omega), e8, up3_s, f _ _ _ (by omega)]
        · rw [e18, up3_o' (by omega), e16, up3_o' (by omega), e14, up3_o' (by omega), e12, up3_o' (by omega), e10, up3_s]
        · rw [e18, up3_o' (by omega), e16, up3_o' (by omega), e14, up3_o' (by omega), e12, up3_s]
        · rw [e18, up3_o' (by omega), e16, up3_o' (by omega), e14, up3_s]
        · rw [e18, up3_o' (by omega), e16, up3_s]
        · rw [e18, up3_s]
      · rw [fM 69 _ _ (by omega), fM 70 _ _ (by omega), fM 71 _ _ (by omega), fM 72 _ _ (by omega), fM 73 _ _ (by omega), fM 74 _ _ (by omega)]
        exact g q (by omega)
    · rw [fM _ _ _ (by omega), f _ _ _ (by omega)]
theorem restF_ok {k : Int} {F : Nat → Nat → Int} (h : OKF cp k F) : OKF cp 0 (restF F) := by
  obtain ⟨c5, h1, hp, hs⟩ := h
  refine ⟨c5, ?_, fun q hq => ?_, ?_⟩
  · unfold restF restN; rw [if_neg (by omega), if_neg (by omega)]; exact h1
  · have := hp q hq
    have l : q < 5 := by omega
    unfold pOK at *
    have e : ∀ e, restF F q e = if e = 2 then F q 1 else if 3 ≤ e ∧ e ≤ 8 then 0 else F q e := fun e => by unfold restF restN; rw [if_neg (by omega), if_pos l]
    rw [e 0, e 1, e 2, e 3, e 4, e 5, e 6, e 7]
    simp only [Nat.reduceEqDiff, Nat.reduceLeDiff, ↓reduceIte, and_self, false_and, and_false, true_and, and_true, Nat.le_refl]
    omega
  · unfold sOK at *
    have e : ∀ e, restF F 9 e = if 4 ≤ e ∧ e ≤ 9 then 0 else F 9 e := fun e => by
      unfold restF restN
      by_cases y : 4 ≤ e ∧ e ≤ 9
      · rw [if_pos ⟨rfl, y⟩, if_pos y]
      · rw [if_neg (by omega), if_neg (by decide), if_neg y]
    have z : ∀ x, 4 ≤ x → x ≤ 9 → restF F 9 x = 0 := fun x h1 h2 => (e x).trans (if_pos ⟨h1, h2⟩)
    have o : ∀ x, ¬ (4 ≤ x ∧ x ≤ 9) → restF F 9 x = F 9 x := fun x h1 => (e x).trans (if_neg h1)
    rw [o 2 (by decide), o 3 (by decide), z 4 (by decide) (by decide), z 5 (by decide) (by decide), z 6 (by decide) (by decide), z 7 (by decide) (by decide), z 8 (by decide) (by decide), z 9 (by decide) (by decide)]
    omega
end AME
