/-! beside: the class's copies -/
def lsum : Int → List Int → Int
  | s, [] => s
  | s, v :: r => lsum (s + v) r
section BES
variable {G : GT}
theorem s_copyLoan {a b : Nat} {N : NN} {K : NN → Prop} (ha : a < 24) (hb : b < 24) (hne : a ≠ b) (k : ∀ N', (∀ f, f < 8 → N' 2 a f = N 2 b f) → (∀ c i k, ¬ (c = 2 ∧ i = a) → N' c i k = N c i k) → K N') : C_X2_copy G a b N K := by
  refine vc_X2_copy ha hb (fun M1 e1 M2 e2 M3 e3 M4 e4 M5 e5 M6 e6 M7 e7 M8 e8 => k M8 (fun f hf => ?_) (fun c i k d => ?_))
  · rcases (by omega : f = 0 ∨ f = 1 ∨ f = 2 ∨ f = 3 ∨ f = 4 ∨ f = 5 ∨ f = 6 ∨ f = 7) with rfl | rfl | rfl | rfl | rfl | rfl | rfl | rfl
    · rw [e8, up3_o' (by omega), e7, up3_o' (by omega), e6, up3_o' (by omega), e5, up3_o' (by omega), e4, up3_o' (by omega), e3, up3_o' (by omega), e2, up3_o' (by omega), e1, up3_s]
    · rw [e8, up3_o' (by omega), e7, up3_o' (by omega), e6, up3_o' (by omega), e5, up3_o' (by omega), e4, up3_o' (by omega), e3, up3_o' (by omega), e2, up3_s, e1, up3_o' (by omega)]
    · rw [e8, up3_o' (by omega), e7, up3_o' (by omega), e6, up3_o' (by omega), e5, up3_o' (by omega), e4, up3_o' (by omega), e3, up3_s, e2, up3_o' (by omega), e1, up3_o' (by omega)]
    · rw [e8, up3_o' (by omega), e7, up3_o' (by omega), e6, up3_o' (by omega), e5, up3_o' (by omega), e4, up3_s, e3, up3_o' (by omega), e2, up3_o' (by omega), e1, up3_o' (by omega)]
    · rw [e8, up3_o' (by omega), e7, up3_o' (by omega), e6, up3_o' (by omega), e5, up3_s, e4, up3_o' (by omega), e3, up3_o' (by omega), e2, up3_o' (by omega), e1, up3_o' (by omega)]
    · rw [e8, up3_o' (by omega), e7, up3_o' (by omega), e6, up3_s, e5, up3_o' (by omega), e4, up3_o' (by omega), e3, up3_o' (by omega), e2, up3_o' (by omega), e1, up3_o' (by omega)]
    · rw [e8, up3_o' (by omega), e7, up3_s, e6, up3_o' (by omega), e5, up3_o' (by omega), e4, up3_o' (by omega), e3, up3_o' (by omega), e2, up3_o' (by omega), e1, up3_o' (by omega)]
    · rw [e8, up3_s, e7, up3_o' (by omega), e6, up3_o' (by omega), e5, up3_o' (by omega), e4, up3_o' (by omega), e3, up3_o' (by omega), e2, up3_o' (by omega), e1, up3_o' (by omega)]
  · rw [e8, up3_o' (by omega), e7, up3_o' (by omega), e6, up3_o' (by omega), e5, up3_o' (by omega), e4, up3_o' (by omega), e3, up3_o' (by omega), e2, up3_o' (by omega), e1, up3_o' (by omega)]
theorem lp_copyPool {N : NN} {K : NN → Prop} (h4 : N 6 0 4 = 0 ∨ N 6 0 4 = 1) (h6 : 0 ≤ N 6 0 6 ∧ N 6 0 6 < 6) (k : ∀ N', (∀ n, n < 12 → ∀ f, f < 8 → N' 2 (12 + n) f = N 2 n f) → (∀ e, 1 ≤ e → e ≤ 6 → N' 6 1 e = N 6 0 e) → (∀ c i k, ¬ (c = 2 ∧ 12 ≤ i ∧ i < 24) → ¬ (c = 6 ∧ i = 1) → N' c i k = N c i k) → K N') : ∀ (d n : Nat) (A : NN), n + d = 12 → (∀ q, q < n → ∀ f, f < 8 → A 2 (12 + q) f = N 2 q f) → (∀ c i k, ¬ (c = 2 ∧ 12 ≤ i ∧ i < 12 + n) → A c i k = N c i k) → W_X6_copy G K 2 [(0, vR 6 1), (1, vR 6 0), (2, vI (n : Int))] [] A
  | 0, n, A, hd, g, f => by
    have wn := fun _ : Unit => wI_id (x := (n : Int)) (by omega) (by omega)
    refine vc_X6_copy_2 (by decide) (by decide) ?_
    rw [wn ()]
    refine ⟨fun _ M1 e1 M2 e2 M3 e3 => ⟨?_, fun M4 e4 M5 e5 => ⟨?_, ?_, fun M6 e6 => ?_⟩⟩, fun q => absurd q (by omega)⟩
    · rw [e3, up3_o' (by omega), e2, up3_o' (by omega), e1, up3_o' (by omega), f _ _ _ (by omega)]; exact h4
    · rw [e5, up3_o' (by omega), e4, up3_o' (by omega), e3, up3_o' (by omega), e2, up3_o' (by omega), e1, up3_o' (by omega), f _ _ _ (by omega)]; exact h6.1
    · rw [e5, up3_o' (by omega), e4, up3_o' (by omega), e3, up3_o' (by omega), e2, up3_o' (by omega), e1, up3_o' (by omega), f _ _ _ (by omega)]; omega
    · have x6 : M5 6 0 6 = N 6 0 6 := by rw [e5, up3_o' (by omega), e4, up3_o' (by omega), e3, up3_o' (by omega), e2, up3_o' (by omega), e1, up3_o' (by omega), f _ _ _ (by omega)]
      have x5 : M4 6 0 5 = N 6 0 5 := by rw [e4, up3_o' (by omega), e3, up3_o' (by omega), e2, up3_o' (by omega), e1, up3_o' (by omega), f _ _ _ (by omega)]
      have x4 : M3 6 0 4 = N 6 0 4 := by rw [e3, up3_o' (by omega), e2, up3_o' (by omega), e1, up3_o' (by omega), f _ _ _ (by omega)]
      have x3 : M2 6 0 3 = N 6 0 3 := by rw [e2, up3_o' (by omega), e1, up3_o' (by omega), f _ _ _ (by omega)]
      have x2 : M1 6 0 2 = N 6 0 2 := by rw [e1, up3_o' (by omega), f _ _ _ (by omega)]
      have x1 : A 6 0 1 = N 6 0 1 := f _ _ _ (by omega)
      rw [x1] at e1
      rw [x2] at e2
      rw [x3] at e3
      rw [x4] at e4
      rw [x5] at e5
      rw [x6] at e6
      refine k M6 (fun q hq e he => ?_) (fun e h1 h2 => ?_) (fun c i k d1 d2 => ?_)
      · rw [e6, up3_o' (by omega), e5, up3_o' (by omega), e4, up3_o' (by omega), e3, up3_o' (by omega), e2, up3_o' (by omega), e1, up3_o' (by omega)]
        exact g q (by omega) e he
      · rcases (by omega : e = 1 ∨ e = 2 ∨ e = 3 ∨ e = 4 ∨ e = 5 ∨ e = 6) with rfl | rfl | rfl | rfl | rfl | rfl
        · rw [e6, up3_o' (by omega), e5, up3_o' (by omega), e4, up3_o' (by omega), e3, up3_o' (by omega), e2, up3_o' (by omega), e1, up3_s]
        · rw [e6, up3_o' (by omega), e5, up3_o' (by omega), e4, up3_o' (by omega), e3, up3_o' (by omega), e2, up3_s]
        · rw [e6, up3_o' (by omega), e5, up3_o' (by omega), e4, up3_o' (by omega), e3, up3_s]
        · rw [e6, up3_o' (by omega), e5, up3_o' (by omega), e4, up3_s]
        · rw [e6, up3_o' (by omega), e5, up3_s]
        · rw [e6, up3_s]; omega
      · rw [e6, up3_o' (by omega), e5, up3_o' (by omega), e4, up3_o' (by omega), e3, up3_o' (by omega), e2, up3_o' (by omega), e1, up3_o' (by omega)]
        exact f _ _ _ (by omega)
  | d + 1, n, A, hd, g, f => by
    have wn := fun _ : Unit => wI_id (x := (n : Int)) (by omega) (by omega)
    refine vc_X6_copy_2 (by decide) (by decide) ?_
    rw [wn ()]
    refine ⟨fun q => absurd q (by omega), fun _ => ⟨n, rfl, by omega, n, rfl, by omega, s_copyLoan (by omega) (by omega) (by omega) (fun A' g' f' => lp_copyPool h4 h6 k d (n + 1) A' (by omega) (fun q hq e he => ?_) (fun c i k d1 => ?_))⟩⟩
    · by_cases y : q = n
      · subst y
        have := g' e he
        rw [show 12 * 1 + q = 12 + q by omega, show 12 * 0 + q = q by omega] at this
        rw [this, f _ _ _ (by omega)]
      · rw [f' _ _ _ (by omega)]
        exact g q (by omega) e he
    · rw [f' _ _ _ (by omega), f _ _ _ (by omega)]
theorem s_copyPaper {a b : Nat} {N : NN} {K : NN → Prop} (ha : a < 10) (hb : b < 10) (hne : a ≠ b) (k : ∀ N', (∀ f, f < 9 → N' 5 a f = N 5 b f) → (∀ c i k, ¬ (c = 5 ∧ i = a) → N' c i k = N c i k) → K N') : C_X5_copy G a b N K := by
  refine vc_X5_copy ha hb (fun M1 e1 M2 e2 M3 e3 M4 e4 M5 e5 M6 e6 M7 e7 M8 e8 M9 e9 => k M9 (fun f hf => ?_) (fun c i k d => ?_))
  · rcases (by omega : f = 0 ∨ f = 1 ∨ f = 2 ∨ f = 3 ∨ f = 4 ∨ f = 5 ∨ f = 6 ∨ f = 7 ∨ f = 8) with rfl | rfl | rfl | rfl | rfl | rfl | rfl | rfl | rfl
    · rw [e9, up3_o' (by omega), e8, up3_o' (by omega), e7, up3_o' (by omega), e6, up3_o' (by omega), e5, up3_o' (by omega), e4, up3_o' (by omega), e3, up3_o' (by omega), e2, up3_o' (by omega), e1, up3_s]
    · rw [e9, up3_o' (by omega), e8, up3_o' (by omega), e7, up3_o' (by omega), e6, up3_o' (by omega), e5, up3_o' (by omega), e4, up3_o' (by omega), e3, up3_o' (by omega), e2, up3_s, e1, up3_o' (by omega)]
    · rw [e9, up3_o' (by omega), e8, up3_o' (by omega), e7, up3_o' (by omega), e6, up3_o' (by omega), e5, up3_o' (by omega), e4, up3_o' (by omega), e3, up3_s, e2, up3_o' (by omega), e1, up3_o' (by omega)]
    · rw [e9, up3_o' (by omega), e8, up3_o' (by omega), e7, up3_o' (by omega), e6, up3_o' (by omega), e5, up3_o' (by omega), e4, up3_s, e3, up3_o' (by omega), e2, up3_o' (by omega), e1, up3_o' (by omega)]
    · rw [e9, up3_o' (by omega), e8, up3_o' (by omega), e7, up3_o' (by omega), e6, up3_o' (by omega), e5, up3_s, e4, up3_o' (by omega), e3, up3_o' (by omega), e2, up3_o' (by omega), e1, up3_o' (by omega)]
    · rw [e9, up3_o' (by omega), e8, up3_o' (by omega), e7, up3_o' (by omega), e6, up3_s, e5, up3_o' (by omega), e4, up3_o' (by omega), e3, up3_o' (by omega), e2, up3_o' (by omega), e1, up3_o' (by omega)]
    · rw [e9, up3_o' (by omega), e8, up3_o' (by omega), e7, up3_s, e6, up3_o' (by omega), e5, up3_o' (by omega), e4, up3_o' (by omega), e3, up3_o' (by omega), e2, up3_o' (by omega), e1, up3_o' (by omega)]
    · rw [e9, up3_o' (by omega), e8, up3_s, e7, up3_o' (by omega), e6, up3_o' (by omega), e5, up3_o' (by omega), e4, up3_o' (by omega), e3, up3_o' (by omega), e2, up3_o' (by omega), e1, up3_o' (by omega)]
    · rw [e9, up3_s, e8, up3_o' (by omega), e7, up3_o' (by omega), e6, up3_o' (by omega), e5, up3_o' (by omega), e4, up3_o' (by omega), e3, up3_o' (by omega), e2, up3_o' (by omega), e1, up3_o' (by omega)]
  · rw [e9, up3_o' (by omega), e8, up3_o' (by omega), e7, up3_o' (by omega), e6, up3_o' (by omega), e5, up3_o' (by omega), e4, up3_o' (by omega), e3, up3_o' (by omega), e2, up3_o' (by omega), e1, up3_o' (by omega)]
theorem lp_copyFall {N : NN} {K : NN → Prop} (h5 : N 0 0 5 = 0 ∨ N 0 0 5 = 1) (k : ∀ N', (∀ n, n < 5 → ∀ f, f < 9 → N' 5 (5 + n) f = N 5 n f) → (∀ e, 1 ≤ e → e ≤ 9 → N' 0 1 e = N 0 0 e) → (∀ c i k, ¬ (c = 5 ∧ 5 ≤ i ∧ i < 10) → ¬ (c = 0 ∧ i = 1) → N' c i k = N c i k) → K N') : ∀ (d n : Nat) (A : NN), n + d = 5 → (∀ q, q < n → ∀ f, f < 9 → A 5 (5 + q) f = N 5 q f) → (∀ c i k, ¬ (c = 5 ∧ 5 ≤ i ∧ i < 5 + n) → A c i k = N c i k) → W_X0_copy G K 2 [(0, vR 0 1), (1, vR 0 0), (2, vI (n : Int))] [] A
  | 0, n, A, hd, g, f => by
    have wn := fun _ : Unit => wI_id (x := (n : Int)) (by omega) (by omega)
    refine vc_X0_copy_2 (by decide) (by decide) ?_
    rw [wn ()]
    refine ⟨fun _ M1 e1 M2 e2 M3 e3 M4 e4 => ⟨?_, fun M5 e5 M6 e6 M7 e7 M8 e8 M9 e9 => ?_⟩, fun q => absurd q (by omega)⟩
    · rw [e4, up3_o' (by omega), e3, up3_o' (by omega), e2, up3_o' (by omega), e1, up3_o' (by omega), f _ _ _ (by omega)]; exact h5
    · have o1 : ∀ e, M1 0 0 e = N 0 0 e := fun e => by rw [e1, up3_o' (by omega), f _ _ _ (by omega)]
      have o2 : ∀ e, M2 0 0 e = N 0 0 e := fun e => by rw [e2, up3_o' (by omega), o1]
      have o3 : ∀ e, M3 0 0 e = N 0 0 e := fun e => by rw [e3, up3_o' (by omega), o2]
      have o4 : ∀ e, M4 0 0 e = N 0 0 e := fun e => by rw [e4, up3_o' (by omega), o3]
      have o5 : ∀ e, M5 0 0 e = N 0 0 e := fun e => by rw [e5, up3_o' (by omega), o4]
      have o6 : ∀ e, M6 0 0 e = N 0 0 e := fun e => by rw [e6, up3_o' (by omega), o5]
      have o7 : ∀ e, M7 0 0 e = N 0 0 e := fun e => by rw [e7, up3_o' (by omega), o6]
      have o8 : ∀ e, M8 0 0 e = N 0 0 e := fun e => by rw [e8, up3_o' (by omega), o7]
      rw [f _ _ _ (by omega)] at e1
      rw [o1] at e2
      rw [o2] at e3
      rw [o3] at e4
      rw [o4] at e5
      rw [o5] at e6
      rw [o6] at e7
      rw [o7] at e8
      rw [o8] at e9
      refine k M9 (fun q hq e he => ?_) (fun e h1 h2 => ?_) (fun c i k d1 d2 => ?_)
      · rw [e9, up3_o' (by omega), e8, up3_o' (by omega), e7, up3_o' (by omega), e6, up3_o' (by omega), e5, up3_o' (by omega), e4, up3_o' (by omega), e3, up3_o' (by omega), e2, up3_o' (by omega), e1, up3_o' (by omega)]
        exact g q (by omega) e he
      · rcases (by omega : e = 1 ∨ e = 2 ∨ e = 3 ∨ e = 4 ∨ e = 5 ∨ e = 6 ∨ e = 7 ∨ e = 8 ∨ e = 9) with rfl | rfl | rfl | rfl | rfl | rfl | rfl | rfl | rfl
        · rw [e9, up3_o' (by omega), e8, up3_o' (by omega), e7, up3_o' (by omega), e6, up3_o' (by omega), e5, up3_o' (by omega), e4, up3_o' (by omega), e3, up3_o' (by omega), e2, up3_o' (by omega), e1, up3_s]
        · rw [e9, up3_o' (by omega), e8, up3_o' (by omega), e7, up3_o' (by omega), e6, up3_o' (by omega), e5, up3_o' (by omega), e4, up3_o' (by omega), e3, up3_o' (by omega), e2, up3_s]
        · rw [e9, up3_o' (by omega), e8, up3_o' (by omega), e7, up3_o' (by omega), e6, up3_o' (by omega), e5, up3_o' (by omega), e4, up3_o' (by omega), e3, up3_s]
        · rw [e9, up3_o' (by omega), e8, up3_o' (by omega), e7, up3_o' (by omega), e6, up3_o' (by omega), e5, up3_o' (by omega), e4, up3_s]
        · rw [e9, up3_o' (by omega), e8, up3_o' (by omega), e7, up3_o' (by omega), e6, up3_o' (by omega), e5, up3_s]
        · rw [e9, up3_o' (by omega), e8, up3_o' (by omega), e7, up3_o' (by omega), e6, up3_s]
        · rw [e9, up3_o' (by omega), e8, up3_o' (by omega), e7, up3_s]
        · rw [e9, up3_o' (by omega), e8, up3_s]
        · rw [e9, up3_s]
      · rw [e9, up3_o' (by omega), e8, up3_o' (by omega), e7, up3_o' (by omega), e6, up3_o' (by omega), e5, up3_o' (by omega), e4, up3_o' (by omega), e3, up3_o' (by omega), e2, up3_o' (by omega), e1, up3_o' (by omega)]
        exact f _ _ _ (by omega)
  | d + 1, n, A, hd, g, f => by
    have wn := fun _ : Unit => wI_id (x := (n : Int)) (by omega) (by omega)
    refine vc_X0_copy_2 (by decide) (by decide) ?_
    rw [wn ()]
    refine ⟨fun q => absurd q (by omega), fun _ => ⟨n, rfl, by omega, n, rfl, by omega, s_copyPaper (by omega) (by omega) (by omega) (fun A' g' f' => lp_copyFall h5 k d (n + 1) A' (by omega) (fun q hq e he => ?_) (fun c i k d1 => ?_))⟩⟩
    · by_cases y : q = n
      · subst y
        have := g' e he
        rw [show 5 * 1 + q = 5 + q by omega, show 5 * 0 + q = q by omega] at this
        rw [this, f _ _ _ (by omega)]
      · rw [f' _ _ _ (by omega)]
        exact g q (by omega) e he
    · rw [f' _ _ _ (by omega), f _ _ _ (by omega)]
theorem OKF_9 {c : Nat} {k : Int} {F F' : Nat → Nat → Int} (h : ∀ q e, (q < c ∧ e < 9) ∨ (q = 9 ∧ 1 ≤ e ∧ e ≤ 9) → F' q e = F q e) (B : OKF c k F) : OKF c k F' := by
  obtain ⟨c5, h1, hp, hs⟩ := B
  refine ⟨c5, (h 9 1 (by omega)).trans h1, fun q hq => ?_, ?_⟩
  · have := hp q hq
    unfold pOK at *
    rw [h q 0 (by omega), h q 1 (by omega), h q 2 (by omega), h q 3 (by omega), h q 4 (by omega), h q 5 (by omega), h q 6 (by omega), h q 7 (by omega)]
    exact this
  · unfold sOK at *
    rw [h 9 2 (by omega), h 9 3 (by omega), h 9 4 (by omega), h 9 5 (by omega), h 9 6 (by omega), h 9 7 (by omega), h 9 8 (by omega), h 9 9 (by omega)]
    exact hs
end BES
