/-! sheets: laid, and a cell of them -/
section SHE
variable {G : GT} {N : NN}
theorem t_isSheet {a : Int} {K : Int → NN → Prop} (ha : IR a) (k1 : 0 ≤ a ∧ a ≤ 3 → K 1 N) (k0 : ¬ (0 ≤ a ∧ a ≤ 3) → K 0 N) : C_X10_isSheet G a N K :=
  vc_X10_isSheet (t_min ha IR0 ⟨by decide, by decide⟩ (fun h => ⟨.inr rfl, k1 h⟩) (fun h => ⟨.inl rfl, k0 h⟩))
theorem lp_lay {s : Nat} {K : NN → Prop} (hs : s < 4) : ∀ (d i : Nat) (N : NN), i + d = 40 → (∀ N' : NN, (∀ j, i ≤ j → j < 40 → N' 34 s j = 0) → (∀ c r k, ¬ (c = 34 ∧ r = s ∧ i ≤ k) → N' c r k = N c r k) → K N') → W_X7_lay G K 12 [(0, vR 7 s), (3, vI (i : Int))] [] N
  | 0, i, N, hd, k => by
    have wi := fun _ : Unit => wI_id (x := (i : Int)) (by omega) (by omega)
    refine vc_X7_lay_12 hs ?_
    rw [wi ()]
    exact ⟨fun _ => k N (fun j h1 h2 => by omega) (fun _ _ _ _ => rfl), fun q => absurd q (by omega)⟩
  | d + 1, i, N, hd, k => by
    have wi := fun _ : Unit => wI_id (x := (i : Int)) (by omega) (by omega)
    refine vc_X7_lay_12 hs ?_
    rw [wi ()]
    refine ⟨fun q => absurd q (by omega), fun _ => ⟨i, rfl, by omega, fun M2 e2 => lp_lay hs d (i + 1) M2 (by omega) (fun N' g1 g2 => k N' (fun j j1 j2 => ?_) (fun c r k d1 => ?_))⟩⟩
    · by_cases e : j = i
      · subst e
        rw [g2 _ _ _ (by omega), e2, up3_s]
      · exact g1 j (by omega) j2
    · rw [g2 _ _ _ (by omega), e2, up3_o' (by omega)]
theorem lp_sheet {s n : Nat} {a1 a2 : Int} {K : Int → NN → Prop} (hs : s < 4) (ea : a1 = (s : Int)) (hn : n ≤ 40) (h2 : ¬ wI a2 < 0) : ∀ (d i : Nat) (N : NN), i + d = n → (∀ N' : NN, (∀ j, i ≤ j → j < n → N' 85 0 (40 * s + j) = 0) → (∀ c r k, ¬ (c = 85 ∧ r = 0 ∧ 40 * s + i ≤ k ∧ k < 40 * s + n) → N' c r k = N c r k) → K 1 N') → W_X10_sheet G K 72 [(0, vR 10 0), (1, vI a1), (2, vI a2), (3, vI (n : Int)), (4, vI (i : Int))] [] N
  | 0, i, N, hd, k => by
    have : i = n := by omega
    subst this
    exact vc_X10_sheet_72 ⟨fun _ => k N (fun j h1 h2 => by omega) (fun _ _ _ _ => rfl), fun q => absurd (Int.le_refl _) q⟩
  | d + 1, i, N, hd, k => by
    have wi := fun _ : Unit => wI_id (x := (i : Int)) (by omega) (by omega)
    have wn := fun _ : Unit => wI_id (x := (n : Int)) (by omega) (by omega)
    refine vc_X10_sheet_72 ?_
    rw [wi (), wn ()]
    refine ⟨fun q => absurd q (by omega), fun _ => ⟨fun q => absurd q h2, fun _ => ⟨40 * s + i, by rw [ea, wI_id (by omega) (by omega)]; omega, by omega, fun M2 e2 => lp_sheet hs ea hn h2 d (i + 1) M2 (by omega) (fun N' g1 g2 => k N' (fun j j1 j2 => ?_) (fun c r k d1 => ?_))⟩⟩⟩
    · by_cases e : j = i
      · subst e
        rw [g2 _ _ _ (by omega), e2, up3_s]
      · exact g1 j (by omega) j2
    · rw [g2 _ _ _ (by omega), e2, up3_o' (by omega)]
/-- a sheet's laying, in the reference -/
theorem m_sheet {a1 a2 a3 : Int} {K : Int → NN → Prop} (h1 : IR a1) (h2 : IR a2) (h3 : IR a3) (kB : ¬ (0 ≤ a1 ∧ a1 ≤ 3) ∨ ¬ (-1 ≤ a2 ∧ a2 ≤ 2) ∨ (0 ≤ a2 ∧ 40 < a3) → K (-2) N) (kN : 0 ≤ a1 ∧ a1 ≤ 3 → 0 ≤ a2 ∧ a2 ≤ 2 → a3 < 0 → K (-14) N)
    (k0 : ∀ s : Nat, a1 = (s : Int) → s < 4 → a2 = -1 → ∀ N', (∀ c i k, ¬ (82 ≤ c ∧ c ≤ 84 ∧ i = 0 ∧ k = s) → N' c i k = N c i k) → N' 82 0 s = 0 → K 1 N')
    (k1 : ∀ s n : Nat, a1 = (s : Int) → s < 4 → 0 ≤ a2 ∧ a2 ≤ 2 → a3 = (n : Int) → n ≤ 40 → ∀ N', (∀ c i k, ¬ (82 ≤ c ∧ c ≤ 84 ∧ i = 0 ∧ k = s) → ¬ (c = 85 ∧ i = 0 ∧ 40 * s ≤ k ∧ k < 40 * s + n) → N' c i k = N c i k) → N' 82 0 s = 1 → N' 83 0 s = a2 → N' 84 0 s = a3 → (∀ j, j < n → N' 85 0 (40 * s + j) = 0) → K 1 N') : C_X10_sheet G a1 a2 a3 N K := by
  refine vc_X10_sheet (t_isSheet h1 (fun g1 => tt1 (t_min h2 ⟨by decide, by decide⟩ ⟨by decide, by decide⟩ (fun g2 => tt1 ?_) (fun g => tt0 (kB (.inr (.inl g)))))) (fun g => tt0 (kB (.inl g))))
  obtain ⟨s, es⟩ : ∃ s : Nat, a1 = (s : Int) := ⟨a1.toNat, by omega⟩
  have hs : s < 4 := by omega
  have w1 : wI a1 = (s : Int) := by rw [IR_id h1]; exact es
  have neg : wI a2 < 0 → (∃ j3 : Nat, wI a1 = (j3 : Int) ∧ j3 < 4 ∧ (∀ M4 : NN, M4 = up3 N 82 0 j3 0 → (∃ j5 : Nat, wI a1 = (j5 : Int) ∧ j5 < 4 ∧ (∀ M6 : NN, M6 = up3 M4 83 0 j5 a2 → (∃ j7 : Nat, wI a1 = (j7 : Int) ∧ j7 < 4 ∧ (∀ M8 : NN, M8 = up3 M6 84 0 j7 a3 → W_X10_sheet G K 72 [(0, vR 10 0), (1, vI a1), (2, vI a2), (3, vI a3), (4, vI 0)] [] M8)))))) := by
    intro q
    refine ⟨s, w1, hs, fun M4 e4 => ⟨s, w1, hs, fun M6 e6 => ⟨s, w1, hs, fun M8 e8 => ?_⟩⟩⟩
    have kk := k0 s es hs (by rw [IR_id h2] at q; omega) M8 (fun c i k d => by rw [e8, up3_o' (by omega), e6, up3_o' (by omega), e4, up3_o' (by omega)]) (by rw [e8, up3_o' (by omega), e6, up3_o' (by omega), e4, up3_s])
    exact vc_X10_sheet_72 ⟨fun _ => kk, fun _ => ⟨fun _ => kk, fun z => absurd q z⟩⟩
  have pos : ¬ wI a2 < 0 → 0 ≤ wI a3 → wI a3 ≤ 40 → (∃ j3 : Nat, wI a1 = (j3 : Int) ∧ j3 < 4 ∧ (∀ M4 : NN, M4 = up3 N 82 0 j3 1 → (∃ j5 : Nat, wI a1 = (j5 : Int) ∧ j5 < 4 ∧ (∀ M6 : NN, M6 = up3 M4 83 0 j5 a2 → (∃ j7 : Nat, wI a1 = (j7 : Int) ∧ j7 < 4 ∧ (∀ M8 : NN, M8 = up3 M6 84 0 j7 a3 → W_X10_sheet G K 72 [(0, vR 10 0), (1, vI a1), (2, vI a2), (3, vI a3), (4, vI 0)] [] M8)))))) := by
    intro q q2 q3
    refine ⟨s, w1, hs, fun M4 e4 => ⟨s, w1, hs, fun M6 e6 => ⟨s, w1, hs, fun M8 e8 => ?_⟩⟩⟩
    rw [IR_id h3] at q2 q3
    obtain ⟨n, en⟩ : ∃ n : Nat, a3 = (n : Int) := ⟨a3.toNat, by omega⟩
    have kk := k1 s n es hs (by rw [IR_id h2] at q; omega) en (by omega)
    subst en
    refine lp_sheet hs es (by omega) q n 0 M8 (by omega) (fun N' g1 g2 => kk N' (fun c i k d1 d2 => ?_) ?_ ?_ ?_ (fun j hj => g1 j (by omega) hj))
    · rw [g2 _ _ _ (by omega), e8, up3_o' (by omega), e6, up3_o' (by omega), e4, up3_o' (by omega)]
    · rw [g2 _ _ _ (by omega), e8, up3_o' (by omega), e6, up3_o' (by omega), e4, up3_s]
    · rw [g2 _ _ _ (by omega), e8, up3_o' (by omega), e6, up3_s]
    · rw [g2 _ _ _ (by omega), e8, up3_s]
  refine ⟨fun q => ⟨fun _ => ⟨neg, fun z => absurd q z⟩, fun z => absurd q z⟩, fun q => ⟨fun q3 => ⟨fun z => absurd z q, fun _ => ⟨fun q2 => ⟨fun z => absurd z q, fun _ => pos q q2 q3⟩, fun q2 => kN g1 (by rw [IR_id h2] at q; omega) (by rw [IR_id h3] at q2; omega)⟩⟩, fun q3 => kB (.inr (.inr (by rw [IR_id h2] at q; rw [IR_id h3] at q3; omega)))⟩⟩
theorem op_sheet {a1 a2 a3 : Int} (I : Inv N) (h1 : IR a1) (h2 : IR a2) (h3 : IR a3) : C_X9_sheet G a1 a2 a3 N (fun r N1 => C_X10_sheet G a1 a2 a3 N1 (fun r' N2 => wI r = wI r' ∧ Inv N2)) := by
  have I' := I
  obtain ⟨k, c, cp, oo, to, t, sz, k60, m9, m10, L, F, M, O, T, P, H⟩ := I
  have bad : ¬ (0 ≤ a1 ∧ a1 ≤ 3) ∨ ¬ (-1 ≤ a2 ∧ a2 ≤ 2) ∨ (0 ≤ a2 ∧ 40 < a3) → C_X10_sheet G a1 a2 a3 N (fun r' N2 => wI (-2) = wI r' ∧ Inv N2) := fun h => m_sheet h1 h2 h3 (fun _ => ⟨rfl, I'⟩) (fun x1 x2 x3 => absurd h (by omega)) (fun s e1 e2 e3 => absurd h (by omega)) (fun s n e1 e2 e3 e4 e5 => absurd h (by omega))
  have put : ∀ {s : Nat} {N' : NN}, s < 4 → (∀ c i k, ¬ (c = 7 ∧ i = s) → ¬ (c = 34 ∧ i = s) → ¬ (82 ≤ c ∧ c ≤ 84 ∧ i = 0 ∧ k = s) → ¬ (c = 85 ∧ i = 0 ∧ 40 * s ≤ k ∧ k < 40 * s + 40) → N' c i k = N c i k) → SHT s N' → Inv N' := by
    intro s N' hs f Q
    refine ⟨k, c, cp, oo, to, t, sz, k60, by rw [f _ _ _ (by omega) (by omega) (by omega) (by omega)]; exact m9, by rw [f _ _ _ (by omega) (by omega) (by omega) (by omega)]; exact m10, iL_fr L fun x i g d => f _ _ _ (by omega) (by omega) (by omega) (by omega), iF_fr F fun x i g d => f _ _ _ (by omega) (by omega) (by omega) (by omega), iM_fr M fun x i g d => f _ _ _ (by omega) (by omega) (by omega) (by omega), iO_fr O fun x i g d => f _ _ _ (by omega) (by omega) (by omega) (by omega), iT_fr T fun x i g d => f _ _ _ (by omega) (by omega) (by omega) (by omega), iP_fr P fun x i g d => f _ _ _ (by omega) (by omega) (by omega) (by omega), fun s' hs' => ?_⟩
    by_cases e : s' = s
    · subst e; exact Q
    · exact SHT_fr (H s' hs') fun c i k d => f _ _ _ (by omega) (by omega) (by omega) (by omega)
  refine vc_X9_sheet (t_in h1 IR0 ⟨by decide, by decide⟩ (fun g1 => tt1 (t_in h2 ⟨by decide, by decide⟩ ⟨by decide, by decide⟩ (fun g2 => tn1 ?_) (fun g => tn0 (bad (.inr (.inl g)))))) (fun g => tt0 (bad (.inl g))))
  obtain ⟨s, es⟩ : ∃ s : Nat, a1 = (s : Int) := ⟨a1.toNat, by omega⟩
  have hs : s < 4 := by omega
  have w1 : wI a1 = (s : Int) := by rw [IR_id h1]; exact es
  rw [IR_id h2, IR_id h3]
  refine ⟨fun q => ⟨fun q3 => ⟨fun q2 => ⟨s, w1, hs, vc_X7_lay hs (fun M1 e1 M2 e2 => lp_lay hs 40 0 M2 rfl (fun A z f => ?_))⟩, fun q2 => ?_⟩, fun q3 => bad (.inr (.inr (by omega)))⟩, fun q => ⟨s, w1, hs, fun M6 e6 => ?_⟩⟩
  · have fA : ∀ c i k, ¬ (c = 7 ∧ i = s) → ¬ (c = 34 ∧ i = s) → A c i k = N c i k := fun c i k d1 d2 => by rw [f _ _ _ (by omega), e2, up3_o' (by omega), e1, up3_o' (by omega)]
    have v1 : A 7 s 1 = a2 := by rw [f _ _ _ (by omega), e2, up3_o' (by omega), e1, up3_s]
    have v2 : A 7 s 2 = a3 := by rw [f _ _ _ (by omega), e2, up3_s]
    refine m_sheet h1 h2 h3 (fun h => absurd h (by omega)) (fun x1 x2 x3 => absurd x3 (by omega)) (fun s e1 e2 e3 => absurd e3 (by omega)) (fun s' n e1 e2 e3 e4 e5 B fB b82 b83 b84 b85 => ⟨rfl, ?_⟩)
    have : s' = s := by omega
    subst this
    refine put hs (fun c i k d1 d2 d3 d4 => by rw [fB _ _ _ d3 (by omega), fA _ _ _ d1 d2]) (.inr ⟨n, e5, ?_⟩)
    rw [fB 7 s' 1 (by omega) (by omega), fB 7 s' 2 (by omega) (by omega), v1, v2, b82, b83, b84]
    refine ⟨e3.1, e3.2, rfl, rfl, e4, e4, fun j hj => ?_⟩
    rw [fB 34 _ _ (by omega) (by omega), z j (by omega) (by omega), b85 j hj]
    exact ⟨rfl, IR0⟩
  · exact m_sheet h1 h2 h3 (fun h => absurd h (by omega)) (fun x1 x2 x3 => ⟨rfl, I'⟩) (fun s e1 e2 e3 => absurd e3 q) (fun s n e1 e2 e3 e4 e5 => absurd q2 (by omega))
  · refine m_sheet h1 h2 h3 (fun h => absurd h (by omega)) (fun x1 x2 x3 => absurd q (by omega)) (fun s' e1 e2 e3 B fB b82 => ⟨rfl, ?_⟩) (fun s n e1 e2 e3 e4 e5 => absurd q (by omega))
    have : s' = s := by omega
    subst this
    exact put hs (fun c i k d1 d2 d3 d4 => by rw [fB _ _ _ d3, e6, up3_o' (by omega)]) (.inl ⟨by rw [fB _ _ _ (by omega), e6, up3_s], b82⟩)
theorem i2b_r (x : Int) : IR (i2bI x) := by
  rw [by_i2b, Int.bmod_def]
  unfold IR
  split <;> omega
theorem i2s_r (x : Int) : IR (i2sI x) := by
  have : i2sI x = x.bmod 65536 := by
    unfold i2sI
    rw [Int16.toInt_toInt32, Int32.toInt16_ofInt, Int16.toInt_ofInt]
  rw [this, Int.bmod_def]
  unfold IR
  split <;> omega
/-- whether a row holds a number's place -/
theorem s_holds {s n : Nat} {x : Int} {K : Int → NN → Prop} (hs : s < 4) (h2 : N 7 s 2 = (n : Int)) (hn : n ≤ 40) (hx : -9223372036854775808 ≤ x ∧ x < 9223372036854775808) (k1 : 0 ≤ x ∧ x < (n : Int) → K 1 N) (k0 : ¬ (0 ≤ x ∧ x < (n : Int)) → K 0 N) : C_X7_holds G s x N K := by
  refine vc_X7_holds hs ?_
  rw [h2, wI_id (x := (n : Int)) (by omega) (by omega), wL_id (x := (n : Int)) (by omega) (by omega), wL_id hx.1 hx.2]
  exact ⟨fun q => k0 (by omega), fun q => ⟨fun q2 => k0 (by omega), fun q2 => ⟨fun q3 => absurd q2 (by omega), fun _ => k1 (by omega)⟩⟩⟩
def cutI (b : Int) (v : Int) : Int := if b = 0 then i2bI v else if b = 1 then i2sI v else v
theorem op_cell {a1 a2 a3 : Int} (I : Inv N) (h1 : IR a1) (h2 : IR a2) (h3 : IR a3) : C_X9_cell G a1 a2 a3 N (fun r N1 => C_X10_cell G a1 a2 a3 N1 (fun r' N2 => wI r = wI r' ∧ Inv N2)) := by
  have I' := I
  obtain ⟨k, c, cp, oo, to, t, sz, k60, m9, m10, L, F, M, O, T, P, H⟩ := I
  refine vc_X9_cell (t_in h1 IR0 ⟨by decide, by decide⟩ (fun g1 => tn1 ?_) (fun g => tn0 (vc_X10_cell (t_isSheet h1 (fun n => absurd n g) (fun _ => tn0 ⟨rfl, I'⟩)))))
  obtain ⟨s, es⟩ : ∃ s : Nat, a1 = (s : Int) := ⟨a1.toNat, by omega⟩
  have hs : s < 4 := by omega
  have w1 : wI a1 = (s : Int) := by rw [IR_id h1]; exact es
  refine ⟨s, w1, hs, ?_⟩
  rcases H s hs with ⟨x1, x2⟩ | ⟨n, n40, y1, y2, y3, y4, y5, y6, y7⟩
  · rw [x1]
    refine ⟨fun q => absurd rfl q, fun _ => vc_X10_cell (t_isSheet h1 (fun _ => tn1 ⟨s, w1, hs, ?_⟩) (fun n => absurd g1 n))⟩
    rw [x2]
    exact ⟨fun q => absurd rfl q, fun _ => ⟨rfl, I'⟩⟩
  · have wk : wI (N 7 s 1) = N 7 s 1 := wI_id (by omega) (by omega)
    rw [wk, IR_id h2]
    refine ⟨fun _ => ?_, fun q => absurd (Decidable.not_not.mp q) (by omega)⟩
    have ref : ∀ (M5 : NN), (∀ c i k, ¬ (c = 34 ∧ i = s) → M5 c i k = N c i k) → (K : Int → NN → Prop) → (¬ (0 ≤ a2 ∧ a2 < (n : Int)) → K (-12) M5) → (∀ j : Nat, a2 = (j : Int) → j < n → ∀ M8 : NN, M8 = up3 M5 85 0 (40 * s + j) (cutI (N 7 s 1) a3) → K 1 M8) → C_X10_cell G a1 a2 a3 M5 K := by
      intro M5 f5 K kO kJ
      refine vc_X10_cell (t_isSheet h1 (fun _ => tn1 ⟨s, w1, hs, ?_⟩) (fun n => absurd g1 n))
      rw [f5 82 _ _ (by omega), y3]
      refine ⟨fun _ => ⟨s, w1, hs, ?_⟩, fun q => absurd q (by decide)⟩
      rw [f5 84 _ _ (by omega), y6]
      refine t_min h2 IR0 ⟨by omega, by omega⟩ (fun g2 => tn1 ⟨s, w1, hs, ?_⟩) (fun g2 => tn0 (kO (by omega)))
      obtain ⟨j, ej⟩ : ∃ j : Nat, a2 = (j : Int) := ⟨a2.toNat, by omega⟩
      have kk := kJ j ej (by omega)
      clear kO kJ
      have wj : wI (40 * a1 + a2) = ((40 * s + j : Nat) : Int) := by rw [es, ej, wI_id (by omega) (by omega)]; omega
      have l : 40 * s + j < 160 := by omega
      rw [f5 83 _ _ (by omega), y4, wk]
      unfold cutI at kk
      refine ⟨fun q => ⟨s, w1, hs, ?_⟩, fun q => ⟨_, wj, l, fun M hM => kk M (by rw [hM, if_pos (by omega)])⟩⟩
      rw [f5 83 _ _ (by omega), y4, wk]
      exact ⟨fun q2 => ⟨_, wj, l, fun M hM => kk M (by rw [hM, if_neg q, if_neg q2])⟩, fun q2 => ⟨_, wj, l, fun M hM => kk M (by rw [hM, if_neg q, if_pos (by omega)])⟩⟩
    refine s_holds hs y5 n40 ⟨by have := h2.1; omega, by have := h2.2; omega⟩ (fun g2 => tn1 ?_) (fun g2 => tn0 (ref N (fun _ _ _ _ => rfl) _ (fun _ => ⟨rfl, I'⟩) (fun j ej hj => absurd g2 (by omega))))
    obtain ⟨j, ej⟩ : ∃ j : Nat, a2 = (j : Int) := ⟨a2.toNat, by omega⟩
    have l : j < 40 := by omega
    have fin : ∀ M5 : NN, M5 = up3 N 34 s j (cutI (N 7 s 1) a3) → C_X10_cell G a1 a2 a3 M5 (fun r' N2 => wI 1 = wI r' ∧ Inv N2) := by
      intro M5 e5
      refine ref M5 (fun c i k d => by rw [e5, up3_o' (by omega)]) _ (fun n => absurd (by omega) n) (fun j' ej' hj' M8 e8 => ⟨rfl, ?_⟩)
      have : j' = j := by omega
      subst this
      have f : ∀ c i k, ¬ (c = 34 ∧ i = s ∧ k = j') → ¬ (c = 85 ∧ i = 0 ∧ k = 40 * s + j') → M8 c i k = N c i k := fun c i k d1 d2 => by rw [e8, up3_o' (by omega), e5, up3_o' (by omega)]
      refine ⟨k, c, cp, oo, to, t, sz, k60, by rw [f _ _ _ (by omega) (by omega)]; exact m9, by rw [f _ _ _ (by omega) (by omega)]; exact m10, iL_fr L fun x i g d => f _ _ _ (by omega) (by omega), iF_fr F fun x i g d => f _ _ _ (by omega) (by omega), iM_fr M fun x i g d => f _ _ _ (by omega) (by omega), iO_fr O fun x i g d => f _ _ _ (by omega) (by omega), iT_fr T fun x i g d => f _ _ _ (by omega) (by omega), iP_fr P fun x i g d => f _ _ _ (by omega) (by omega), fun s' hs' => ?_⟩
      by_cases e : s' = s
      · subst e
        refine .inr ⟨n, n40, ?_⟩
        rw [f 7 _ _ (by omega) (by omega), f 7 _ _ (by omega) (by omega), f 82 _ _ (by omega) (by omega), f 83 _ _ (by omega) (by omega), f 84 _ _ (by omega) (by omega)]
        refine ⟨y1, y2, y3, y4, y5, y6, fun i hi => ?_⟩
        by_cases ei : i = j'
        · subst ei
          have v : M8 34 s' i = cutI (N 7 s' 1) a3 := by rw [e8, up3_o' (by omega), e5, up3_s]
          have w : M8 85 0 (40 * s' + i) = cutI (N 7 s' 1) a3 := by rw [e8, up3_s]
          refine ⟨v.trans w.symm, ?_⟩
          rw [v]
          unfold cutI
          split
          · exact i2b_r _
          · split
            · exact i2s_r _
            · exact h3
        · rw [f 34 _ _ (by omega) (by omega), f 85 _ _ (by omega) (by omega)]
          exact y7 i hi
      · exact SHT_fr (H s' hs') fun c i k d => f _ _ _ (by omega) (by omega)
    rw [wk]
    unfold cutI at fin
    exact ⟨fun q => ⟨fun q2 => ⟨j, ej, l, fun M hM => fin M (by rw [hM, if_neg q, if_neg q2])⟩, fun q2 => ⟨j, ej, l, fun M hM => fin M (by rw [hM, if_neg q, if_pos (by omega)])⟩⟩, fun q => ⟨j, ej, l, fun M hM => fin M (by rw [hM, if_pos (by omega)])⟩⟩
end SHE
