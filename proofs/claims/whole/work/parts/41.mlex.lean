/-! the reference's tokens -/
def TPm (b : Nat → Int) (sz fr : Nat) (N : NN) : Prop := N 10 0 31 = (sz : Int) ∧ N 10 0 30 = (fr : Int) ∧ fr + 160 ≤ 1120 ∧ sz ≤ 160 ∧ ∀ j, j < sz → N 57 0 (fr + j) = b j ∧ 0 ≤ b j ∧ b j ≤ 255
def TM (b : Nat → Int) (sz fr p : Nat) (N : NN) : Prop := TPm b sz fr N ∧ p ≤ sz ∧ N 10 0 33 = (tS b sz p : Int) ∧ N 10 0 32 = tT b sz p ∧ (tT b sz p ≠ 4 → N 10 0 35 = (tE b sz p : Int)) ∧ (tT b sz p ≠ 0 → tT b sz p ≠ 4 → N 10 0 34 = tV b sz p)
/-- nothing but the token changes -/
def FrU (N N' : NN) : Prop := ∀ c i k, ¬ (c = 10 ∧ i = 0 ∧ 32 ≤ k ∧ k ≤ 35) → N' c i k = N c i k
theorem FrU.rf {N : NN} : FrU N N := fun _ _ _ _ => rfl
theorem FrU.tr {N N' N'' : NN} (h1 : FrU N N') (h2 : FrU N' N'') : FrU N N'' := fun c i k h => (h2 c i k h).trans (h1 c i k h)
section MT
variable {G : GT} {b : Nat → Int} {sz fr p : Nat} {N : NN}
theorem TPm.kp {N' : NN} (h : TPm b sz fr N) (f : FrU N N') : TPm b sz fr N' := ⟨by rw [f 10 0 31 (by omega)]; exact h.1, by rw [f 10 0 30 (by omega)]; exact h.2.1, h.2.2.1, h.2.2.2.1, fun j hj => by rw [f 57 0 _ (by omega)]; exact h.2.2.2.2 j hj⟩
theorem upU {k : Nat} {v : Int} (h : 32 ≤ k ∧ k ≤ 35) : FrU N (up3 N 10 0 k v) := fun c i k' a => up3_o' (by omega)
theorem s_byteAt {K : Int → NN → Prop} {j : Nat} (h : TPm b sz fr N) (hj : j ≤ 1000) (k : K (if j < sz then b j else -1) N) : C_X10_byteAt G (j : Int) N K := by
  obtain ⟨h1, h2, h3, h4, h5⟩ := h
  refine vc_X10_byteAt ?_
  rw [wI_id (x := (j : Int)) (by omega) (by omega), h1, h2, wI_id (x := (sz : Int)) (by omega) (by omega)]
  refine ⟨fun q => ?_, fun q => ⟨fr + j, ?_, by omega, ?_⟩⟩
  · rwa [if_neg (by omega)] at k
  · rw [wI_id (by omega) (by omega)]
    omega
  · rw [if_pos (by omega)] at k
    rw [(h5 j (by omega)).1]
    exact k
theorem s_inB {K : Int → NN → Prop} {a lo hi : Int} (ha : -1 ≤ a ∧ a ≤ 255) (hl : 0 ≤ lo ∧ lo ≤ 255) (hh : 0 ≤ hi ∧ hi ≤ 255) (k : K (bI (lo ≤ a ∧ a ≤ hi)) N) : C_X10_in G a lo hi N K := by
  refine s_in ?_
  rw [wI_id (x := a) (by omega) (by omega), wI_id (x := lo) (by omega) (by omega), wI_id (x := hi) (by omega) (by omega)]
  exact k
theorem isLt_iff {a : Int} : isLt a = true ↔ 97 ≤ a ∧ a ≤ 122 := decide_eq_true_iff
theorem isDg_iff {a : Int} : isDg a = true ↔ 48 ≤ a ∧ a ≤ 57 := decide_eq_true_iff
theorem isBl_iff {a : Int} : isBl a = true ↔ a = 32 ∨ a = 10 := decide_eq_true_iff
theorem isSg_iff {a : Int} : isSg a = true ↔ (a = 40 ∨ a = 41 ∨ a = 59 ∨ a = 43 ∨ a = 45 ∨ a = 42 ∨ a = 60 ∨ a = 61) := decide_eq_true_iff
theorem s_mNext {K : NN → Prop} {N0 : NN} (h : TPm b sz fr N0) (hp : p ≤ sz) (h35 : N0 10 0 35 = (p : Int)) (k : ∀ N', FrU N0 N' → TM b sz fr p N' → K N') : C_X10_next G N0 K := by
  have z := h.2.2.2.1
  have hS := tS_le (b := b) hp
  -- a word's letters
  have word : ∀ (d e : Nat) (M : NN), e + d = sz → FrU N0 M → M 10 0 33 = (tS b sz p : Int) → M 10 0 35 = (e : Int) → M 10 0 32 = 1 → tS b sz p ≤ e → M 10 0 34 = wv b (tS b sz p) (e - tS b sz p) → tS b sz p < sz → isLt (b (tS b sz p)) = true → run b sz isLt (tS b sz p) = run b sz isLt e → W_X10_next G K 104 [(0, vR 10 0), (2, vI ((e : Int) - (tS b sz p : Int)))] [] M := by
    intro d
    induction d with
    | zero =>
      intro e M he f m33 m35 m32 hse m34 l g0 hr
      have hM := h.kp f
      have re : run b sz isLt (tS b sz p) = e := by rw [hr]; exact run_stop (by omega)
      have t1 := tT_1.mpr ⟨l, g0⟩
      have eE : tE b sz p = e := by
        unfold tE
        rw [if_neg (by omega), if_pos g0, re]
      refine vc_X10_next_104 ?_
      rw [m35]
      refine s_byteAt hM (by omega) ?_
      rw [if_neg (by omega)]
      refine s_inB (by omega) (by omega) (by omega) ?_
      rw [bI_f (by omega), wlitI (by decide) (by decide)]
      refine ⟨fun _ => k M f ⟨hM, hp, m33, by rw [m32, t1], fun _ => by rw [m35, eE], fun _ _ => ?_⟩, fun q => absurd rfl q⟩
      rw [m34]
      unfold tV
      rw [if_pos g0, eE]
    | succ d ih =>
      intro e M he f m33 m35 m32 hse m34 l g0 hr
      have hM := h.kp f
      have hb := hM.2.2.2.2 e (by omega)
      refine vc_X10_next_104 ?_
      rw [m35]
      refine s_byteAt hM (by omega) ?_
      rw [if_pos (by omega)]
      refine s_inB (by omega) (by omega) (by omega) ?_
      by_cases g : isLt (b e) = true
      · rw [bI_t (isLt_iff.mp g), wlitI (by decide) (by decide), wI_id (x := (e : Int) - (tS b sz p : Int)) (by omega) (by omega)]
        have ix : (e : Int) - (tS b sz p : Int) + 1 = ((e + 1 : Nat) : Int) - (tS b sz p : Int) := by omega
        rw [ix]
        have es : e + 1 - tS b sz p = (e - tS b sz p) + 1 := by omega
        have nx : ∀ (v : Int) (M3 M4 : NN), v = wv b (tS b sz p) (e + 1 - tS b sz p) → M3 = up3 M 10 0 34 v → M4 = up3 M3 10 0 35 (M3 10 0 35 + 1) → W_X10_next G K 104 [(0, vR 10 0), (2, vI (((e + 1 : Nat) : Int) - (tS b sz p : Int)))] [] M4 := by
          intro v M3 M4 hv e3 e4
          refine ih (e + 1) M4 (by omega) (f.tr ?_) ?_ ?_ ?_ (by omega) ?_ l g0 (by rw [hr, run_step (by omega) g])
          · rw [e4, e3]
            exact (upU (by decide)).tr (upU (by decide))
          · rw [e4, up3_o' (by omega), e3, up3_o' (by omega), m33]
          · rw [e4, up3_s, e3, up3_o' (by omega), m35]
            omega
          · rw [e4, up3_o' (by omega), e3, up3_o' (by omega), m32]
          · rw [e4, up3_o' (by omega), e3, up3_s, hv]
        refine ⟨fun q => absurd q (by decide), fun _ => ⟨fun q M3 e3 M4 e4 => nx (-1) M3 M4 ?_ e3 e4, fun q => ?_⟩⟩
        · rw [es]
          unfold wv
          rw [if_neg (by omega)]
        · rw [m35]
          refine s_byteAt hM (by omega) ?_
          rw [if_pos (show e < sz by omega), wI_id (x := b e) (by omega) (by omega)]
          refine fun M6 e6 M7 e7 => nx _ M6 M7 ?_ e6 e7
          rw [es, m34]
          show _ = if e - tS b sz p < 7 then 27 * wv b (tS b sz p) (e - tS b sz p) + b (tS b sz p + (e - tS b sz p)) - 96 else -1
          rw [if_pos (by omega), show tS b sz p + (e - tS b sz p) = e by omega]
      · have re : run b sz isLt (tS b sz p) = e := by rw [hr]; exact run_stop (fun q => g q.2)
        have t1 := tT_1.mpr ⟨l, g0⟩
        have eE : tE b sz p = e := by
          unfold tE
          rw [if_neg (by omega), if_pos g0, re]
        rw [bI_f (fun q => g (isLt_iff.mpr q)), wlitI (by decide) (by decide)]
        refine ⟨fun _ => k M f ⟨hM, hp, m33, by rw [m32, t1], fun _ => by rw [m35, eE], fun _ _ => ?_⟩, fun q => absurd rfl q⟩
        rw [m34]
        unfold tV
        rw [if_pos g0, eE]
  -- a number's digits
  have numb : ∀ (d e : Nat) (M : NN), e + d = sz → FrU N0 M → M 10 0 33 = (tS b sz p : Int) → M 10 0 35 = (e : Int) → tS b sz p ≤ e → M 10 0 34 = nv b (tS b sz p) (e - tS b sz p) → tS b sz p < sz → isLt (b (tS b sz p)) = false → isDg (b (tS b sz p)) = true → run b sz isDg (tS b sz p) = run b sz isDg e → W_X10_next G K 202 [(0, vR 10 0), (2, vI ((e : Int) - (tS b sz p : Int)))] [] M := by
    have stop : ∀ (e : Nat) (M : NN), e ≤ sz → FrU N0 M → M 10 0 33 = (tS b sz p : Int) → M 10 0 35 = (e : Int) → tS b sz p ≤ e → M 10 0 34 = nv b (tS b sz p) (e - tS b sz p) → tS b sz p < sz → isLt (b (tS b sz p)) = false → isDg (b (tS b sz p)) = true → run b sz isDg (tS b sz p) = e → ((wI ((e : Int) - (tS b sz p : Int)) ≤ 4 → (∀ M3 : NN, M3 = up3 M 10 0 32 2 → K M3)) ∧ (¬ (wI ((e : Int) - (tS b sz p : Int)) ≤ 4) → (∀ M4 : NN, M4 = up3 M 10 0 32 4 → K M4))) := by
      intro e M he f m33 m35 hse m34 l g0 g1 re
      have ng : ¬ isLt (b (tS b sz p)) = true := by rw [g0]; decide
      have eT : tT b sz p = if e - tS b sz p ≤ 4 then 2 else 4 := by
        unfold tT
        rw [if_neg (show ¬ sz ≤ tS b sz p by omega), if_neg ng, if_pos g1, re]
      have eE : tE b sz p = e := by
        unfold tE
        rw [if_neg (show ¬ sz ≤ tS b sz p by omega), if_neg ng, if_pos g1, re]
      have eV : tV b sz p = nv b (tS b sz p) (e - tS b sz p) := by
        unfold tV
        rw [if_neg ng, if_pos g1, eE]
      rw [wI_id (x := (e : Int) - (tS b sz p : Int)) (by omega) (by omega)]
      refine ⟨fun q M3 e3 => ?_, fun q M3 e3 => ?_⟩
      · have f3 : FrU M M3 := by rw [e3]; exact upU (by decide)
        refine k M3 (f.tr f3) ⟨h.kp (f.tr f3), hp, ?_, ?_, fun _ => ?_, fun _ _ => ?_⟩
        · rw [e3, up3_o' (by omega), m33]
        · rw [e3, up3_s, eT, if_pos (by omega)]
        · rw [e3, up3_o' (by omega), m35, eE]
        · rw [e3, up3_o' (by omega), m34, eV]
      · have f3 : FrU M M3 := by rw [e3]; exact upU (by decide)
        have t4 : tT b sz p = 4 := by rw [eT, if_neg (by omega)]
        refine k M3 (f.tr f3) ⟨h.kp (f.tr f3), hp, ?_, ?_, fun q => absurd t4 q, fun _ q => absurd t4 q⟩
        · rw [e3, up3_o' (by omega), m33]
        · rw [e3, up3_s, t4]
    intro d
    induction d with
    | zero =>
      intro e M he f m33 m35 hse m34 l g0 g1 hr
      have hM := h.kp f
      refine vc_X10_next_202 ?_
      rw [m35]
      refine s_byteAt hM (by omega) ?_
      rw [if_neg (by omega)]
      refine s_inB (by omega) (by omega) (by omega) ?_
      rw [bI_f (by omega), wlitI (by decide) (by decide)]
      exact ⟨fun _ => stop e M (by omega) f m33 m35 hse m34 l g0 g1 (by rw [hr]; exact run_stop (by omega)), fun q => absurd rfl q⟩
    | succ d ih =>
      intro e M he f m33 m35 hse m34 l g0 g1 hr
      have hM := h.kp f
      have hb := hM.2.2.2.2 e (by omega)
      refine vc_X10_next_202 ?_
      rw [m35]
      refine s_byteAt hM (by omega) ?_
      rw [if_pos (by omega)]
      refine s_inB (by omega) (by omega) (by omega) ?_
      by_cases g : isDg (b e) = true
      · rw [bI_t (isDg_iff.mp g), wlitI (by decide) (by decide)]
        have ix : (e : Int) - (tS b sz p : Int) + 1 = ((e + 1 : Nat) : Int) - (tS b sz p : Int) := by omega
        rw [ix]
        have es : e + 1 - tS b sz p = (e - tS b sz p) + 1 := by omega
        have nx : ∀ (v : Int) (M3 M4 : NN), v = nv b (tS b sz p) (e + 1 - tS b sz p) → M3 = up3 M 10 0 34 v → M4 = up3 M3 10 0 35 (M3 10 0 35 + 1) → W_X10_next G K 202 [(0, vR 10 0), (2, vI (((e + 1 : Nat) : Int) - (tS b sz p : Int)))] [] M4 := by
          intro v M3 M4 hv e3 e4
          refine ih (e + 1) M4 (by omega) (f.tr ?_) ?_ ?_ (by omega) ?_ l g0 g1 (by rw [hr, run_step (by omega) g])
          · rw [e4, e3]
            exact (upU (by decide)).tr (upU (by decide))
          · rw [e4, up3_o' (by omega), e3, up3_o' (by omega), m33]
          · rw [e4, up3_s, e3, up3_o' (by omega), m35]
            omega
          · rw [e4, up3_o' (by omega), e3, up3_s, hv]
        refine ⟨fun q => absurd q (by decide), fun _ => ?_⟩
        rw [wI_id (x := (e : Int) - (tS b sz p : Int)) (by omega) (by omega)]
        refine ⟨fun q M3 e3 M4 e4 => nx _ M3 M4 ?_ e3 e4, fun q => ?_⟩
        · rw [es, m34]
          show _ = if e - tS b sz p < 4 then 10 * nv b (tS b sz p) (e - tS b sz p) + b (tS b sz p + (e - tS b sz p)) - 48 else nv b (tS b sz p) (e - tS b sz p)
          rw [if_neg (by omega)]
        · rw [m35]
          refine s_byteAt hM (by omega) ?_
          rw [if_pos (show e < sz by omega), wI_id (x := b e) (by omega) (by omega)]
          refine fun M6 e6 M7 e7 => nx _ M6 M7 ?_ e6 e7
          rw [es, m34]
          show _ = if e - tS b sz p < 4 then 10 * nv b (tS b sz p) (e - tS b sz p) + b (tS b sz p + (e - tS b sz p)) - 48 else nv b (tS b sz p) (e - tS b sz p)
          rw [if_pos (by omega), show tS b sz p + (e - tS b sz p) = e by omega]
      · rw [bI_f (fun q => g (isDg_iff.mpr q)), wlitI (by decide) (by decide)]
        exact ⟨fun _ => stop e M (by omega) f m33 m35 hse m34 l g0 g1 (by rw [hr]; exact run_stop (fun q => g q.2)), fun q => absurd rfl q⟩
  have key : ∀ (d s : Nat) (N : NN), s + d = sz → FrU N0 N → N 10 0 35 = (s : Int) → tS b sz p = run b sz isBl s → (C_X10_byteAt G (N 10 0 35) N (fun x1 N1 => (((wI x1) = 32 → (∀ M2 : NN, M2 = up3 N1 10 0 35 ((N1 10 0 35) + 1) → W_X10_next G K 0 [(0, vR 10 0)] [] M2)) ∧ (¬ ((wI x1) = 32) → (C_X10_byteAt G (N1 10 0 35) N1 (fun x3 N3 => (((wI x3) ≠ 10 → (∀ M4 : NN, M4 = up3 N3 10 0 33 (N3 10 0 35) → (C_X10_byteAt G (M4 10 0 35) M4 (fun x5 N5 => (∀ M6 : NN, M6 = up3 N5 10 0 32 4 → ((0 ≤ (wI x5) → (C_X10_in G x5 97 122 M6 (fun x7 N7 => (((wI x7) = 0 → (C_X10_in G x5 48 57 N7 (fun x8 N8 => (((wI x8) = 0 → (((wI x5) = 40 → (∀ M9 : NN, M9 = up3 N8 10 0 32 3 → (∀ M10 : NN, M10 = up3 M9 10 0 34 ((wI x5)) → (∀ M11 : NN, M11 = up3 M10 10 0 35 ((M10 10 0 35) + 1) → K M11)))) ∧ (¬ ((wI x5) = 40) → (((wI x5) = 41 → (∀ M12 : NN, M12 = up3 N8 10 0 32 3 → (∀ M13 : NN, M13 = up3 M12 10 0 34 ((wI x5)) → (∀ M14 : NN, M14 = up3 M13 10 0 35 ((M13 10 0 35) + 1) → K M14)))) ∧ (¬ ((wI x5) = 41) → (((wI x5) = 59 → (∀ M15 : NN, M15 = up3 N8 10 0 32 3 → (∀ M16 : NN, M16 = up3 M15 10 0 34 ((wI x5)) → (∀ M17 : NN, M17 = up3 M16 10 0 35 ((M16 10 0 35) + 1) → K M17)))) ∧ (¬ ((wI x5) = 59) → (((wI x5) = 43 → (∀ M18 : NN, M18 = up3 N8 10 0 32 3 → (∀ M19 : NN, M19 = up3 M18 10 0 34 ((wI x5)) → (∀ M20 : NN, M20 = up3 M19 10 0 35 ((M19 10 0 35) + 1) → K M20)))) ∧ (¬ ((wI x5) = 43) → (((wI x5) = 45 → (∀ M21 : NN, M21 = up3 N8 10 0 32 3 → (∀ M22 : NN, M22 = up3 M21 10 0 34 ((wI x5)) → (∀ M23 : NN, M23 = up3 M22 10 0 35 ((M22 10 0 35) + 1) → K M23)))) ∧ (¬ ((wI x5) = 45) → (((wI x5) = 42 → (∀ M24 : NN, M24 = up3 N8 10 0 32 3 → (∀ M25 : NN, M25 = up3 M24 10 0 34 ((wI x5)) → (∀ M26 : NN, M26 = up3 M25 10 0 35 ((M25 10 0 35) + 1) → K M26)))) ∧ (¬ ((wI x5) = 42) → (((wI x5) = 60 → (∀ M27 : NN, M27 = up3 N8 10 0 32 3 → (∀ M28 : NN, M28 = up3 M27 10 0 34 ((wI x5)) → (∀ M29 : NN, M29 = up3 M28 10 0 35 ((M28 10 0 35) + 1) → K M29)))) ∧ (¬ ((wI x5) = 60) → (((wI x5) ≠ 61 → K N8) ∧ (¬ ((wI x5) ≠ 61) → (∀ M30 : NN, M30 = up3 N8 10 0 32 3 → (∀ M31 : NN, M31 = up3 M30 10 0 34 ((wI x5)) → (∀ M32 : NN, M32 = up3 M31 10 0 35 ((M31 10 0 35) + 1) → K M32)))))))))))))))))))) ∧ (¬ ((wI x8) = 0) → (∀ M33 : NN, M33 = up3 N8 10 0 32 2 → (∀ M34 : NN, M34 = up3 M33 10 0 34 0 → W_X10_next G K 202 [(0, vR 10 0), (2, vI 0)] [] M34))))))) ∧ (¬ ((wI x7) = 0) → (∀ M35 : NN, M35 = up3 N7 10 0 32 1 → (∀ M36 : NN, M36 = up3 M35 10 0 34 0 → W_X10_next G K 104 [(0, vR 10 0), (2, vI 0)] [] M36))))))) ∧ (¬ (0 ≤ (wI x5)) → (∀ M37 : NN, M37 = up3 M6 10 0 32 0 → (∀ M38 : NN, M38 = up3 M37 10 0 33 (M37 10 0 31) → K M38))))))))) ∧ (¬ ((wI x3) ≠ 10) → (∀ M39 : NN, M39 = up3 N3 10 0 35 ((N3 10 0 35) + 1) → W_X10_next G K 0 [(0, vR 10 0)] [] M39))))))))) := by
    intro d
    induction d with
    | zero =>
      intro s M hd f m35 hr
      have hM := h.kp f
      have re : tS b sz p = s := by rw [hr]; exact run_stop (by omega)
      rw [m35]
      refine s_byteAt hM (by omega) ?_
      rw [if_neg (by omega), m35]
      refine ⟨fun q => absurd q (by decide), fun _ => s_byteAt hM (by omega) ?_⟩
      rw [if_neg (by omega)]
      refine ⟨fun _ M4 e4 => ?_, fun q => absurd (by decide) q⟩
      have f4 : FrU M M4 := by rw [e4]; exact upU (by decide)
      have m4 : M4 10 0 35 = (s : Int) := by rw [e4, up3_o' (by omega), m35]
      rw [m4]
      refine s_byteAt (hM.kp f4) (by omega) ?_
      rw [if_neg (by omega)]
      refine fun M6 e6 => ⟨fun q => absurd q (by decide), fun _ M37 e37 M38 e38 => ?_⟩
      have f38 : FrU M M38 := f4.tr (by rw [e38, e37, e6]; exact ((upU (by decide)).tr (upU (by decide))).tr (upU (by decide)))
      have t0 : tT b sz p = 0 := by unfold tT; rw [if_pos (by omega)]
      have eE : tE b sz p = tS b sz p := by unfold tE; rw [if_pos (by omega)]
      refine k M38 (f.tr f38) ⟨hM.kp f38, hp, ?_, ?_, fun _ => ?_, fun q => absurd t0 q⟩
      · rw [e38, up3_s, e37, up3_o' (by omega), e6, up3_o' (by omega), f4 10 0 31 (by omega), hM.1]
        omega
      · rw [e38, up3_o' (by omega), e37, up3_s, t0]
      · rw [e38, up3_o' (by omega), e37, up3_o' (by omega), e6, up3_o' (by omega), m4, eE, re]
    | succ d ih =>
      intro s M hd f m35 hr
      have hM := h.kp f
      have hb := hM.2.2.2.2 s (by omega)
      rw [m35]
      refine s_byteAt hM (by omega) ?_
      rw [if_pos (by omega), wI_id (x := b s) (by omega) (by omega), m35]
      have sk : isBl (b s) = true → ∀ M2 : NN, M2 = up3 M 10 0 35 ((s : Int) + 1) → W_X10_next G K 0 [(0, vR 10 0)] [] M2 := by
        intro g M2 e2
        refine vc_X10_next_0 (ih (s + 1) M2 (by omega) (f.tr (by rw [e2]; exact upU (by decide))) ?_ (by rw [hr, run_step (by omega) g]))
        rw [e2, up3_s]
        omega
      refine ⟨fun q => sk (isBl_iff.mpr (.inl q)), fun q1 => s_byteAt hM (by omega) ?_⟩
      rw [if_pos (by omega), wI_id (x := b s) (by omega) (by omega)]
      refine ⟨fun q2 M4 e4 => ?_, fun q2 M2 e2 => sk (isBl_iff.mpr (.inr (by omega))) M2 (by rw [e2, m35])⟩
      have g : ¬ isBl (b s) = true := fun q => by have := isBl_iff.mp q; omega
      have re : tS b sz p = s := by rw [hr]; exact run_stop (fun q => g q.2)
      have f4 : FrU M M4 := by rw [e4]; exact upU (by decide)
      have m4 : M4 10 0 35 = (s : Int) := by rw [e4, up3_o' (by omega), m35]
      have a4 : M4 10 0 33 = (s : Int) := by rw [e4, up3_s, m35]
      rw [m4]
      refine s_byteAt (hM.kp f4) (by omega) ?_
      rw [if_pos (by omega)]
      have l : tS b sz p < sz := by omega
      have bs : b (tS b sz p) = b s := by rw [re]
      intro M6 e6
      have f6 : FrU M M6 := f4.tr (by rw [e6]; exact upU (by decide))
      have m6 : M6 10 0 35 = (s : Int) := by rw [e6, up3_o' (by omega), m4]
      have a6 : M6 10 0 33 = (s : Int) := by rw [e6, up3_o' (by omega), a4]
      have t6 : M6 10 0 32 = 4 := by rw [e6, up3_s]
      rw [wI_id (x := b s) (by omega) (by omega)]
      refine ⟨fun _ => s_inB (by omega) (by omega) (by omega) ?_, fun q => by omega⟩
      by_cases gl : isLt (b s) = true
      · rw [bI_t (isLt_iff.mp gl), wlitI (by decide) (by decide)]
        refine ⟨fun q => absurd q (by decide), fun _ M35 e35 M36 e36 => ?_⟩
        have := word (sz - s) s M36 (by omega) (f.tr (f6.tr (by rw [e36, e35]; exact (upU (by decide)).tr (upU (by decide))))) (by rw [e36, up3_o' (by omega), e35, up3_o' (by omega), a6, re]) (by rw [e36, up3_o' (by omega), e35, up3_o' (by omega), m6]) (by rw [e36, up3_o' (by omega), e35, up3_s]) (by omega) (by rw [e36, up3_s, re, Nat.sub_self]; rfl) l (by rw [bs]; exact gl) (by rw [re])
        rwa [re, Int.sub_self] at this
      · rw [bI_f (fun q => gl (isLt_iff.mpr q)), wlitI (by decide) (by decide)]
        refine ⟨fun _ => s_inB (by omega) (by omega) (by omega) ?_, fun q => absurd rfl q⟩
        have gl' : isLt (b s) = false := by simpa using gl
        by_cases gd : isDg (b s) = true
        · rw [bI_t (isDg_iff.mp gd), wlitI (by decide) (by decide)]
          refine ⟨fun q => absurd q (by decide), fun _ M35 e35 M36 e36 => ?_⟩
          have := numb (sz - s) s M36 (by omega) (f.tr (f6.tr (by rw [e36, e35]; exact (upU (by decide)).tr (upU (by decide))))) (by rw [e36, up3_o' (by omega), e35, up3_o' (by omega), a6, re]) (by rw [e36, up3_o' (by omega), e35, up3_o' (by omega), m6]) (by omega) (by rw [e36, up3_s, re, Nat.sub_self]; rfl) l (by rw [bs]; exact gl') (by rw [bs]; exact gd) (by rw [re])
          rwa [re, Int.sub_self] at this
        · rw [bI_f (fun q => gd (isDg_iff.mpr q)), wlitI (by decide) (by decide)]
          have nl : ¬ isLt (b (tS b sz p)) = true := by rw [bs]; exact gl
          have nd : ¬ isDg (b (tS b sz p)) = true := by rw [bs]; exact gd
          have eE : tE b sz p = s + 1 := by
            unfold tE
            rw [if_neg (show ¬ sz ≤ tS b sz p by omega), if_neg nl, if_neg nd, re]
          have eT : tT b sz p = if isSg (b s) = true then 3 else 4 := by
            unfold tT
            rw [if_neg (show ¬ sz ≤ tS b sz p by omega), if_neg nl, if_neg nd, bs]
          have eV : tV b sz p = b s := by
            unfold tV
            rw [if_neg nl, if_neg nd, bs]
          have sgn : isSg (b s) = true → ∀ M9 : NN, M9 = up3 M6 10 0 32 3 → ∀ M10 : NN, M10 = up3 M9 10 0 34 (b s) → ∀ M11 : NN, M11 = up3 M10 10 0 35 ((M10 10 0 35) + 1) → K M11 := by
            intro yes M9 e9 M10 e10 M11 e11
            have f11 : FrU M M11 := f6.tr (by rw [e11, e10, e9]; exact ((upU (by decide)).tr (upU (by decide))).tr (upU (by decide)))
            refine k M11 (f.tr f11) ⟨hM.kp f11, hp, ?_, ?_, fun _ => ?_, fun _ _ => ?_⟩
            · rw [e11, up3_o' (by omega), e10, up3_o' (by omega), e9, up3_o' (by omega), a6, re]
            · rw [e11, up3_o' (by omega), e10, up3_o' (by omega), e9, up3_s, eT, if_pos yes]
            · rw [e11, up3_s, e10, up3_o' (by omega), e9, up3_o' (by omega), m6, eE]
              omega
            · rw [e11, up3_o' (by omega), e10, up3_s, eV]
          refine ⟨fun _ => ⟨fun q => sgn (isSg_iff.mpr (by omega)), fun q3 => ⟨fun q => sgn (isSg_iff.mpr (by omega)), fun q4 => ⟨fun q => sgn (isSg_iff.mpr (by omega)), fun q5 => ⟨fun q => sgn (isSg_iff.mpr (by omega)), fun q6 => ⟨fun q => sgn (isSg_iff.mpr (by omega)), fun q7 => ⟨fun q => sgn (isSg_iff.mpr (by omega)), fun q8 => ⟨fun q => sgn (isSg_iff.mpr (by omega)), fun q9 => ⟨fun q => ?_, fun q => sgn (isSg_iff.mpr (by omega))⟩⟩⟩⟩⟩⟩⟩⟩, fun q => absurd rfl q⟩
          have no : ¬ isSg (b s) = true := fun y => by have := isSg_iff.mp y; omega
          have t4 : tT b sz p = 4 := by rw [eT, if_neg no]
          exact k M6 (f.tr f6) ⟨hM.kp f6, hp, by rw [a6, re], by rw [t6, t4], fun q => absurd t4 q, fun _ q => absurd t4 q⟩
  exact vc_X10_next (key (sz - p) p N0 (by omega) FrU.rf h35 rfl)
end MT
