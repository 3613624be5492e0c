/-! the reference's loan goes through a month -/
section MG
variable {G : GT} {N : NN} {l kk : Nat} {K : NN → Prop}
theorem UpdM_of {N' : NN} {v w : Nat → Int} (h : ∀ k, k < 8 → N' (40 + k) 0 l = v k) (h0 : N' 48 0 kk = N 48 0 kk + w 0) (h1 : N' 49 0 kk = N 49 0 kk + w 1) (h2 : N' 50 0 kk = N 50 0 kk + w 2) (h3 : N' 51 0 kk = N 51 0 kk + w 3) (h8 : N' 55 0 kk = N 55 0 kk + w 8)
    (hf : ∀ c i k, ¬ (40 ≤ c ∧ c < 48 ∧ i = 0 ∧ k = l) → ¬ ((c = 48 ∨ c = 49 ∨ c = 50 ∨ c = 51 ∨ c = 55) ∧ i = 0 ∧ k = kk) → N' c i k = N c i k) : UpdM N N' l kk v w :=
  ⟨h, ⟨h0, h1, h2, h3, h8⟩, fun c i k a b _ => hf c i k a b⟩
theorem s_paysOff {i st : Int} (hl : l < 12) (hk : kk < 61) (B : LBv (LV N l)) (hi : 0 ≤ i ∧ i ≤ 80000) (k : ∀ N', UpdM N N' l kk (vAll st (LV N l)) (wAll i (LV N l)) → K N') : C_X10_paysOff G (l : Int) (kk : Int) i st N K := by
  have B' := B
  unfold LBv at B
  have e4 : LV N l 4 = N 44 0 l := rfl
  have e1 : LV N l 1 = N 41 0 l := rfl
  rw [e4, e1] at B
  refine vc_X10_paysOff ?_
  rw [wI_id (x := (l : Int)) (by omega) (by omega), wI_id (x := (kk : Int)) (by omega) (by omega)]
  refine ⟨kk, rfl, hk, l, rfl, hl, kk, rfl, hk, ?_⟩
  rw [wI_id (x := i + N 44 0 l) (by omega) (by omega)]
  refine fun M4 h4 => ⟨kk, rfl, hk, l, rfl, hl, kk, rfl, hk, ?_⟩
  have x1 : M4 41 0 l = N 41 0 l := by subst h4; exact up3_o _ _ _ (by omega)
  rw [x1, wI_id (x := N 41 0 l) (by omega) (by omega)]
  refine fun M8 h8 => ⟨l, rfl, hl, fun M10 h10 => ⟨l, rfl, hl, fun M12 h12 => ⟨l, rfl, hl, fun M14 h14 => k _ ?_⟩⟩⟩
  subst h14 h12 h10 h8 h4
  refine UpdM_of (k8 ?_ ?_ ?_ ?_ ?_ ?_ ?_ ?_) ?_ ?_ ?_ ?_ ?_ ?_
  all_goals try (simp [up3, vAll, wAll, LV]; done)
  · intro c i k h1 h2
    simp only [up3]
    repeat rw [if_neg (by omega)]
theorem s_mLot {m : Int} {K : Int → NN → Prop} (hs : 0 ≤ N 10 0 11 ∧ N 10 0 11 ≤ 99999) (hl : l < 12) (hm : 0 ≤ m ∧ m ≤ 60) (k : K (lotS (N 10 0 11) l m) N) : C_X10_lot G (l : Int) m N K := by
  refine vc_X10_lot ?_
  rw [wI_id (x := N 10 0 11) (by omega) (by omega), wI_id (x := (l : Int)) (by omega) (by omega), wI_id (x := m) (by omega) (by omega), wL_id (x := (N 10 0 11 + 7919 * (l : Int) + 104729 * m) * 48271) (by omega) (by omega), tm_n (a := (N 10 0 11 + 7919 * (l : Int) + 104729 * m) * 48271) (b := 2147483647) (by omega), wL_id (x := (N 10 0 11 + 7919 * (l : Int) + 104729 * m) * 48271 % 2147483647) (by omega) (by omega), tm_n (a := (N 10 0 11 + 7919 * (l : Int) + 104729 * m) * 48271 % 2147483647) (b := 1000) (by omega)]
  exact k
theorem s_mWithin {x v : Int} {K : Int → NN → Prop} (hx : wI x = v) (k : ∀ y, wI y = clampS v → K y N) : C_X10_within G x N K := by
  refine vc_X10_within ?_
  rw [hx]
  refine ⟨fun q => ⟨fun q2 => k x ?_, fun q2 => k 1000 ?_⟩, fun q => k 0 ?_⟩
  · unfold clampS; omega
  · unfold clampS; rw [wlitI (by decide) (by decide)]; omega
  · unfold clampS; rw [wlitI (by decide) (by decide)]; omega
/-- the month of a loan that pays -/
theorem m_path {lst fr : Int} (hl : l < 12) (hk : 1 ≤ kk ∧ kk ≤ 60) (B : LBv (LV N l)) (hmo : (kk : Int) ≤ LV N l 3) (hlst : wI lst = bI (LV N l 3 ≤ kk)) (hfr : wI fr = bI (freeB kk (LV N l) = true)) (k : ∀ N', UpdM N N' l kk (vMon kk (LV N l)) (wMon kk (LV N l)) → K N') :
    (∃ j1 : Nat, (kk : Int) = (j1 : Int) ∧ j1 < 61 ∧ (∃ j2 : Nat, (l : Int) = (j2 : Int) ∧ j2 < 12 ∧ (∃ j3 : Nat, (kk : Int) = (j3 : Int) ∧ j3 < 61 ∧ (∀ M4 : NN, M4 = up3 N 48 0 j3 ((N 48 0 j1) + (wI (N 44 0 j2))) → (∃ j5 : Nat, (l : Int) = (j5 : Int) ∧ j5 < 12 ∧ (∀ M6 : NN, M6 = up3 M4 44 0 j5 0 → (∃ j7 : Nat, (l : Int) = (j7 : Int) ∧ j7 < 12 ∧ (∀ M8 : NN, M8 = up3 M6 45 0 j7 0 → ((wI fr = 0 → (C_X10_principal G l kk (iS (LV N l 1) (LV N l 2)) M8 (fun x9 N9 => (∃ j10 : Nat, (kk : Int) = (j10 : Int) ∧ j10 < 61 ∧ (∃ j11 : Nat, (kk : Int) = (j11 : Int) ∧ j11 < 61 ∧ (∀ M12 : NN, M12 = up3 N9 48 0 j11 ((N9 48 0 j10) + (wI (iS (LV N l 1) (LV N l 2)))) → (∃ j13 : Nat, (kk : Int) = (j13 : Int) ∧ j13 < 61 ∧ (∃ j14 : Nat, (kk : Int) = (j14 : Int) ∧ j14 < 61 ∧ (∀ M15 : NN, M15 = up3 M12 49 0 j14 ((M12 49 0 j13) + (wI x9)) → (∃ j16 : Nat, (l : Int) = (j16 : Int) ∧ j16 < 12 ∧ (∃ j17 : Nat, (l : Int) = (j17 : Int) ∧ j17 < 12 ∧ (∀ M18 : NN, M18 = up3 M15 41 0 j17 ((M15 41 0 j16) - x9) → ((wI lst = 0 → K M18) ∧ (¬ (wI lst = 0) → (∃ j19 : Nat, (l : Int) = (j19 : Int) ∧ j19 < 12 ∧ (∀ M20 : NN, M20 = up3 M18 45 0 j19 5 → K M20)))))))))))))))) ∧ (¬ (wI fr = 0) → (∃ j21 : Nat, (l : Int) = (j21 : Int) ∧ j21 < 12 ∧ (∃ j22 : Nat, (l : Int) = (j22 : Int) ∧ j22 < 12 ∧ (∀ M23 : NN, M23 = up3 M8 41 0 j22 ((M8 41 0 j21) + (iS (LV N l 1) (LV N l 2))) → K M23))))))))))))) := by
  have B' := B
  obtain ⟨b0, b1, b2, b3, b4, b5, b6, b7, b8, b9, b10, b11, b12, b13, b14, b15⟩ := B
  have hi := iS_rng b2 b3 b4 b5
  have e4 : LV N l 4 = N 44 0 l := rfl
  have e1 : LV N l 1 = N 41 0 l := rfl
  have e3 : LV N l 3 = N 43 0 l := rfl
  refine ⟨kk, rfl, by omega, l, rfl, hl, kk, rfl, by omega, ?_⟩
  rw [wI_id (x := N 44 0 l) (by omega) (by omega)]
  refine fun M4 h4 => ⟨l, rfl, hl, fun M6 h6 => ⟨l, rfl, hl, fun M8 h8 => ?_⟩⟩
  have v8 : ∀ k, k < 8 → M8 (40 + k) 0 l = if k = 5 then 0 else if k = 4 then 0 else N (40 + k) 0 l := by
    refine k8 ?_ ?_ ?_ ?_ ?_ ?_ ?_ ?_
    all_goals (subst h8 h6 h4; simp [up3])
  have w8 : ∀ k, k < 8 → LV M8 l k = if k = 5 then 0 else if k = 4 then 0 else LV N l k := by
    intro k h
    rw [LV_ h, LV_ h, v8 k h]
  have o8 : ∀ c i k, ¬ ((c = 44 ∨ c = 45) ∧ i = 0 ∧ k = l) → ¬ (c = 48 ∧ i = 0 ∧ k = kk) → M8 c i k = N c i k := by
    intro c i k a b
    subst h8 h6 h4
    simp only [up3]
    rw [if_neg (by omega), if_neg (by omega), if_neg (by omega)]
  have s8 : M8 48 0 kk = N 48 0 kk + LV N l 4 := by
    rw [e4]
    subst h8 h6 h4
    simp [up3]
  rw [hfr, hlst]
  by_cases hf : freeB kk (LV N l) = true
  · rw [bI_t hf]
    refine ⟨fun q => absurd q (by decide), fun _ => ⟨l, rfl, hl, l, rfl, hl, fun M23 h23 => k M23 ?_⟩⟩
    have n3 : ¬ LV N l 3 ≤ kk := by
      have := freeB_iff.mp hf
      omega
    have r41 : M8 41 0 l = LV N l 1 := o8 _ _ _ (by omega) (by omega)
    rw [r41] at h23
    have g : ∀ k, k < 8 → M23 (40 + k) 0 l = if k = 1 then LV N l 1 + iS (LV N l 1) (LV N l 2) else if k = 5 then 0 else if k = 4 then 0 else LV N l k := by
      intro k hk
      by_cases e : k = 1
      · subst e
        rw [if_pos rfl, h23]
        exact up3_s
      · rw [if_neg e, ← w8 k hk, LV_ hk, h23]
        simp only [up3]
        rw [if_neg (by omega)]
    have o : ∀ c i k, ¬ (c = 41 ∧ i = 0 ∧ k = l) → M23 c i k = M8 c i k := by
      intro c i k a
      rw [h23]
      simp only [up3]
      rw [if_neg (by omega)]
    refine UpdM_of (fun k hk => ?_) ?_ ?_ ?_ ?_ ?_ (fun c i k a b => ?_)
    · rw [g k hk]
      unfold vMon
      simp only [if_pos hf]
      by_cases e1 : k = 1
      · subst e1; simp
      · by_cases e4 : k = 4
        · subst e4; simp
        · by_cases e5 : k = 5
          · subst e5; simp [n3]
          · simp [e1, e4, e5]
    · rw [o _ _ _ (by omega), s8]
      unfold wMon
      rw [if_pos rfl, if_pos hf]
    · rw [o _ _ _ (by omega), o8 _ _ _ (by omega) (by omega)]
      unfold wMon
      rw [if_neg (by decide), if_pos rfl, if_pos hf, Int.add_zero]
    · rw [o _ _ _ (by omega), o8 _ _ _ (by omega) (by omega)]
      exact (Int.add_zero _).symm
    · rw [o _ _ _ (by omega), o8 _ _ _ (by omega) (by omega)]
      exact (Int.add_zero _).symm
    · rw [o _ _ _ (by omega), o8 _ _ _ (by omega) (by omega)]
      exact (Int.add_zero _).symm
    · rw [o _ _ _ (by omega), o8 _ _ _ (by omega) (by omega)]
  · rw [bI_f hf]
    refine ⟨fun _ => ?_, fun q => absurd rfl q⟩
    have i8 : iS (LV N l 1) (LV N l 2) = iS (LV M8 l 1) (LV M8 l 2) := by rw [w8 1 (by decide), w8 2 (by decide)]; rfl
    rw [i8]
    have B8 : LBv (LV M8 l) := by
      unfold LBv
      rw [w8 0 (by decide), w8 1 (by decide), w8 2 (by decide), w8 3 (by decide), w8 4 (by decide), w8 5 (by decide), w8 6 (by decide), w8 7 (by decide)]
      simp
      omega
    refine s_mPrincipal hl B8 (by omega) (by rw [w8 3 (by decide)]; exact hmo) ?_
    have u0 : LV M8 l 0 = LV N l 0 := by rw [w8 0 (by decide)]; rfl
    have u1 : LV M8 l 1 = LV N l 1 := by rw [w8 1 (by decide)]; rfl
    have u2 : LV M8 l 2 = LV N l 2 := by rw [w8 2 (by decide)]; rfl
    have u3 : LV M8 l 3 = LV N l 3 := by rw [w8 3 (by decide)]; rfl
    have u6 : LV M8 l 6 = LV N l 6 := by rw [w8 6 (by decide)]; rfl
    rw [← i8, u0, u1, u2, u3, u6]
    have hp : 0 ≤ pS (LV N l 0) (LV N l 1) (LV N l 2) (LV N l 3) (LV N l 6) kk ∧ pS (LV N l 0) (LV N l 1) (LV N l 2) (LV N l 3) (LV N l 6) kk ≤ 5000000 := by
      unfold pS
      split
      · omega
      · split
        · omega
        · split
          · rename_i h _ _
            constructor
            · exact Int.ediv_nonneg (by omega) (by omega)
            · have := Int.ediv_le_self (a := LV N l 1 + (LV N l 3 + 1 - kk) - 1) (LV N l 3 + 1 - kk) (by omega)
              omega
          · omega
    have hpe : pS (LV N l 0) (LV N l 1) (LV N l 2) (LV N l 3) (LV N l 6) kk = pS (LV N l 0) (LV N l 1) (LV N l 2) (LV N l 3) (LV N l 6) kk := rfl
    generalize hP : pS (LV N l 0) (LV N l 1) (LV N l 2) (LV N l 3) (LV N l 6) kk = P at *
    refine ⟨kk, rfl, by omega, kk, rfl, by omega, ?_⟩
    rw [wI_id (x := iS (LV N l 1) (LV N l 2)) (by omega) (by omega), wI_id (x := P) (by omega) (by omega)]
    refine fun M12 h12 => ⟨kk, rfl, by omega, kk, rfl, by omega, fun M15 h15 => ⟨l, rfl, hl, l, rfl, hl, fun M18 h18 => ?_⟩⟩
    have y48 : M12 48 0 kk = N 48 0 kk + (LV N l 4 + iS (LV N l 1) (LV N l 2)) := by
      rw [h12, up3_s, s8]
      omega
    have y49 : M12 49 0 kk = N 49 0 kk := by
      rw [h12, up3_o _ _ _ (by omega)]
      exact o8 _ _ _ (by omega) (by omega)
    rw [y49] at h15
    have y41 : M15 41 0 l = LV N l 1 := by
      rw [h15, up3_o _ _ _ (by omega), h12, up3_o _ _ _ (by omega)]
      exact o8 _ _ _ (by omega) (by omega)
    rw [y41] at h18
    have o : ∀ c i k, ¬ (c = 41 ∧ i = 0 ∧ k = l) → ¬ ((c = 48 ∨ c = 49) ∧ i = 0 ∧ k = kk) → M18 c i k = M8 c i k := by
      intro c i k a b
      rw [h18, h15, h12]
      simp only [up3]
      rw [if_neg (by omega), if_neg (by omega), if_neg (by omega)]
    have z48 : M18 48 0 kk = N 48 0 kk + (LV N l 4 + iS (LV N l 1) (LV N l 2)) := by
      rw [h18, up3_o _ _ _ (by omega), h15, up3_o _ _ _ (by omega), y48]
    have z49 : M18 49 0 kk = N 49 0 kk + P := by
      rw [h18, up3_o _ _ _ (by omega), h15, up3_s]
    have g : ∀ k, k < 8 → M18 (40 + k) 0 l = if k = 1 then LV N l 1 - P else if k = 5 then 0 else if k = 4 then 0 else LV N l k := by
      intro k hk
      by_cases e : k = 1
      · subst e
        rw [if_pos rfl, h18]
        exact up3_s
      · rw [if_neg e, ← w8 k hk, LV_ hk]
        exact o _ _ _ (by omega) (by omega)
    have fin : ∀ (Z : NN) (st : Int), st = (if LV N l 3 ≤ kk then 5 else 0) → (∀ k, k < 8 → Z (40 + k) 0 l = if k = 5 then st else M18 (40 + k) 0 l) → (∀ c i k, ¬ (c = 45 ∧ i = 0 ∧ k = l) → Z c i k = M18 c i k) → K Z := by
      intro Z st hst hz oz
      refine k Z (UpdM_of (fun k hk => ?_) ?_ ?_ ?_ ?_ ?_ (fun c i k a b => ?_))
      · rw [hz k hk, g k hk, hst]
        unfold vMon
        simp only [if_neg hf, hP]
        by_cases e1 : k = 1
        · subst e1; simp
        · by_cases e4 : k = 4
          · subst e4; simp
          · by_cases e5 : k = 5
            · subst e5; simp
            · simp [e1, e4, e5]
      · rw [oz _ _ _ (by omega), z48]
        unfold wMon
        rw [if_pos rfl, if_neg hf]
      · rw [oz _ _ _ (by omega), z49]
        unfold wMon
        rw [if_neg (by decide), if_pos rfl, if_neg hf, hP]
      · rw [oz _ _ _ (by omega), o _ _ _ (by omega) (by omega), o8 _ _ _ (by omega) (by omega)]
        exact (Int.add_zero _).symm
      · rw [oz _ _ _ (by omega), o _ _ _ (by omega) (by omega), o8 _ _ _ (by omega) (by omega)]
        exact (Int.add_zero _).symm
      · rw [oz _ _ _ (by omega), o _ _ _ (by omega) (by omega), o8 _ _ _ (by omega) (by omega)]
        exact (Int.add_zero _).symm
      · rw [oz _ _ _ (by omega), o _ _ _ (by omega) (by omega), o8 _ _ _ (by omega) (by omega)]
    refine ⟨fun q => fin M18 0 ?_ (fun k hk => ?_) (fun _ _ _ _ => rfl), fun q => ⟨l, rfl, hl, fun M20 h20 => fin M20 5 ?_ (fun k hk => ?_) (fun c i k a => ?_)⟩⟩
    · by_cases h : LV N l 3 ≤ kk
      · rw [bI_t h] at q
        exact absurd q (by decide)
      · rw [if_neg h]
    · by_cases e : k = 5
      · rw [if_pos e, g k hk, if_neg (by omega), if_pos e]
      · rw [if_neg e]
    · by_cases h : LV N l 3 ≤ kk
      · rw [if_pos h]
      · rw [bI_f h] at q
        exact absurd rfl q
    · by_cases e : k = 5
      · subst e
        rw [if_pos rfl, h20]
        exact up3_s
      · rw [if_neg e, h20]
        simp only [up3]
        rw [if_neg (by omega)]
    · rw [h20]
      simp only [up3]
      rw [if_neg (by omega)]
end MG
