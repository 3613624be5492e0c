/-! the reference's loan goes through a month: all of it -/
theorem wI_add {a b A B : Int} (ha : wI a = A) (hb : wI b = B) (h1 : -1000000 ≤ A + B) (h2 : A + B ≤ 1000000) : wI (a + b) = A + B := by
  have e : wI (a + b) = wI (A + B) := by
    subst ha hb
    unfold wI
    rw [Int.bmod_add_bmod, Int.add_bmod_bmod]
  rw [e]
  exact wI_id (by omega) (by omega)
section MH
variable {G : GT} {N : NN} {l kk : Nat} {K : NN → Prop}
theorem m_104 {f la e x l3 l4 l5 lst fr : Int} (hl : l < 12) (hk : 1 ≤ kk ∧ kk ≤ 60) (B : LBv (LV N l)) (hmo : (kk : Int) ≤ LV N l 3) (hadv : N 10 0 13 = 0 ∨ N 10 0 13 = 1) (hlst : wI lst = bI (LV N l 3 ≤ kk)) (hfr : wI fr = bI (freeB kk (LV N l) = true)) (g3 : wI l3 = f) (g4 : wI l4 = la) (g5 : wI l5 = e) (r3 : 0 ≤ f ∧ f ≤ 1000) (r4 : 0 ≤ la ∧ la ≤ 1000) (r5 : 0 ≤ e ∧ e ≤ 1000) (r6 : 0 ≤ x ∧ x < 1000)
    (k : ∀ N', UpdM N N' l kk (vDraw kk f la e x (LV N l)) (wDraw kk f la e x (N 10 0 13) (LV N l)) → K N') :
    W_X10_goes G K 104 [(0, vR 10 0), (1, vI l), (2, vI kk), (3, vI l3), (4, vI l4), (5, vI l5), (6, vI x), (7, vI (iS (LV N l 1) (LV N l 2))), (8, vI lst)] [vI fr] N := by
  have kf : kk < 61 := by omega
  have B' := B
  obtain ⟨b0, b1, b2, b3, b4, b5, b6, b7, b8, b9, b10, b11, b12, b13, b14, b15⟩ := B
  have hi := iS_rng b2 b3 b4 b5
  have e4 : LV N l 4 = N 44 0 l := rfl
  have e3 : LV N l 3 = N 43 0 l := rfl
  have wl := wI_id (x := (l : Int)) (by omega) (by omega)
  have wk := wI_id (x := (kk : Int)) (by omega) (by omega)
  have w34 := wI_add g3 g4 (by omega) (by omega)
  have w345 := wI_add w34 g5 (by omega) (by omega)
  have wx := wI_id (x := x) (by omega) (by omega)
  have wi := wI_id (x := iS (LV N l 1) (LV N l 2)) (by omega) (by omega)
  -- at 210
  have at210 : ¬ x < f → ¬ (x < f + la ∧ freeB kk (LV N l) = false) → W_X10_goes G K 210 [(0, vR 10 0), (1, vI l), (2, vI kk), (3, vI l3), (4, vI l4), (5, vI l5), (6, vI x), (7, vI (iS (LV N l 1) (LV N l 2))), (8, vI lst), (9, vI fr)] [] N := by
    intro q1 q2
    have mon : ¬ (f + la ≤ x ∧ x < f + la + e) → ∀ N', UpdM N N' l kk (vMon kk (LV N l)) (wMon kk (LV N l)) → K N' := by
      intro q3 N' u
      refine k N' ?_
      unfold vDraw wDraw
      rw [if_neg q1, if_neg q2, if_neg q3, if_neg q1, if_neg q2, if_neg q3]
      exact u
    refine vc_X10_goes_210 ?_
    rw [wl, wk, w34, w345, wx]
    refine ⟨fun q => m_path hl hk B' hmo hlst hfr (mon (by omega)), fun q => ⟨fun q3 => m_path hl hk B' hmo hlst hfr (mon (by omega)), fun q3 => ?_⟩⟩
    rw [hlst]
    have all : ∀ N' (st : Int), st = (if LV N l 3 ≤ kk then 5 else 2) → UpdM N N' l kk (vAll st (LV N l)) (wAll (iS (LV N l 1) (LV N l 2)) (LV N l)) → K N' := by
      intro N' st hst u
      refine k N' ?_
      unfold vDraw wDraw
      have q4 : f + la ≤ x ∧ x < f + la + e := by omega
      rw [if_neg q1, if_neg q2, if_pos q4, if_neg q1, if_neg q2, if_pos q4, ← hst]
      exact u
    refine ⟨fun h => s_paysOff hl kf B' hi (fun N' u => all N' 2 ?_ u), fun h => s_paysOff hl kf B' hi (fun N' u => all N' 5 ?_ u)⟩
    · by_cases c : LV N l 3 ≤ kk
      · rw [bI_t c] at h
        exact absurd h (by decide)
      · rw [if_neg c]
    · by_cases c : LV N l 3 ≤ kk
      · rw [if_pos c]
      · rw [bI_f c] at h
        exact absurd rfl h
  refine vc_X10_goes_104 ?_
  rw [wl, wk, g3, w34, wx, wi, hlst, hfr]
  refine ⟨fun q => ⟨fun q2 => at210 (by omega) (by omega), fun q2 => ⟨fun q3 => at210 (by omega) ?_, fun q3 => ⟨l, rfl, hl, fun M2 h2 => ⟨l, rfl, hl, l, rfl, hl, fun M5 h5 => ⟨kk, rfl, kf, ?_⟩⟩⟩⟩⟩, fun q => ⟨l, rfl, hl, fun M22 h22 => ⟨l, rfl, hl, fun M24 h24 => ⟨l, rfl, hl, fun M26 h26 => k M26 ?_⟩⟩⟩⟩
  · intro h
    rw [bI_f (by rw [h.2]; decide)] at q3
    exact q3 rfl
  · have hf : freeB kk (LV N l) = false := by
      cases hF : freeB kk (LV N l)
      · rfl
      · rw [hF, bI_t rfl] at q3
        exact absurd (by decide) q3
    have x44 : M2 44 0 l = N 44 0 l := by subst h2; exact up3_o _ _ _ (by omega)
    rw [x44] at h5
    have x13 : M5 10 0 13 = N 10 0 13 := by
      subst h5 h2
      rw [up3_o _ _ _ (by omega), up3_o _ _ _ (by omega)]
    have x51 : M5 51 0 kk = N 51 0 kk := by
      subst h5 h2
      rw [up3_o _ _ _ (by omega), up3_o _ _ _ (by omega)]
    rw [x13, x51, wI_id (x := N 10 0 13) (by omega) (by omega)]
    have fin : ∀ (M8 M11 : NN) (u w : Int), u = (if N 10 0 13 = 0 then 0 else iS (LV N l 1) (LV N l 2)) → w = (if LV N l 3 ≤ kk then 1 else 0) → M8 = up3 M5 51 0 kk (N 51 0 kk + u) → M11 = up3 M8 43 0 l (M8 43 0 l + w) → K M11 := by
      intro M8 M11 u w hu hw h8 h11
      have y43 : M8 43 0 l = N 43 0 l := by
        subst h8 h5 h2
        rw [up3_o _ _ _ (by omega), up3_o _ _ _ (by omega), up3_o _ _ _ (by omega)]
      rw [y43] at h11
      refine k M11 ?_
      unfold vDraw wDraw
      have n1 : ¬ x < f := by omega
      have n2 : x < f + la ∧ freeB kk (LV N l) = false := ⟨by omega, hf⟩
      rw [if_neg n1, if_neg n1, if_pos n2, if_pos n2]
      have o : ∀ c i k, ¬ ((c = 43 ∨ c = 44 ∨ c = 45) ∧ i = 0 ∧ k = l) → ¬ (c = 51 ∧ i = 0 ∧ k = kk) → M11 c i k = N c i k := by
        clear wl wk w34 w345 wx wi g3 g4 g5 hlst hfr at210 q q2 q3
        intro c i k a b
        subst h11 h8 h5 h2
        simp only [up3]
        rw [if_neg (by omega), if_neg (by omega), if_neg (by omega), if_neg (by omega)]
      clear wl wk w34 w345 wx wi g3 g4 g5 hlst hfr at210 q q2 q3
      refine UpdM_of (k8 ?_ ?_ ?_ ?_ ?_ ?_ ?_ ?_) ?_ ?_ ?_ ?_ ?_ (fun c i k a b => o c i k (by omega) (by omega))
      · exact o 40 0 l (by omega) (by omega)
      · exact o 41 0 l (by omega) (by omega)
      · exact o 42 0 l (by omega) (by omega)
      · have : M11 43 0 l = LV N l 3 + w := by rw [h11]; exact up3_s
        rw [this, hw]
        unfold vLate
        simp only [Nat.reduceEqDiff, ↓reduceIte]
        split <;> omega
      · have : M11 44 0 l = LV N l 4 + iS (LV N l 1) (LV N l 2) := by
          rw [h11, up3_o _ _ _ (by omega), h8, up3_o _ _ _ (by omega), h5]
          exact up3_s
        rw [this]
        rfl
      · have : M11 45 0 l = 1 := by
          rw [h11, up3_o _ _ _ (by omega), h8, up3_o _ _ _ (by omega), h5, up3_o _ _ _ (by omega), h2]
          exact up3_s
        rw [this]
        rfl
      · exact o 46 0 l (by omega) (by omega)
      · exact o 47 0 l (by omega) (by omega)
      · rw [o _ _ _ (by omega) (by omega)]
        exact (Int.add_zero _).symm
      · rw [o _ _ _ (by omega) (by omega)]
        exact (Int.add_zero _).symm
      · rw [o _ _ _ (by omega) (by omega)]
        exact (Int.add_zero _).symm
      · rw [h11, up3_o _ _ _ (by omega), h8, up3_s, hu]
        rfl
      · rw [o _ _ _ (by omega) (by omega)]
        exact (Int.add_zero _).symm
    have lw : ∀ {P : Prop}, bI (LV N l 3 ≤ kk) = 0 → (0 : Int) = (if LV N l 3 ≤ kk then 1 else 0) := by
      intro _ h
      by_cases c : LV N l 3 ≤ kk
      · rw [bI_t c] at h
        exact absurd h (by decide)
      · rw [if_neg c]
    have lw' : ¬ bI (LV N l 3 ≤ kk) = 0 → (1 : Int) = (if LV N l 3 ≤ kk then 1 else 0) := by
      intro h
      by_cases c : LV N l 3 ≤ kk
      · rw [if_pos c]
      · rw [bI_f c] at h
        exact absurd rfl h
    refine ⟨fun a => ⟨kk, rfl, kf, fun M8 h8 => ⟨l, rfl, hl, fun b => ⟨l, rfl, hl, fun M11 h11 => fin M8 M11 0 0 (by rw [if_pos (by omega)]) (lw (P := True) b) h8 h11⟩, fun b => ⟨l, rfl, hl, fun M11 h11 => fin M8 M11 0 1 (by rw [if_pos (by omega)]) (lw' b) h8 h11⟩⟩⟩, fun a => ⟨kk, rfl, kf, fun M8 h8 => ⟨l, rfl, hl, fun b => ⟨l, rfl, hl, fun M11 h11 => fin M8 M11 _ 0 (by rw [if_neg (by omega)]) (lw (P := True) b) h8 h11⟩, fun b => ⟨l, rfl, hl, fun M11 h11 => fin M8 M11 _ 1 (by rw [if_neg (by omega)]) (lw' b) h8 h11⟩⟩⟩⟩
  · unfold vDraw wDraw
    have n1 : x < f := by omega
    rw [if_pos n1, if_pos n1]
    clear wl wk w34 w345 wx wi g3 g4 g5 hlst hfr at210 q
    have o : ∀ c i k, ¬ ((c = 47 ∨ c = 44 ∨ c = 45) ∧ i = 0 ∧ k = l) → M26 c i k = N c i k := by
      intro c i k a
      subst h26 h24 h22
      simp only [up3]
      rw [if_neg (by omega), if_neg (by omega), if_neg (by omega)]
    refine UpdM_of (k8 ?_ ?_ ?_ ?_ ?_ ?_ ?_ ?_) ?_ ?_ ?_ ?_ ?_ (fun c i k a b => o c i k (by omega))
    · exact o 40 0 l (by omega)
    · exact o 41 0 l (by omega)
    · exact o 42 0 l (by omega)
    · exact o 43 0 l (by omega)
    · have : M26 44 0 l = 0 := by rw [h26]; exact up3_s
      exact this
    · have : M26 45 0 l = 3 := by
        rw [h26, up3_o _ _ _ (by omega), h24, up3_o _ _ _ (by omega), h22]
        exact up3_s
      exact this
    · exact o 46 0 l (by omega)
    · have : M26 47 0 l = kk := by
        rw [h26, up3_o _ _ _ (by omega), h24]
        exact up3_s
      exact this
    · rw [o _ _ _ (by omega)]
      exact (Int.add_zero _).symm
    · rw [o _ _ _ (by omega)]
      exact (Int.add_zero _).symm
    · rw [o _ _ _ (by omega)]
      exact (Int.add_zero _).symm
    · rw [o _ _ _ (by omega)]
      exact (Int.add_zero _).symm
    · rw [o _ _ _ (by omega)]
      exact (Int.add_zero _).symm
theorem s_goes {t : Nat} {tx : Nat → Int} {ts : Int} {lv : Nat → (Nat → Int) → Int → Int} (hl : l < 12) (hk : 1 ≤ kk ∧ kk ≤ 60) (B : LBv (LV N l)) (V : VOKm G t tx ts lv) (ht : N 10 0 27 = t) (h57 : ∀ j, j < 160 → N 57 0 (160 * t + j) = tx j) (h58 : N 58 0 t = ts) (hmo : (kk : Int) ≤ LV N l 3) (hadv : N 10 0 13 = 0 ∨ N 10 0 13 = 1) (hs : 0 ≤ N 10 0 11 ∧ N 10 0 11 ≤ 99999)
    (k : ∀ N', UpdM N N' l kk (vDraw kk (clampS (lv 0 (LV N l) kk)) (clampS (lv 1 (LV N l) kk)) (clampS (lv 2 (LV N l) kk)) (lotS (N 10 0 11) l kk) (LV N l)) (wDraw kk (clampS (lv 0 (LV N l) kk)) (clampS (lv 1 (LV N l) kk)) (clampS (lv 2 (LV N l) kk)) (lotS (N 10 0 11) l kk) (N 10 0 13) (LV N l)) → K N') : C_X10_goes G (l : Int) (kk : Int) N K := by
  have wl := wI_id (x := (l : Int)) (by omega) (by omega)
  have wk := wI_id (x := (kk : Int)) (by omega) (by omega)
  have x57 : ∀ {M : NN}, EqSc N M → ∀ j, j < 160 → M 57 0 (160 * t + j) = tx j := fun h j hj => by rw [h 57 0 _ (by omega)]; exact h57 j hj
  have x58 : ∀ {M : NN}, EqSc N M → M 58 0 t = ts := fun h => by rw [h 58 0 t (by omega), h58]
  have x27 : ∀ {M : NN}, EqSc N M → M 10 0 27 = t := fun h => by rw [h 10 0 27 (by omega), ht]
  refine vc_X10_goes (V.2 N ht h57 h58 0 (by decide) l hl B kk (by omega) (by omega) _ (fun y1 N1 g1 E1 => s_mWithin g1 (fun x2 c2 => ?_)))
  refine V.2 N1 (x27 E1) (x57 E1) (x58 E1) 1 (by decide) l hl (by rw [EqSc_LV E1]; exact B) kk (by omega) (by omega) _ (fun y3 N3 g3 E3 => s_mWithin g3 (fun x4 c4 => ?_))
  have E3 := E1.tr E3
  refine V.2 N3 (x27 E3) (x57 E3) (x58 E3) 2 (by decide) l hl (by rw [EqSc_LV E3]; exact B) kk (by omega) (by omega) _ (fun y5 N5 g5 E5 => s_mWithin g5 (fun x6 c6 => ?_))
  have E5 := E3.tr E5
  rw [EqSc_LV E1] at c4
  rw [EqSc_LV E3] at c6
  have s5 : N5 10 0 11 = N 10 0 11 := E5 _ _ _ (by omega)
  have d5 : N5 10 0 13 = N 10 0 13 := E5 _ _ _ (by omega)
  have LV5 : LV N5 l = LV N l := EqSc_LV E5 l
  refine s_mLot (by rw [s5]; exact hs) hl (by omega) ?_
  rw [s5, wl]
  have B0 := B
  obtain ⟨b0, b1, b2, b3, b4, b5, b6, b7, -⟩ := B
  have a1 : N5 41 0 l = LV N l 1 := by rw [← LV5]; rfl
  have a2 : N5 42 0 l = LV N l 2 := by rw [← LV5]; rfl
  have a3 : N5 43 0 l = LV N l 3 := by rw [← LV5]; rfl
  have a0 : N5 40 0 l = LV N l 0 := by rw [← LV5]; rfl
  refine ⟨l, rfl, hl, l, rfl, hl, s_mInterest (by rw [a1]; exact b2) (by rw [a1]; exact b3) (by rw [a2]; exact b4) (by rw [a2]; exact b5) ⟨l, rfl, hl, ?_⟩⟩
  rw [a1, a2, a3, wk, wI_id (x := LV N l 3) (by omega) (by omega)]
  have go : ∀ (lst fr : Int), wI lst = bI (LV N l 3 ≤ kk) → wI fr = bI (freeB kk (LV N l) = true) → W_X10_goes G K 104 [(0, vR 10 0), (1, vI l), (2, vI kk), (3, vI x2), (4, vI x4), (5, vI x6), (6, vI (lotS (N 10 0 11) l kk)), (7, vI (iS (LV N l 1) (LV N l 2))), (8, vI lst)] [vI fr] N5 := by
    intro lst fr e1 e2
    have := m_104 (G := G) (N := N5) (K := K) (l3 := x2) (l4 := x4) (l5 := x6) hl hk (by rw [LV5]; exact B0) (by rw [LV5]; exact hmo) (by rw [d5]; exact hadv) (lst := lst) (fr := fr) (by rw [LV5]; exact e1) (by rw [LV5]; exact e2) c2 c4 c6 (clampS_rng _) (clampS_rng _) (clampS_rng _) (lotS_rng (N 10 0 11) l kk) (fun N' u => k N' (UpdM_sc E5 (by rw [LV5, d5] at u; exact u)))
    rw [LV5] at this
    exact this
  have at75 : ∀ (lst : Int), wI lst = bI (LV N l 3 ≤ kk) → W_X10_goes G K 75 [(0, vR 10 0), (1, vI l), (2, vI kk), (3, vI x2), (4, vI x4), (5, vI x6), (6, vI (lotS (N 10 0 11) l kk)), (7, vI (iS (LV N l 1) (LV N l 2)))] [vI lst] N5 := by
    intro lst e1
    refine vc_X10_goes_75 ?_
    rw [wl, wk, e1]
    refine ⟨l, rfl, hl, ?_⟩
    rw [a0, wI_id (x := LV N l 0) (by omega) (by omega), tm_n (by omega), wI_id (x := (kk : Int) % 6) (by omega) (by omega)]
    have no : ¬ freeB kk (LV N l) = true → W_X10_goes G K 103 [(0, vR 10 0), (1, vI l), (2, vI kk), (3, vI x2), (4, vI x4), (5, vI x6), (6, vI (lotS (N 10 0 11) l kk)), (7, vI (iS (LV N l 1) (LV N l 2))), (8, vI lst)] [] N5 := by
      intro h
      exact vc_X10_goes_103 (go lst 0 e1 (by rw [bI_f h]; decide))
    refine ⟨fun q => no (by rw [freeB_iff]; omega), fun q => ⟨fun q2 => no (by rw [freeB_iff]; omega), fun q2 => ⟨fun q3 => no ?_, fun q3 => go lst 1 e1 ?_⟩⟩⟩
    · by_cases c : LV N l 3 ≤ kk
      · rw [freeB_iff]; omega
      · rw [bI_f c] at q3
        exact absurd rfl q3
    · by_cases c : LV N l 3 ≤ kk
      · rw [bI_t c] at q3
        exact absurd (by decide) q3
      · rw [bI_t (freeB_iff.mpr (by omega))]
        decide
  refine ⟨fun q => at75 0 ?_, fun q => at75 1 ?_⟩
  · rw [bI_f (by omega)]
    decide
  · rw [bI_t (by omega)]
    decide
end MH
