/-! the reference's collecting of a month -/
theorem up3_o' {N : NN} {c i k c' i' k' : Nat} {v : Int} (h : ¬ (c' = c ∧ i' = i ∧ k' = k)) : up3 N c i k v c' i' k' = N c' i' k' := if_neg fun q => h ⟨q.1, q.2.2, q.2.1⟩
section MB
variable {G : GT} {kk l : Nat} {K : NN → Prop}
/-- a loan's month begins -/
theorem m_48 {M : NN} {c : Nat} (hl : l < 12) (hc : M 10 0 2 = (c : Int)) (hlc : l < c) (c12 : c ≤ 12) (hk : 1 ≤ kk ∧ kk ≤ 60) (B : LBv (LV M l)) (hmo : LV M l 5 = 0 ∨ LV M l 5 = 1 → (kk : Int) ≤ LV M l 3) (hm1 : kk = 1 → 1 ≤ LV M l 3)
    (k : ∀ M', (∀ f, f < 8 → LV M' l f = vBeg kk (LV M l) f) → (∀ c i k, ¬ ((c = 42 ∨ c = 46) ∧ i = 0 ∧ k = l) → M' c i k = M c i k) → W_X10_collect G K 48 [(0, vR 10 0), (1, vI kk), (2, vI ((l : Int) + 1))] [] M') :
    W_X10_collect G K 48 [(0, vR 10 0), (1, vI kk), (2, vI (l : Int))] [] M := by
  have B' := B
  obtain ⟨b0, b1, b2, b3, b4, b5, b6, b7, b8, b9, b10, b11, b12, b13, b14, b15⟩ := B
  have e0 : LV M l 0 = M 40 0 l := rfl
  have e1 : LV M l 1 = M 41 0 l := rfl
  have e2 : LV M l 2 = M 42 0 l := rfl
  have e3 : LV M l 3 = M 43 0 l := rfl
  have e5 : LV M l 5 = M 45 0 l := rfl
  have wl := fun _ : Unit => wI_id (x := (l : Int)) (by omega) (by omega)
  have wk := fun _ : Unit => wI_id (x := (kk : Int)) (by omega) (by omega)
  -- the pay is found
  have fin : ∀ (M2 M8 : NN) (r x : Int), (∀ c i k, ¬ (c = 42 ∧ i = 0 ∧ k = l) → M2 c i k = M c i k) → M2 42 0 l = r → M8 = up3 M2 46 0 l x → (∀ f, f < 8 → (if f = 2 then r else if f = 6 then x else LV M l f) = vBeg kk (LV M l) f) → W_X10_collect G K 48 [(0, vR 10 0), (1, vI kk), (2, vI ((l : Int) + 1))] [] M8 := by
    intro M2 M8 r x h2 hr h8 hv
    refine k M8 (fun f hf => ?_) (fun c i k a => ?_)
    · rw [← hv f hf, LV_ hf, LV_ hf, h8]
      by_cases f2 : f = 2
      · subst f2
        rw [if_pos rfl, ← hr]
        exact up3_o _ _ _ (by omega)
      · rw [if_neg f2]
        by_cases f6 : f = 6
        · subst f6
          rw [if_pos rfl]
          exact up3_s
        · rw [if_neg f6, up3_o _ _ _ (by omega), h2 _ _ _ (by omega)]
    · rw [h8, up3_o' (by omega), h2 _ _ _ (by omega)]
  have same : (∀ f, vBeg kk (LV M l) f = LV M l f) → W_X10_collect G K 48 [(0, vR 10 0), (1, vI kk), (2, vI ((l : Int) + 1))] [] M := fun h => k M (fun f _ => (h f).symm) (fun _ _ _ _ => rfl)
  -- behind the rate
  have at137 : ∀ (l3 : Int), (l3 = 0 ∨ l3 = 1) → (l3 = 1 → LV M l 5 = 0 ∨ LV M l 5 = 1) → ¬ (kk = 13 ∧ (LV M l 0 = 2 ∨ LV M l 0 = 4) ∧ (LV M l 5 = 0 ∨ LV M l 5 = 1)) → W_X10_collect G K 137 [(0, vR 10 0), (1, vI kk), (2, vI l), (3, vI l3)] [] M := by
    intro l3 h3 h31 no
    refine vc_X10_collect_137 ?_
    rw [wl (), wk ()]
    refine ⟨l, rfl, hl, s_mIsFixed (by rw [← e0]; exact ⟨b0, b1⟩) ?_⟩
    rw [← e0]
    have no1 : ¬ ((kk : Int) = 13 ∧ (LV M l 0 = 2 ∨ LV M l 0 = 4) ∧ (LV M l 5 = 0 ∨ LV M l 5 = 1)) := fun q => no ⟨by omega, q.2⟩
    by_cases hf : LV M l 0 = 1 ∨ LV M l 0 = 2 ∨ LV M l 0 = 4
    · rw [bI_t hf, wlitI (by decide) (by decide)]
      refine ⟨fun q => absurd q (by decide), fun _ => ⟨fun q1 => ⟨l, rfl, hl, l, rfl, hl, l, rfl, hl, ?_⟩, fun q1 => ?_⟩⟩
      · have k1 : kk = 1 := by omega
        have hmo1 := hm1 k1
        have en : M 43 0 l + 1 - (kk : Int) = ((M 43 0 l + 1 - (kk : Int)).toNat : Int) := by omega
        rw [en]
        refine s_mPayFor (by rw [← e1]; exact b2) (by rw [← e1]; exact b3) (by rw [← e2]; exact b4) (by rw [← e2]; exact b5) (by omega) ⟨l, rfl, hl, fun M8 h8 => fin M M8 _ _ (fun _ _ _ _ => rfl) rfl h8 (fun f _ => ?_)⟩
        rw [vBeg_1 ⟨q1, hf⟩]
        by_cases f2 : f = 2
        · subst f2; rfl
        · rw [if_neg f2]
          rfl
      · have nb : ∀ f, vBeg kk (LV M l) f = LV M l f := vBeg_0 no1 (fun q => q1 q.1)
        refine ⟨fun q2 => same nb, fun q2 => ⟨fun q3 => same nb, fun q3 => ⟨l, rfl, hl, s_mIsReset (by rw [← e0]; exact ⟨b0, b1⟩) ?_⟩⟩⟩
        rw [← e0]
        have nr : ¬ (LV M l 0 = 2 ∨ LV M l 0 = 4) := by
          intro hr
          refine no ⟨by omega, hr, h31 ?_⟩
          rcases h3 with h | h
          · rw [h] at q2
            exact absurd (by decide) q2
          · exact h
        rw [bI_f nr, wlitI (by decide) (by decide)]
        exact ⟨fun _ => same nb, fun q => absurd rfl q⟩
    · rw [bI_f hf, wlitI (by decide) (by decide)]
      exact ⟨fun _ => same (vBeg_0 no1 (fun q => hf q.2)), fun q => absurd rfl q⟩
  have at75 : (LV M l 5 = 0 ∨ LV M l 5 = 1) → W_X10_collect G K 75 [(0, vR 10 0), (1, vI kk), (2, vI l)] [] M := by
    intro hg
    refine vc_X10_collect_75 ?_
    rw [wl (), wk ()]
    refine ⟨fun q => at137 1 (.inr rfl) (fun _ => hg) (by omega), fun q => ⟨l, rfl, hl, s_mIsReset (by rw [← e0]; exact ⟨b0, b1⟩) ?_⟩⟩
    have k13 : kk = 13 := by omega
    rw [← e0]
    by_cases hr : LV M l 0 = 2 ∨ LV M l 0 = 4
    · rw [bI_t hr, wlitI (by decide) (by decide)]
      have hb : (kk : Int) = 13 ∧ (LV M l 0 = 2 ∨ LV M l 0 = 4) ∧ (LV M l 5 = 0 ∨ LV M l 5 = 1) := ⟨by omega, hr, hg⟩
      have go : ∀ (r : Int) (M2 : NN), r = min 200 (2 * LV M l 2) → M2 = up3 M 42 0 l r → W_X10_collect G K 137 [(0, vR 10 0), (1, vI kk), (2, vI l), (3, vI 1)] [] M2 := by
        intro r M2 er h2
        have x2 : ∀ c i k, ¬ (c = 42 ∧ i = 0 ∧ k = l) → M2 c i k = M c i k := fun c i k a => by rw [h2]; exact up3_o' (by omega)
        have r2 : M2 42 0 l = r := by rw [h2]; exact up3_s
        refine vc_X10_collect_137 ?_
        rw [wl (), wk ()]
        refine ⟨l, rfl, hl, ?_⟩
        rw [x2 40 0 l (by omega), ← e0]
        refine s_mIsFixed ⟨b0, b1⟩ ?_
        rw [bI_t (by omega), wlitI (by decide) (by decide)]
        refine ⟨fun q => absurd q (by decide), fun _ => ⟨fun q1 => by omega, fun _ => ⟨fun q => absurd q (by decide), fun _ => ⟨fun q => absurd q (by omega), fun _ => ⟨l, rfl, hl, ?_⟩⟩⟩⟩⟩
        rw [x2 40 0 l (by omega), ← e0]
        refine s_mIsReset ⟨b0, b1⟩ ?_
        rw [bI_t hr, wlitI (by decide) (by decide)]
        refine ⟨fun q => absurd q (by decide), fun _ => ⟨l, rfl, hl, l, rfl, hl, l, rfl, hl, ?_⟩⟩
        have hm := hmo hg
        rw [x2 41 0 l (by omega), x2 43 0 l (by omega), r2, ← e1, ← e3]
        have en : LV M l 3 + 1 - (kk : Int) = ((LV M l 3 + 1 - (kk : Int)).toNat : Int) := by omega
        rw [en]
        refine s_mPayFor b2 b3 (by omega) (by omega) (by omega) ⟨l, rfl, hl, fun M8 h8 => fin M2 M8 _ _ x2 r2 h8 (fun f _ => ?_)⟩
        rw [vBeg_13 hb, er]
      refine ⟨fun q => absurd q (by decide), fun _ => ⟨l, rfl, hl, ?_⟩⟩
      rw [wI_id (x := 2 * M 42 0 l) (by omega) (by omega)]
      exact ⟨fun q => ⟨l, rfl, hl, l, rfl, hl, fun M2 h2 => go _ M2 (by omega) h2⟩, fun q => ⟨l, rfl, hl, fun M2 h2 => go _ M2 (by omega) h2⟩⟩
    · rw [bI_f hr, wlitI (by decide) (by decide)]
      exact ⟨fun _ => at137 1 (.inr rfl) (fun _ => hg) (fun q => hr q.2.1), fun q => absurd rfl q⟩
  refine vc_X10_collect_48 ?_
  rw [hc, wl (), wI_id (x := (c : Int)) (by omega) (by omega)]
  refine ⟨fun q => by omega, fun _ => ⟨l, rfl, hl, ?_⟩⟩
  rw [← e5, wI_id (x := LV M l 5) (by omega) (by omega)]
  refine ⟨fun q => at75 (.inl q), fun q => ⟨l, rfl, hl, ?_⟩⟩
  rw [← e5, wI_id (x := LV M l 5) (by omega) (by omega)]
  exact ⟨fun q2 => at137 0 (.inl rfl) (fun q => absurd q (by decide)) (fun q3 => by omega), fun q2 => at75 (.inr (by omega))⟩
/-- a loan's month -/
theorem m_215 {M : NN} {c t : Nat} {tx : Nat → Int} {ts : Int} {lv : Nat → (Nat → Int) → Int → Int} (hl : l < 12) (hc : M 10 0 2 = (c : Int)) (hlc : l < c) (c12 : c ≤ 12) (hk : 1 ≤ kk ∧ kk ≤ 60) (B : LBv (LV M l)) (V : VOKm G t tx ts lv) (ht : M 10 0 27 = t) (h57 : ∀ j, j < 160 → M 57 0 (160 * t + j) = tx j) (h58 : M 58 0 t = ts)
    (hmo : LV M l 5 = 0 ∨ LV M l 5 = 1 → (kk : Int) ≤ LV M l 3) (hfa : LV M l 5 = 3 → (kk : Int) ≤ LV M l 7 + 3) (hadv : M 10 0 13 = 0 ∨ M 10 0 13 = 1) (hs : 0 ≤ M 10 0 11 ∧ M 10 0 11 ≤ 99999) (hb : 0 ≤ M 10 0 12 ∧ M 10 0 12 ≤ 100)
    (k : ∀ M', UpdM M M' l kk (vStep kk (clampS (lv 0 (LV M l) kk)) (clampS (lv 1 (LV M l) kk)) (clampS (lv 2 (LV M l) kk)) (lotS (M 10 0 11) l kk) (LV M l)) (wStep kk (clampS (lv 0 (LV M l) kk)) (clampS (lv 1 (LV M l) kk)) (clampS (lv 2 (LV M l) kk)) (lotS (M 10 0 11) l kk) (M 10 0 13) (M 10 0 12) (LV M l)) → W_X10_collect G K 215 [(0, vR 10 0), (1, vI kk), (2, vI ((l : Int) + 1))] [] M') :
    W_X10_collect G K 215 [(0, vR 10 0), (1, vI kk), (2, vI (l : Int))] [] M := by
  have B' := B
  obtain ⟨b0, b1, b2, b3, b4, b5, b6, b7, b8, b9, b10, b11, b12, b13, b14, b15⟩ := B
  have e1 : LV M l 1 = M 41 0 l := rfl
  have e5 : LV M l 5 = M 45 0 l := rfl
  have e7 : LV M l 7 = M 47 0 l := rfl
  have wl := fun _ : Unit => wI_id (x := (l : Int)) (by omega) (by omega)
  have wk := fun _ : Unit => wI_id (x := (kk : Int)) (by omega) (by omega)
  have w5 := fun _ : Unit => wI_id (x := LV M l 5) (by omega) (by omega)
  unfold vStep wStep at k
  have go : (LV M l 5 = 0 ∨ LV M l 5 = 1) → C_X10_goes G (l : Int) (kk : Int) M (fun N4 => W_X10_collect G K 215 [(0, vR 10 0), (1, vI kk), (2, vI ((l : Int) + 1))] [] N4) := by
    intro hg
    rw [if_pos hg, if_pos hg] at k
    exact s_goes hl hk B' V ht h57 h58 (hmo hg) hadv hs k
  refine vc_X10_collect_215 ?_
  rw [hc, wl (), wk (), wI_id (x := (c : Int)) (by omega) (by omega)]
  refine ⟨fun q => by omega, fun _ => ⟨l, rfl, hl, ?_⟩⟩
  rw [← e5, w5 ()]
  refine ⟨fun q => go (.inl q), fun q => ⟨l, rfl, hl, ?_⟩⟩
  rw [← e5, w5 ()]
  refine ⟨fun q2 => ⟨l, rfl, hl, ?_⟩, fun q2 => go (.inr (by omega))⟩
  rw [← e5, w5 ()]
  have ng : ¬ (LV M l 5 = 0 ∨ LV M l 5 = 1) := by omega
  rw [if_neg ng, if_neg ng] at k
  refine ⟨fun q3 => ⟨l, rfl, hl, ?_⟩, fun q3 => s_paysOff hl (by omega) B' (by omega) (fun N' u => k N' ?_)⟩
  · rw [if_neg q3, if_neg q3] at k
    rw [← e5, w5 ()]
    have still : ¬ (LV M l 5 = 3 ∧ LV M l 7 + 3 ≤ (kk : Int)) → W_X10_collect G K 215 [(0, vR 10 0), (1, vI kk), (2, vI ((l : Int) + 1))] [] M := by
      intro h
      refine k M ?_
      rw [if_neg h, if_neg h]
      exact UpdM_of (fun k hk => (LV_ hk).symm) (Int.add_zero _).symm (Int.add_zero _).symm (Int.add_zero _).symm (Int.add_zero _).symm (Int.add_zero _).symm (fun _ _ _ _ _ => rfl)
    refine ⟨fun q4 => still (fun q => q4 q.1), fun q4 => ⟨l, rfl, hl, ?_⟩⟩
    have s3 : LV M l 5 = 3 := by omega
    have hf := hfa s3
    rw [← e7, wI_id (x := LV M l 7 + 3) (by omega) (by omega)]
    refine ⟨fun q5 => still (fun q => q5 (by omega)), fun q5 => ⟨l, rfl, hl, kk, rfl, by omega, kk, rfl, by omega, ?_⟩⟩
    have pos : LV M l 5 = 3 ∧ LV M l 7 + 3 ≤ (kk : Int) := ⟨s3, by omega⟩
    rw [if_pos pos, if_pos pos] at k
    have m1 := mul_rng b2 b3 hb.1 hb.2
    have hd : 0 ≤ LV M l 1 * M 10 0 12 / 100 ∧ LV M l 1 * M 10 0 12 / 100 ≤ 4000000 := by omega
    have ed : (wL (wI (M 41 0 l) * wI (M 10 0 12))).tdiv 100 = LV M l 1 * M 10 0 12 / 100 := by
      rw [← e1, wI_id (x := LV M l 1) (by omega) (by omega), wI_id (x := M 10 0 12) (by omega) (by omega), wL_id (by omega) (by omega), td_n (by omega)]
    rw [ed, wI_id (x := LV M l 1 * M 10 0 12 / 100) (by omega) (by omega)]
    generalize hD : LV M l 1 * M 10 0 12 / 100 = D at *
    refine fun M12 h12 => ⟨kk, rfl, by omega, l, rfl, hl, kk, rfl, by omega, ?_⟩
    have x41 : M12 41 0 l = M 41 0 l := by rw [h12]; exact up3_o' (by omega)
    have x55 : M12 55 0 kk = M 55 0 kk := by rw [h12]; exact up3_o' (by omega)
    have le : D ≤ LV M l 1 := by
      rw [← hD]
      have : LV M l 1 * M 10 0 12 ≤ LV M l 1 * 100 := Int.mul_le_mul_of_nonneg_left hb.2 b2
      omega
    rw [x41, x55, ← e1, wI_id (x := LV M l 1 - D) (by omega) (by omega)]
    refine fun M16 h16 => ⟨l, rfl, hl, fun M18 h18 => ⟨l, rfl, hl, fun M20 h20 => k M20 ?_⟩⟩
    have o : ∀ c i k, ¬ ((c = 41 ∨ c = 45) ∧ i = 0 ∧ k = l) → ¬ ((c = 50 ∨ c = 55) ∧ i = 0 ∧ k = kk) → M20 c i k = M c i k := by
      intro c i k a1 a2
      rw [h20, up3_o' (by omega), h18, up3_o' (by omega), h16, up3_o' (by omega), h12, up3_o' (by omega)]
    refine UpdM_of (k8 ?_ ?_ ?_ ?_ ?_ ?_ ?_ ?_) ?_ ?_ ?_ ?_ ?_ (fun c i k a b => o c i k (by omega) (by omega))
    · exact o 40 0 l (by omega) (by omega)
    · have : M20 41 0 l = 0 := by rw [h20, up3_o' (by omega), h18]; exact up3_s
      exact this
    · exact o 42 0 l (by omega) (by omega)
    · exact o 43 0 l (by omega) (by omega)
    · exact o 44 0 l (by omega) (by omega)
    · have : M20 45 0 l = 4 := by rw [h20]; exact up3_s
      exact this
    · exact o 46 0 l (by omega) (by omega)
    · exact o 47 0 l (by omega) (by omega)
    · rw [o _ _ _ (by omega) (by omega)]
      exact (Int.add_zero _).symm
    · rw [o _ _ _ (by omega) (by omega)]
      exact (Int.add_zero _).symm
    · have : M20 50 0 kk = M 50 0 kk + D := by rw [h20, up3_o' (by omega), h18, up3_o' (by omega), h16, up3_o' (by omega), h12]; exact up3_s
      rw [this, ← hD]
      rfl
    · rw [o _ _ _ (by omega) (by omega)]
      exact (Int.add_zero _).symm
    · have : M20 55 0 kk = M 55 0 kk + (LV M l 1 - D) := by rw [h20, up3_o' (by omega), h18, up3_o' (by omega), h16]; exact up3_s
      rw [this, ← hD]
      rfl
  · have q6 : LV M l 5 = 6 := by omega
    rw [if_pos q6, if_pos q6]
    exact u
end MB
section MC
variable {G : GT} {kk c t : Nat} {K : NN → Prop} {N : NN} {tx : Nat → Int} {ts : Int} {lv : Nat → (Nat → Int) → Int → Int}
/-- what a month's collecting changes in the reference -/
def FrK (N N' : NN) (kk : Nat) : Prop := ∀ c i k, ¬ (40 ≤ c ∧ c < 48 ∧ i = 0 ∧ k < 12) → ¬ (48 ≤ c ∧ c ≤ 56 ∧ i = 0 ∧ k = kk) → ¬ (c = 10 ∧ i = 0 ∧ (k = 14 ∨ (30 ≤ k ∧ k ≤ 44))) → N' c i k = N c i k
theorem LV_eq {A B : NN} {l : Nat} (h : ∀ f, f < 8 → A (40 + f) 0 l = B (40 + f) 0 l) : LV A l = LV B l := funext fun f => by
  unfold LV
  by_cases hf : f < 8
  · rw [if_pos hf, if_pos hf, h f hf]
  · rw [if_neg hf, if_neg hf]
theorem LV_is {A : NN} {l : Nat} {v : Nat → Int} (h : ∀ f, f < 8 → A (40 + f) 0 l = v f) (h2 : ∀ f, ¬ f < 8 → v f = 0) : LV A l = v := funext fun f => by
  unfold LV
  by_cases hf : f < 8
  · rw [if_pos hf, h f hf]
  · rw [if_neg hf, h2 f hf]
theorem vBeg_8 {m : Int} {v : Nat → Int} {f : Nat} (hf : ¬ f < 8) : vBeg m v f = v f := by
  unfold vBeg
  rw [if_neg (by omega), if_neg (by omega)]
theorem s_mCollect (hk : 1 ≤ kk ∧ kk ≤ 60) (hc : N 10 0 2 = (c : Int)) (c12 : c ≤ 12) (L : ∀ n, n < c → LBv (LV N n)) (V : VOKm G t tx ts lv) (ht : N 10 0 27 = t) (h57 : ∀ j, j < 160 → N 57 0 (160 * t + j) = tx j) (h58 : N 58 0 t = ts)
    (hmo : ∀ n, n < c → (LV N n 5 = 0 ∨ LV N n 5 = 1 → (kk : Int) ≤ LV N n 3) ∧ (kk = 1 → 1 ≤ LV N n 3) ∧ (LV N n 5 = 3 → (kk : Int) ≤ LV N n 7 + 3)) (hadv : N 10 0 13 = 0 ∨ N 10 0 13 = 1) (hs : 0 ≤ N 10 0 11 ∧ N 10 0 11 ≤ 99999) (hb : 0 ≤ N 10 0 12 ∧ N 10 0 12 ≤ 100)
    (B2 : ∀ n, n < c → LBv (vFin lv kk (N 10 0 11) n (LV N n)))
    (hi : 0 ≤ sumN (fun n => wFin lv kk (N 10 0 11) (N 10 0 13) (N 10 0 12) n (LV N n) 0) c ∧ sumN (fun n => wFin lv kk (N 10 0 11) (N 10 0 13) (N 10 0 12) n (LV N n) 0) c ≤ 1000000000)
    (ha : 0 ≤ N 10 0 14 + sumN (fun n => wFin lv kk (N 10 0 11) (N 10 0 13) (N 10 0 12) n (LV N n) 3) c ∧ N 10 0 14 + sumN (fun n => wFin lv kk (N 10 0 11) (N 10 0 13) (N 10 0 12) n (LV N n) 3) c ≤ 1000000000)
    (k : ∀ N', (∀ n, n < c → ∀ f, f < 8 → LV N' n f = vFin lv kk (N 10 0 11) n (LV N n) f) → (∀ n, c ≤ n → ∀ f, f < 8 → N' (40 + f) 0 n = N (40 + f) 0 n) →
      (∀ f, f = 0 ∨ f = 1 ∨ f = 2 ∨ f = 3 ∨ f = 8 → MM N' kk f = sumN (fun n => wFin lv kk (N 10 0 11) (N 10 0 13) (N 10 0 12) n (LV N n) f) c) →
      MM N' kk 4 = min (N 10 0 14 + MM N' kk 3) (MM N' kk 0) → N' 10 0 14 = N 10 0 14 + MM N' kk 3 - MM N' kk 4 → MM N' kk 6 = sumN (fun n => balS (LV N n)) c → MM N' kk 7 = sumN (fun n => balS (LV N' n)) c → MM N' kk 9 = sumN (fun n => latS (LV N' n)) c → FrK N N' kk → K N') : C_X10_collect G kk N K := by
  have wk := fun _ : Unit => wI_id (x := (kk : Int)) (by omega) (by omega)
  have k61 : kk < 61 := by omega
  refine vc_X10_collect ?_
  rw [wk ()]
  refine ⟨kk, rfl, k61, fun M2 h2 => ⟨kk, rfl, k61, fun M4 h4 => ⟨kk, rfl, k61, fun M6 h6 => ⟨kk, rfl, k61, fun M8 h8 => ⟨kk, rfl, k61, fun M10 h10 => ?_⟩⟩⟩⟩⟩
  have o10 : ∀ c i k, ¬ ((48 ≤ c ∧ c ≤ 51 ∨ c = 55) ∧ i = 0 ∧ k = kk) → M10 c i k = N c i k := fun c i k a => by
    rw [h10, up3_o' (by omega), h8, up3_o' (by omega), h6, up3_o' (by omega), h4, up3_o' (by omega), h2, up3_o' (by omega)]
  have z10 : M10 48 0 kk = 0 ∧ M10 49 0 kk = 0 ∧ M10 50 0 kk = 0 ∧ M10 51 0 kk = 0 ∧ M10 55 0 kk = 0 := by
    refine ⟨?_, ?_, ?_, ?_, ?_⟩
    · rw [h10, up3_o' (by omega), h8, up3_o' (by omega), h6, up3_o' (by omega), h4, up3_o' (by omega), h2]; exact up3_s
    · rw [h10, up3_o' (by omega), h8, up3_o' (by omega), h6, up3_o' (by omega), h4]; exact up3_s
    · rw [h10, up3_o' (by omega), h8, up3_o' (by omega), h6]; exact up3_s
    · rw [h10, up3_o' (by omega), h8]; exact up3_s
    · rw [h10]; exact up3_s
  have L10 : ∀ n, LV M10 n = LV N n := fun n => LV_eq fun f hf => o10 _ _ _ (by omega)
  have bal0 := sumN_rng (g := fun n => balS (LV N n)) (a := 4000000) c (fun q hq => by
    have := L q hq
    unfold LBv at this
    show 0 ≤ balS (LV N q) ∧ balS (LV N q) ≤ 4000000
    unfold balS
    split <;> omega)
  refine s_mPool (c := c) (by rw [o10 _ _ _ (by omega), hc]) c12 (fun q hq => ?_) ?_
  · have := L q hq
    unfold LBv at this
    have e : M10 45 0 q = LV N q 5 := by rw [o10 _ _ _ (by omega)]; rfl
    rw [e]
    omega
  simp only [L10]
  rw [wI_id (x := sumN (fun n => balS (LV N n)) c) (by omega) (by omega)]
  refine ⟨kk, rfl, k61, fun M13 h13 => ?_⟩
  have o13 : ∀ c i k, ¬ ((48 ≤ c ∧ c ≤ 51 ∨ c = 53 ∨ c = 55) ∧ i = 0 ∧ k = kk) → M13 c i k = N c i k := fun c i k a => by rw [h13, up3_o' (by omega), o10 _ _ _ (by omega)]
  have z13 : M13 48 0 kk = 0 ∧ M13 49 0 kk = 0 ∧ M13 50 0 kk = 0 ∧ M13 51 0 kk = 0 ∧ M13 55 0 kk = 0 := by
    rw [h13, up3_o' (by omega), up3_o' (by omega), up3_o' (by omega), up3_o' (by omega), up3_o' (by omega)]
    exact z10
  have p13 : M13 53 0 kk = sumN (fun n => balS (LV N n)) c := by rw [h13]; exact up3_s
  -- behind the begins
  have main : ∀ M : NN, (∀ q, q < c → ∀ f, f < 8 → LV M q f = vBeg kk (LV N q) f) → (∀ c i k, ¬ ((c = 42 ∨ c = 46) ∧ i = 0 ∧ k < 12) → M c i k = M13 c i k) → (∀ n, c ≤ n → ∀ f, f < 8 → M (40 + f) 0 n = M13 (40 + f) 0 n) → W_X10_collect G K 215 [(0, vR 10 0), (1, vI kk), (2, vI 0)] [] M := by
    intro B hB oB oB2
    have LB0 : ∀ q, q < c → LV B q = vBeg kk (LV N q) := fun q hq => LV_is (fun f hf => by rw [← hB q hq f hf, LV_ hf]) (fun f hf => by rw [vBeg_8 hf]; exact if_neg hf)
    have oN : ∀ c i k, ¬ ((c = 42 ∨ c = 46) ∧ i = 0 ∧ k < 12) → ¬ ((48 ≤ c ∧ c ≤ 51 ∨ c = 53 ∨ c = 55) ∧ i = 0 ∧ k = kk) → B c i k = N c i k := fun c i k a b => by rw [oB _ _ _ a, o13 _ _ _ b]
    have key : ∀ (d n : Nat) (M : NN), n + d = c → (∀ q, q < n → ∀ f, f < 8 → LV M q f = vFin lv kk (N 10 0 11) q (LV N q) f) → (∀ q, n ≤ q → ∀ f, f < 8 → M (40 + f) 0 q = B (40 + f) 0 q) →
        (M 48 0 kk = sumN (fun n => wFin lv kk (N 10 0 11) (N 10 0 13) (N 10 0 12) n (LV N n) 0) n ∧ M 49 0 kk = sumN (fun n => wFin lv kk (N 10 0 11) (N 10 0 13) (N 10 0 12) n (LV N n) 1) n ∧ M 50 0 kk = sumN (fun n => wFin lv kk (N 10 0 11) (N 10 0 13) (N 10 0 12) n (LV N n) 2) n ∧ M 51 0 kk = sumN (fun n => wFin lv kk (N 10 0 11) (N 10 0 13) (N 10 0 12) n (LV N n) 3) n ∧ M 55 0 kk = sumN (fun n => wFin lv kk (N 10 0 11) (N 10 0 13) (N 10 0 12) n (LV N n) 8) n) →
        (∀ c i k, ¬ (40 ≤ c ∧ c < 48 ∧ i = 0 ∧ k < 12) → ¬ ((48 ≤ c ∧ c ≤ 51 ∨ c = 55) ∧ i = 0 ∧ k = kk) → ¬ (c = 10 ∧ i = 0 ∧ 30 ≤ k ∧ k ≤ 44) → M c i k = B c i k) → W_X10_collect G K 215 [(0, vR 10 0), (1, vI kk), (2, vI (n : Int))] [] M := by
      intro d
      induction d with
      | zero =>
        intro n M hn I1 I2 I3 I4
        have en : n = c := by omega
        subst en
        refine vc_X10_collect_215 ?_
        have hcM : M 10 0 2 = (n : Int) := by rw [I4 _ _ _ (by omega) (by omega) (by omega), oN _ _ _ (by omega) (by omega), hc]
        rw [hcM, wk (), wI_id (x := (n : Int)) (by omega) (by omega)]
        refine ⟨fun _ => ⟨kk, rfl, k61, fun M2 e2 => ?_⟩, fun q => absurd (Int.le_refl _) q⟩
        have q2 : ∀ c i k, ¬ (c = 56 ∧ i = 0 ∧ k = kk) → M2 c i k = M c i k := fun c i k a => by rw [e2]; exact up3_o' (by omega)
        have LM2 : ∀ q, q < n → LV M2 q = LV M q := fun q _ => LV_eq fun f hf => q2 _ _ _ (by omega)
        have LM : ∀ q, q < n → LBv (LV M q) := fun q hq => LBv_of (fun f hf => by rw [I1 q hq f hf]) (B2 q hq)
        have z56 : M2 56 0 kk = 0 := by rw [e2]; exact up3_s
        have x14 : M2 10 0 14 = N 10 0 14 := by rw [q2 _ _ _ (by omega), I4 _ _ _ (by omega) (by omega) (by omega), oN _ _ _ (by omega) (by omega)]
        have x51 : M2 51 0 kk = sumN (fun n => wFin lv kk (N 10 0 11) (N 10 0 13) (N 10 0 12) n (LV N n) 3) n := by rw [q2 _ _ _ (by omega)]; exact I3.2.2.2.1
        have x48 : M2 48 0 kk = sumN (fun n => wFin lv kk (N 10 0 11) (N 10 0 13) (N 10 0 12) n (LV N n) 0) n := by rw [q2 _ _ _ (by omega)]; exact I3.1
        refine m_373 (B := M2) (c := n) k61 (by rw [q2 _ _ _ (by omega), hcM]) c12 (fun q hq => by rw [LM2 q hq]; exact LM q hq) (by rw [x14, x51]; exact ha) (by rw [x48]; exact hi) (fun N' g56 g52 g14 g54 gF => ?_) n 0 M2 (by omega) (by show _ = M2 56 0 kk + 0; omega) (fun _ _ _ _ => rfl)
        have LN' : ∀ q, LV N' q = LV M2 q := fun q => LV_eq fun f hf => gF _ _ _ (by omega) (by omega)
        have F : ∀ c i k, ¬ ((c = 52 ∨ c = 54 ∨ c = 56) ∧ i = 0 ∧ k = kk) → ¬ (c = 10 ∧ i = 0 ∧ k = 14) → N' c i k = M c i k := fun c i k a b => by rw [gF _ _ _ a b, q2 _ _ _ (by omega)]
        have y48 : N' 48 0 kk = M2 48 0 kk := gF _ _ _ (by omega) (by omega)
        have y51 : N' 51 0 kk = M2 51 0 kk := gF _ _ _ (by omega) (by omega)
        refine k N' (fun q hq f hf => ?_) (fun q hq f hf => ?_) (fun f hf => ?_) ?_ ?_ ?_ ?_ ?_ (fun c' i k a b d => ?_)
        · rw [LN', LM2 q hq, I1 q hq f hf]
        · rw [F _ _ _ (by omega) (by omega), I2 q hq f hf, oB2 q hq f hf, o13 _ _ _ (by omega)]
        · rcases hf with rfl | rfl | rfl | rfl | rfl
          · exact (F 48 0 kk (by omega) (by omega)).trans I3.1
          · exact (F 49 0 kk (by omega) (by omega)).trans I3.2.1
          · exact (F 50 0 kk (by omega) (by omega)).trans I3.2.2.1
          · exact (F 51 0 kk (by omega) (by omega)).trans I3.2.2.2.1
          · exact (F 55 0 kk (by omega) (by omega)).trans I3.2.2.2.2
        · show N' 52 0 kk = min (N 10 0 14 + N' 51 0 kk) (N' 48 0 kk)
          rw [g52, x14, y51, y48]
        · show N' 10 0 14 = N 10 0 14 + N' 51 0 kk - N' 52 0 kk
          rw [g14, x14, y51]
        · show N' 53 0 kk = _
          rw [F _ _ _ (by omega) (by omega), I4 _ _ _ (by omega) (by omega) (by omega), oB _ _ _ (by omega), p13]
        · show N' 54 0 kk = _
          rw [g54]
          exact sumN_congr n fun q _ => by rw [LN']
        · show N' 56 0 kk = _
          rw [g56, z56, Int.zero_add]
          exact sumN_congr n fun q _ => by rw [LN']
        · rw [F _ _ _ (by omega) (by omega), I4 _ _ _ a (by omega) (by omega), oN _ _ _ (by omega) (by omega)]
      | succ d ih =>
        intro n M hn I1 I2 I3 I4
        have hn12 : n < 12 := by omega
        have LMn : LV M n = vBeg kk (LV N n) := by
          rw [← LB0 n (by omega)]
          exact LV_eq fun f hf => I2 n (Nat.le_refl _) f hf
        have oM : ∀ c i k, ¬ (40 ≤ c ∧ c < 48 ∧ i = 0 ∧ k < 12) → ¬ (48 ≤ c ∧ c ≤ 56 ∧ i = 0 ∧ k = kk) → ¬ (c = 10 ∧ i = 0 ∧ 30 ≤ k ∧ k ≤ 44) → M c i k = N c i k := fun c i k a b d => by rw [I4 _ _ _ a (by omega) d, oN _ _ _ (by omega) (by omega)]
        have hcM : M 10 0 2 = (c : Int) := by rw [oM _ _ _ (by omega) (by omega) (by omega), hc]
        have s11 : M 10 0 11 = N 10 0 11 := oM _ _ _ (by omega) (by omega) (by omega)
        have s12 : M 10 0 12 = N 10 0 12 := oM _ _ _ (by omega) (by omega) (by omega)
        have s13 : M 10 0 13 = N 10 0 13 := oM _ _ _ (by omega) (by omega) (by omega)
        obtain ⟨a1, a2, a3⟩ := hmo n (by omega)
        have nb5 : vBeg kk (LV N n) 5 = LV N n 5 := rfl
        have nb3 : vBeg kk (LV N n) 3 = LV N n 3 := rfl
        have nb7 : vBeg kk (LV N n) 7 = LV N n 7 := rfl
        refine m_215 hn12 hcM (by omega) c12 hk (by rw [LMn]; exact LBv_beg (L n (by omega))) V (by rw [oM _ _ _ (by omega) (by omega) (by omega), ht]) (fun j hj => by rw [oM _ _ _ (by omega) (by omega) (by omega)]; exact h57 j hj) (by rw [oM _ _ _ (by omega) (by omega) (by omega), h58]) (by rw [LMn, nb5, nb3]; exact a1) (by rw [LMn, nb5, nb7]; exact a3) (by rw [s13]; exact hadv) (by rw [s11]; exact hs) (by rw [s12]; exact hb) (fun M' u => ?_)
        rw [LMn, s11, s12, s13] at u
        obtain ⟨u1, ⟨v0, v1, v2, v3, v8⟩, u3⟩ := u
        refine ih (n + 1) M' (by omega) (fun q hq f hf => ?_) (fun q hq f hf => ?_) ⟨?_, ?_, ?_, ?_, ?_⟩ (fun c' i k a b e => ?_)
        · by_cases e : q = n
          · subst e
            rw [LV_ hf, u1 f hf]
            rfl
          · rw [LV_ hf, u3 _ _ _ (by omega) (by omega) (by omega), ← LV_ (N := M) (l := q) hf, I1 q (by omega) f hf]
        · rw [u3 _ _ _ (by omega) (by omega) (by omega), I2 q (by omega) f hf]
        · rw [v0, I3.1]; rfl
        · rw [v1, I3.2.1]; rfl
        · rw [v2, I3.2.2.1]; rfl
        · rw [v3, I3.2.2.2.1]; rfl
        · rw [v8, I3.2.2.2.2]; rfl
        · rw [u3 _ _ _ (by omega) (by omega) (by omega), I4 _ _ _ a b e]
    refine key c 0 B (by omega) (fun q hq => by omega) (fun q _ f _ => rfl) ⟨?_, ?_, ?_, ?_, ?_⟩ (fun _ _ _ _ _ _ => rfl)
    · rw [oB _ _ _ (by omega)]; exact z13.1
    · rw [oB _ _ _ (by omega)]; exact z13.2.1
    · rw [oB _ _ _ (by omega)]; exact z13.2.2.1
    · rw [oB _ _ _ (by omega)]; exact z13.2.2.2.1
    · rw [oB _ _ _ (by omega)]; exact z13.2.2.2.2
  have L13 : ∀ n, LV M13 n = LV N n := fun n => LV_eq fun f hf => o13 _ _ _ (by omega)
  have beg : ∀ (d n : Nat) (M : NN), n + d = c → (∀ q, q < n → ∀ f, f < 8 → LV M q f = vBeg kk (LV N q) f) → (∀ q, n ≤ q → ∀ f, f < 8 → M (40 + f) 0 q = M13 (40 + f) 0 q) → (∀ c i k, ¬ ((c = 42 ∨ c = 46) ∧ i = 0 ∧ k < 12) → M c i k = M13 c i k) → W_X10_collect G K 48 [(0, vR 10 0), (1, vI kk), (2, vI (n : Int))] [] M := by
    intro d
    induction d with
    | zero =>
      intro n M hn I1 I2 I3
      have en : n = c := by omega
      subst en
      refine vc_X10_collect_48 ?_
      rw [I3 10 0 2 (by omega), o13 _ _ _ (by omega), hc, wI_id (x := (n : Int)) (by omega) (by omega)]
      exact ⟨fun _ => main M I1 I3 I2, fun q => absurd (Int.le_refl _) q⟩
    | succ d ih =>
      intro n M hn I1 I2 I3
      have LMn : LV M n = LV N n := by
        rw [← L13 n]
        exact LV_eq fun f hf => I2 n (Nat.le_refl _) f hf
      obtain ⟨a1, a2, a3⟩ := hmo n (by omega)
      refine m_48 (c := c) (by omega) (by rw [I3 10 0 2 (by omega), o13 _ _ _ (by omega), hc]) (by omega) c12 hk (by rw [LMn]; exact L n (by omega)) (by rw [LMn]; exact a1) (by rw [LMn]; exact a2) (fun M' g1 g2 => ih (n + 1) M' (by omega) (fun q hq f hf => ?_) (fun q hq f hf => ?_) (fun c' i k a => ?_))
      · by_cases e : q = n
        · subst e
          rw [g1 f hf, LMn]
        · rw [LV_ hf, g2 _ _ _ (by omega), ← LV_ (N := M) (l := q) hf, I1 q (by omega) f hf]
      · rw [g2 _ _ _ (by omega), I2 q (by omega) f hf]
      · rw [g2 _ _ _ (by omega), I3 _ _ _ a]
  exact beg c 0 M13 (by omega) (fun q hq => by omega) (fun _ _ _ _ => rfl) (fun _ _ _ _ => rfl)
end MC
