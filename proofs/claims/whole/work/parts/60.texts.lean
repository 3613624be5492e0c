/-! what a text says of a loan; a text read; an order read -/
section PLE
variable {b : Nat → Int} {sz : Nat}
theorem pC_le {sg : Nat → Int} {nx : Nat → Nat} {f : Nat → RES} (hx : ∀ q, q ≤ sz → nx q ≤ sz) (hf : ∀ q, q ≤ sz → (f q).2.1 ≤ sz) : ∀ (k p : Nat) (acc : List Int), p ≤ sz → (pC sg nx f k p acc).2.1 ≤ sz
  | 0, p, acc, h => h
  | k + 1, p, acc, h => by
    unfold pC
    split
    · exact h
    · split
      · exact pC_le hx hf k _ _ (hf _ (hx _ h))
      · exact hf _ (hx _ h)
theorem pE_le : ∀ (n lvl p o : Nat), p ≤ sz → (pE b sz n lvl p o).2.1 ≤ sz
  | 0, lvl, p, o, h => tS_le h
  | n + 1, lvl, p, o, h => by
    have ih : ∀ lvl p o, p ≤ sz → (pE b sz n lvl p o).2.1 ≤ sz := fun lvl p o h => pE_le n lvl p o h
    unfold pE
    repeat' split
    all_goals first
      | exact h
      | exact tS_le h
      | exact tE_le h
      | exact ih _ _ _ h
      | exact ih _ _ _ (tE_le h)
      | exact ih _ _ _ (tE_le (ih _ _ _ h))
      | exact tE_le (ih _ _ _ (tE_le h))
      | exact tS_le (ih _ _ _ (tE_le h))
      | exact pC_le (fun q hq => tE_le hq) (fun q hq => ih _ _ _ hq) 160 _ _ (ih _ _ _ h)
theorem pL_le {w : Int} {p : Nat} (h : p ≤ sz) : (pL b sz w p).2.1 ≤ sz := by
  have ih : ∀ lvl p o, p ≤ sz → (pE b sz 40 lvl p o).2.1 ≤ sz := fun lvl p o h => pE_le 40 lvl p o h
  unfold pL
  repeat' split
  all_goals first
    | exact tS_le h
    | exact ih _ _ _ (tE_le h)
    | exact tE_le (ih _ _ _ (tE_le h))
    | exact tS_le (ih _ _ _ (tE_le h))
theorem lawR_le : (lawR b sz).2 ≤ sz := by
  have h0 : (lw0 b sz).2.1 ≤ sz := pL_le (Nat.zero_le _)
  have h1 : (lw1 b sz).2.1 ≤ sz := pL_le h0
  have h2 : (lw2 b sz).2.1 ≤ sz := pL_le h1
  unfold lawR
  repeat' split
  all_goals first
    | exact Nat.zero_le _
    | exact h0
    | exact h1
    | exact h2
    | exact tS_le h2
theorem pTest_le {p : Nat} (h : p ≤ sz) : (pTest b sz p).2.1 ≤ sz := by
  have h0 := nP_le (b := b) h
  unfold pTest
  repeat' split
  all_goals first
    | exact tE_le (tE_le (tE_le h0))
    | exact tS_le (tE_le (tE_le h0))
    | exact tS_le (tE_le h0)
    | exact tS_le h0
theorem pStep_le {p : Nat} (h : p ≤ sz) : (pStep b sz p).2.1 ≤ sz := by
  have hp : ∀ s q, q ≤ sz → pPp b sz s q ≤ sz := fun s q hq => by unfold pPp; split <;> first | exact tE_le hq | exact hq
  have hn : ∀ s q, q ≤ sz → pNn b sz s q ≤ sz := fun s q hq => by unfold pNn; split <;> first | exact tE_le hq | exact hq
  unfold pStep
  split
  · have h1 := tE_le (b := b) h
    unfold pRest
    repeat' split
    all_goals first
      | exact tS_le h1
      | exact tS_le (hp _ _ h1)
      | exact pTest_le (tE_le (hn _ _ (hp _ _ h1)))
      | exact hn _ _ (hp _ _ h1)
  · exact tS_le h
theorem pOrd_le : ∀ (k i p : Nat) (R : Nat → Nat → Int), p ≤ sz → (pOrd b sz k i p R).2.1 ≤ sz
  | 0, i, p, R, h => tS_le h
  | k + 1, i, p, R, h => by
    unfold pOrd
    repeat' split
    all_goals first
      | exact Nat.zero_le _
      | exact tS_le (tE_le h)
      | exact tS_le h
      | exact pOrd_le k _ _ _ (tE_le (pStep_le h))
      | exact tS_le (pStep_le h)
      | exact pStep_le h
theorem pOrd_ok : ∀ (k i p : Nat) (R : Nat → Nat → Int), p ≤ sz → i ≤ 9 → (∀ a, a < i → okR (R a)) → (pOrd b sz k i p R).1 = true → 1 ≤ (pOrd b sz k i p R).2.2.1 ∧ (pOrd b sz k i p R).2.2.1 ≤ 10 ∧ ∀ a, a < (pOrd b sz k i p R).2.2.1 → okR ((pOrd b sz k i p R).2.2.2 a)
  | 0, i, p, R, h, hi, hR, e => Bool.noConfusion (show false = true from e)
  | k + 1, i, p, R, h, hi, hR, e => by
    unfold pOrd at e ⊢
    have up : ∀ r, okR r → ∀ a, a < i + 1 → okR (updR R i r a) := fun r hr a ha => by
      unfold updR
      by_cases y : a = i
      · rw [if_pos y]; exact hr
      · rw [if_neg y]; exact hR a (by omega)
    by_cases w : isW b sz p 358472
    · rw [if_pos w] at e ⊢
      by_cases z : tT b sz (tE b sz p) = 0
      · rw [if_pos z]
        exact ⟨by dsimp only; omega, by dsimp only; omega, up _ restRow_ok⟩
      · rw [if_neg z] at e
        exact Bool.noConfusion (show false = true from e)
    · rw [if_neg w] at e ⊢
      by_cases n : 9 ≤ i
      · rw [if_pos n] at e
        exact Bool.noConfusion (show false = true from e)
      · rw [if_neg n] at e ⊢
        by_cases s : (pStep b sz p).1 = true
        · rw [if_pos s] at e ⊢
          by_cases s2 : isS b sz (pStep b sz p).2.1 59
          · rw [if_pos s2] at e ⊢
            obtain ⟨a1, a2⟩ := pStep_ok h s
            exact pOrd_ok k (i + 1) _ _ (tE_le a1) (by omega) (up _ a2) e
          · rw [if_neg s2] at e
            exact Bool.noConfusion (show false = true from e)
        · rw [if_neg s] at e
          exact Bool.noConfusion (show false = true from e)
end PLE
section TXO
variable {G : GT} {N : NN}
theorem LawC_good {b : Nat → Int} {sz : Nat} (h : (lawR b sz).1 = true) : (Vl (lw0 b sz).2.2 ∧ Rm (Dp 0 0) (lw0 b sz).2.2) ∧ (Vl (lw1 b sz).2.2 ∧ Rm (Dp 0 0) (lw1 b sz).2.2) ∧ (Vl (lw2 b sz).2.2 ∧ Rm (Dp 0 0) (lw2 b sz).2.2) := by
  unfold lawR at h
  by_cases h0 : (lw0 b sz).1 = true
  · rw [if_pos h0] at h
    by_cases h1 : (lw1 b sz).1 = true
    · rw [if_pos h1] at h
      by_cases h2 : (lw2 b sz).1 = true
      · obtain ⟨a1, _, _, a2⟩ := Good_L (b := b) (sz := sz) (w := kW 0) (p := 0) (by omega) h0
        obtain ⟨b1, _, _, b2⟩ := Good_L (b := b) (sz := sz) (w := kW 1) a1 h1
        obtain ⟨c1, _, _, c2⟩ := Good_L (b := b) (sz := sz) (w := kW 2) b1 h2
        exact ⟨a2, b2, c2⟩
      · rw [if_neg h2] at h; exact Bool.noConfusion (show false = true from h)
    · rw [if_neg h1] at h; exact Bool.noConfusion (show false = true from h)
  · rw [if_neg h0] at h; exact Bool.noConfusion (show false = true from h)
/-- a text that stands says the same on both sides -/
theorem V_of {t : Nat} (ht : t < 6) (h : TXT t N) : ∃ lv, lvC lv ∧ VOK G t (N 29 t) (N 30 t) lv ∧ VOKm G t (fun j => N 57 0 (160 * t + j)) (N 58 0 t) lv := by
  obtain ⟨b, sz, h1, h2, h3, h4, h5⟩ := h
  obtain ⟨g0, g1, g2⟩ := LawC_good h4
  exact ⟨_, lawV_C, VOK_of ht h5 g0 g1 g2, VOKm_of ht h3 h1 h2 h4⟩
theorem op_says {a1 a2 : Int} (I : Inv N) (h1 : IR a1) (h2 : IR a2) : C_X9_says G a1 a2 N (fun r N1 => C_X10_says G a1 a2 N1 (fun r' N2 => wL r = wL r' ∧ Inv N2)) := by
  have I' := I
  obtain ⟨k, c, cp, oo, to, t, sz, k60, m9, m10, L, F, M, O, T, P, H⟩ := I
  obtain ⟨⟨b1, c12, b3, b4, b5, b6, b7⟩, ⟨r1, r2, r3, r4⟩, ⟨l1, l2⟩, l4⟩ := L
  obtain ⟨t1, t2, t3, t4, t5, t6, t7, t8, t9⟩ := T
  have wk := fun _ : Unit => wI_id (x := (k : Int)) (by omega) (by omega)
  refine vc_X9_says ?_
  rw [b1]
  refine t_in h1 IR0 ⟨by omega, by omega⟩ (fun g1 => tt1 (t_in h2 IR0 ⟨by decide, by decide⟩ (fun g2 => tt1 ?_) (fun g => tt0 (vc_X10_says (t_isLoan h1 r1 c12 (fun _ => tt1 (t_min h2 IR0 ⟨by decide, by decide⟩ (fun n => absurd n g) (fun _ => tt0 ⟨rfl, I'⟩))) (fun n => absurd g1 n)))))) (fun g => tt0 (vc_X10_says (t_isLoan h1 r1 c12 (fun n => absurd n g) (fun _ => tt0 ⟨rfl, I'⟩))))
  rw [m9, wk ()]
  refine ⟨fun q => ?_, fun q => vc_X10_says (t_isLoan h1 r1 c12 (fun _ => tt1 (t_min h2 IR0 ⟨by decide, by decide⟩ (fun _ => tt1 ?_) (fun n => absurd g2 n))) (fun n => absurd g1 n))⟩
  · rw [t6]
    obtain ⟨j, ej⟩ : ∃ j : Nat, a1 = (j : Int) := ⟨a1.toNat, by omega⟩
    obtain ⟨p, ep⟩ : ∃ p : Nat, a2 = (p : Int) := ⟨a2.toNat, by omega⟩
    subst ej ep
    have hj : j < c := by omega
    obtain ⟨lv, lC, V, Vm⟩ := V_of (G := G) (N := N) (t := t) (by omega) (t9 t t5)
    have bj := b3 j hj
    have e8 : ∀ f, f < 8 → LV N j f = N 2 j f := fun f hf => by
      have := l1 j hj f hf
      rw [Nat.mul_zero, Nat.zero_add] at this
      rw [LV_ hf, this]
    rw [Nat.mul_zero, Nat.zero_add] at bj
    refine ⟨by omega, by omega, j, by rw [IR_id h1], by omega, ?_⟩
    rw [Int.toNat_natCast]
    refine V.2 N rfl rfl p (by omega) j (by omega) (LK_LBv (by omega) bj) ((k : Int) + 1) (by omega) (by omega) _ (fun x N1 hx fx => ?_)
    refine vc_X10_says (t_isLoan h1 (by rw [fx _ _ _ (by decide)]; exact r1) c12 (fun _ => tt1 (t_min h2 IR0 ⟨by decide, by decide⟩ (fun _ => tt1 ?_) (fun n => absurd g2 n))) (fun n => absurd g1 n))
    rw [fx 10 _ _ (by decide), m10, wk ()]
    refine ⟨fun z => absurd z (by omega), fun _ => ?_⟩
    have e8' : LV N1 j = LV N j := LV_eq fun f hf => fx _ _ _ (by omega)
    refine Vm.2 N1 (by rw [fx _ _ _ (by decide)]; exact t8) (fun i hi => fx _ _ _ (by decide)) (fx _ _ _ (by decide)) p (by omega) j (by omega) ?_ ((k : Int) + 1) (by omega) (by omega) _ (fun x' N2 hx' fx' => ⟨?_, ?_⟩)
    · rw [e8']
      exact LK_LBv (by omega) (LK_8 e8 bj)
    · rw [hx, hx', e8', lC p _ _ _ e8]
    · have f : ∀ x i g, x ≠ 31 → ¬ (x = 10 ∧ i = 0 ∧ 30 ≤ g ∧ g ≤ 44) → N2 x i g = N x i g := fun x i g d1 d2 => by rw [fx' _ _ _ d2, fx _ _ _ d1]
      exact ⟨k, c, cp, oo, to, t, sz, k60, by rw [f _ _ _ (by omega) (by omega)]; exact m9, by rw [f _ _ _ (by omega) (by omega)]; exact m10, iL_fr ⟨⟨b1, c12, b3, b4, b5, b6, b7⟩, ⟨r1, r2, r3, r4⟩, ⟨l1, l2⟩, l4⟩ fun x i g d => f _ _ _ (by omega) (by omega), iF_fr F fun x i g d => f _ _ _ (by omega) (by omega), iM_fr M fun x i g d => f _ _ _ (by omega) (by omega), iO_fr O fun x i g d => f _ _ _ (by omega) (by omega), iT_fr ⟨t1, t2, t3, t4, t5, t6, t7, t8, t9⟩ fun x i g d => f _ _ _ (by omega) (by omega), iP_fr P fun x i g d => f _ _ _ (by omega) (by omega), iH_fr H fun x i g d => f _ _ _ (by omega) (by omega)⟩
  · rw [m10, wk ()]
    exact ⟨fun _ => ⟨rfl, I'⟩, fun z => absurd z (by omega)⟩
/-- the reference lays a text down -/
theorem lp_mtext {to sz : Nat} {b : Nat → Int} {K : Int → NN → Prop} (ht : to < 6) (hz : sz ≤ 160) : ∀ (d i : Nat) (N : NN), i + d = sz → N 10 0 29 = (sz : Int) → N 10 0 26 = (to : Int) → (∀ j, j < sz → N 59 0 j = b j) →
    (∀ N' : NN, (∀ j, i ≤ j → j < sz → N' 57 0 (160 * to + j) = b j) → (∀ c r k, ¬ (c = 57 ∧ r = 0 ∧ 160 * to + i ≤ k ∧ k < 160 * to + sz) → ¬ (c = 58 ∧ r = 0 ∧ k = to) → ¬ (c = 10 ∧ r = 0 ∧ k = 29) → N' c r k = N c r k) → N' 58 0 to = (sz : Int) → N' 10 0 29 = 0 →
      C_X10_read G (to : Int) 0 N' (fun x4 N4 => ((wI (N4 10 0 37) = 0 → (∀ M5 : NN, M5 = up3 N4 10 0 26 ((N4 10 0 26) + 1) → K ((M5 10 0 26) - 1) M5)) ∧ (¬ (wI (N4 10 0 37) = 0) → K (((-100)) - (N4 10 0 38)) N4)))) → W_X10_text G K 14 [(0, vR 10 0), (1, vI (i : Int))] [] N
  | 0, i, N, hd, h29, h26, hb, k => by
    have : i = sz := by omega
    subst this
    have wz := fun _ : Unit => wI_id (x := (i : Int)) (by omega) (by omega)
    have wt := fun _ : Unit => wI_id (x := (to : Int)) (by omega) (by omega)
    refine vc_X10_text_14 ?_
    rw [h29, h26, wz (), wt ()]
    refine ⟨fun _ => ⟨to, rfl, by omega, fun M2 e2 M3 e3 => ?_⟩, fun q => absurd (Int.le_refl _) q⟩
    rw [show M3 10 0 26 = (to : Int) by rw [e3, up3_o' (by omega), e2, up3_o' (by omega), h26]]
    exact k M3 (fun j h1 h2 => by omega) (fun c r k d1 d2 d3 => by rw [e3, up3_o' (by omega), e2, up3_o' (by omega)]) (by rw [e3, up3_o' (by omega), e2, up3_s]) (by rw [e3, up3_s])
  | d + 1, i, N, hd, h29, h26, hb, k => by
    have wz := fun _ : Unit => wI_id (x := (sz : Int)) (by omega) (by omega)
    have wi := fun _ : Unit => wI_id (x := (i : Int)) (by omega) (by omega)
    refine vc_X10_text_14 ?_
    rw [h29, h26, wz (), wi ()]
    refine ⟨fun q => absurd q (by omega), fun _ => ⟨i, rfl, by omega, 160 * to + i, by rw [wI_id (by omega) (by omega)]; omega, by omega, fun M8 e8 => ?_⟩⟩
    have f : ∀ c r k, ¬ (c = 57 ∧ r = 0 ∧ k = 160 * to + i) → M8 c r k = N c r k := fun c r k d1 => by rw [e8, up3_o' (by omega)]
    refine lp_mtext (b := b) ht hz d (i + 1) M8 (by omega) (by rw [f _ _ _ (by omega)]; exact h29) (by rw [f _ _ _ (by omega)]; exact h26) (fun j hj => by rw [f _ _ _ (by omega)]; exact hb j hj) (fun N' g1 g2 g3 g4 => k N' (fun j j1 j2 => ?_) (fun c r k d1 d2 d3 => ?_) g3 g4)
    · by_cases e : j = i
      · subst e
        rw [g2 _ _ _ (by omega) (by omega) (by omega), e8, up3_s, hb j j2]
      · exact g1 j (by omega) j2
    · rw [g2 _ _ _ (by omega) d2 d3, f _ _ _ (by omega)]
theorem op_text (I : Inv N) : C_X9_text G N (fun r N1 => C_X10_text G N1 (fun r' N2 => wI r = wI r' ∧ Inv N2)) := by
  have I' := I
  obtain ⟨k, c, cp, oo, to, t, sz, k60, m9, m10, L, F, M, O, T, P, H⟩ := I
  obtain ⟨t1, t2, t3, t4, t5, t6, t7, t8, t9⟩ := T
  obtain ⟨p1, p2, p3, p4⟩ := P
  have wt := fun _ : Unit => wI_id (x := (to : Int)) (by omega) (by omega)
  refine vc_X9_text ?_
  rw [t1, wt ()]
  refine ⟨fun q => ⟨to, rfl, by omega, ?_⟩, fun q => vc_X10_text ?_⟩
  · have to6 : to < 6 := by omega
    have tp : TP (N 59 0) sz N := ⟨p2, p1, p4⟩
    -- the reference, behind a reading of the class's
    have ref : ∀ A : NN, (∀ c i k, ¬ (c = 8 ∧ i = 0 ∧ 1 ≤ k ∧ k ≤ 5) → ¬ (c = 1 ∧ i = to ∧ (k = 3 ∨ k = 4)) → ¬ ((c = 29 ∨ c = 30) ∧ i = to) → ¬ (c = 9 ∧ i = 0 ∧ k = 12) → A c i k = N c i k) → ∀ K : Int → NN → Prop, ((lawR (N 59 0) sz).1 = true → ∀ B, (∀ c r k, ¬ (c = 57 ∧ r = 0 ∧ 160 * to ≤ k ∧ k < 160 * to + sz) → ¬ (c = 58 ∧ r = 0 ∧ k = to) → ¬ (c = 10 ∧ r = 0 ∧ (k = 26 ∨ (29 ≤ k ∧ k ≤ 44))) → B c r k = A c r k) → (∀ j, j < sz → B 57 0 (160 * to + j) = N 59 0 j) → B 58 0 to = (sz : Int) → B 10 0 29 = 0 → B 10 0 26 = ((to + 1 : Nat) : Int) → K (to : Int) B) →
        ((lawR (N 59 0) sz).1 = false → ∀ B, (∀ c r k, ¬ (c = 57 ∧ r = 0 ∧ 160 * to ≤ k ∧ k < 160 * to + sz) → ¬ (c = 58 ∧ r = 0 ∧ k = to) → ¬ (c = 10 ∧ r = 0 ∧ (29 ≤ k ∧ k ≤ 44)) → B c r k = A c r k) → B 10 0 29 = 0 → K (-100 - ((lawR (N 59 0) sz).2 : Int)) B) → C_X10_text G A K := by
      intro A fA K k1 k0
      have A26 : A 10 0 26 = (to : Int) := by rw [fA _ _ _ (by omega) (by omega) (by omega) (by omega)]; exact t2
      refine vc_X10_text ?_
      rw [A26, wt ()]
      refine ⟨fun _ => ?_, fun n => absurd (Decidable.not_not.mp n) (by omega)⟩
      refine lp_mtext (to := to) (sz := sz) (b := N 59 0) to6 p1 sz 0 A (by omega) (by rw [fA _ _ _ (by omega) (by omega) (by omega) (by omega)]; exact p3) A26 (fun j hj => fA _ _ _ (by omega) (by omega) (by omega) (by omega)) (fun B g1 g2 g3 g4 => ?_)
      refine m_read (b := N 59 0) (sz := sz) (t := to) (part := 0) (by omega) (by decide) g3 p1 (fun j hj => ⟨g1 j (by omega) hj, (p4 j hj).2⟩) (fun ok x B' fB _ b37 _ => ?_) (fun no x B' fB bad => ?_)
      · rw [b37]
        refine ⟨fun _ M5 e5 => ?_, fun z => absurd (by decide) z⟩
        have v : M5 10 0 26 = (to : Int) + 1 := by rw [e5, up3_s, fB _ _ _ (by omega), g2 _ _ _ (by omega) (by omega) (by omega), A26]
        rw [v, show (to : Int) + 1 - 1 = (to : Int) by omega]
        have f5 : ∀ c r k, ¬ (c = 10 ∧ r = 0 ∧ (k = 26 ∨ (30 ≤ k ∧ k ≤ 44))) → M5 c r k = B c r k := fun c r k d => by rw [e5, up3_o' (by omega), fB _ _ _ (by omega)]
        refine k1 ok M5 (fun c r k d1 d2 d3 => ?_) (fun j hj => ?_) ?_ ?_ (by rw [v]; omega)
        · rw [f5 _ _ _ (by omega), g2 _ _ _ (by omega) d2 (by omega)]
        · rw [f5 _ _ _ (by omega)]; exact g1 j (by omega) hj
        · rw [f5 _ _ _ (by omega)]; exact g3
        · rw [f5 _ _ _ (by omega)]; exact g4
      · rw [bad.1, bad.2]
        exact ⟨fun z => absurd z (by decide), fun _ => k0 no B' (fun c r k d1 d2 d3 => by rw [fB _ _ _ (by omega), g2 _ _ _ (by omega) d2 (by omega)]) (by rw [fB _ _ _ (by omega)]; exact g4)⟩
    refine s_lawRead to6 tp (fun ok A fA lc M3 e3 => ?_) (fun no A fA M3 e3 => ?_)
    · refine ⟨fun _ M4 e4 => ?_, fun z => absurd (by decide) z⟩
      have fM : ∀ c i k, ¬ (c = 8 ∧ i = 0 ∧ 1 ≤ k ∧ k ≤ 5) → ¬ (c = 1 ∧ i = to ∧ (k = 3 ∨ k = 4)) → ¬ ((c = 29 ∨ c = 30) ∧ i = to) → ¬ (c = 9 ∧ i = 0 ∧ k = 12) → M4 c i k = N c i k := fun c i k d1 d2 d3 d4 => by rw [e4, up3_o' (by omega), e3, up3_o' (by omega), fA _ _ _ (by omega) d2 d3]
      have v : M4 9 0 12 = (to : Int) + 1 := by rw [e4, up3_s, e3, up3_o' (by omega), fA _ _ _ (by omega) (by omega) (by omega), t1]
      rw [v, show (to : Int) + 1 - 1 = (to : Int) by omega]
      refine ref M4 fM _ (fun _ B fB b57 b58 b29 b26 => ⟨rfl, ?_⟩) (fun n => absurd (ok.symm.trans n) (by decide))
      have f : ∀ c i k, ¬ (c = 8 ∧ i = 0 ∧ 1 ≤ k ∧ k ≤ 5) → ¬ (c = 1 ∧ i = to ∧ (k = 3 ∨ k = 4)) → ¬ ((c = 29 ∨ c = 30) ∧ i = to) → ¬ (c = 9 ∧ i = 0 ∧ k = 12) → ¬ (c = 57 ∧ i = 0 ∧ 160 * to ≤ k ∧ k < 160 * to + sz) → ¬ (c = 58 ∧ i = 0 ∧ k = to) → ¬ (c = 10 ∧ i = 0 ∧ (k = 26 ∨ (29 ≤ k ∧ k ≤ 44))) → B c i k = N c i k := fun c i k d1 d2 d3 d4 d5 d6 d7 => by rw [fB _ _ _ d5 d6 d7, fM _ _ _ d1 d2 d3 d4]
      refine ⟨k, c, cp, oo, to + 1, t, 0, k60, by rw [f _ _ _ (by omega) (by omega) (by omega) (by omega) (by omega) (by omega) (by omega)]; exact m9, by rw [f _ _ _ (by omega) (by omega) (by omega) (by omega) (by omega) (by omega) (by omega)]; exact m10, iL_fr L fun x i g d => f _ _ _ (by omega) (by omega) (by omega) (by omega) (by omega) (by omega) (by omega), iF_fr F fun x i g d => f _ _ _ (by omega) (by omega) (by omega) (by omega) (by omega) (by omega) (by omega), iM_fr M fun x i g d => f _ _ _ (by omega) (by omega) (by omega) (by omega) (by omega) (by omega) (by omega), iO_fr O fun x i g d => f _ _ _ (by omega) (by omega) (by omega) (by omega) (by omega) (by omega) (by omega), ⟨?_, b26, by omega, by omega, by omega, ?_, ?_, ?_, fun u hu => ?_⟩, ⟨by omega, ?_, b29, fun j hj => absurd hj (by omega)⟩, iH_fr H fun x i g d => f _ _ _ (by omega) (by omega) (by omega) (by omega) (by omega) (by omega) (by omega)⟩
      · rw [fB _ _ _ (by omega) (by omega) (by omega), v]; omega
      · rw [f _ _ _ (by omega) (by omega) (by omega) (by omega) (by omega) (by omega) (by omega)]; exact t6
      · rw [f _ _ _ (by omega) (by omega) (by omega) (by omega) (by omega) (by omega) (by omega)]; exact t7
      · rw [f _ _ _ (by omega) (by omega) (by omega) (by omega) (by omega) (by omega) (by omega)]; exact t8
      · by_cases e : u = to
        · subst e
          refine ⟨N 59 0, sz, p1, fun j hj => ⟨b57 j hj, (p4 j hj).2⟩, b58, ok, ?_⟩
          have e29 : B 29 u = A 29 u := funext fun i => by rw [fB _ _ _ (by omega) (by omega) (by omega), e4, up3_o' (by omega), e3, up3_o' (by omega)]
          have e30 : B 30 u = A 30 u := funext fun i => by rw [fB _ _ _ (by omega) (by omega) (by omega), e4, up3_o' (by omega), e3, up3_o' (by omega)]
          rw [e29, e30]
          exact lc
        · exact TXT_fr (t9 u (by omega)) fun x i g d => f _ _ _ (by omega) (by omega) (by omega) (by omega) (by omega) (by omega) (by omega)
      · rw [fB _ _ _ (by omega) (by omega) (by omega), e4, up3_o' (by omega), e3, up3_s]; rfl
    · refine ⟨fun z => absurd z ?_, fun _ => ?_⟩
      · have := lawR_le (b := N 59 0) (sz := sz)
        rw [wI_id (by omega) (by omega)]
        omega
      · have fM : ∀ c i k, ¬ (c = 8 ∧ i = 0 ∧ 1 ≤ k ∧ k ≤ 5) → ¬ (c = 1 ∧ i = to ∧ (k = 3 ∨ k = 4)) → ¬ ((c = 29 ∨ c = 30) ∧ i = to) → M3 c i k = N c i k := fun c i k d1 d2 d3 => by rw [e3, up3_o' (by omega), fA _ _ _ (by omega) d2 d3]
        refine ref M3 (fun c i k d1 d2 d3 _ => fM c i k d1 d2 d3) _ (fun n => absurd (no.symm.trans n) (by decide)) (fun _ B fB b29 => ⟨rfl, ?_⟩)
        have f : ∀ c i k, ¬ (c = 8 ∧ i = 0 ∧ 1 ≤ k ∧ k ≤ 5) → ¬ (c = 1 ∧ i = to ∧ (k = 3 ∨ k = 4)) → ¬ ((c = 29 ∨ c = 30) ∧ i = to) → ¬ (c = 57 ∧ i = 0 ∧ 160 * to ≤ k ∧ k < 160 * to + sz) → ¬ (c = 58 ∧ i = 0 ∧ k = to) → ¬ (c = 10 ∧ i = 0 ∧ (29 ≤ k ∧ k ≤ 44)) → B c i k = N c i k := fun c i k d1 d2 d3 d5 d6 d7 => by rw [fB _ _ _ d5 d6 d7, fM _ _ _ d1 d2 d3]
        refine ⟨k, c, cp, oo, to, t, 0, k60, by rw [f _ _ _ (by omega) (by omega) (by omega) (by omega) (by omega) (by omega)]; exact m9, by rw [f _ _ _ (by omega) (by omega) (by omega) (by omega) (by omega) (by omega)]; exact m10, iL_fr L fun x i g d => f _ _ _ (by omega) (by omega) (by omega) (by omega) (by omega) (by omega), iF_fr F fun x i g d => f _ _ _ (by omega) (by omega) (by omega) (by omega) (by omega) (by omega), iM_fr M fun x i g d => f _ _ _ (by omega) (by omega) (by omega) (by omega) (by omega) (by omega), iO_fr O fun x i g d => f _ _ _ (by omega) (by omega) (by omega) (by omega) (by omega) (by omega), ⟨?_, ?_, t3, t4, t5, ?_, ?_, ?_, fun u hu => TXT_fr (t9 u (by omega)) fun x i g d => f _ _ _ (by omega) (by omega) (by omega) (by omega) (by omega) (by omega)⟩, ⟨by omega, ?_, b29, fun j hj => absurd hj (by omega)⟩, iH_fr H fun x i g d => f _ _ _ (by omega) (by omega) (by omega) (by omega) (by omega) (by omega)⟩
        · rw [f _ _ _ (by omega) (by omega) (by omega) (by omega) (by omega) (by omega)]; exact t1
        · rw [f _ _ _ (by omega) (by omega) (by omega) (by omega) (by omega) (by omega)]; exact t2
        · rw [f _ _ _ (by omega) (by omega) (by omega) (by omega) (by omega) (by omega)]; exact t6
        · rw [f _ _ _ (by omega) (by omega) (by omega) (by omega) (by omega) (by omega)]; exact t7
        · rw [f _ _ _ (by omega) (by omega) (by omega) (by omega) (by omega) (by omega)]; exact t8
        · rw [fB _ _ _ (by omega) (by omega) (by omega), e3, up3_s]; rfl
  · rw [t2, wt ()]
    exact ⟨fun n => absurd (by omega) q, fun _ => ⟨rfl, I'⟩⟩
end TXO
