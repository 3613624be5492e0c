/-! the reference's month of paying: the steps of its order -/
section MS
variable {G : GT} {kk c o : Nat} {K : NN → Prop}
theorem m_steps {B : NN} (hk : 1 ≤ kk ∧ kk ≤ 60) (hm : OKm (MM B kk)) (ho : B 76 0 kk = (o : Int)) (o6 : o < 6) (hr : ∀ i : Nat, i < 10 → ¬ wI (B 60 0 o) ≤ (i : Int) → okR (RM B o i)) (cash : Int) (S : SPF c kk cash (VM B))
    (k : ∀ M, VM M = (stepsP (B 60 0 o) kk (MM B kk) (RM B o) (VM B) cash 10).1 → (∀ t, t < 10 → M 80 0 (10 * kk + t) = tookP (B 60 0 o) kk (MM B kk) (RM B o) (VM B) cash t) → (∀ c i k, ¬ (69 ≤ c ∧ c ≤ 75 ∧ i = 0) → ¬ (c = 10 ∧ i = 0 ∧ 64 ≤ k ∧ k ≤ 66) → ¬ (c = 80 ∧ i = 0 ∧ 10 * kk ≤ k ∧ k < 10 * kk + 10) → M c i k = B c i k) →
      W_X10_pay G K 522 [(0, vR 10 0), (1, vI kk), (5, vL (-(M 54 0 kk) - M 10 0 64)), (7, vI 0)] [] M) :
    ∀ (d i : Nat) (M : NN), i + d = 10 → VM M = (stepsP (B 60 0 o) kk (MM B kk) (RM B o) (VM B) cash i).1 → (∀ t, t < i → M 80 0 (10 * kk + t) = tookP (B 60 0 o) kk (MM B kk) (RM B o) (VM B) cash t) → (∀ c i k, ¬ (69 ≤ c ∧ c ≤ 75 ∧ i = 0) → ¬ (c = 10 ∧ i = 0 ∧ 64 ≤ k ∧ k ≤ 66) → ¬ (c = 80 ∧ i = 0 ∧ 10 * kk ≤ k ∧ k < 10 * kk + 10) → M c i k = B c i k) →
      W_X10_pay G K 228 [(0, vR 10 0), (1, vI kk), (2, vL (stepsP (B 60 0 o) kk (MM B kk) (RM B o) (VM B) cash i).2), (4, vI (10 * (o : Int))), (5, vI (i : Int))] [] M := by
  have ek := wI_id (x := (kk : Int)) (by omega) (by omega)
  have hkz : (1 : Int) ≤ kk ∧ (kk : Int) ≤ 60 := by omega
  intro d
  induction d with
  | zero =>
    intro i M hi hV ht fr
    have ei : i = 10 := by omega
    subst ei
    refine vc_X10_pay_228 ?_
    rw [wlitI (k := ((10 : Nat) : Int)) (by decide) (by decide), ek]
    exact ⟨fun _ => ⟨kk, rfl, by omega, k M hV ht fr⟩, fun q => absurd (by decide) q⟩
  | succ d ih =>
    intro i M hi hV ht fr
    have Si := steps_ok (cnt := B 60 0 o) hkz S hr hm i (by omega)
    have St := step_ok (cnt := B 60 0 o) (i := i) hkz Si (hr i (by omega)) hm
    have ei := wI_id (x := (i : Int)) (by omega) (by omega)
    refine vc_X10_pay_228 ?_
    rw [ei, ek, wI_id (x := 10 * (kk : Int) + (i : Int)) (by omega) (by omega)]
    refine ⟨fun q => by omega, fun _ => ⟨10 * kk + i, by omega, by omega, fun M3 e3 => ⟨kk, rfl, by omega, ?_⟩⟩⟩
    have V3 : VM M3 = (stepsP (B 60 0 o) kk (MM B kk) (RM B o) (VM B) cash i).1 := by rw [e3, VM_ot (by decide), hV]
    have f3 : ∀ c' i' k', ¬ (c' = 80 ∧ i' = 0 ∧ k' = 10 * kk + i) → M3 c' i' k' = M c' i' k' := by
      intro c' i' k' h
      subst e3
      exact if_neg (by omega)
    have z3 : M3 80 0 (10 * kk + i) = 0 := by subst e3; exact up3_s
    have fB : ∀ c i k, ¬ (69 ≤ c ∧ c ≤ 75 ∧ i = 0) → ¬ (c = 10 ∧ i = 0 ∧ 64 ≤ k ∧ k ≤ 66) → ¬ (c = 80 ∧ i = 0 ∧ 10 * kk ≤ k ∧ k < 10 * kk + 10) → M3 c i k = B c i k := fun c i k a1 a2 a3 => by rw [f3 _ _ _ (by omega), fr _ _ _ a1 a2 a3]
    have o3 : M3 76 0 kk = (o : Int) := by rw [fB _ _ _ (by omega) (by omega) (by omega), ho]
    have c3 : M3 60 0 o = B 60 0 o := fB _ _ _ (by omega) (by omega) (by omega)
    have mm : MM M3 kk = MM B kk := funext fun f => by
      unfold MM
      have : mF f = 77 ∨ mF f = 78 ∨ mF f = 79 ∨ mF f < 60 := by
        unfold mF
        split
        · omega
        · split
          · omega
          · split
            · omega
            · split
              · omega
              · split <;> omega
      exact fB _ _ _ (by omega) (by omega) (by omega)
    have rr : RM M3 o i = RM B o i := funext fun f => by
      unfold RM
      by_cases h : f < 6
      · rw [if_pos h, if_pos h]
        exact fB _ _ _ (by omega) (by omega) (by omega)
      · rw [if_neg h, if_neg h]
    rw [o3, wI_id (x := (o : Int)) (by omega) (by omega)]
    refine ⟨o, rfl, o6, ?_⟩
    rw [c3]
    have nx : ∀ (M' : NN) (v : Int), v = stepP (B 60 0 o) kk (MM B kk) i (RM B o i) (stepsP (B 60 0 o) kk (MM B kk) (RM B o) (VM B) cash i).1 (stepsP (B 60 0 o) kk (MM B kk) (RM B o) (VM B) cash i).2 →
        VM M' = stepF (B 60 0 o) kk (MM B kk) i (RM B o i) (stepsP (B 60 0 o) kk (MM B kk) (RM B o) (VM B) cash i).1 (stepsP (B 60 0 o) kk (MM B kk) (RM B o) (VM B) cash i).2 →
        M' 80 0 (10 * kk + i) = v → (∀ c i' k, ¬ (69 ≤ c ∧ c ≤ 75 ∧ i' = 0) → ¬ (c = 10 ∧ i' = 0 ∧ 64 ≤ k ∧ k ≤ 66) → ¬ (c = 80 ∧ i' = 0 ∧ k = 10 * kk + i) → M' c i' k = M3 c i' k) →
        W_X10_pay G K 228 [(0, vR 10 0), (1, vI kk), (2, vL ((stepsP (B 60 0 o) kk (MM B kk) (RM B o) (VM B) cash i).2 - v)), (4, vI (10 * (o : Int))), (5, vI ((i : Int) + 1))] [] M' := by
      intro M' v hv hV' h80 hfr
      subst hv
      refine ih (i + 1) M' (by omega) hV' (fun t h => ?_) (fun c' i' k' a1 a2 a3 => ?_)
      · by_cases e : t = i
        · subst e
          exact h80
        · rw [hfr _ _ _ (by omega) (by omega) (by omega), f3 _ _ _ (by omega)]
          exact ht t (by omega)
      · rw [hfr _ _ _ a1 a2 (by omega), fB _ _ _ a1 a2 a3]
    refine ⟨fun q => ?_, fun q => ?_⟩
    · have := nx M3 0 (by unfold stepP; rw [if_pos q]) (by rw [V3]; unfold stepF; rw [if_pos q]) z3 (fun _ _ _ _ _ _ => rfl)
      rw [Int.sub_zero] at this
      exact this
    · have Si3 : SPF c kk (stepsP (B 60 0 o) kk (MM B kk) (RM B o) (VM B) cash i).2 (VM M3) := by rw [V3]; exact Si
      refine s_mIsSo (c := c) (i := i) (o := o) hk Si3 (by rw [mm]; exact hm) o6 (by omega) (by rw [rr]; exact hr i (by omega) q) (by omega) (fun hp => ⟨fun _ => ?_, fun h => absurd (by decide) h⟩) (fun hp => ⟨fun h => absurd rfl h, fun _ => ?_⟩)
      · rw [V3, rr, mm] at hp
        refine s_mWish (c := c) (i := i) (o := o) hk Si3 (by rw [mm]; exact hm) o6 (by omega) (by rw [rr]; exact hr i (by omega) q) (by omega) ?_
        rw [V3, rr, mm]
        have w := wish_ok hkz Si (hr i (by omega) q) hm
        have hc0 := SPF_cash Si
        have hc1 : (stepsP (B 60 0 o) kk (MM B kk) (RM B o) (VM B) cash i).2 ≤ 60000000000 := by
          obtain ⟨_, _, _, h⟩ := Si
          unfold sOK at h
          omega
        generalize hcs : (stepsP (B 60 0 o) kk (MM B kk) (RM B o) (VM B) cash i).2 = cs at *
        generalize hFs : (stepsP (B 60 0 o) kk (MM B kk) (RM B o) (VM B) cash i).1 = Fs at *
        generalize hw : wishP Fs (RM B o i) (MM B kk) cs = ws at *
        have wc := wL_id (x := cs) (by omega) (by omega)
        have ww := wL_id (x := ws) (by omega) (by omega)
        have go : ∀ v, v = min cs ws → W_X10_pay G K 306 [(0, vR 10 0), (1, vI kk), (2, vL cs), (4, vI (10 * (o : Int))), (5, vI (i : Int))] [vL v] M3 := by
          intro v hv
          have vP : v = stepP (B 60 0 o) kk (MM B kk) i (RM B o i) Fs cs := by
            unfold stepP
            rw [if_neg q, if_pos hp, wc, hw, ww, hv]
          have vF : stepF (B 60 0 o) kk (MM B kk) i (RM B o i) Fs cs = giveP Fs (RM B o i) v kk := by
            unfold stepF
            rw [if_neg q, if_pos hp, wc, hw, ww, ← hv]
          refine vc_X10_pay_306 ?_
          rw [ek, wI_id (x := 10 * (kk : Int) + (i : Int)) (by omega) (by omega), wI_id (x := 10 * (o : Int) + (i : Int)) (by omega) (by omega)]
          refine ⟨10 * kk + i, by omega, by omega, fun M2 e2 => ⟨10 * o + i, by omega, by omega, 10 * o + i, by omega, by omega, ?_⟩⟩
          have V2 : VM M2 = Fs := by rw [e2, VM_ot (by decide), V3]
          have f2 : ∀ c' i' k', ¬ (c' = 80 ∧ i' = 0 ∧ k' = 10 * kk + i) → M2 c' i' k' = M3 c' i' k' := by
            intro c' i' k' h
            subst e2
            exact if_neg (by omega)
          have z2 : M2 80 0 (10 * kk + i) = v := by subst e2; exact up3_s
          have r0 : M2 61 0 (10 * o + i) = RM B o i 0 := by rw [← rr]; exact f2 _ _ _ (by omega)
          have r1 : M2 62 0 (10 * o + i) = RM B o i 1 := by rw [← rr]; exact f2 _ _ _ (by omega)
          obtain ⟨c5, h1, hq, hs⟩ := Si
          have pg := pg_ok c5 h1 (hr i (by omega) q)
          have hr' := hr i (by omega) q
          unfold okR at hr'
          rw [r0, r1]
          generalize RM B o i = R at *
          have hc2 : M2 10 0 53 = (c : Int) := (VM_c (N := M2)).symm.trans (by rw [V2, h1])
          have hr0 : 0 ≤ R 0 ∧ R 0 ≤ 5 := ⟨hr'.1, hr'.2.1⟩
          have hr1 : -1 ≤ R 1 ∧ R 1 ≤ 4 := by omega
          have w0 := wI_id (x := R 0) (by omega) (by omega)
          have w1 := wI_id (x := R 1) (by omega) (by omega)
          rw [w0, w1]
          have idle : giveP Fs R v kk = Fs → W_X10_pay G K 228 [(0, vR 10 0), (1, vI kk), (2, vL (cs - v)), (4, vI (10 * (o : Int))), (5, vI ((i : Int) + 1))] [] M2 := by
            intro h
            exact nx M2 v vP (by rw [vF, V2, h]) z2 (fun c' i' k' _ _ a3 => f2 _ _ _ a3)
          have two : ∀ (p : Nat), p < c → ∀ (M8 M11 M18 : NN), M8 = up3 M2 69 0 p (M2 69 0 p - v) → M11 = up3 M8 72 0 p (M8 72 0 p + v) → M18 = up3 M11 73 0 p (M11 73 0 p + v * (kk : Int)) → VM M18 = payP Fs p v kk ∧ (∀ c i' k, ¬ (69 ≤ c ∧ c ≤ 75 ∧ i' = 0) → M18 c i' k = M2 c i' k) := by
            intro p hp M8 M11 M18 e8 e11 e18
            have x1 : M8 72 0 p = M2 72 0 p := by subst e8; exact up3_o _ _ _ (by omega)
            have x2 : M11 73 0 p = M2 73 0 p := by subst e11; subst e8; simp only [up3]; rw [if_neg (by omega), if_neg (by omega)]
            rw [x1] at e11
            rw [x2] at e18
            have y2 : Fs p 2 = M2 69 0 p := by rw [← V2]; exact VMp (by omega) (by decide)
            have y5 : Fs p 5 = M2 72 0 p := by rw [← V2]; exact VMp (by omega) (by decide)
            have y7 : Fs p 7 = M2 73 0 p := by rw [← V2]; exact VMp (by omega) (by decide)
            refine ⟨?_, fun c' i' k' a => ?_⟩
            · rw [e18, VM_73 (by omega), e11, VM_72 (by omega), e8, VM_69 (by omega), V2]
              unfold payP
              rw [y2, y5, y7, ek]
            · subst e18 e11 e8
              simp only [up3]
              rw [if_neg (by omega), if_neg (by omega), if_neg (by omega)]
          refine ⟨fun q1 => ?_, fun q1 => ?_, fun q1 => ?_, fun q1 M32 e32 => ?_, fun q1 M33 e33 => ?_, fun q1 => idle ?_⟩
          · refine s_mIsPaper hc2 c5 (by omega) ⟨fun h => idle ?_, fun h => ?_⟩
            · unfold giveP
              rw [w0, if_pos q1]
              rcases pg with ⟨g, _⟩ | ⟨p, g1, g2, g3⟩
              · rw [g]
              · exfalso
                rw [bI_t (by omega)] at h
                exact absurd h (by decide)
            · rcases pg with ⟨_, g⟩ | ⟨p, g1, g2, g3⟩
              · exfalso
                rw [bI_f (by omega)] at h
                exact h (by decide)
              · refine ⟨p, g3, by omega, p, g3, by omega, fun M8 e8 => ⟨p, g3, by omega, p, g3, by omega, fun M11 e11 => nx M11 v vP ?_ ?_ (fun c' i' k' a1 a2 a3 => ?_)⟩⟩
                · have x1 : M8 71 0 p = M2 71 0 p := by subst e8; exact up3_o _ _ _ (by omega)
                  have y8 : Fs p 8 = M2 75 0 p := by rw [← V2]; exact VMp (by omega) (by decide)
                  have y4 : Fs p 4 = M2 71 0 p := by rw [← V2]; exact VMp (by omega) (by decide)
                  rw [vF, e11, VM_71 (by omega), x1, e8, VM_75 (by omega), V2]
                  unfold giveP
                  rw [w0, if_pos q1, g1, ← y8, ← y4]
                · rw [← z2]
                  subst e11 e8
                  simp only [up3]
                  rw [if_neg (by omega), if_neg (by omega)]
                · rw [← f2 _ _ _ a3]
                  subst e11 e8
                  simp only [up3]
                  rw [if_neg (by omega), if_neg (by omega)]
          · refine s_mIsPaper hc2 c5 (by omega) ⟨fun h => idle ?_, fun h => ?_⟩
            · unfold giveP
              rw [w0, if_neg (by omega), if_pos (by omega)]
              rcases pg with ⟨g, _⟩ | ⟨p, g1, g2, g3⟩
              · rw [g]
              · exfalso
                rw [bI_t (by omega)] at h
                exact absurd h (by decide)
            · rcases pg with ⟨_, g⟩ | ⟨p, g1, g2, g3⟩
              · exfalso
                rw [bI_f (by omega)] at h
                exact h (by decide)
              · refine ⟨p, g3, by omega, p, g3, by omega, fun M8 e8 => ⟨p, g3, by omega, p, g3, by omega, fun M11 e11 => ⟨p, g3, by omega, p, g3, by omega, fun M18 e18 => ?_⟩⟩⟩
                obtain ⟨t1, t2⟩ := two p g2 M8 M11 M18 e8 e11 e18
                refine nx M18 v vP ?_ (by rw [t2 _ _ _ (by omega), z2]) (fun c' i' k' a1 a2 a3 => by rw [t2 _ _ _ a1, f2 _ _ _ a3])
                rw [vF, t1]
                unfold giveP
                rw [w0, if_neg (by omega), if_pos (by omega), g1]
          · refine s_mIsPaper hc2 c5 (by omega) ⟨fun h => idle ?_, fun h => ?_⟩
            · unfold giveP
              rw [w0, if_neg (by omega), if_pos (by omega)]
              rcases pg with ⟨g, _⟩ | ⟨p, g1, g2, g3⟩
              · rw [g]
              · exfalso
                rw [bI_t (by omega)] at h
                exact absurd h (by decide)
            · rcases pg with ⟨_, g⟩ | ⟨p, g1, g2, g3⟩
              · exfalso
                rw [bI_f (by omega)] at h
                exact h (by decide)
              · refine ⟨p, g3, by omega, p, g3, by omega, fun M8 e8 => ⟨p, g3, by omega, p, g3, by omega, fun M11 e11 => ⟨p, g3, by omega, p, g3, by omega, fun M18 e18 => ?_⟩⟩⟩
                obtain ⟨t1, t2⟩ := two p g2 M8 M11 M18 e8 e11 e18
                refine nx M18 v vP ?_ (by rw [t2 _ _ _ (by omega), z2]) (fun c' i' k' a1 a2 a3 => by rw [t2 _ _ _ a1, f2 _ _ _ a3])
                rw [vF, t1]
                unfold giveP
                rw [w0, if_neg (by omega), if_pos (by omega), g1]
          · refine nx M32 v vP ?_ ?_ (fun c' i' k' a1 a2 a3 => ?_)
            · rw [vF, e32, VM_s64, V2]
              unfold giveP
              rw [w0, if_neg (by omega), if_neg (by omega), if_pos q1, ← V2]
              rfl
            · rw [← z2]
              subst e32
              exact up3_o _ _ _ (by omega)
            · rw [← f2 _ _ _ a3]
              subst e32
              simp only [up3]
              rw [if_neg (by omega)]
          · refine nx M33 v vP ?_ ?_ (fun c' i' k' a1 a2 a3 => ?_)
            · rw [vF, e33, VM_s66, V2]
              unfold giveP
              rw [w0, if_neg (by omega), if_neg (by omega), if_neg (by omega), if_pos q1, ← V2]
              rfl
            · rw [← z2]
              subst e33
              exact up3_o _ _ _ (by omega)
            · rw [← f2 _ _ _ a3]
              subst e33
              simp only [up3]
              rw [if_neg (by omega)]
          · unfold giveP
            rw [w0, if_neg (by omega), if_neg (by omega), if_neg (by omega), if_neg (by omega)]
        rw [wc, ww]
        exact ⟨fun h => go cs (by omega), fun h => go ws (by omega)⟩
      · rw [V3, rr, mm] at hp
        have := nx M3 0 (by unfold stepP; rw [if_neg q, if_neg hp]) (by rw [V3]; unfold stepF; rw [if_neg q, if_neg hp]) z3 (fun _ _ _ _ _ _ => rfl)
        rw [Int.sub_zero] at this
        exact this
end MS
