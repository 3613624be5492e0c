/-! the class's pool: sums, lots, the law's chances, a month's collecting -/
def sumN (f : Nat → Int) : Nat → Int
  | 0 => 0
  | n + 1 => sumN f n + f n
theorem sumN_congr {f g : Nat → Int} : ∀ (n : Nat), (∀ q, q < n → f q = g q) → sumN f n = sumN g n
  | 0, _ => rfl
  | n + 1, h => by
    unfold sumN
    rw [sumN_congr n (fun q hq => h q (by omega)), h n (by omega)]
def balS (v : Nat → Int) : Int := if v 5 = 0 ∨ v 5 = 1 ∨ v 5 = 3 then v 1 else 0
def latS (v : Nat → Int) : Int := if v 5 = 1 then 1 else 0
def Eq31 (N N' : NN) : Prop := ∀ c i k, c ≠ 31 → N' c i k = N c i k
theorem Eq31.rf {N : NN} : Eq31 N N := fun _ _ _ _ => rfl
theorem Eq31.tr {N N' N'' : NN} (h1 : Eq31 N N') (h2 : Eq31 N' N'') : Eq31 N N'' := fun c i k h => (h2 c i k h).trans (h1 c i k h)
theorem LB_31 {N N' : NN} {a : Nat} (h : Eq31 N N') (B : LB N a) : LB N' a := by
  have e : ∀ k, N' 2 a k = N 2 a k := fun k => h 2 a k (by decide)
  unfold LB
  simp only [e]
  exact B
theorem UpdL_31 {N N' N'' : NN} {a j : Nat} {v w : Nat → Int} (h : Eq31 N N') (u : UpdL N' N'' a j v w) : UpdL N N'' a j v w := by
  obtain ⟨u1, u2, u3, u4⟩ := u
  refine ⟨u1, ?_, fun c i k h1 h2 h3 => (u3 c i k h1 h2 h3).trans (h c i k h3), fun k h0 h1 h2 h3 h8 => (u4 k h0 h1 h2 h3 h8).trans (h 3 j k (by decide))⟩
  rw [h 3 j 0 (by decide), h 3 j 1 (by decide), h 3 j 2 (by decide), h 3 j 3 (by decide), h 3 j 8 (by decide)] at u2
  exact u2
def lotS (seed n m : Int) : Int := (seed + 7919 * n + 104729 * m) * 48271 % 2147483647 % 1000
def clampS (v : Int) : Int := max 0 (min 1000 v)
theorem clampS_rng (v : Int) : 0 ≤ clampS v ∧ clampS v ≤ 1000 := by unfold clampS; omega
theorem lotS_rng (a b c : Int) : 0 ≤ lotS a b c ∧ lotS a b c < 1000 := by unfold lotS; omega
/-- what a law's parts come to, for any picture with this code -/
def VOK (G : GT) (t : Nat) (cd sts : Nat → Int) (lv : Nat → (Nat → Int) → Int → Int) : Prop :=
  t < 6 ∧ ∀ N : NN, N 29 t = cd → N 30 t = sts → ∀ part, part < 3 → ∀ a, a < 24 → LB N a → ∀ m : Int, 1 ≤ m → m ≤ 61 → ∀ K : Int → NN → Prop, (∀ x N', wI x = lv part (N 2 a) m → Eq31 N N' → K x N') → C_X1_value G t (part : Int) a m N K
def vDraw (m f l e x : Int) (v : Nat → Int) : Nat → Int :=
  if x < f then vFail m v else if x < f + l ∧ freeB m v = false then vLate m v else if f + l ≤ x ∧ x < f + l + e then vAll (if v 3 ≤ m then 5 else 2) v else vMon m v
def wDraw (m f l e x adv : Int) (v : Nat → Int) : Nat → Int :=
  if x < f then fun _ => 0 else if x < f + l ∧ freeB m v = false then wLate adv v else if f + l ≤ x ∧ x < f + l + e then wAll (iS (v 1) (v 2)) v else wMon m v
section CN
variable {G : GT} {a j p : Nat} {N : NN}
theorem s_balances {K : Int → NN → Prop} {c : Nat} (hp : p < 2) (hc : N 6 p 1 = c) (hc2 : c ≤ 12) (B : ∀ n, n < c → LB N (12 * p + n)) (k : K (sumN (fun n => balS (N 2 (12 * p + n))) c) N) : C_X6_balances G p N K := by
  refine vc_X6_balances hp ?_
  have key : ∀ (d n : Nat) (s : Int), n + d = c → s = sumN (fun n => balS (N 2 (12 * p + n))) n → W_X6_balances G K 4 [(0, vR 6 p), (1, vL s), (3, vI n)] [] N := by
    intro d
    induction d with
    | zero =>
      intro n s h1 h2
      refine vc_X6_balances_4 hp ?_
      rw [hc, wI_id (x := (c : Int)) (by omega) (by omega), wI_id (x := (n : Int)) (by omega) (by omega)]
      refine ⟨fun _ => ?_, fun q => absurd (by omega) q⟩
      rw [h2, show n = c by omega]
      exact k
    | succ d ih =>
      intro n s h1 h2
      refine vc_X6_balances_4 hp ?_
      rw [hc, wI_id (x := (c : Int)) (by omega) (by omega), wI_id (x := (n : Int)) (by omega) (by omega)]
      refine ⟨fun q => by omega, fun _ => ⟨n, rfl, by omega, s_isPooled (by omega) (B n (by omega)) ?_⟩⟩
      have hs : sumN (fun n => balS (N 2 (12 * p + n))) (n + 1) = s + balS (N 2 (12 * p + n)) := by rw [h2]; rfl
      by_cases h : N 2 (12 * p + n) 5 = 0 ∨ N 2 (12 * p + n) 5 = 1 ∨ N 2 (12 * p + n) 5 = 3
      · rw [bI_t h, wlitI (by decide) (by decide)]
        refine ⟨fun q => absurd q (by decide), fun _ => ⟨n, rfl, by omega, ih (n + 1) _ (by omega) ?_⟩⟩
        rw [hs]
        unfold balS
        rw [if_pos h]
      · rw [bI_f h, wlitI (by decide) (by decide)]
        refine ⟨fun _ => ih (n + 1) _ (by omega) ?_, fun q => absurd rfl q⟩
        rw [hs]
        unfold balS
        rw [if_neg h]
  exact key c 0 0 (by omega) rfl
theorem s_late {K : Int → NN → Prop} {c : Nat} (hp : p < 2) (hc : N 6 p 1 = c) (hc2 : c ≤ 12) (B : ∀ n, n < c → LB N (12 * p + n)) (k : K (sumN (fun n => latS (N 2 (12 * p + n))) c) N) : C_X6_late G p N K := by
  refine vc_X6_late hp ?_
  have key : ∀ (d n : Nat) (s : Int), n + d = c → s = sumN (fun n => latS (N 2 (12 * p + n))) n → W_X6_late G K 4 [(0, vR 6 p), (1, vI s), (2, vI n)] [] N := by
    intro d
    induction d with
    | zero =>
      intro n s h1 h2
      refine vc_X6_late_4 hp ?_
      rw [hc, wI_id (x := (c : Int)) (by omega) (by omega), wI_id (x := (n : Int)) (by omega) (by omega)]
      refine ⟨fun _ => ?_, fun q => absurd (by omega) q⟩
      rw [h2, show n = c by omega]
      exact k
    | succ d ih =>
      intro n s h1 h2
      have hB := B n (by omega)
      obtain ⟨b0, b1, b2, b3, b4, b5, b6, b7, b8, b9, b10, b11, -⟩ := hB
      refine vc_X6_late_4 hp ?_
      rw [hc, wI_id (x := (c : Int)) (by omega) (by omega), wI_id (x := (n : Int)) (by omega) (by omega)]
      refine ⟨fun q => by omega, fun _ => ⟨n, rfl, by omega, ?_⟩⟩
      have hs : sumN (fun n => latS (N 2 (12 * p + n))) (n + 1) = s + latS (N 2 (12 * p + n)) := by rw [h2]; rfl
      rw [wI_id (x := N 2 (12 * p + n) 5) (by omega) (by omega)]
      refine ⟨fun q => ih (n + 1) _ (by omega) ?_, fun q => ih (n + 1) _ (by omega) ?_⟩
      · rw [hs]
        unfold latS
        rw [if_neg q]
      · rw [hs]
        unfold latS
        rw [if_pos (by omega)]
  exact key c 0 0 (by omega) rfl
theorem s_lot {K : Int → NN → Prop} {n m : Int} (hp : p < 2) (hs : 0 ≤ N 6 p 2 ∧ N 6 p 2 ≤ 99999) (hn : 0 ≤ n ∧ n ≤ 11) (hm : 0 ≤ m ∧ m ≤ 60) (k : K (lotS (N 6 p 2) n m) N) : C_X6_lot G p n m N K := by
  refine vc_X6_lot hp ?_
  rw [wI_id (x := N 6 p 2) (by omega) (by omega), wI_id (x := n) (by omega) (by omega), wI_id (x := m) (by omega) (by omega), wL_id (x := (N 6 p 2 + 7919 * n + 104729 * m) * 48271) (by omega) (by omega), tm_n (a := (N 6 p 2 + 7919 * n + 104729 * m) * 48271) (b := 2147483647) (by omega), wL_id (x := (N 6 p 2 + 7919 * n + 104729 * m) * 48271 % 2147483647) (by omega) (by omega), tm_n (a := (N 6 p 2 + 7919 * n + 104729 * m) * 48271 % 2147483647) (b := 1000) (by omega)]
  exact k
theorem s_chance {K : Int → NN → Prop} {m : Int} {t part : Nat} {cd sts : Nat → Int} {lv : Nat → (Nat → Int) → Int → Int} (hp : p < 2) (ha : a < 24) (B : LB N a) (V : VOK G t cd sts lv) (ht : N 6 p 6 = t) (h29 : N 29 t = cd) (h30 : N 30 t = sts) (hpt : part < 3) (hm : 1 ≤ m ∧ m ≤ 60) (k : ∀ N', Eq31 N N' → K (clampS (lv part (N 2 a) m)) N') : C_X6_chance G p (part : Int) a m N K := by
  refine vc_X6_chance hp ha ?_
  have e : (N 6 p 6).toNat = t := by omega
  rw [e]
  refine ⟨by omega, V.1, by omega, V.1, V.2 N h29 h30 part hpt a ha B m hm.1 (by omega) _ (fun x N' hx he => ?_)⟩
  have r := wI_rng x
  rw [wI_id (x := min 1000 (wI x)) (by omega) (by omega), hx]
  exact k N' he
theorem s_draw {K : NN → Prop} {n m : Int} {t : Nat} {cd sts : Nat → Int} {lv : Nat → (Nat → Int) → Int → Int} (hp : p < 2) (ha : a < 24) (hj : j < 62) (B : LB N a) (V : VOK G t cd sts lv) (ht : N 6 p 6 = t) (h29 : N 29 t = cd) (h30 : N 30 t = sts) (hm : 1 ≤ m ∧ m ≤ 60) (hn : 0 ≤ n ∧ n ≤ 11) (hs : 0 ≤ N 6 p 2 ∧ N 6 p 2 ≤ 99999) (hb : 0 ≤ N 6 p 4 ∧ N 6 p 4 ≤ 1)
    (k : ∀ N', UpdL N N' a j (vDraw m (clampS (lv 0 (N 2 a) m)) (clampS (lv 1 (N 2 a) m)) (clampS (lv 2 (N 2 a) m)) (lotS (N 6 p 2) n m) (N 2 a)) (wDraw m (clampS (lv 0 (N 2 a) m)) (clampS (lv 1 (N 2 a) m)) (clampS (lv 2 (N 2 a) m)) (lotS (N 6 p 2) n m) (N 6 p 4) (N 2 a)) → K N') : C_X6_draw G p n a m j N K := by
  refine vc_X6_draw hp ha hj ?_
  refine s_chance (part := 0) hp ha B V ht h29 h30 (by decide) hm (fun N1 E1 => ?_)
  have x29 : ∀ {M : NN}, Eq31 N M → M 29 t = cd := fun h => by rw [← h29]; exact funext fun q => h 29 t q (by decide)
  have x30 : ∀ {M : NN}, Eq31 N M → M 30 t = sts := fun h => by rw [← h30]; exact funext fun q => h 30 t q (by decide)
  have xv : ∀ {M : NN}, Eq31 N M → M 2 a = N 2 a := fun h => funext fun q => h 2 a q (by decide)
  refine s_chance (part := 1) hp ha (LB_31 E1 B) V (by rw [E1 6 p 6 (by decide), ht]) (x29 E1) (x30 E1) (by decide) hm (fun N2 E2 => ?_)
  have E2 := E1.tr E2
  refine s_chance (part := 2) hp ha (LB_31 E2 B) V (by rw [E2 6 p 6 (by decide), ht]) (x29 E2) (x30 E2) (by decide) hm (fun N3 E3 => ?_)
  have E3 := E2.tr E3
  rw [xv E1, xv E2]
  have B3 := LB_31 E3 B
  have s3 : N3 6 p 2 = N 6 p 2 := E3 6 p 2 (by decide)
  have d3 : N3 6 p 4 = N 6 p 4 := E3 6 p 4 (by decide)
  refine s_lot hp (by rw [s3]; exact hs) hn (by omega) ?_
  rw [s3]
  have r0 := clampS_rng (lv 0 (N 2 a) m)
  have r1 := clampS_rng (lv 1 (N 2 a) m)
  have r2 := clampS_rng (lv 2 (N 2 a) m)
  have rx := lotS_rng (N 6 p 2) n m
  generalize clampS (lv 0 (N 2 a) m) = f at *
  generalize clampS (lv 1 (N 2 a) m) = l at *
  generalize clampS (lv 2 (N 2 a) m) = e at *
  generalize lotS (N 6 p 2) n m = x at *
  rw [wI_id (x := f) (by omega) (by omega), wI_id (x := x) (by omega) (by omega), wI_id (x := f + l) (by omega) (by omega), wI_id (x := f + l + e) (by omega) (by omega)]
  have fin : ∀ {N' : NN} {v w : Nat → Int}, UpdL N3 N' a j v w → v = vDraw m f l e x (N 2 a) → w = wDraw m f l e x (N 6 p 4) (N 2 a) → K N' := fun u h1 h2 => k _ (by rw [← h1, ← h2]; exact UpdL_31 E3 u)
  have hV : N3 2 a = N 2 a := xv E3
  have paid : ¬ x < f → ¬ (x < f + l ∧ freeB m (N 2 a) = false) → ((x < f + l → C_X6_payMonth G a m j N3 K) ∧ (¬ x < f + l → ((f + l + e ≤ x → C_X6_payMonth G a m j N3 K) ∧ (¬ f + l + e ≤ x → C_X2_interest G a N3 (fun x7 N7 => C_X2_isLast G a m N7 (fun x8 N8 => ((wI x8 = 0 → C_X6_payAll G a j x7 2 N8 K) ∧ (¬ wI x8 = 0 → C_X6_payAll G a j x7 5 N8 K)))))))) := by
    intro q1 q2
    have mon : ¬ (f + l ≤ x ∧ x < f + l + e) → C_X6_payMonth G a m j N3 K := fun q3 => s_payMonth ha hj B3 (by omega) (fun N' u => fin u (by rw [hV]; unfold vDraw; rw [if_neg q1, if_neg q2, if_neg q3]) (by rw [hV]; unfold wDraw; rw [if_neg q1, if_neg q2, if_neg q3]))
    refine ⟨fun q => mon (by omega), fun q => ⟨fun q3 => mon (by omega), fun q3 => s_interest ha B3 (s_isLast ha B3 (by omega) ?_)⟩⟩
    have q4 : f + l ≤ x ∧ x < f + l + e := by omega
    by_cases h : N3 2 a 3 ≤ m
    · rw [bI_t h, wlitI (by decide) (by decide)]
      refine ⟨fun q => absurd q (by decide), fun _ => s_payAll ha hj (fun N' u => fin u ?_ ?_)⟩
      · rw [hV] at h ⊢
        unfold vDraw
        rw [if_neg q1, if_neg q2, if_pos q4, if_pos h]
      · rw [hV]
        unfold wDraw
        rw [if_neg q1, if_neg q2, if_pos q4]
    · rw [bI_f h, wlitI (by decide) (by decide)]
      refine ⟨fun _ => s_payAll ha hj (fun N' u => fin u ?_ ?_), fun q => absurd rfl q⟩
      · rw [hV] at h ⊢
        unfold vDraw
        rw [if_neg q1, if_neg q2, if_pos q4, if_neg h]
      · rw [hV]
        unfold wDraw
        rw [if_neg q1, if_neg q2, if_pos q4]
  refine ⟨fun q1 => ⟨fun q2 => paid (by omega) (by omega), fun q2 => s_rests ha B3 (by omega) ?_⟩, fun q1 M1 e1 M2 e2 M3 e3 => ?_⟩
  · by_cases hf : N3 2 a 0 = 4 ∧ m % 6 = 0 ∧ m < N3 2 a 3
    · rw [bI_t hf, wlitI (by decide) (by decide)]
      have hb : freeB m (N 2 a) = true := by rw [← hV]; exact freeB_iff.mpr hf
      exact ⟨fun _ => paid (by omega) (by rw [hb]; simp), fun q => absurd (by decide) q⟩
    · rw [bI_f hf, wlitI (by decide) (by decide)]
      have hb2 : freeB m (N 2 a) = false := by
        rw [← hV]
        cases hh : freeB m (N3 2 a) with
        | false => rfl
        | true => exact absurd (freeB_iff.mp hh) hf
      refine ⟨fun q => absurd rfl q, fun _ => s_fallLate hp ha hj B3 (by omega) (by rw [d3]; exact hb) (fun N' u => fin u ?_ ?_)⟩
      · rw [hV]
        unfold vDraw
        rw [if_neg (by omega), if_pos ⟨by omega, hb2⟩]
      · rw [hV, d3]
        unfold wDraw
        rw [if_neg (by omega), if_pos ⟨by omega, hb2⟩]
  · have q1' : x < f := by omega
    refine fin (v := vFail m (N3 2 a)) (w := fun _ => 0) ?_ ?_ ?_
    · subst e1; subst e2; subst e3
      refine ⟨k8 ?_ ?_ ?_ ?_ ?_ ?_ ?_ ?_, ⟨?_, ?_, ?_, ?_, ?_⟩, ?_, ?_⟩
      all_goals try (simp [up3, vFail]; done)
      intro c i k h1 h2 h3
      simp only [up3]
      repeat rw [if_neg (by omega)]
    · rw [hV]
      unfold vDraw
      rw [if_pos q1']
    · unfold wDraw
      rw [if_pos q1']
/-- a loan's month, begun -/
def vStep (m f l e x : Int) (v : Nat → Int) : Nat → Int :=
  if v 5 = 0 ∨ v 5 = 1 then vDraw m f l e x v else if v 5 = 6 then vAll 6 v else if v 5 = 3 ∧ v 7 + 3 ≤ m then vSell v else v
def wStep (m f l e x adv back : Int) (v : Nat → Int) : Nat → Int :=
  if v 5 = 0 ∨ v 5 = 1 then wDraw m f l e x adv v else if v 5 = 6 then wAll 0 v else if v 5 = 3 ∧ v 7 + 3 ≤ m then wSell back v else fun _ => 0
/-- all of a loan's month, by the pool's seed, back, advances and law -/
def vFin (lv : Nat → (Nat → Int) → Int → Int) (m seed : Int) (n : Nat) (v : Nat → Int) : Nat → Int :=
  vStep m (clampS (lv 0 (vBeg m v) m)) (clampS (lv 1 (vBeg m v) m)) (clampS (lv 2 (vBeg m v) m)) (lotS seed n m) (vBeg m v)
def wFin (lv : Nat → (Nat → Int) → Int → Int) (m seed adv back : Int) (n : Nat) (v : Nat → Int) : Nat → Int :=
  wStep m (clampS (lv 0 (vBeg m v) m)) (clampS (lv 1 (vBeg m v) m)) (clampS (lv 2 (vBeg m v) m)) (lotS seed n m) adv back (vBeg m v)
def LBv (v : Nat → Int) : Prop := 0 ≤ v 0 ∧ v 0 ≤ 5 ∧ 0 ≤ v 1 ∧ v 1 ≤ 4000000 ∧ 0 ≤ v 2 ∧ v 2 ≤ 200 ∧ 0 ≤ v 3 ∧ v 3 ≤ 70 ∧ 0 ≤ v 4 ∧ v 4 ≤ 5000000 ∧ 0 ≤ v 5 ∧ v 5 ≤ 6 ∧ 0 ≤ v 6 ∧ v 6 ≤ 5000000 ∧ 0 ≤ v 7 ∧ v 7 ≤ 60
theorem LBv_of {v w : Nat → Int} (h : ∀ k, k < 8 → v k = w k) (B : LBv w) : LBv v := by
  unfold LBv at *
  rw [h 0 (by decide), h 1 (by decide), h 2 (by decide), h 3 (by decide), h 4 (by decide), h 5 (by decide), h 6 (by decide), h 7 (by decide)]
  exact B
theorem LBv_beg {m : Int} {v : Nat → Int} (B : LBv v) : LBv (vBeg m v) := by
  obtain ⟨b0, b1, b2, b3, b4, b5, b6, b7, b8, b9, b10, b11, b12, b13, b14, b15⟩ := B
  have hr : 0 ≤ bgR (v 0) (v 2) (v 5) m ∧ bgR (v 0) (v 2) (v 5) m ≤ 200 := by unfold bgR; split <;> omega
  have hp : 0 ≤ bgP (v 0) (v 1) (v 2) (v 3) (v 5) (v 6) m ∧ bgP (v 0) (v 1) (v 2) (v 3) (v 5) (v 6) m ≤ 5000000 := by
    unfold bgP
    have i1 := iS_rng b2 b3 b4 b5
    have i2 := iS_rng (b := v 1) (r := min 200 (2 * v 2)) b2 b3 (by omega) (by omega)
    split
    · have := payS_rng (r := min 200 (2 * v 2)) (b := v 1) (n := (v 3 + 1 - m).toNat) 64 0 (v 1 + iS (v 1) (min 200 (2 * v 2))) (by omega)
      omega
    · split
      · have := payS_rng (r := v 2) (b := v 1) (n := (v 3 + 1 - m).toNat) 64 0 (v 1 + iS (v 1) (v 2)) (by omega)
        omega
      · omega
  exact ⟨b0, b1, b2, b3, hr.1, hr.2, b6, b7, b8, b9, b10, b11, hp.1, hp.2, b14, b15⟩
/-- what changes in a month's collecting: pool p's loans and what it has advanced, row j, a law's stack -/
def FrC (p j : Nat) (N N' : NN) : Prop := ∀ c i k, ¬ (c = 2 ∧ 12 * p ≤ i ∧ i < 12 * p + 12) → ¬ (c = 3 ∧ i = j) → ¬ (c = 6 ∧ i = p ∧ k = 5) → c ≠ 31 → N' c i k = N c i k
/-- in the loop, n loans are done -/
def InvC (lv : Nat → (Nat → Int) → Int → Int) (m : Int) (p j : Nat) (N : NN) (n : Nat) (M : NN) : Prop :=
  (∀ q, q < n → ∀ k, k < 8 → M 2 (12 * p + q) k = vFin lv m (N 6 p 2) q (N 2 (12 * p + q)) k) ∧ (∀ q, n ≤ q → q < 12 → ∀ k, M 2 (12 * p + q) k = N 2 (12 * p + q) k) ∧
  (∀ f, f = 0 ∨ f = 1 ∨ f = 2 ∨ f = 3 ∨ f = 8 → M 3 j f = sumN (fun q => wFin lv m (N 6 p 2) (N 6 p 4) (N 6 p 3) q (N 2 (12 * p + q)) f) n) ∧ (∀ f, f = 5 ∨ 10 ≤ f → M 3 j f = N 3 j f) ∧ M 6 p 5 = N 6 p 5 ∧ FrC p j N M
theorem UpdL_self {N : NN} {a j : Nat} : UpdL N N a j (N 2 a) (fun _ => 0) :=
  ⟨fun _ _ => rfl, ⟨by simp, by simp, by simp, by simp, by simp⟩, fun _ _ _ _ _ _ => rfl, fun _ _ _ _ _ _ => rfl⟩
theorem InvC_step {lv : Nat → (Nat → Int) → Int → Int} {m : Int} {N M N9 N' : NN} {n : Nat} {v w : Nat → Int} (hp : p < 2) (hn : n < 12) (I : InvC lv m p j N n M ∧ M 3 j 6 = N' 3 j 6) (h9 : ∀ c i k, ¬ (c = 2 ∧ i = 12 * p + n) → N9 c i k = M c i k) (u : UpdL N9 N' (12 * p + n) j v w) (hv : ∀ k, k < 8 → v k = vFin lv m (N 6 p 2) n (N 2 (12 * p + n)) k) (hw : w = wFin lv m (N 6 p 2) (N 6 p 4) (N 6 p 3) n (N 2 (12 * p + n))) : InvC lv m p j N (n + 1) N' := by
  obtain ⟨⟨i1, i2, i3, i4, i5, i6⟩, -⟩ := I
  obtain ⟨u1, u2, u3, u4⟩ := u
  have e3 : ∀ f, N9 3 j f = M 3 j f := fun f => h9 3 j f (by omega)
  refine ⟨fun q hq k hk => ?_, fun q hq hq2 k => ?_, fun f hf => ?_, fun f hf => ?_, ?_, fun c i k h1 h2 h3 h4 => ?_⟩
  · by_cases e : q = n
    · subst e
      rw [u1 k hk, hv k hk]
    · rw [u3 2 (12 * p + q) k (by omega) (by omega) (by decide), h9 _ _ _ (by omega)]
      exact i1 q (by omega) k hk
  · rw [u3 2 (12 * p + q) k (by omega) (by omega) (by decide), h9 _ _ _ (by omega)]
    exact i2 q (by omega) hq2 k
  · have e := i3 f hf
    have s : sumN (fun q => wFin lv m (N 6 p 2) (N 6 p 4) (N 6 p 3) q (N 2 (12 * p + q)) f) (n + 1) = M 3 j f + w f := by rw [e, hw]; rfl
    rw [s]
    rcases hf with rfl | rfl | rfl | rfl | rfl
    · rw [u2.1, e3]
    · rw [u2.2.1, e3]
    · rw [u2.2.2.1, e3]
    · rw [u2.2.2.2.1, e3]
    · rw [u2.2.2.2.2, e3]
  · rw [u4 f (by omega) (by omega) (by omega) (by omega) (by omega), e3, i4 f hf]
  · rw [u3 6 p 5 (by omega) (by omega) (by decide), h9 _ _ _ (by omega), i5]
  · rw [u3 c i k (by omega) h2 h4, h9 _ _ _ (by omega)]
    exact i6 c i k h1 h2 h3 h4
theorem s_collect {K : NN → Prop} {m : Int} {c t : Nat} {cd sts : Nat → Int} {lv : Nat → (Nat → Int) → Int → Int} (hp : p < 2) (hj : j < 62) (hc : N 6 p 1 = c) (hc2 : c ≤ 12) (B : ∀ n, n < c → LB N (12 * p + n)) (V : VOK G t cd sts lv) (ht : N 6 p 6 = t) (h29 : N 29 t = cd) (h30 : N 30 t = sts) (hm : 1 ≤ m ∧ m ≤ 60)
    (hs : 0 ≤ N 6 p 2 ∧ N 6 p 2 ≤ 99999) (hk : 0 ≤ N 6 p 3 ∧ N 6 p 3 ≤ 100) (hb : 0 ≤ N 6 p 4 ∧ N 6 p 4 ≤ 1) (hmo : ∀ n, n < c → (N 2 (12 * p + n) 5 = 0 ∨ N 2 (12 * p + n) 5 = 1 → m ≤ N 2 (12 * p + n) 3) ∧ (m = 1 → 1 ≤ N 2 (12 * p + n) 3))
    (B2 : ∀ n, n < c → LBv (vFin lv m (N 6 p 2) n (N 2 (12 * p + n)))) (hi : 0 ≤ sumN (fun n => wFin lv m (N 6 p 2) (N 6 p 4) (N 6 p 3) n (N 2 (12 * p + n)) 0) c ∧ sumN (fun n => wFin lv m (N 6 p 2) (N 6 p 4) (N 6 p 3) n (N 2 (12 * p + n)) 0) c ≤ 1000000000)
    (ha : 0 ≤ N 6 p 5 + sumN (fun n => wFin lv m (N 6 p 2) (N 6 p 4) (N 6 p 3) n (N 2 (12 * p + n)) 3) c ∧ N 6 p 5 + sumN (fun n => wFin lv m (N 6 p 2) (N 6 p 4) (N 6 p 3) n (N 2 (12 * p + n)) 3) c ≤ 1000000000)
    (k : ∀ N', (∀ n, n < c → ∀ k, k < 8 → N' 2 (12 * p + n) k = vFin lv m (N 6 p 2) n (N 2 (12 * p + n)) k) → (∀ n, c ≤ n → n < 12 → ∀ k, N' 2 (12 * p + n) k = N 2 (12 * p + n) k) →
      (∀ f, f = 0 ∨ f = 1 ∨ f = 2 ∨ f = 3 ∨ f = 8 → N' 3 j f = sumN (fun n => wFin lv m (N 6 p 2) (N 6 p 4) (N 6 p 3) n (N 2 (12 * p + n)) f) c) →
      N' 3 j 4 = min (N 6 p 5 + N' 3 j 3) (N' 3 j 0) → N' 6 p 5 = N 6 p 5 + N' 3 j 3 - N' 3 j 4 → N' 3 j 6 = sumN (fun n => balS (N 2 (12 * p + n))) c → N' 3 j 7 = sumN (fun n => balS (N' 2 (12 * p + n))) c → N' 3 j 9 = sumN (fun n => latS (N' 2 (12 * p + n))) c →
      (∀ f, f = 5 ∨ 10 ≤ f → N' 3 j f = N 3 j f) → FrC p j N N' → K N') : C_X6_collect G p m j N K := by
  refine vc_X6_collect hp hj (vc_X3_clear hj ?_)
  intro M1 e1 M2 e2 M3 e3 M4 e4 M5 e5 N1 e6
  have f0 : ∀ c i k, ¬ (c = 3 ∧ i = j) → N1 c i k = N c i k := by
    intro c i k h
    subst e1; subst e2; subst e3; subst e4; subst e5; subst e6
    simp only [up3]
    repeat rw [if_neg (by omega)]
  have z0 : ∀ f, f = 0 ∨ f = 1 ∨ f = 2 ∨ f = 3 ∨ f = 8 → N1 3 j f = 0 := by
    intro f hf
    subst e1; subst e2; subst e3; subst e4; subst e5; subst e6
    rcases hf with rfl | rfl | rfl | rfl | rfl <;> simp [up3]
  have y0 : ∀ f, f = 5 ∨ 10 ≤ f → N1 3 j f = N 3 j f := by
    intro f hf
    subst e1; subst e2; subst e3; subst e4; subst e5; subst e6
    simp only [up3]
    repeat rw [if_neg (by omega)]
  clear e1 e2 e3 e4 e5 e6
  have v1 : ∀ n, N1 2 n = N 2 n := fun n => funext fun q => f0 2 n q (by omega)
  have l1 : ∀ n, n < c → LB N1 (12 * p + n) := fun n hn => by
    have := B n hn
    unfold LB at *
    rw [v1]
    exact this
  refine s_balances hp (by rw [f0 6 p 1 (by omega), hc]) hc2 l1 ?_
  intro M3 e3
  have hbal : sumN (fun n => balS (N1 2 (12 * p + n))) c = sumN (fun n => balS (N 2 (12 * p + n))) c := sumN_congr c fun q _ => by rw [v1]
  rw [hbal] at e3
  have key : ∀ (d n : Nat) (M : NN), n + d = c → InvC lv m p j N n M → M 3 j 6 = sumN (fun n => balS (N 2 (12 * p + n))) c → W_X6_collect G K 14 [(0, vR 6 p), (1, vI m), (2, vR 3 j), (3, vI n)] [] M := by
    intro d
    induction d with
    | zero =>
      intro n M h1 I h6
      obtain ⟨i1, i2, i3, i4, i5, i6⟩ := I
      have hn : n = c := by omega
      subst hn
      refine vc_X6_collect_14 hp hj ?_
      have hc' : M 6 p 1 = n := by rw [i6 6 p 1 (by omega) (by omega) (by omega) (by decide), hc]
      rw [hc', wI_id (x := (n : Int)) (by omega) (by omega)]
      refine ⟨fun _ Q1 q1 Q2 q2 Q3 q3 => ?_, fun q => absurd (Int.le_refl _) q⟩
      have g0 := i3 0 (by omega)
      have g3 := i3 3 (by omega)
      have hQ1 : Q1 6 p 5 = N 6 p 5 + M 3 j 3 := by subst q1; rw [up3_s, i5]
      have hQ0 : Q1 3 j 0 = M 3 j 0 := by subst q1; simp [up3]
      rw [hQ1, hQ0, g0, g3, wL_id (x := N 6 p 5 + _) (by omega) (by omega), wL_id (by omega) (by omega), ← g0, ← g3] at q2
      have F : ∀ c i k, ¬ (c = 3 ∧ i = j ∧ k = 4) → ¬ (c = 6 ∧ i = p ∧ k = 5) → Q3 c i k = M c i k := by
        intro c i k a1 a2
        subst q1; subst q2; subst q3
        simp only [up3]
        repeat rw [if_neg (by omega)]
      have F4 : Q3 3 j 4 = min (N 6 p 5 + M 3 j 3) (M 3 j 0) := by
        subst q3; subst q2
        simp [up3]
      have F5 : Q3 6 p 5 = N 6 p 5 + M 3 j 3 - min (N 6 p 5 + M 3 j 3) (M 3 j 0) := by
        subst q3
        rw [up3_s]
        subst q2
        rw [up3_s]
        have : up3 Q1 3 j 4 (min (N 6 p 5 + M 3 j 3) (M 3 j 0)) 6 p 5 = Q1 6 p 5 := if_neg (by omega)
        rw [this, hQ1]
      have l3 : ∀ q, q < n → LBv (Q3 2 (12 * p + q)) := fun q hq => LBv_of (fun k hk => by rw [F 2 _ k (by omega) (by omega), i1 q hq k hk]) (B2 q hq)
      refine s_balances hp (by rw [F 6 p 1 (by omega) (by omega), hc']) hc2 l3 ?_
      intro Q5 q5
      have v5 : ∀ q, Q5 2 q = Q3 2 q := fun q => funext fun k => by subst q5; exact if_neg (by omega)
      refine s_late hp (by rw [q5]; simp only [up3]; rw [if_neg (by omega), F 6 p 1 (by omega) (by omega), hc']) hc2 (fun q hq => by have := l3 q hq; unfold LB; rw [v5]; exact this) ?_
      intro Q7 q7
      have v7 : ∀ q, Q7 2 q = Q3 2 q := fun q => funext fun k => by rw [q7]; simp only [up3]; rw [if_neg (by omega), v5]
      have F7 : ∀ c i k, ¬ (c = 3 ∧ i = j ∧ (k = 7 ∨ k = 9)) → Q7 c i k = Q3 c i k := by
        intro c i k a1
        subst q5; subst q7
        simp only [up3]
        rw [if_neg (by omega), if_neg (by omega)]
      have r : ∀ f, f ≠ 4 → f ≠ 7 → f ≠ 9 → Q7 3 j f = M 3 j f := fun f a1 a2 a3 => by rw [F7 _ _ _ (by omega), F _ _ _ (by omega) (by omega)]
      refine k Q7 ?_ ?_ ?_ ?_ ?_ ?_ ?_ ?_ ?_ ?_
      · intro q hq k hk
        rw [v7, F 2 _ k (by omega) (by omega), i1 q hq k hk]
      · intro q hq hq2 k
        rw [v7, F 2 _ k (by omega) (by omega), i2 q hq hq2 k]
      · intro f hf
        rw [r f (by omega) (by omega) (by omega), i3 f hf]
      · rw [F7 _ _ _ (by omega), F4, r 3 (by decide) (by decide) (by decide), r 0 (by decide) (by decide) (by decide)]
      · rw [F7 _ _ _ (by omega), F7 3 j 4 (by omega), F4, F5, r 3 (by decide) (by decide) (by decide)]
      · rw [r 6 (by decide) (by decide) (by decide), h6]
      · have : Q7 3 j 7 = sumN (fun n => balS (Q3 2 (12 * p + n))) n := by subst q7; subst q5; simp [up3]
        rw [this]
        exact sumN_congr n fun q _ => by rw [v7]
      · have : Q7 3 j 9 = sumN (fun n => latS (Q5 2 (12 * p + n))) n := by subst q7; simp [up3]
        rw [this]
        exact sumN_congr n fun q _ => by rw [v7, v5]
      · intro f hf
        rw [r f (by omega) (by omega) (by omega), i4 f hf]
      · intro c i k a1 a2 a3 a4
        rw [F7 _ _ _ (by omega), F _ _ _ (by omega) (by omega), i6 c i k a1 a2 a3 a4]
    | succ d ih =>
      intro n M h1 I h6
      have I' := I
      obtain ⟨i1, i2, i3, i4, i5, i6⟩ := I
      refine vc_X6_collect_14 hp hj ?_
      have hc' : M 6 p 1 = c := by rw [i6 6 p 1 (by omega) (by omega) (by omega) (by decide), hc]
      rw [hc', wI_id (x := (c : Int)) (by omega) (by omega), wI_id (x := (n : Int)) (by omega) (by omega)]
      refine ⟨fun q => by omega, fun _ => ⟨n, rfl, by omega, ?_⟩⟩
      have hv : M 2 (12 * p + n) = N 2 (12 * p + n) := funext fun k => i2 n (by omega) (by omega) k
      have hB := B n (by omega)
      have hBM : LB M (12 * p + n) := by unfold LB at *; rw [hv]; exact hB
      have hmn := hmo n (by omega)
      refine s_begin (by omega) hBM hm (by rw [hv]; exact hmn.1) (by rw [hv]; exact hmn.2) (fun N9 g9 f9 => ?_)
      have h9 : N9 2 (12 * p + n) = vBeg m (N 2 (12 * p + n)) := by rw [← hv]; exact funext g9
      have B9 : LB N9 (12 * p + n) := by
        have := LBv_beg (m := m) (v := N 2 (12 * p + n)) hB
        unfold LB
        rw [h9]
        exact this
      have fr : ∀ c i k, ¬ (c = 2 ∧ 12 * p ≤ i ∧ i < 12 * p + 12) → ¬ (c = 3 ∧ i = j) → ¬ (c = 6 ∧ i = p ∧ k = 5) → c ≠ 31 → N9 c i k = N c i k := fun c i k a1 a2 a3 a4 => by rw [f9 c i k (by omega), i6 c i k a1 a2 a3 a4]
      have t9 : N9 6 p 6 = t := by rw [fr _ _ _ (by omega) (by omega) (by omega) (by decide), ht]
      have c9 : N9 29 t = cd := by rw [← h29]; exact funext fun q => fr _ _ _ (by omega) (by omega) (by omega) (by decide)
      have s9 : N9 30 t = sts := by rw [← h30]; exact funext fun q => fr _ _ _ (by omega) (by omega) (by omega) (by decide)
      have d2 : N9 6 p 2 = N 6 p 2 := fr _ _ _ (by omega) (by omega) (by omega) (by decide)
      have d3 : N9 6 p 3 = N 6 p 3 := fr _ _ _ (by omega) (by omega) (by omega) (by decide)
      have d4 : N9 6 p 4 = N 6 p 4 := fr _ _ _ (by omega) (by omega) (by omega) (by decide)
      have fin : ∀ {N' : NN} {v w : Nat → Int}, UpdL N9 N' (12 * p + n) j v w → (∀ k, k < 8 → v k = vFin lv m (N 6 p 2) n (N 2 (12 * p + n)) k) → w = wFin lv m (N 6 p 2) (N 6 p 4) (N 6 p 3) n (N 2 (12 * p + n)) → W_X6_collect G K 14 [(0, vR 6 p), (1, vI m), (2, vR 3 j), (3, vI ((n : Int) + 1))] [] N' := by
        intro N' v w u a1 a2
        have h6' : M 3 j 6 = N' 3 j 6 := by rw [u.2.2.2 6 (by decide) (by decide) (by decide) (by decide) (by decide), f9 _ _ _ (by omega)]
        exact ih (n + 1) N' (by omega) (InvC_step hp (by omega) ⟨I', h6'⟩ f9 u a1 a2) (by rw [← h6', h6])
      refine s_goesOn (by omega) B9 ?_
      rw [h9]
      by_cases g : vBeg m (N 2 (12 * p + n)) 5 = 0 ∨ vBeg m (N 2 (12 * p + n)) 5 = 1
      · rw [bI_t g, wlitI (by decide) (by decide)]
        refine ⟨fun q => absurd q (by decide), fun _ => s_draw hp (by omega) hj B9 V t9 c9 s9 hm (by omega) (by rw [d2]; exact hs) (by rw [d4]; exact hb) (fun N' u => fin u ?_ ?_)⟩
        · intro k _
          rw [h9, d2]
          unfold vFin vStep
          rw [if_pos g]
        · rw [h9, d2, d4]
          unfold wFin wStep
          rw [if_pos g]
      · rw [bI_f g, wlitI (by decide) (by decide)]
        have r5 : 0 ≤ vBeg m (N 2 (12 * p + n)) 5 ∧ vBeg m (N 2 (12 * p + n)) 5 ≤ 6 := by
          have := LBv_beg (m := m) (v := N 2 (12 * p + n)) hB
          unfold LBv at this
          omega
        rw [wI_id (x := vBeg m (N 2 (12 * p + n)) 5) (by omega) (by omega)]
        refine ⟨fun _ => ⟨fun q6 => s_isSoldIn (by omega) B9 (by omega) ?_, fun q6 => s_payAll (by omega) hj (fun N' u => fin u ?_ ?_)⟩, fun q => absurd rfl q⟩
        · rw [h9]
          by_cases e3 : vBeg m (N 2 (12 * p + n)) 5 = 3 ∧ vBeg m (N 2 (12 * p + n)) 7 + 3 ≤ m
          · rw [bI_t e3, wlitI (by decide) (by decide)]
            refine ⟨fun q => absurd q (by decide), fun _ => s_sell hp (by omega) hj B9 (by rw [d3]; exact hk) (fun N' u => fin u ?_ ?_)⟩
            · intro k _
              rw [h9]
              unfold vFin vStep
              rw [if_neg g, if_neg q6, if_pos e3]
            · rw [h9, d3]
              unfold wFin wStep
              rw [if_neg g, if_neg q6, if_pos e3]
          · rw [bI_f e3, wlitI (by decide) (by decide)]
            refine ⟨fun _ => fin UpdL_self ?_ ?_, fun q => absurd rfl q⟩
            · intro k _
              rw [h9]
              unfold vFin vStep
              rw [if_neg g, if_neg q6, if_neg e3]
            · unfold wFin wStep
              rw [if_neg g, if_neg q6, if_neg e3]
        · have q6' : vBeg m (N 2 (12 * p + n)) 5 = 6 := by omega
          intro k _
          rw [h9]
          unfold vFin vStep
          rw [if_neg g, if_pos q6']
        · have q6' : vBeg m (N 2 (12 * p + n)) 5 = 6 := by omega
          rw [h9]
          unfold wFin wStep
          rw [if_neg g, if_pos q6']
  refine key c 0 M3 (by omega) ⟨fun q hq => by omega, fun q _ hq k => ?_, fun f hf => ?_, fun f hf => ?_, ?_, fun c i k a1 a2 a3 a4 => ?_⟩ ?_
  · subst e3
    simp only [up3]
    rw [if_neg (by omega), v1]
  · subst e3
    simp only [up3]
    rw [if_neg (by omega), z0 f hf]
    rfl
  · subst e3
    simp only [up3]
    rw [if_neg (by omega), y0 f hf]
  · subst e3
    simp only [up3]
    rw [if_neg (by omega), f0 _ _ _ (by omega)]
  · subst e3
    simp only [up3]
    rw [if_neg (by omega), f0 _ _ _ a2]
  · subst e3
    rw [up3_s]
end CN
