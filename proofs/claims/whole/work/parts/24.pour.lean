/-! the class's fall: what is written down, and a whole month -/
def wdP : Nat → (Nat → Nat → Int) → Int → (Nat → Nat → Int)
  | 0, F, _ => F
  | n + 1, F, o => if wL o ≤ 0 then F else wdP n (up2 (up2 F n 2 (F n 2 - min (wL o) (wL (F n 2)))) n 6 (F n 6 + min (wL o) (wL (F n 2)))) (o - min (wL o) (wL (F n 2)))
def ovP (F : Nat → Nat → Int) (b : Int) : Nat → Int
  | 0 => -b - F 9 4
  | n + 1 => ovP F b n + F n 2
def begP (c : Nat) (F : Nat → Nat → Int) : Nat → Nat → Int := fun q k => if q < c ∧ k = 8 then (wL (F q 2 * wI (F q 0))).tdiv 10000 + F q 3 else F q k
def endP (c : Nat) (F : Nat → Nat → Int) : Nat → Nat → Int := fun q k => if q < c ∧ k = 3 then F q 8 else F q k
def startP (m : Int) (mo : Nat → Int) (F : Nat → Nat → Int) : Nat → Nat → Int :=
  if wI m ≠ 1 then tripP (mo 8) (up2 F 9 7 (F 9 7 + mo 8)) else tripP (mo 8) (up2 (up2 F 9 8 (mo 6)) 9 7 (F 9 7 + mo 8))
def pourC (mo : Nat → Int) (F : Nat → Nat → Int) : Int := (mo 0 + mo 1 + mo 2 + mo 3 - mo 4) + F 9 4
def pourB (c : Nat) (m : Int) (mo : Nat → Int) (F : Nat → Nat → Int) : Nat → Nat → Int := up2 (begP c (startP m mo F)) 9 4 0
def pourS (c : Nat) (m : Int) (mo : Nat → Int) (cnt : Int) (R F : Nat → Nat → Int) : Nat → Nat → Int := endP c (stepsP cnt m mo R (pourB c m mo F) (pourC mo F) 10).1
def pourF (c : Nat) (m : Int) (mo : Nat → Int) (cnt : Int) (R F : Nat → Nat → Int) : Nat → Nat → Int := wdP c (pourS c m mo cnt R F) (ovP (pourS c m mo cnt R F) (mo 7) c)
theorem stepsP_mo {cnt m : Int} {mo mo' : Nat → Int} {R F : Nat → Nat → Int} {cash : Int} (h1 : mo 1 = mo' 1) (h6 : mo 6 = mo' 6) (h7 : mo 7 = mo' 7) (h9 : mo 9 = mo' 9) : ∀ i, stepsP cnt m mo R F cash i = stepsP cnt m mo' R F cash i := by
  have a : ∀ F r, passP F r m mo = passP F r m mo' := by
    intro F r
    unfold passP fieldP
    rw [h7, h9]
  have b : ∀ F r cash, wishP F r mo cash = wishP F r mo' cash := by
    intro F r cash
    unfold wishP
    rw [h1, h6]
  intro i
  induction i with
  | zero => rfl
  | succ i ih =>
    unfold stepsP
    rw [ih]
    unfold stepF stepP
    simp only [a, b]
theorem tookP_mo {cnt m : Int} {mo mo' : Nat → Int} {R F : Nat → Nat → Int} {cash : Int} (h1 : mo 1 = mo' 1) (h6 : mo 6 = mo' 6) (h7 : mo 7 = mo' 7) (h9 : mo 9 = mo' 9) (i : Nat) : tookP cnt m mo R F cash i = tookP cnt m mo' R F cash i := by
  have a : ∀ F r, passP F r m mo = passP F r m mo' := by
    intro F r
    unfold passP fieldP
    rw [h7, h9]
  have b : ∀ F r cash, wishP F r mo cash = wishP F r mo' cash := by
    intro F r cash
    unfold wishP
    rw [h1, h6]
  unfold tookP
  rw [stepsP_mo h1 h6 h7 h9]
  unfold stepP
  simp only [a, b]
section WN
variable {G : GT} {f j o : Nat} {N : NN} {K : NN → Prop}
theorem s_wdOne {p : Nat} {v : Int} (hp : p < 5) (hf : f < 2) (k : ∀ N', VF N' f = up2 (up2 (VF N f) p 2 (VF N f p 2 - v)) p 6 (VF N f p 6 + v) → (∀ c i k, ¬ (c = 5 ∧ 5 * f ≤ i ∧ i < 5 * f + 5) → N' c i k = N c i k) → K N') : C_X5_writeDown G (5 * f + p) v N K := by
  refine vc_X5_writeDown (by omega) ?_
  intro M1 h1 M2 h2
  have e2 : M1 5 (5 * f + p) 6 = N 5 (5 * f + p) 6 := by subst h1; simp [up3]
  rw [e2] at h2
  subst h1 h2
  refine k _ ?_ (fun c i k h => ?_)
  · rw [VF_u5 hp, VF_u5 hp, VF5 hp, VF5 hp]
  · simp only [up3]
    repeat rw [if_neg (by omega)]
theorem s_writeDown {b : Int} {c : Nat} (hf : f < 2) (hc : N 0 f 1 = (c : Int)) (c5 : c ≤ 5) (k : ∀ N', VF N' f = wdP c (VF N f) (ovP (VF N f) b c) → (∀ c i k, ¬ (c = 5 ∧ 5 * f ≤ i ∧ i < 5 * f + 5) → N' c i k = N c i k) → K N') : C_X0_writeDown G f b N K := by
  refine vc_X0_writeDown hf ?_
  have e0 : -b - N 0 f 4 = ovP (VF N f) b 0 := rfl
  have down : ∀ (n : Nat) (M : NN) (ov l : Int), l = n - 1 → n ≤ 5 → (∀ c i k, ¬ (c = 5 ∧ 5 * f ≤ i ∧ i < 5 * f + 5) → M c i k = N c i k) → (∀ N', VF N' f = wdP n (VF M f) ov → (∀ c i k, ¬ (c = 5 ∧ 5 * f ≤ i ∧ i < 5 * f + 5) → N' c i k = N c i k) → K N') → W_X0_writeDown G K 47 [(0, vR 0 f), (3, vL ov), (5, vI l)] [] M := by
    intro n
    induction n with
    | zero =>
      intro M ov l hl _ fr k
      refine vc_X0_writeDown_47 hf ?_
      rw [wI_id (x := l) (by omega) (by omega)]
      exact ⟨fun _ => k M rfl fr, fun q => by omega⟩
    | succ n ih =>
      intro M ov l hl h5 fr k
      refine vc_X0_writeDown_47 hf ?_
      rw [wI_id (x := l) (by omega) (by omega)]
      refine ⟨fun q => by omega, fun _ => ⟨fun q => k M ?_ fr, fun q => ⟨n, by omega, by omega, n, by omega, by omega, s_wdOne (by omega) hf (fun N3 v3 f3 => ih N3 _ _ (by omega) (by omega) (fun c i k h => by rw [f3 c i k h, fr c i k h]) (fun N' v' f' => k N' ?_ f'))⟩⟩⟩
      · unfold wdP
        rw [if_pos q]
      · rw [v', v3]
        conv => rhs; unfold wdP
        rw [if_neg q, VF5 (by omega)]
  have up : ∀ (d n : Nat), n + d = c → W_X0_writeDown G K 11 [(0, vR 0 f), (3, vL (ovP (VF N f) b n)), (5, vI (n : Int))] [] N := by
    intro d
    induction d with
    | zero =>
      intro n hn
      refine vc_X0_writeDown_11 hf ?_
      rw [hc, wI_id (x := (c : Int)) (by omega) (by omega), wI_id (x := (n : Int)) (by omega) (by omega)]
      refine ⟨fun _ => ?_, fun q => by omega⟩
      have : n = c := by omega
      subst this
      exact down n N _ _ rfl c5 (fun _ _ _ _ => rfl) k
    | succ d ih =>
      intro n hn
      refine vc_X0_writeDown_11 hf ?_
      rw [hc, wI_id (x := (c : Int)) (by omega) (by omega), wI_id (x := (n : Int)) (by omega) (by omega)]
      refine ⟨fun q => by omega, fun _ => ⟨n, rfl, by omega, ?_⟩⟩
      have := ih (n + 1) (by omega)
      rw [show ovP (VF N f) b (n + 1) = ovP (VF N f) b n + N 5 (5 * f + n) 2 from by rw [← VF5 (N := N) (f := f) (q := n) (by omega)]; rfl] at this
      exact this
  rw [e0]
  exact up c 0 (by omega)
theorem begP_0 {F : Nat → Nat → Int} : begP 0 F = F := by
  funext q k
  unfold begP
  rw [if_neg (by omega)]
theorem begP_s {F : Nat → Nat → Int} {n : Nat} : up2 (begP n F) n 8 ((wL (F n 2 * wI (F n 0))).tdiv 10000 + F n 3) = begP (n + 1) F := by
  funext q k
  unfold begP up2
  dsimp only
  by_cases e : q = n ∧ k = 8
  · rw [if_pos e, if_pos (by omega), e.1]
  · rw [if_neg e]
    by_cases e2 : q < n ∧ k = 8
    · rw [if_pos e2, if_pos (by omega)]
    · rw [if_neg e2, if_neg (by omega)]
theorem begP_n {F : Nat → Nat → Int} {n q k : Nat} (h : ¬ (q < n ∧ k = 8)) : begP n F q k = F q k := if_neg h
theorem endP_0 {F : Nat → Nat → Int} : endP 0 F = F := by
  funext q k
  unfold endP
  rw [if_neg (by omega)]
theorem endP_s {F : Nat → Nat → Int} {n : Nat} : up2 (endP n F) n 3 (F n 8) = endP (n + 1) F := by
  funext q k
  unfold endP up2
  dsimp only
  by_cases e : q = n ∧ k = 3
  · rw [if_pos e, if_pos (by omega), e.1]
  · rw [if_neg e]
    by_cases e2 : q < n ∧ k = 3
    · rw [if_pos e2, if_pos (by omega)]
    · rw [if_neg e2, if_neg (by omega)]
theorem trip_o {loss : Int} {F : Nat → Nat → Int} {q k : Nat} (h : ¬ (q = 9 ∧ (k = 5 ∨ k = 6))) : tripP loss F q k = F q k := by
  unfold tripP up2
  rw [if_neg (by omega), if_neg (by omega)]
theorem start_o {m : Int} {mo : Nat → Int} {F : Nat → Nat → Int} {q k : Nat} (h : ¬ (q = 9 ∧ 5 ≤ k ∧ k ≤ 8)) : startP m mo F q k = F q k := by
  unfold startP
  split
  · rw [trip_o (by omega)]
    unfold up2
    rw [if_neg (by omega)]
  · rw [trip_o (by omega)]
    unfold up2
    rw [if_neg (by omega), if_neg (by omega)]
theorem tripP_5 {loss : Int} {F : Nat → Nat → Int} : tripP loss F 9 5 = 0 ∨ tripP loss F 9 5 = 1 := by
  show onP loss F = 0 ∨ onP loss F = 1
  unfold onP
  split
  · split
    · exact .inl rfl
    · split
      · exact .inl rfl
      · exact .inr rfl
  · split
    · exact .inl rfl
    · exact .inr rfl
theorem startP_5 {m : Int} {mo : Nat → Int} {F : Nat → Nat → Int} : startP m mo F 9 5 = 0 ∨ startP m mo F 9 5 = 1 := by
  unfold startP
  split
  · exact tripP_5
  · exact tripP_5
theorem pourS_1 {c : Nat} {m : Int} {mo : Nat → Int} {cnt : Int} {R F : Nat → Nat → Int} (h : 0 ≤ F 9 1 ∧ F 9 1 ≤ 5) (hc : c ≤ 5) : pourS c m mo cnt R F 9 1 = F 9 1 := by
  have e : pourB c m mo F 9 1 = F 9 1 := by
    unfold pourB begP up2
    dsimp only
    rw [if_neg (by omega), if_neg (by omega), start_o (by omega)]
  show endP c _ 9 1 = _
  unfold endP
  rw [if_neg (by omega), stepsP_1 (by rw [e]; exact h), e]
theorem s_pour {m : Int} {c : Nat} (hf : f < 2) (hj : j < 62) (ho : o < 6) (hc : N 0 f 1 = (c : Int)) (c5 : c ≤ 5)
    (k : ∀ N', VF N' f = pourF c m (N 3 j) (N 4 o 1) (fun i => N 33 (10 * o + i)) (VF N f) → N' 3 j 5 = pourC (N 3 j) (VF N f) → N' 3 j 10 = VF N' f 9 4 → N' 3 j 11 = startP m (N 3 j) (VF N f) 9 5 →
      (∀ i, i < 10 → N' 28 j i = tookP (N 4 o 1) m (N 3 j) (fun i => N 33 (10 * o + i)) (pourB c m (N 3 j) (VF N f)) (pourC (N 3 j) (VF N f)) i) →
      (∀ c i k, ¬ (c = 0 ∧ i = f) → ¬ (c = 5 ∧ 5 * f ≤ i ∧ i < 5 * f + 5) → ¬ (c = 28 ∧ i = j ∧ k < 10) → ¬ (c = 3 ∧ i = j ∧ (k = 5 ∨ k = 10 ∨ k = 11)) → N' c i k = N c i k) → K N') : C_X0_pour G f m j o N K := by
  refine vc_X0_pour hf hj ho ?_
  -- the papers end
  have last : ∀ (d n : Nat) (S M : NN), n + d = c → S 0 f 1 = (c : Int) → VF M f = endP n (VF S f) → (∀ c i k, ¬ (c = 5 ∧ 5 * f ≤ i ∧ i < 5 * f + 5) → M c i k = S c i k) →
      (∀ N', VF N' f = wdP c (endP c (VF S f)) (ovP (endP c (VF S f)) (S 3 j 7) c) → N' 3 j 10 = VF N' f 9 4 → (∀ c i k, ¬ (c = 5 ∧ 5 * f ≤ i ∧ i < 5 * f + 5) → ¬ (c = 3 ∧ i = j ∧ k = 10) → N' c i k = S c i k) → K N') →
      W_X0_pour G K 98 [(0, vR 0 f), (2, vR 3 j), (4, vI (n : Int))] [] M := by
    intro d
    induction d with
    | zero =>
      intro n S M hn hS hV fr k
      have en : n = c := by omega
      subst en
      refine vc_X0_pour_98 hf hj ?_
      rw [fr 0 f 1 (by omega), hS, wI_id (x := (n : Int)) (by omega) (by omega)]
      refine ⟨fun _ => ?_, fun q => by omega⟩
      rw [fr 3 j 7 (by omega)]
      refine s_writeDown hf (by rw [fr 0 f 1 (by omega), hS]) c5 (fun N1 v1 f1 M2 e2 => ?_)
      have V2 : VF M2 f = VF N1 f := VF_un fun c i k h => by subst e2; exact up3_o _ _ _ (by omega)
      refine k M2 (by rw [V2, v1, hV]) ?_ (fun c i k a b => ?_)
      · rw [V2, VF9]
        subst e2
        exact up3_s
      · subst e2
        rw [show up3 N1 3 j 10 _ c i k = N1 c i k from if_neg (by omega), f1 _ _ _ a, fr _ _ _ a]
    | succ d ih =>
      intro n S M hn hS hV fr k
      refine vc_X0_pour_98 hf hj ?_
      rw [fr 0 f 1 (by omega), hS, wI_id (x := (n : Int)) (by omega) (by omega), wI_id (x := (c : Int)) (by omega) (by omega)]
      refine ⟨fun q => by omega, fun _ => ⟨n, rfl, by omega, vc_X5_end (by omega) (fun M1 h1 => ih (n + 1) S M1 (by omega) hS ?_ (fun c i k a => ?_) k)⟩⟩
      · subst h1
        rw [VF_u5 (by omega), ← endP_s, hV, ← VF5 (N := M) (f := f) (q := n) (by omega), hV]
        congr 1
        unfold endP
        rw [if_neg (by omega)]
      · subst h1
        rw [show up3 M 5 (5 * f + n) 3 _ c i k = M c i k from if_neg (by omega), fr _ _ _ a]
  have mid : ∀ (d n : Nat) (S M : NN), n + d = c → S 0 f 1 = (c : Int) → VF M f = begP n (VF S f) → (∀ c i k, ¬ (c = 5 ∧ 5 * f ≤ i ∧ i < 5 * f + 5) → M c i k = S c i k) →
      (∀ q, q < 9 → VF S f 9 4 = VF N f 9 4 ∧ VF S f = startP m (N 3 j) (VF N f)) → S 3 j 11 = startP m (N 3 j) (VF N f) 9 5 → (∀ c i k, ¬ (c = 0 ∧ i = f) → ¬ (c = 5 ∧ 5 * f ≤ i ∧ i < 5 * f + 5) → ¬ (c = 28 ∧ i = j ∧ k < 10) → ¬ (c = 3 ∧ i = j ∧ k = 11) → S c i k = N c i k) →
      W_X0_pour G K 45 [(0, vR 0 f), (1, vI m), (2, vR 3 j), (3, vR 4 o), (4, vI (n : Int))] [] M := by
    intro d
    induction d with
    | zero =>
      intro n S M hn hS hV fr hs h11 fr2
      have en : n = c := by omega
      subst en
      obtain ⟨hs4, hs⟩ := hs 0 (by decide)
      refine vc_X0_pour_45 hf hj ho ?_
      rw [fr 0 f 1 (by omega), hS, wI_id (x := (n : Int)) (by omega) (by omega)]
      refine ⟨fun _ => vc_X3_collected hj (fun M2 e2 M3 e3 => ?_), fun q => by omega⟩
      have fm : ∀ k, k ≠ 11 → M 3 j k = N 3 j k := fun k hk => by rw [fr _ _ _ (by omega), fr2 _ _ _ (by omega) (by omega) (by omega) (by omega)]
      have ec : M 3 j 0 + M 3 j 1 + M 3 j 2 + M 3 j 3 - M 3 j 4 + M 0 f 4 = pourC (N 3 j) (VF N f) := by
        rw [fm 0 (by decide), fm 1 (by decide), fm 2 (by decide), fm 3 (by decide), fm 4 (by decide), fr 0 f 4 (by omega)]
        unfold pourC
        rw [← hs4, VF9]
      rw [ec] at e2
      have V3 : VF M3 f = pourB n m (N 3 j) (VF N f) := by
        subst e3
        rw [VF_u9, VF_un (N := M) fun c i k h => by subst e2; exact up3_o _ _ _ (by omega), hV, hs]
        rfl
      have g3 : ∀ c i k, ¬ (c = 0 ∧ i = f) → ¬ (c = 5 ∧ 5 * f ≤ i ∧ i < 5 * f + 5) → ¬ (c = 28 ∧ i = j ∧ k < 10) → ¬ (c = 3 ∧ i = j ∧ (k = 11 ∨ k = 5)) → M3 c i k = N c i k := by
        intro c i k a1 a2 a3 a4
        subst e3
        subst e2
        rw [show up3 _ 0 f 4 0 c i k = up3 M 3 j 5 _ c i k from if_neg (by omega), show up3 M 3 j 5 _ c i k = M c i k from if_neg (by omega), fr _ _ _ a2, fr2 _ _ _ a1 a2 a3 (by omega)]
      have g5 : M3 3 j 5 = pourC (N 3 j) (VF N f) := by subst e3; subst e2; simp [up3]
      have g11 : M3 3 j 11 = startP m (N 3 j) (VF N f) 9 5 := by
        rw [← h11, ← fr 3 j 11 (by omega)]
        subst e3; subst e2; simp [up3]
      have g1 : M3 0 f 1 = (n : Int) := by
        rw [← hS, ← fr 0 f 1 (by omega)]
        subst e3; subst e2; simp [up3]
      have ms : ∀ k, k ≠ 11 → k ≠ 5 → M3 3 j k = N 3 j k := fun k a b => g3 _ _ _ (by omega) (by omega) (by omega) (by omega)
      have m4 : M3 4 o 1 = N 4 o 1 := g3 _ _ _ (by omega) (by omega) (by omega) (by omega)
      have m33 : (fun i => M3 33 (10 * o + i)) = (fun i => N 33 (10 * o + i)) := funext fun i => funext fun k => g3 _ _ _ (by omega) (by omega) (by omega) (by omega)
      refine s_takeSteps hf hj ho (by omega) (fun N4 v4 t4 f4 => ?_)
      rw [stepsP_mo (ms 1 (by decide) (by decide)) (ms 6 (by decide) (by decide)) (ms 7 (by decide) (by decide)) (ms 9 (by decide) (by decide)), g5, m4, m33, V3] at v4
      have f1N : VF N f 9 1 = (n : Int) := hc
      have b1 : pourB n m (N 3 j) (VF N f) 9 1 = (n : Int) := by rw [← V3, VF9, g1]
      have n1 : N4 0 f 1 = (n : Int) := by
        have := congrFun (congrFun v4 9) 1
        rw [stepsP_1 (by omega), b1] at this
        exact this
      refine last n 0 N4 N4 (by omega) n1 (by rw [endP_0]) (fun _ _ _ _ => rfl) (fun N' vN' h10 fN' => ?_)
      have x7 : N4 3 j 7 = N 3 j 7 := by rw [f4 _ _ _ (by omega) (by omega) (by omega), ms 7 (by decide) (by decide)]
      rw [v4, x7] at vN'
      refine k N' vN' ?_ h10 ?_ (fun i hi => ?_) (fun c i k a1 a2 a3 a4 => ?_)
      · rw [fN' _ _ _ (by omega) (by omega), f4 _ _ _ (by omega) (by omega) (by omega), g5]
      · rw [fN' _ _ _ (by omega) (by omega), f4 _ _ _ (by omega) (by omega) (by omega), g11]
      · rw [fN' _ _ _ (by omega) (by omega), t4 i hi, tookP_mo (ms 1 (by decide) (by decide)) (ms 6 (by decide) (by decide)) (ms 7 (by decide) (by decide)) (ms 9 (by decide) (by decide)), g5, m4, m33, V3]
      · rw [fN' _ _ _ a2 (by omega), f4 _ _ _ a1 a2 a3, g3 _ _ _ a1 a2 a3 (by omega)]
    | succ d ih =>
      intro n S M hn hS hV fr hs h11 fr2
      refine vc_X0_pour_45 hf hj ho ?_
      rw [fr 0 f 1 (by omega), hS, wI_id (x := (n : Int)) (by omega) (by omega), wI_id (x := (c : Int)) (by omega) (by omega)]
      refine ⟨fun q => by omega, fun _ => ⟨n, rfl, by omega, vc_X5_begin (by omega) (fun M1 h1 => ih (n + 1) S M1 (by omega) hS ?_ (fun c i k a => ?_) hs h11 fr2)⟩⟩
      · subst h1
        rw [VF_u5 (by omega), ← begP_s, hV, ← VF5 (N := M) (f := f) (q := n) (by omega), ← VF5 (N := M) (f := f) (q := n) (by omega), ← VF5 (N := M) (f := f) (q := n) (by omega), hV, begP_n (by omega), begP_n (by omega), begP_n (by omega)]
      · subst h1
        rw [show up3 M 5 (5 * f + n) 8 _ c i k = M c i k from if_neg (by omega), fr _ _ _ a]
  have beg : ∀ (S M : NN), VF S f = startP m (N 3 j) (VF N f) → (∀ c i k, ¬ (c = 0 ∧ i = f) → S c i k = N c i k) → M = up3 S 3 j 11 (S 0 f 5) → W_X0_pour G K 45 [(0, vR 0 f), (1, vI m), (2, vR 3 j), (3, vR 4 o), (4, vI 0)] [] M := by
    intro S M hV fr e
    have VM : VF M f = VF S f := VF_un fun c i k h => by subst e; exact up3_o _ _ _ (by omega)
    refine mid c 0 M M (by omega) ?_ (by rw [begP_0]) (fun _ _ _ _ => rfl) (fun _ _ => ⟨?_, by rw [VM, hV]⟩) ?_ (fun c i k a1 a2 a3 a4 => ?_)
    · have := congrFun (congrFun (VM.trans hV) 9) 1
      rw [start_o (by omega)] at this
      exact this.trans hc
    · rw [VM, hV, start_o (by omega)]
    · rw [← hV, VF9]
      subst e
      exact up3_s
    · subst e
      rw [show up3 S 3 j 11 _ c i k = S c i k from if_neg (by omega), fr _ _ _ a1]
  have e5 : ∀ (S : NN), VF S f = startP m (N 3 j) (VF N f) → S 0 f 5 = 0 ∨ S 0 f 5 = 1 := by
    intro S h
    have : S 0 f 5 = startP m (N 3 j) (VF N f) 9 5 := by rw [← h]; rfl
    rw [this]
    exact startP_5
  refine ⟨fun q M1 e1 => ?_, fun q M4 e4 M5 e5' => ?_⟩
  · have x8 : M1 3 j 8 = N 3 j 8 := by subst e1; exact up3_o _ _ _ (by omega)
    rw [x8]
    refine s_turnTrip hf (fun S vS fS => ?_)
    have hV : VF S f = startP m (N 3 j) (VF N f) := by
      rw [vS, e1, VF_u9]
      unfold startP
      rw [if_pos q]
      rfl
    refine ⟨e5 S hV, fun M3 h3 => beg S M3 hV (fun c i k a => ?_) h3⟩
    rw [fS _ _ _ a]
    subst e1
    exact if_neg (by omega)
  · have x8 : M4 3 j 8 = N 3 j 8 := by subst e4; exact up3_o _ _ _ (by omega)
    have x7 : M4 0 f 7 = N 0 f 7 := by subst e4; exact up3_n (by omega)
    rw [x8, x7] at e5'
    have y8 : M5 3 j 8 = N 3 j 8 := by rw [← x8]; subst e5'; exact up3_o _ _ _ (by omega)
    rw [y8]
    refine s_turnTrip hf (fun S vS fS => ?_)
    have hV : VF S f = startP m (N 3 j) (VF N f) := by
      rw [vS, e5', VF_u9, e4, VF_u9]
      unfold startP
      rw [if_neg q]
      rfl
    refine ⟨e5 S hV, fun M3 h3 => beg S M3 hV (fun c i k a => ?_) h3⟩
    rw [fS _ _ _ a]
    subst e5'
    subst e4
    rw [show up3 _ 0 f 7 _ c i k = up3 N 0 f 8 _ c i k from if_neg (by omega)]
    exact if_neg (by omega)
end WN
