/-! the class's fall: a month's cash is poured -/
def VF (N : NN) (f : Nat) : Nat → Nat → Int := fun q k => if q < 5 then N 5 (5 * f + q) k else if q = 9 then N 0 f k else 0
def up2 (F : Nat → Nat → Int) (q k : Nat) (v : Int) : Nat → Nat → Int := fun a b => if a = q ∧ b = k then v else F a b
theorem VF9 {N : NN} {f k : Nat} : VF N f 9 k = N 0 f k := rfl
theorem VF5 {N : NN} {f q k : Nat} (h : q < 5) : VF N f q k = N 5 (5 * f + q) k := if_pos h
theorem VF0 {N : NN} {f q k : Nat} (h : ¬ q < 5) (h9 : q ≠ 9) : VF N f q k = 0 := by
  unfold VF
  rw [if_neg h, if_neg h9]
theorem VF_u9 {N : NN} {f k : Nat} {v : Int} : VF (up3 N 0 f k v) f = up2 (VF N f) 9 k v := by
  funext a b
  show _ = if a = 9 ∧ b = k then v else VF N f a b
  by_cases h : a < 5
  · rw [VF5 h, VF5 h, if_neg (by omega)]
    simp [up3]
  · by_cases h9 : a = 9
    · subst h9
      rw [VF9, VF9]
      simp [up3]
    · rw [VF0 h h9, VF0 h h9, if_neg (by omega)]
theorem VF_u5 {N : NN} {f q k : Nat} {v : Int} (hq : q < 5) : VF (up3 N 5 (5 * f + q) k v) f = up2 (VF N f) q k v := by
  funext a b
  show _ = if a = q ∧ b = k then v else VF N f a b
  by_cases h : a < 5
  · rw [VF5 h, VF5 h]
    simp only [up3]
    by_cases e : a = q ∧ b = k
    · obtain ⟨rfl, rfl⟩ := e
      simp
    · rw [if_neg e, if_neg (by omega)]
  · by_cases h9 : a = 9
    · subst h9
      rw [VF9, VF9, if_neg (by omega)]
      simp [up3]
    · rw [VF0 h h9, VF0 h h9, if_neg (by omega)]
theorem VF_un {N M : NN} {f : Nat} (h : ∀ c i k, (c = 0 ∧ i = f) ∨ (c = 5 ∧ 5 * f ≤ i ∧ i < 5 * f + 5) → M c i k = N c i k) : VF M f = VF N f := by
  funext a b
  unfold VF
  by_cases h5 : a < 5
  · rw [if_pos h5, if_pos h5]
    exact h _ _ _ (by omega)
  · rw [if_neg h5, if_neg h5]
    by_cases h9 : a = 9
    · rw [if_pos h9, if_pos h9]
      exact h _ _ _ (by omega)
    · rw [if_neg h9, if_neg h9]
def lostP (F : Nat → Nat → Int) : Int := if wL (F 9 8) ≤ 0 then 0 else (wL (F 9 7 * 1000)).tdiv (wL (F 9 8))
def quP (loss : Int) (F : Nat → Nat → Int) : Int := if wL loss ≤ 0 then F 9 6 + 1 else 0
def onP (loss : Int) (F : Nat → Nat → Int) : Int := if wI (F 9 5) = 0 then (if wL loss ≤ 0 then 0 else if wL (lostP F) ≤ wL (wI (F 9 2)) then 0 else 1) else if wI (F 9 3) ≤ wI (quP loss F) then 0 else 1
def tripP (loss : Int) (F : Nat → Nat → Int) : Nat → Nat → Int := up2 (up2 F 9 6 (quP loss F)) 9 5 (onP loss F)
def coverP (F : Nat → Nat → Int) (pooled : Int) : Int := if wI (F 9 1) ≤ 0 then 9999 else if wL (F 0 2) ≤ 0 then 9999 else min 9999 (wL ((wL (100 * pooled)).tdiv (wL (F 0 2))))
def fieldP (F : Nat → Nat → Int) (f m : Int) (mo : Nat → Int) : Int := if wI f = 0 then wI m else if wI f = 1 then wI (mo 9) else if wI f = 2 then lostP F else if wI f = 3 then coverP F (mo 7) else if wI (F 9 5) = 0 then 0 else 1
def passP (F : Nat → Nat → Int) (r : Nat → Int) (m : Int) (mo : Nat → Int) : Bool :=
  if wI (r 3) = 0 then true else if wI (r 3) = 1 then decide (¬ wL (wI (r 5)) ≤ wL (fieldP F (r 4) m mo)) else if wI (r 3) = 2 then decide (¬ wL (fieldP F (r 4) m mo) ≠ wL (wI (r 5))) else if wI (r 3) = 3 then decide (¬ wL (fieldP F (r 4) m mo) < wL (wI (r 5))) else decide (¬ wL (fieldP F (r 4) m mo) = wL (wI (r 5)))
def pgP (F : Nat → Nat → Int) (r : Nat → Int) : Option Nat := if wI (r 1) < 0 then none else if wI (F 9 1) ≤ wI (r 1) then none else some (wI (r 1)).toNat
def wishP (F : Nat → Nat → Int) (r : Nat → Int) (mo : Nat → Int) (cash : Int) : Int :=
  if wI (r 0) = 0 then (wL (mo 6 * wI (r 2))).tdiv 10000
  else if wI (r 0) = 1 then (match pgP F r with | none => 0 | some p => F p 8)
  else if wI (r 0) = 2 then (match pgP F r with | none => 0 | some p => F p 2)
  else if wI (r 0) = 3 then (match pgP F r with | none => 0 | some p => min (wL (F p 2)) (wL ((wL (mo 1 * wI (r 2))).tdiv 100)))
  else if wI (r 0) = 4 then max 0 (wL (wI (r 2) - F 9 4)) else cash
def payP (F : Nat → Nat → Int) (p : Nat) (v m : Int) : Nat → Nat → Int := up2 (up2 (up2 F p 2 (F p 2 - v)) p 5 (F p 5 + v)) p 7 (F p 7 + v * wI m)
def giveP (F : Nat → Nat → Int) (r : Nat → Int) (v m : Int) : Nat → Nat → Int :=
  if wI (r 0) = 1 then (match pgP F r with | none => F | some p => up2 (up2 F p 8 (F p 8 - v)) p 4 (F p 4 + v))
  else if wI (r 0) = 2 ∨ wI (r 0) = 3 then (match pgP F r with | none => F | some p => payP F p v m)
  else if wI (r 0) = 4 then up2 F 9 4 (F 9 4 + v) else if wI (r 0) = 5 then up2 F 9 9 (F 9 9 + v) else F
section FN
variable {G : GT} {f j o : Nat} {N : NN} 
theorem s_lostShare {K : Int → NN → Prop} (hf : f < 2) (k : K (lostP (VF N f)) N) : C_X0_lostShare G f N K := by
  refine vc_X0_lostShare hf ?_
  unfold lostP at k
  rw [VF9, VF9] at k
  refine ⟨fun q => ?_, fun q => ⟨by omega, ?_⟩⟩
  · rwa [if_pos q] at k
  · rwa [if_neg q] at k
theorem s_turnTrip {K : NN → Prop} {loss : Int} (hf : f < 2) (k : ∀ N', VF N' f = tripP loss (VF N f) → (∀ c i k, ¬ (c = 0 ∧ i = f) → N' c i k = N c i k) → K N') : C_X0_turnTrip G f loss N K := by
  have fin : ∀ q r M1 M2, q = quP loss (VF N f) → r = onP loss (VF N f) → M1 = up3 N 0 f 6 q → M2 = up3 M1 0 f 5 r → K M2 := by
    intro q r M1 M2 hq hr h1 h2
    subst hq hr h1 h2
    refine k _ (by rw [VF_u9, VF_u9]; rfl) (fun c i k h => ?_)
    simp only [up3]
    rw [if_neg (by omega), if_neg (by omega)]
  have lo : ∀ q M1, M1 = up3 N 0 f 6 q → lostP (VF M1 f) = lostP (VF N f) ∧ (∀ k, k ≠ 6 → M1 0 f k = N 0 f k) ∧ M1 0 f 6 = q := by
    intro q M1 h1
    subst h1
    refine ⟨by rw [VF_u9]; rfl, fun k hk => by simp [up3, hk], by simp [up3]⟩
  have e5 : VF N f 9 5 = N 0 f 5 := rfl
  have e3 : VF N f 9 3 = N 0 f 3 := rfl
  have e2 : VF N f 9 2 = N 0 f 2 := rfl
  have e6 : VF N f 9 6 = N 0 f 6 := rfl
  refine vc_X0_turnTrip hf ?_
  refine ⟨fun q M1 h1 => ?_, fun q M1 h1 => ?_⟩
  all_goals obtain ⟨l1, l2, l3⟩ := lo _ M1 h1
  all_goals rw [l2 5 (by decide), l2 3 (by decide), l3]
  · have hq : N 0 f 6 + 1 = quP loss (VF N f) := by unfold quP; rw [if_pos q, e6]
    refine ⟨fun a => ⟨fun b M2 h2 => fin _ _ _ _ hq ?_ h1 h2, fun b => absurd q b⟩, fun a => ⟨fun b M2 h2 => fin _ _ _ _ hq ?_ h1 h2, fun b M2 h2 => fin _ _ _ _ hq ?_ h1 h2⟩⟩
    · unfold onP; rw [e5, if_pos a, if_pos b]
    · unfold onP; rw [e5, if_neg a, e3, ← hq, if_pos b]
    · unfold onP; rw [e5, if_neg a, e3, ← hq, if_neg b]
  · have hq : 0 = quP loss (VF N f) := by unfold quP; rw [if_neg q]
    refine ⟨fun a => ⟨fun b => absurd b q, fun b => s_lostShare hf ?_⟩, fun a => ⟨fun b M2 h2 => fin _ _ _ _ hq ?_ h1 h2, fun b M2 h2 => fin _ _ _ _ hq ?_ h1 h2⟩⟩
    · rw [l1, l2 2 (by decide)]
      refine ⟨fun c M2 h2 => fin _ _ _ _ hq ?_ h1 h2, fun c M2 h2 => fin _ _ _ _ hq ?_ h1 h2⟩
      · unfold onP; rw [e5, if_pos a, if_neg b, e2, if_pos c]
      · unfold onP; rw [e5, if_pos a, if_neg b, e2, if_neg c]
    · unfold onP; rw [e5, if_neg a, e3, ← hq, if_pos b]
    · unfold onP; rw [e5, if_neg a, e3, ← hq, if_neg b]
theorem s_cover {K : Int → NN → Prop} {b : Int} (hf : f < 2) (k : K (coverP (VF N f) b) N) : C_X0_cover G f b N K := by
  refine vc_X0_cover hf ?_
  unfold coverP at k
  rw [VF9, VF5 (by decide)] at k
  refine ⟨fun q => ?_, fun q => ⟨fun q2 => ?_, fun q2 => ⟨by omega, ?_⟩⟩⟩
  · rwa [if_pos q] at k
  · rwa [if_neg q, if_pos q2] at k
  · rwa [if_neg q, if_neg q2] at k
theorem s_field {K : Int → NN → Prop} {a m : Int} (hf : f < 2) (hj : j < 62) (k : K (fieldP (VF N f) a m (N 3 j)) N) : C_X0_field G f a m j N K := by
  refine vc_X0_field hf hj ?_
  unfold fieldP at k
  rw [VF9] at k
  refine ⟨fun q => ?_, fun q => ?_, fun q => s_lostShare hf ?_, fun q => s_cover hf ?_, fun q => ⟨fun q2 => ?_, fun q2 => ?_⟩⟩
  · rwa [if_pos q] at k
  · rwa [if_neg (by omega), if_pos q] at k
  · rwa [if_neg (by omega), if_neg (by omega), if_pos q] at k
  · rwa [if_neg (by omega), if_neg (by omega), if_neg (by omega), if_pos q] at k
  · rwa [if_neg (by omega), if_neg (by omega), if_neg (by omega), if_neg (by omega), if_pos q2] at k
  · rwa [if_neg (by omega), if_neg (by omega), if_neg (by omega), if_neg (by omega), if_neg q2] at k
theorem s_passes {K : Int → NN → Prop} {m : Int} {r : Nat} (hf : f < 2) (hr : r < 60) (hj : j < 62) (k1 : passP (VF N f) (N 33 r) m (N 3 j) = true → K 1 N) (k0 : ¬ passP (VF N f) (N 33 r) m (N 3 j) = true → K 0 N) : C_X0_passes G f r m j N K := by
  refine vc_X0_passes hf hr hj ?_
  unfold passP at k0 k1
  refine ⟨fun q => s_field hf hj ⟨fun q1 => ⟨fun c => k0 ?_, fun c => k1 ?_⟩, fun q1 => ⟨fun c => k0 ?_, fun c => k1 ?_⟩, fun q1 => ⟨fun c => k0 ?_, fun c => k1 ?_⟩, fun q1 => ⟨fun c => k0 ?_, fun c => k1 ?_⟩⟩, fun q => k1 ?_⟩
  · rw [if_neg q, if_pos q1]; exact fun h => decide_eq_true_iff.mp h c
  · rw [if_neg q, if_pos q1]; exact decide_eq_true_iff.mpr c
  · rw [if_neg q, if_neg (by omega), if_pos q1]; exact fun h => decide_eq_true_iff.mp h c
  · rw [if_neg q, if_neg (by omega), if_pos q1]; exact decide_eq_true_iff.mpr c
  · rw [if_neg q, if_neg (by omega), if_neg (by omega), if_pos q1]; exact fun h => decide_eq_true_iff.mp h c
  · rw [if_neg q, if_neg (by omega), if_neg (by omega), if_pos q1]; exact decide_eq_true_iff.mpr c
  · rw [if_neg q, if_neg (by omega), if_neg (by omega), if_neg (by omega)]; exact fun h => decide_eq_true_iff.mp h c
  · rw [if_neg q, if_neg (by omega), if_neg (by omega), if_neg (by omega)]; exact decide_eq_true_iff.mpr c
  · rw [if_pos (Classical.not_not.mp q)]
theorem s_paperOf {K : Option Nat → NN → Prop} {r : Nat} (hf : f < 2) (hr : r < 60) (hc : 0 ≤ N 0 f 1 ∧ N 0 f 1 ≤ 5) (k0 : pgP (VF N f) (N 33 r) = none → K none N) (k1 : ∀ p, p < 5 → pgP (VF N f) (N 33 r) = some p → K (some (5 * f + p)) N) : C_X0_paperOf G f r N K := by
  refine vc_X0_paperOf hf hr ?_
  have e9 : VF N f 9 1 = N 0 f 1 := rfl
  have ec := wI_id (x := N 0 f 1) (by omega) (by omega)
  unfold pgP at k0 k1
  rw [e9, ec] at k0 k1
  rw [ec]
  refine ⟨fun q => k0 (if_pos q), fun q => ⟨fun q2 => k0 ?_, fun q2 => ⟨(wI (N 33 r 1)).toNat, by omega, by omega, by omega, k1 _ (by omega) (by rw [if_neg q, if_neg q2])⟩⟩⟩
  · rw [if_neg q, if_pos q2]
theorem s_wish {K : Int → NN → Prop} {r : Nat} {cash : Int} (hf : f < 2) (hr : r < 60) (hj : j < 62) (hc : 0 ≤ N 0 f 1 ∧ N 0 f 1 ≤ 5) (k : K (wishP (VF N f) (N 33 r) (N 3 j) cash) N) : C_X0_wish G f r j cash N K := by
  refine vc_X0_wish hf hr hj (s_paperOf hf hr hc (fun e => ?_) (fun p hp e => ?_))
  all_goals unfold wishP at k
  all_goals rw [e] at k
  · refine ⟨fun _ => ?_, fun p h => by simp at h⟩
    refine ⟨fun q => ?_, fun q => ?_, fun q => ?_, fun q => ?_, fun q => ?_, fun q => ?_⟩
    · rwa [if_pos q] at k
    · rwa [if_neg (by omega), if_pos q] at k
    · rwa [if_neg (by omega), if_neg (by omega), if_pos q] at k
    · rwa [if_neg (by omega), if_neg (by omega), if_neg (by omega), if_pos q] at k
    · rwa [if_neg (by omega), if_neg (by omega), if_neg (by omega), if_neg (by omega), if_pos q] at k
    · rwa [if_neg (by omega), if_neg (by omega), if_neg (by omega), if_neg (by omega), if_neg (by omega)] at k
  · refine ⟨fun h => by simp at h, fun p' h => ?_⟩
    have h' : p' = 5 * f + p := (Option.some.inj h).symm
    subst h'
    simp only [VF5 hp] at k
    refine ⟨fun q => ?_, fun q => ?_, fun q => ?_, fun q => ?_, fun q => ?_, fun q => ?_⟩
    · rwa [if_pos q] at k
    · rwa [if_neg (by omega), if_pos q] at k
    · rwa [if_neg (by omega), if_neg (by omega), if_pos q] at k
    · rwa [if_neg (by omega), if_neg (by omega), if_neg (by omega), if_pos q] at k
    · rwa [if_neg (by omega), if_neg (by omega), if_neg (by omega), if_neg (by omega), if_pos q] at k
    · rwa [if_neg (by omega), if_neg (by omega), if_neg (by omega), if_neg (by omega), if_neg (by omega)] at k
theorem s_payPrincipal {K : NN → Prop} {p : Nat} {v m : Int} (hp : p < 5) (hf : f < 2) (k : ∀ N', VF N' f = payP (VF N f) p v m → (∀ c i k, ¬ (c = 5 ∧ 5 * f ≤ i ∧ i < 5 * f + 5) → N' c i k = N c i k) → K N') : C_X5_payPrincipal G (5 * f + p) v m N K := by
  refine vc_X5_payPrincipal (by omega) ?_
  intro M1 h1 M2 h2 M3 h3
  have e2 : M1 5 (5 * f + p) 5 = N 5 (5 * f + p) 5 := by subst h1; simp [up3]
  have e3 : M2 5 (5 * f + p) 7 = N 5 (5 * f + p) 7 := by subst h2; subst h1; simp [up3]
  rw [e2] at h2
  rw [e3] at h3
  subst h1 h2 h3
  refine k _ ?_ (fun c i k h => ?_)
  · rw [VF_u5 hp, VF_u5 hp, VF_u5 hp]
    unfold payP
    rw [VF5 hp, VF5 hp, VF5 hp]
  · simp only [up3]
    repeat rw [if_neg (by omega)]
theorem s_payInterest {K : NN → Prop} {p : Nat} {v : Int} (hp : p < 5) (hf : f < 2) (k : ∀ N', VF N' f = up2 (up2 (VF N f) p 8 (VF N f p 8 - v)) p 4 (VF N f p 4 + v) → (∀ c i k, ¬ (c = 5 ∧ 5 * f ≤ i ∧ i < 5 * f + 5) → N' c i k = N c i k) → K N') : C_X5_payInterest G (5 * f + p) v N K := by
  refine vc_X5_payInterest (by omega) ?_
  intro M1 h1 M2 h2
  have e2 : M1 5 (5 * f + p) 4 = N 5 (5 * f + p) 4 := by subst h1; simp [up3]
  rw [e2] at h2
  subst h1 h2
  refine k _ ?_ (fun c i k h => ?_)
  · rw [VF_u5 hp, VF_u5 hp, VF5 hp, VF5 hp]
  · simp only [up3]
    repeat rw [if_neg (by omega)]
theorem s_give {K : NN → Prop} {r : Nat} {v m : Int} (hf : f < 2) (hr : r < 60) (hc : 0 ≤ N 0 f 1 ∧ N 0 f 1 ≤ 5) (k : ∀ N', VF N' f = giveP (VF N f) (N 33 r) v m → (∀ c i k, ¬ (c = 0 ∧ i = f) → ¬ (c = 5 ∧ 5 * f ≤ i ∧ i < 5 * f + 5) → N' c i k = N c i k) → K N') : C_X0_give G f r v m N K := by
  have s4 : ∀ (q : wI (N 33 r 0) = 4) (M : NN), M = up3 N 0 f 4 (N 0 f 4 + v) → K M := by
    intro q M h
    subst h
    refine k _ ?_ (fun c i k h _ => by simp only [up3]; rw [if_neg (by omega)])
    rw [VF_u9]
    unfold giveP
    rw [if_neg (by omega), if_neg (by omega), if_pos q, VF9]
  have s5 : ∀ (q : wI (N 33 r 0) = 5) (M : NN), M = up3 N 0 f 9 (N 0 f 9 + v) → K M := by
    intro q M h
    subst h
    refine k _ ?_ (fun c i k h _ => by simp only [up3]; rw [if_neg (by omega)])
    rw [VF_u9]
    unfold giveP
    rw [if_neg (by omega), if_neg (by omega), if_neg (by omega), if_pos q, VF9]
  have s6 : (wI (N 33 r 0) < 1 ∨ 5 < wI (N 33 r 0)) → K N := by
    intro q
    refine k _ ?_ (fun c i k h _ => rfl)
    unfold giveP
    rw [if_neg (by omega), if_neg (by omega), if_neg (by omega), if_neg (by omega)]
  refine vc_X0_give hf hr (s_paperOf hf hr hc (fun e => ?_) (fun p hp e => ?_))
  · refine ⟨fun _ => ?_, fun p h => by simp at h⟩
    refine ⟨fun q => ?_, fun q => ?_, fun q => ?_, s4, s5, s6⟩
    all_goals refine k _ ?_ (fun c i k h _ => rfl)
    all_goals unfold giveP
    · rw [if_pos q, e]
    · rw [if_neg (by omega), if_pos (by omega), e]
    · rw [if_neg (by omega), if_pos (by omega), e]
  · refine ⟨fun h => by simp at h, fun p' h => ?_⟩
    have h' : p' = 5 * f + p := (Option.some.inj h).symm
    subst h'
    refine ⟨fun q => s_payInterest hp hf fun N' a b => k N' ?_ fun c i k _ h => b c i k h, fun q => s_payPrincipal hp hf fun N' a b => k N' ?_ fun c i k _ h => b c i k h, fun q => s_payPrincipal hp hf fun N' a b => k N' ?_ fun c i k _ h => b c i k h, s4, s5, s6⟩
    all_goals rw [a]
    all_goals unfold giveP
    · rw [if_pos q, e]
    · rw [if_neg (by omega), if_pos (by omega), e]
    · rw [if_neg (by omega), if_pos (by omega), e]
/-- one step of an order -/
def stepP (cnt : Int) (m : Int) (mo : Nat → Int) (i : Nat) (r : Nat → Int) (F : Nat → Nat → Int) (cash : Int) : Int :=
  if wI cnt ≤ (i : Int) then 0 else if passP F r m mo = true then min (wL cash) (wL (wishP F r mo cash)) else 0
def stepF (cnt : Int) (m : Int) (mo : Nat → Int) (i : Nat) (r : Nat → Int) (F : Nat → Nat → Int) (cash : Int) : Nat → Nat → Int :=
  if wI cnt ≤ (i : Int) then F else if passP F r m mo = true then giveP F r (min (wL cash) (wL (wishP F r mo cash))) m else F
/-- the first i steps: what they leave of the fall, and of the cash -/
def stepsP (cnt m : Int) (mo : Nat → Int) (R : Nat → Nat → Int) (F : Nat → Nat → Int) (cash : Int) : Nat → (Nat → Nat → Int) × Int
  | 0 => (F, cash)
  | i + 1 => let s := stepsP cnt m mo R F cash i
    (stepF cnt m mo i (R i) s.1 s.2, s.2 - stepP cnt m mo i (R i) s.1 s.2)
def tookP (cnt m : Int) (mo : Nat → Int) (R : Nat → Nat → Int) (F : Nat → Nat → Int) (cash : Int) (i : Nat) : Int :=
  stepP cnt m mo i (R i) (stepsP cnt m mo R F cash i).1 (stepsP cnt m mo R F cash i).2
theorem VF_give_1 {F : Nat → Nat → Int} {r : Nat → Int} {v m : Int} (h : 0 ≤ F 9 1 ∧ F 9 1 ≤ 5) : giveP F r v m 9 1 = F 9 1 := by
  have hp : ∀ p, pgP F r = some p → p < 5 := by
    intro p e
    unfold pgP at e
    rw [wI_id (x := F 9 1) (by omega) (by omega)] at e
    split at e
    · simp at e
    · split at e
      · simp at e
      · have := Option.some.inj e
        omega
  unfold giveP
  split
  · cases e : pgP F r with
    | none => rfl
    | some p =>
      have := hp p e
      show up2 (up2 F p 8 (F p 8 - v)) p 4 (F p 4 + v) 9 1 = F 9 1
      unfold up2
      rw [if_neg (by omega), if_neg (by omega)]
  · split
    · cases e : pgP F r with
      | none => rfl
      | some p =>
        have := hp p e
        show payP F p v m 9 1 = F 9 1
        unfold payP up2
        rw [if_neg (by omega), if_neg (by omega), if_neg (by omega)]
    · split
      · rfl
      · split
        · rfl
        · rfl
theorem stepF_1 {cnt m : Int} {mo : Nat → Int} {i : Nat} {r : Nat → Int} {F : Nat → Nat → Int} {cash : Int} (h : 0 ≤ F 9 1 ∧ F 9 1 ≤ 5) : stepF cnt m mo i r F cash 9 1 = F 9 1 := by
  unfold stepF
  split
  · rfl
  · split
    · exact VF_give_1 h
    · rfl
theorem stepsP_1 {cnt m : Int} {mo : Nat → Int} {R F : Nat → Nat → Int} {cash : Int} (h : 0 ≤ F 9 1 ∧ F 9 1 ≤ 5) : ∀ i, (stepsP cnt m mo R F cash i).1 9 1 = F 9 1 := by
  intro i
  induction i with
  | zero => rfl
  | succ i ih =>
    show stepF cnt m mo i (R i) _ _ 9 1 = _
    rw [stepF_1 (by rw [ih]; exact h), ih]
theorem s_takeSteps {K : NN → Prop} {m : Int} (hf : f < 2) (hj : j < 62) (ho : o < 6) (hc : 0 ≤ N 0 f 1 ∧ N 0 f 1 ≤ 5)
    (k : ∀ N', VF N' f = (stepsP (N 4 o 1) m (N 3 j) (fun i => N 33 (10 * o + i)) (VF N f) (N 3 j 5) 10).1 → (∀ i, i < 10 → N' 28 j i = tookP (N 4 o 1) m (N 3 j) (fun i => N 33 (10 * o + i)) (VF N f) (N 3 j 5) i) →
      (∀ c i k, ¬ (c = 0 ∧ i = f) → ¬ (c = 5 ∧ 5 * f ≤ i ∧ i < 5 * f + 5) → ¬ (c = 28 ∧ i = j ∧ k < 10) → N' c i k = N c i k) → K N') : C_X0_takeSteps G f m j o N K := by
  refine vc_X0_takeSteps hf hj ho ?_
  have key : ∀ (d i : Nat) (M : NN), i + d = 10 → VF M f = (stepsP (N 4 o 1) m (N 3 j) (fun i => N 33 (10 * o + i)) (VF N f) (N 3 j 5) i).1 → (∀ t, t < i → M 28 j t = tookP (N 4 o 1) m (N 3 j) (fun i => N 33 (10 * o + i)) (VF N f) (N 3 j 5) t) →
      (∀ c i k, ¬ (c = 0 ∧ i = f) → ¬ (c = 5 ∧ 5 * f ≤ i ∧ i < 5 * f + 5) → ¬ (c = 28 ∧ i = j ∧ k < 10) → M c i k = N c i k) →
      W_X0_takeSteps G K 9 [(0, vR 0 f), (1, vI m), (2, vR 3 j), (3, vR 4 o), (4, vL (stepsP (N 4 o 1) m (N 3 j) (fun i => N 33 (10 * o + i)) (VF N f) (N 3 j 5) i).2), (6, vI (i : Int))] [] M := by
    intro d
    induction d with
    | zero =>
      intro i M hi h1 h2 h3
      have : i = 10 := by omega
      subst this
      refine vc_X0_takeSteps_9 hf hj ho ?_
      rw [wlitI (k := ((10 : Nat) : Int)) (by decide) (by decide)]
      exact ⟨fun _ => k M h1 h2 h3, fun q => absurd (by decide) q⟩
    | succ d ih =>
      intro i M hi h1 h2 h3
      refine vc_X0_takeSteps_9 hf hj ho ?_
      have ei := wI_id (x := (i : Int)) (by omega) (by omega)
      rw [ei]
      refine ⟨fun q => by omega, fun _ => ⟨i, rfl, by omega, fun M2 e2 => ?_⟩⟩
      have V2 : VF M2 f = VF M f := VF_un fun c i k h => by subst e2; exact up3_o _ _ _ (by omega)
      have f2 : ∀ c i' k, ¬ (c = 28 ∧ i' = j ∧ k = i) → M2 c i' k = M c i' k := by
        intro c i' k h
        subst e2
        exact if_neg (by omega)
      have z2 : M2 28 j i = 0 := by subst e2; exact up3_s
      have g4 : M2 4 o 1 = N 4 o 1 := by rw [f2 _ _ _ (by omega), h3 _ _ _ (by omega) (by omega) (by omega)]
      have g33 : M2 33 (10 * o + i) = N 33 (10 * o + i) := funext fun k => by rw [f2 _ _ _ (by omega), h3 _ _ _ (by omega) (by omega) (by omega)]
      have g3 : M2 3 j = N 3 j := funext fun k => by rw [f2 _ _ _ (by omega), h3 _ _ _ (by omega) (by omega) (by omega)]
      have g1 : M2 0 f 1 = N 0 f 1 := by
        have := congrFun (congrFun (V2.trans h1) 9) 1
        rw [VF9, stepsP_1 hc] at this
        exact this
      have nx : ∀ (M' : NN) (v : Int), v = stepP (N 4 o 1) m (N 3 j) i (N 33 (10 * o + i)) (stepsP (N 4 o 1) m (N 3 j) (fun i => N 33 (10 * o + i)) (VF N f) (N 3 j 5) i).1 (stepsP (N 4 o 1) m (N 3 j) (fun i => N 33 (10 * o + i)) (VF N f) (N 3 j 5) i).2 →
          VF M' f = stepF (N 4 o 1) m (N 3 j) i (N 33 (10 * o + i)) (stepsP (N 4 o 1) m (N 3 j) (fun i => N 33 (10 * o + i)) (VF N f) (N 3 j 5) i).1 (stepsP (N 4 o 1) m (N 3 j) (fun i => N 33 (10 * o + i)) (VF N f) (N 3 j 5) i).2 →
          M' 28 j i = v → (∀ c i' k, ¬ (c = 0 ∧ i' = f) → ¬ (c = 5 ∧ 5 * f ≤ i' ∧ i' < 5 * f + 5) → ¬ (c = 28 ∧ i' = j ∧ k = i) → M' c i' k = M2 c i' k) →
          W_X0_takeSteps G K 9 [(0, vR 0 f), (1, vI m), (2, vR 3 j), (3, vR 4 o), (4, vL ((stepsP (N 4 o 1) m (N 3 j) (fun i => N 33 (10 * o + i)) (VF N f) (N 3 j 5) i).2 - v)), (6, vI ((i : Int) + 1))] [] M' := by
        intro M' v hv hV h28 hfr
        subst hv
        refine ih (i + 1) M' (by omega) hV (fun t ht => ?_) (fun c i' k a1 a2 a3 => ?_)
        · by_cases e : t = i
          · subst e
            exact h28
          · rw [hfr _ _ _ (by omega) (by omega) (by omega), f2 _ _ _ (by omega)]
            exact h2 t (by omega)
        · rw [hfr _ _ _ a1 a2 (by omega), f2 _ _ _ (by omega), h3 _ _ _ a1 a2 a3]
      rw [g4]
      refine ⟨fun q => ?_, fun q => ⟨i, rfl, by omega, ?_⟩⟩
      · have := nx M2 0 (by unfold stepP; rw [if_pos q]) (by rw [V2, h1]; unfold stepF; rw [if_pos q]) z2 (fun _ _ _ _ _ _ => rfl)
        rw [Int.sub_zero] at this
        exact this
      · refine s_passes hf (by omega) hj (fun hp => ⟨fun h => absurd h (by decide), fun _ => ⟨i, rfl, by omega, ?_⟩⟩) (fun hp => ⟨fun _ => ?_, fun h => absurd (by decide) h⟩)
        · rw [V2, h1, g33, g3] at hp
          refine s_wish hf (by omega) hj (by omega) ⟨i, rfl, by omega, s_give hf (by omega) (by omega) (fun N8 v8 f8 => ⟨i, rfl, by omega, fun M10 e10 => ?_⟩)⟩
          rw [V2, h1, g33, g3] at v8 e10 ⊢
          refine nx M10 _ ?_ ?_ ?_ ?_
          · unfold stepP
            rw [if_neg q, if_pos hp]
          · unfold stepF
            rw [if_neg q, if_pos hp, ← v8]
            exact VF_un fun c i k h => by subst e10; exact up3_o _ _ _ (by omega)
          · subst e10
            exact up3_s
          · intro c i' k a1 a2 a3
            subst e10
            rw [show up3 N8 28 j i _ c i' k = N8 c i' k from if_neg (by omega), f8 _ _ _ a1 a2]
        · rw [V2, h1, g33, g3] at hp
          have := nx M2 0 (by unfold stepP; rw [if_neg q, if_neg hp]) (by rw [V2, h1]; unfold stepF; rw [if_neg q, if_neg hp]) z2 (fun _ _ _ _ _ _ => rfl)
          rw [Int.sub_zero] at this
          exact this
  exact key 10 0 N (by omega) rfl (fun t ht => by omega) (fun _ _ _ _ _ _ => rfl)
end FN
