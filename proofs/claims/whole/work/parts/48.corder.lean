/-! an order's text: what it says, and the class's reading of it -/
def sxX (v : Int) : Int := if 4514 = v then 0 else if 11716 = v then 1 else if 11570 = v then 2 else if 316163 = v then 3 else if 220309 = v then 4 else -1
def paX (v : Int) : Int := if 1 = v then 0 else if 2 = v then 1 else if 3 = v then 2 else if 4 = v then 3 else if 5 = v then 4 else -1
def fxX (v : Int) : Int := if 7214732 = v then 0 else if 237470 = v then 1 else if 247664 = v then 2 else if 1905759 = v then 3 else if 407041 = v then 4 else -1
theorem sxX_rng {v : Int} : -1 ≤ sxX v ∧ sxX v ≤ 4 := by unfold sxX; repeat' split; all_goals omega
theorem paX_rng {v : Int} : -1 ≤ paX v ∧ paX v ≤ 4 := by unfold paX; repeat' split; all_goals omega
theorem fxX_rng {v : Int} : -1 ≤ fxX v ∧ fxX v ≤ 4 := by unfold fxX; repeat' split; all_goals omega
def rowX (s pa nu te fi bo : Int) : Nat → Int := fun f => if f = 0 then s else if f = 1 then pa else if f = 2 then nu else if f = 3 then te else if f = 4 then fi else bo
def nP (b : Nat → Int) (sz p : Nat) : Nat := if isW b sz p 10631 then tE b sz p else p
abbrev TST : Type := Bool × Nat × Int × Int × Int
def pTest (b : Nat → Int) (sz p : Nat) : TST :=
  if tT b sz (nP b sz p) = 1 ∧ fxX (tV b sz (nP b sz p)) ≠ -1 then
    (if isS b sz (tE b sz (nP b sz p)) 60 ∨ isS b sz (tE b sz (nP b sz p)) 61 then
      (if tT b sz (tE b sz (tE b sz (nP b sz p))) = 2 then (true, tE b sz (tE b sz (tE b sz (nP b sz p))), (if isS b sz (tE b sz (nP b sz p)) 60 then 1 else 2) + (if isW b sz p 10631 then 2 else 0), fxX (tV b sz (nP b sz p)), tV b sz (tE b sz (tE b sz (nP b sz p))))
      else (false, tS b sz (tE b sz (tE b sz (nP b sz p))), 0, 0, 0))
    else (false, tS b sz (tE b sz (nP b sz p)), 0, 0, 0))
  else (false, tS b sz (nP b sz p), 0, 0, 0)
def pPp (b : Nat → Int) (sz : Nat) (s : Int) (p : Nat) : Nat := if 1 ≤ s ∧ s ≤ 3 then tE b sz p else p
def pNn (b : Nat → Int) (sz : Nat) (s : Int) (p : Nat) : Nat := if s = 0 ∨ s = 3 ∨ s = 4 then tE b sz p else p
abbrev STP : Type := Bool × Nat × (Nat → Int)
/-- behind a step's sort s, at p -/
def pRest (b : Nat → Int) (sz : Nat) (s : Int) (p : Nat) : STP :=
  if (1 ≤ s ∧ s ≤ 3) ∧ ¬ (tT b sz p = 1 ∧ paX (tV b sz p) ≠ -1) then (false, tS b sz p, fun _ => 0)
  else if (s = 0 ∨ s = 3 ∨ s = 4) ∧ ¬ tT b sz (pPp b sz s p) = 2 then (false, tS b sz (pPp b sz s p), fun _ => 0)
  else if isW b sz (pNn b sz s (pPp b sz s p)) 249 then
    (if (pTest b sz (tE b sz (pNn b sz s (pPp b sz s p)))).1 = true then (true, (pTest b sz (tE b sz (pNn b sz s (pPp b sz s p)))).2.1, rowX s (if 1 ≤ s ∧ s ≤ 3 then paX (tV b sz p) else -1) (if s = 0 ∨ s = 3 ∨ s = 4 then tV b sz (pPp b sz s p) else -1) (pTest b sz (tE b sz (pNn b sz s (pPp b sz s p)))).2.2.1 (pTest b sz (tE b sz (pNn b sz s (pPp b sz s p)))).2.2.2.1 (pTest b sz (tE b sz (pNn b sz s (pPp b sz s p)))).2.2.2.2)
    else (false, (pTest b sz (tE b sz (pNn b sz s (pPp b sz s p)))).2.1, fun _ => 0))
  else (true, pNn b sz s (pPp b sz s p), rowX s (if 1 ≤ s ∧ s ≤ 3 then paX (tV b sz p) else -1) (if s = 0 ∨ s = 3 ∨ s = 4 then tV b sz (pPp b sz s p) else -1) 0 (-1) (-1))
def pStep (b : Nat → Int) (sz p : Nat) : STP := if tT b sz p = 1 ∧ sxX (tV b sz p) ≠ -1 then pRest b sz (sxX (tV b sz p)) (tE b sz p) else (false, tS b sz p, fun _ => 0)
def updR (R : Nat → Nat → Int) (i : Nat) (r : Nat → Int) : Nat → Nat → Int := fun a => if a = i then r else R a
def restRow : Nat → Int := rowX 5 (-1) (-1) 0 (-1) (-1)
abbrev ORD : Type := Bool × Nat × Nat × (Nat → Nat → Int)
def pOrd (b : Nat → Int) (sz : Nat) : Nat → Nat → Nat → (Nat → Nat → Int) → ORD
  | 0, _, p, R => (false, tS b sz p, 0, R)
  | k + 1, i, p, R =>
    if isW b sz p 358472 then (if tT b sz (tE b sz p) = 0 then (true, 0, i + 1, updR R i restRow) else (false, tS b sz (tE b sz p), 0, R))
    else if 9 ≤ i then (false, tS b sz p, 0, R)
    else if (pStep b sz p).1 = true then (if isS b sz (pStep b sz p).2.1 59 then pOrd b sz k (i + 1) (tE b sz (pStep b sz p).2.1) (updR R i (pStep b sz p).2.2) else (false, tS b sz (pStep b sz p).2.1, 0, R))
    else (false, (pStep b sz p).2.1, 0, R)
section OP
variable {b : Nat → Int} {sz : Nat}
theorem nP_le {p : Nat} (h : p ≤ sz) : nP b sz p ≤ sz := by
  unfold nP
  split
  · exact tE_le h
  · exact h
theorem pTest_ok {p : Nat} (h : p ≤ sz) (e : (pTest b sz p).1 = true) : (pTest b sz p).2.1 ≤ sz ∧ 1 ≤ (pTest b sz p).2.2.1 ∧ (pTest b sz p).2.2.1 ≤ 4 ∧ 0 ≤ (pTest b sz p).2.2.2.1 ∧ (pTest b sz p).2.2.2.1 ≤ 4 ∧ 0 ≤ (pTest b sz p).2.2.2.2 ∧ (pTest b sz p).2.2.2.2 ≤ 9999 := by
  have hn := nP_le (b := b) h
  unfold pTest at *
  by_cases a : tT b sz (nP b sz p) = 1 ∧ fxX (tV b sz (nP b sz p)) ≠ -1
  · rw [if_pos a] at *
    by_cases c : isS b sz (tE b sz (nP b sz p)) 60 ∨ isS b sz (tE b sz (nP b sz p)) 61
    · rw [if_pos c] at *
      by_cases d : tT b sz (tE b sz (tE b sz (nP b sz p))) = 2
      · rw [if_pos d] at *
        have v := num_rng d
        have f := fxX_rng (v := tV b sz (nP b sz p))
        refine ⟨tE_le (tE_le (tE_le hn)), ?_, ?_, ?_, f.2, v.1, v.2⟩
        · dsimp only
          split <;> split <;> omega
        · dsimp only
          split <;> split <;> omega
        · have := a.2
          dsimp only
          omega
      · rw [if_neg d] at e
        cases e
    · rw [if_neg c] at e
      cases e
  · rw [if_neg a] at e
    cases e
theorem pRest_ok {s : Int} {p : Nat} (hs : 0 ≤ s ∧ s ≤ 4) (h : p ≤ sz) (e : (pRest b sz s p).1 = true) : (pRest b sz s p).2.1 ≤ sz ∧ okR (pRest b sz s p).2.2 := by
  have h2 : pPp b sz s p ≤ sz := by
    unfold pPp
    split
    · exact tE_le h
    · exact h
  have h3 : pNn b sz s (pPp b sz s p) ≤ sz := by
    unfold pNn
    split
    · exact tE_le h2
    · exact h2
  unfold pRest at *
  by_cases a : (1 ≤ s ∧ s ≤ 3) ∧ ¬ (tT b sz p = 1 ∧ paX (tV b sz p) ≠ -1)
  · rw [if_pos a] at e
    cases e
  · rw [if_neg a] at *
    by_cases c : (s = 0 ∨ s = 3 ∨ s = 4) ∧ ¬ tT b sz (pPp b sz s p) = 2
    · rw [if_pos c] at e
      cases e
    · rw [if_neg c] at *
      have pr := paX_rng (v := tV b sz p)
      have pa : ((1 ≤ s ∧ s ≤ 3) ∧ 0 ≤ (if 1 ≤ s ∧ s ≤ 3 then paX (tV b sz p) else -1) ∧ (if 1 ≤ s ∧ s ≤ 3 then paX (tV b sz p) else -1) ≤ 4) ∨ ((s = 0 ∨ 4 ≤ s) ∧ (if 1 ≤ s ∧ s ≤ 3 then paX (tV b sz p) else -1) = -1) := by
        by_cases q : 1 ≤ s ∧ s ≤ 3
        · rw [if_pos q]
          have q2 : paX (tV b sz p) ≠ -1 := by
            by_cases z : tT b sz p = 1 ∧ paX (tV b sz p) ≠ -1
            · exact z.2
            · exact absurd ⟨q, z⟩ a
          exact .inl ⟨q, by omega, by omega⟩
        · rw [if_neg q]
          exact .inr ⟨by omega, rfl⟩
      have nu : -1 ≤ (if s = 0 ∨ s = 3 ∨ s = 4 then tV b sz (pPp b sz s p) else -1) ∧ (if s = 0 ∨ s = 3 ∨ s = 4 then tV b sz (pPp b sz s p) else -1) ≤ 9999 ∧ (s = 0 ∨ s = 3 ∨ s = 4 → 0 ≤ (if s = 0 ∨ s = 3 ∨ s = 4 then tV b sz (pPp b sz s p) else -1)) := by
        by_cases q : s = 0 ∨ s = 3 ∨ s = 4
        · rw [if_pos q]
          have q2 : tT b sz (pPp b sz s p) = 2 := by
            by_cases z : tT b sz (pPp b sz s p) = 2
            · exact z
            · exact absurd ⟨q, z⟩ c
          have v := num_rng q2
          exact ⟨by omega, by omega, fun _ => v.1⟩
        · rw [if_neg q]
          exact ⟨by omega, by omega, fun z => absurd z q⟩
      generalize (if 1 ≤ s ∧ s ≤ 3 then paX (tV b sz p) else -1) = u at *
      generalize (if s = 0 ∨ s = 3 ∨ s = 4 then tV b sz (pPp b sz s p) else -1) = w at *
      have okrow : ∀ te fi bo : Int, 0 ≤ te → te ≤ 4 → -1 ≤ fi → fi ≤ 4 → -1 ≤ bo → bo ≤ 9999 → okR (rowX s u w te fi bo) := by
        intro te fi bo t1 t2 t3 t4 t5 t6
        show 0 ≤ s ∧ s ≤ 5 ∧ ((1 ≤ s ∧ s ≤ 3 ∧ 0 ≤ u ∧ u ≤ 4) ∨ ((s = 0 ∨ 4 ≤ s) ∧ u = -1)) ∧ -1 ≤ w ∧ w ≤ 9999 ∧ (s = 0 ∨ s = 3 ∨ s = 4 → 0 ≤ w) ∧ 0 ≤ te ∧ te ≤ 4 ∧ -1 ≤ fi ∧ fi ≤ 4 ∧ -1 ≤ bo ∧ bo ≤ 9999
        refine ⟨by omega, by omega, ?_, nu.1, nu.2.1, nu.2.2, t1, t2, t3, t4, t5, t6⟩
        rcases pa with ⟨x, y⟩ | x
        · exact .inl ⟨x.1, x.2, y⟩
        · exact .inr x
      by_cases d : isW b sz (pNn b sz s (pPp b sz s p)) 249
      · rw [if_pos d] at *
        by_cases g : (pTest b sz (tE b sz (pNn b sz s (pPp b sz s p)))).1 = true
        · rw [if_pos g] at *
          obtain ⟨q1, q2, q3, q4, q5, q6, q7⟩ := pTest_ok (tE_le h3) g
          exact ⟨q1, okrow _ _ _ (by omega) q3 (by omega) q5 (by omega) q7⟩
        · rw [if_neg g] at e
          cases e
      · rw [if_neg d] at *
        exact ⟨h3, okrow _ _ _ (by omega) (by omega) (by omega) (by omega) (by omega) (by omega)⟩
theorem pStep_ok {p : Nat} (h : p ≤ sz) (e : (pStep b sz p).1 = true) : (pStep b sz p).2.1 ≤ sz ∧ okR (pStep b sz p).2.2 := by
  unfold pStep at *
  by_cases a : tT b sz p = 1 ∧ sxX (tV b sz p) ≠ -1
  · rw [if_pos a] at *
    have r := sxX_rng (v := tV b sz p)
    exact pRest_ok (by have := a.2; omega) (tE_le h) e
  · rw [if_neg a] at e
    cases e
theorem restRow_ok : okR restRow := by unfold okR restRow rowX; decide
end OP
/-! the class's -/
/-- what a step's reading may change -/
def FrS (r : Nat) (N N' : NN) : Prop := ∀ c i k, ¬ (c = 8 ∧ i = 0 ∧ 2 ≤ k ∧ k ≤ 5) → ¬ (c = 33 ∧ i = r) → N' c i k = N c i k
theorem FrS.rf {r : Nat} {N : NN} : FrS r N N := fun _ _ _ _ _ => rfl
theorem FrS.tr {r : Nat} {N N' N'' : NN} (h1 : FrS r N N') (h2 : FrS r N' N'') : FrS r N N'' := fun c i k a b => (h2 c i k a b).trans (h1 c i k a b)
theorem FrT.toS {r : Nat} {N N' : NN} (h : FrT N N') : FrS r N N' := fun c i k a _ => h c i k a
section CO
variable {G : GT} {b : Nat → Int} {sz r : Nat}
theorem TC.kp {N N' : NN} {p : Nat} (h : TC b sz p N) (f : ∀ c i k, c = 8 ∨ c = 24 → N' c i k = N c i k) : TC b sz p N' := ⟨⟨by rw [f _ _ _ (.inl rfl)]; exact h.1.1, h.1.2.1, fun j hj => by rw [f _ _ _ (.inr rfl)]; exact h.1.2.2 j hj⟩, h.2.1, by rw [f _ _ _ (.inl rfl)]; exact h.2.2.1, by rw [f _ _ _ (.inl rfl)]; exact h.2.2.2.1, by rw [f _ _ _ (.inl rfl)]; exact h.2.2.2.2.1, fun q => by rw [f _ _ _ (.inl rfl)]; exact h.2.2.2.2.2 q⟩
theorem s_cWord {K : Int → NN → Prop} {N : NN} {q f p : Nat} {X : Int → Int} (hq : q < 11) (hq1 : 1 ≤ q) (hX : ∀ v, wlF q v 42 0 0 0 = X v) (hXr : ∀ v, -1 ≤ X v ∧ X v ≤ 10) (hr : r < 60) (hf : f < 6) (h : TC b sz p N)
    (k1 : tT b sz p = 1 ∧ X (tV b sz p) ≠ -1 → ∀ N', (∀ c i k, ¬ (c = 8 ∧ i = 0 ∧ 2 ≤ k ∧ k ≤ 5) → ¬ (c = 33 ∧ i = r ∧ k = f) → N' c i k = N c i k) → N' 33 r f = X (tV b sz p) → TC b sz (tE b sz p) N' → K 1 N') (k0 : ¬ (tT b sz p = 1 ∧ X (tV b sz p) ≠ -1) → K 0 N) : C_X4_readWord G q r (f : Int) N K := by
  refine vc_X4_readWord hq hr (s_which hq h (okW_all q hq hq1) ?_)
  rw [hX, wI_id (x := (f : Int)) (by omega) (by omega)]
  have xr := hXr (tV b sz p)
  by_cases g : tT b sz p = 1 ∧ X (tV b sz p) ≠ -1
  · rw [if_pos g.1, wI_id (x := X (tV b sz p)) (by omega) (by omega)]
    refine ⟨fun _ => ⟨f, rfl, hf, fun M3 e3 => ?_⟩, fun x => absurd g.2 x⟩
    have f3 : ∀ c i k, ¬ (c = 33 ∧ i = r ∧ k = f) → M3 c i k = N c i k := fun c i k a => by rw [e3]; exact up3_o' (by omega)
    refine s_on (h.kp fun c i k a => f3 _ _ _ (by omega)) fun N4 f4 T4 => k1 g N4 (fun c i k a d => by rw [f4 _ _ _ a, f3 _ _ _ d]) ?_ T4
    rw [f4 _ _ _ (by omega), e3]
    exact up3_s
  · have e : wI (if tT b sz p = 1 then X (tV b sz p) else -1) = -1 := by
      by_cases t1 : tT b sz p = 1
      · rw [if_pos t1, wI_id (x := X (tV b sz p)) (by omega) (by omega)]
        by_cases z : X (tV b sz p) = -1
        · exact z
        · exact absurd ⟨t1, z⟩ g
      · rw [if_neg t1]
        rfl
    rw [e]
    exact ⟨fun x => absurd rfl x, fun _ => k0 g⟩
theorem s_cNumber {K : Int → NN → Prop} {N : NN} {f p : Nat} (hr : r < 60) (hf : f < 6) (h : TC b sz p N)
    (k1 : tT b sz p = 2 → ∀ N', (∀ c i k, ¬ (c = 8 ∧ i = 0 ∧ 2 ≤ k ∧ k ≤ 5) → ¬ (c = 33 ∧ i = r ∧ k = f) → N' c i k = N c i k) → N' 33 r f = tV b sz p → TC b sz (tE b sz p) N' → K 1 N') (k0 : ¬ tT b sz p = 2 → K 0 N) : C_X4_readNumber G r (f : Int) N K := by
  refine vc_X4_readNumber hr (s_isNumber h ?_)
  rw [wI_id (x := (f : Int)) (by omega) (by omega)]
  by_cases g : tT b sz p = 2
  · rw [bI_t g, wlitI (by decide) (by decide), h.2.2.2.2.2 g]
    refine ⟨fun _ => ⟨f, rfl, hf, fun M3 e3 => ?_⟩, fun x => absurd (by decide) x⟩
    have f3 : ∀ c i k, ¬ (c = 33 ∧ i = r ∧ k = f) → M3 c i k = N c i k := fun c i k a => by rw [e3]; exact up3_o' (by omega)
    refine s_on (h.kp fun c i k a => f3 _ _ _ (by omega)) fun N4 f4 T4 => k1 g N4 (fun c i k a d => by rw [f4 _ _ _ a, f3 _ _ _ d]) ?_ T4
    rw [f4 _ _ _ (by omega), e3]
    exact up3_s
  · rw [bI_f g, wlitI (by decide) (by decide)]
    exact ⟨fun x => absurd rfl x, fun _ => k0 g⟩
theorem wl8' (v : Int) : wlF 8 v 42 0 0 0 = paX v := wl8 v
theorem wl10' (v : Int) : wlF 10 v 42 0 0 0 = fxX v := wl10 v
theorem wl7' (v : Int) : wlF 7 v 42 0 0 0 = sxX v := wl7 v
theorem s_cTest {K : Int → NN → Prop} {N : NN} {p : Nat} (hr : r < 60) (h : TC b sz p N)
    (k1 : (pTest b sz p).1 = true → ∀ N', FrS r N N' → N' 33 r 0 = N 33 r 0 → N' 33 r 1 = N 33 r 1 → N' 33 r 2 = N 33 r 2 → N' 33 r 3 = (pTest b sz p).2.2.1 → N' 33 r 4 = (pTest b sz p).2.2.2.1 → N' 33 r 5 = (pTest b sz p).2.2.2.2 → TC b sz (pTest b sz p).2.1 N' → K 1 N')
    (k0 : (pTest b sz p).1 = false → ∀ N', FrS r N N' → N' 8 0 2 = ((pTest b sz p).2.1 : Int) → K 0 N') : C_X4_readTest G r N K := by
  unfold pTest at k1 k0
  -- behind a 'not' or none
  have go : ∀ (N1 : NN) (ng : Int), FrT N N1 → TC b sz (nP b sz p) N1 → ng = (if isW b sz p 10631 then 2 else 0) → C_X4_readWord G 10 r 4 N1 (fun x2 N2 => ((wI x2 ≠ 0 → (C_X8_takesSign G 60 N2 (fun x3 N3 => ((wI x3 = 0 → (C_X8_takesSign G 61 N3 (fun x4 N4 => ((wI x4 = 0 → K 0 N4) ∧ (¬ (wI x4 = 0) → (∀ M5 : NN, M5 = up3 N4 33 r 3 (2 + ng) → (C_X4_readNumber G r 5 M5 (fun x6 N6 => ((x6 = 0 ∨ x6 = 1) ∧ K x6 N6))))))))) ∧ (¬ (wI x3 = 0) → (∀ M7 : NN, M7 = up3 N3 33 r 3 (1 + ng) → (C_X4_readNumber G r 5 M7 (fun x8 N8 => ((x8 = 0 ∨ x8 = 1) ∧ K x8 N8))))))))) ∧ (¬ (wI x2 ≠ 0) → K 0 N2))) := by
    intro N1 ng f1 T1 hng
    rw [← hng] at k1
    refine s_cWord (f := 4) (by decide) (by decide) wl10' (fun v => by have := fxX_rng (v := v); omega) hr (by decide) T1 (fun g N2 f2 w2 T2 => ?_) (fun g => ?_)
    · rw [if_pos g] at k1 k0
      rw [wlitI (by decide) (by decide)]
      have last : ∀ (N4 M5 : NN) (a : Int), FrT N2 N4 → TC b sz (tE b sz (tE b sz (nP b sz p))) N4 → (isS b sz (tE b sz (nP b sz p)) 60 ∨ isS b sz (tE b sz (nP b sz p)) 61) → a = (if isS b sz (tE b sz (nP b sz p)) 60 then 1 else 2) → M5 = up3 N4 33 r 3 (a + ng) → C_X4_readNumber G r 5 M5 (fun x6 N6 => ((x6 = 0 ∨ x6 = 1) ∧ K x6 N6)) := by
        intro N4 M5 a f4 T4 hs ha e5
        rw [if_pos hs] at k1 k0
        rw [← ha] at k1
        have f5 : ∀ c i k, ¬ (c = 33 ∧ i = r ∧ k = 3) → M5 c i k = N4 c i k := fun c i k z => by rw [e5]; exact up3_o' (by omega)
        have F5 : FrS r N M5 := fun c i k z1 z2 => by rw [f5 _ _ _ (by omega), f4 _ _ _ z1, f2 _ _ _ z1 (by omega), f1 _ _ _ z1]
        refine s_cNumber (f := 5) hr (by decide) (T4.kp fun c i k z => f5 _ _ _ (by omega)) (fun g2 N6 f6 w6 T6 => ?_) (fun g2 => ?_)
        · rw [if_pos g2] at k1
          refine ⟨.inr rfl, k1 rfl N6 (fun c i k z1 z2 => by rw [f6 _ _ _ z1 (by omega), F5 _ _ _ z1 z2]) ?_ ?_ ?_ ?_ ?_ w6 T6⟩
          · rw [f6 _ _ _ (by omega) (by omega), f5 _ _ _ (by omega), f4 _ _ _ (by omega), f2 _ _ _ (by omega) (by omega), f1 _ _ _ (by omega)]
          · rw [f6 _ _ _ (by omega) (by omega), f5 _ _ _ (by omega), f4 _ _ _ (by omega), f2 _ _ _ (by omega) (by omega), f1 _ _ _ (by omega)]
          · rw [f6 _ _ _ (by omega) (by omega), f5 _ _ _ (by omega), f4 _ _ _ (by omega), f2 _ _ _ (by omega) (by omega), f1 _ _ _ (by omega)]
          · rw [f6 _ _ _ (by omega) (by omega), e5, up3_s]
          · rw [f6 _ _ _ (by omega) (by omega), f5 _ _ _ (by omega), f4 _ _ _ (by omega), w2]
        · rw [if_neg g2] at k0
          refine ⟨.inl rfl, k0 rfl M5 F5 ?_⟩
          rw [f5 _ _ _ (by omega)]
          exact T4.2.2.1
      have F2 : FrS r N N2 := fun c i k z1 z2 => by rw [f2 _ _ _ z1 (by omega), f1 _ _ _ z1]
      refine ⟨fun _ => s_takesSign (by decide) T2 (fun s N3 f3 T3 => ?_) (fun s => ?_), fun x => absurd (by decide) x⟩
      · rw [wlitI (by decide) (by decide)]
        exact ⟨fun x => absurd x (by decide), fun _ M7 e7 => last N3 M7 1 f3 T3 (.inl s) (by rw [if_pos s]) e7⟩
      · rw [wlitI (by decide) (by decide)]
        refine ⟨fun _ => s_takesSign (by decide) T2 (fun s2 N4 f4 T4 => ?_) (fun s2 => ?_), fun x => absurd rfl x⟩
        · rw [wlitI (by decide) (by decide)]
          exact ⟨fun x => absurd x (by decide), fun _ M5 e5 => last N4 M5 2 f4 T4 (.inr s2) (by rw [if_neg s]) e5⟩
        · rw [wlitI (by decide) (by decide)]
          rw [if_neg (fun z => z.elim s s2)] at k0
          exact ⟨fun _ => k0 rfl N2 F2 T2.2.2.1, fun x => absurd rfl x⟩
    · rw [if_neg g] at k0
      rw [wlitI (by decide) (by decide)]
      exact ⟨fun x => absurd rfl x, fun _ => k0 rfl N1 f1.toS T1.2.2.1⟩
  refine vc_X4_readTest hr (s_takesWord (by decide) (by decide) wl2 h (fun g N1 f1 T1 => ?_) (fun g => ?_))
  · rw [wlitI (by decide) (by decide)]
    refine ⟨fun x => absurd x (by decide), fun _ => go N1 2 f1 ?_ (by rw [if_pos g])⟩
    unfold nP
    rw [if_pos g]
    exact T1
  · rw [wlitI (by decide) (by decide)]
    refine ⟨fun _ => go N 0 FrT.rf ?_ (by rw [if_neg g]), fun x => absurd rfl x⟩
    unfold nP
    rw [if_neg g]
    exact h
theorem s_cStep {K : Int → NN → Prop} {N : NN} {p : Nat} (hr : r < 60) (h : TC b sz p N)
    (k1 : (pStep b sz p).1 = true → ∀ N', FrS r N N' → (∀ f, f < 6 → N' 33 r f = (pStep b sz p).2.2 f) → TC b sz (pStep b sz p).2.1 N' → K 1 N')
    (k0 : (pStep b sz p).1 = false → ∀ N', FrS r N N' → N' 8 0 2 = ((pStep b sz p).2.1 : Int) → K 0 N') : C_X4_readStep G r N K := by
  refine vc_X4_readStep hr (vc_X4_clear hr (fun M1 e1 M2 e2 M3 e3 M4 e4 M5 e5 => ?_))
  have f5 : ∀ c i k, ¬ (c = 33 ∧ i = r ∧ 1 ≤ k ∧ k ≤ 5) → M5 c i k = N c i k := fun c i k a => by rw [e5, up3_o' (by omega), e4, up3_o' (by omega), e3, up3_o' (by omega), e2, up3_o' (by omega), e1, up3_o' (by omega)]
  have z1 : M5 33 r 1 = -1 := by rw [e5, up3_o' (by omega), e4, up3_o' (by omega), e3, up3_o' (by omega), e2, up3_o' (by omega), e1, up3_s]
  have z2 : M5 33 r 2 = -1 := by rw [e5, up3_o' (by omega), e4, up3_o' (by omega), e3, up3_o' (by omega), e2, up3_s]
  have z3 : M5 33 r 3 = 0 := by rw [e5, up3_o' (by omega), e4, up3_o' (by omega), e3, up3_s]
  have z4 : M5 33 r 4 = -1 := by rw [e5, up3_o' (by omega), e4, up3_s]
  have z5 : M5 33 r 5 = -1 := by rw [e5, up3_s]
  have F5 : FrS r N M5 := fun c i k _ a => f5 _ _ _ (by omega)
  have T5 : TC b sz p M5 := h.kp fun c i k a => f5 _ _ _ (by omega)
  unfold pStep at k1 k0
  refine s_which (by decide) T5 (okW_all 7 (by decide) (by decide)) ?_
  rw [wl7']
  have sr := sxX_rng (v := tV b sz p)
  by_cases g : tT b sz p = 1 ∧ sxX (tV b sz p) ≠ -1
  · rw [if_pos g] at k1 k0
    rw [if_pos g.1]
    have gs := g.2
    generalize sxX (tV b sz p) = s at *
    have ws := fun _ : Unit => wI_id (x := s) (by omega) (by omega)
    rw [ws ()]
    refine ⟨fun _ M6 e6 => ?_, fun x => absurd gs x⟩
    have f6 : ∀ c i k, ¬ (c = 33 ∧ i = r ∧ k = 0) → M6 c i k = M5 c i k := fun c i k a => by rw [e6]; exact up3_o' (by omega)
    refine s_on (T5.kp fun c i k a => f6 _ _ _ (by omega)) fun N7 f7 T7 => ?_
    have F7 : FrS r N N7 := fun c i k a1 a2 => by rw [f7 _ _ _ a1, f6 _ _ _ (by omega), F5 _ _ _ a1 a2]
    have y0 : N7 33 r 0 = s := by rw [f7 _ _ _ (by omega), e6, up3_s]
    have y1 : N7 33 r 1 = -1 := by rw [f7 _ _ _ (by omega), f6 _ _ _ (by omega), z1]
    have y2 : N7 33 r 2 = -1 := by rw [f7 _ _ _ (by omega), f6 _ _ _ (by omega), z2]
    have y3 : N7 33 r 3 = 0 := by rw [f7 _ _ _ (by omega), f6 _ _ _ (by omega), z3]
    have y4 : N7 33 r 4 = -1 := by rw [f7 _ _ _ (by omega), f6 _ _ _ (by omega), z4]
    have y5 : N7 33 r 5 = -1 := by rw [f7 _ _ _ (by omega), f6 _ _ _ (by omega), z5]
    unfold pRest at k1 k0
    -- behind the number
    have tail : ∀ N9 : NN, FrS r N N9 → N9 33 r 0 = s → N9 33 r 1 = (if 1 ≤ s ∧ s ≤ 3 then paX (tV b sz (tE b sz p)) else -1) → N9 33 r 2 = (if s = 0 ∨ s = 3 ∨ s = 4 then tV b sz (pPp b sz s (tE b sz p)) else -1) → N9 33 r 3 = 0 → N9 33 r 4 = -1 → N9 33 r 5 = -1 → TC b sz (pNn b sz s (pPp b sz s (tE b sz p))) N9 →
        ¬ ((1 ≤ s ∧ s ≤ 3) ∧ ¬ (tT b sz (tE b sz p) = 1 ∧ paX (tV b sz (tE b sz p)) ≠ -1)) → ¬ ((s = 0 ∨ s = 3 ∨ s = 4) ∧ ¬ tT b sz (pPp b sz s (tE b sz p)) = 2) → C_X8_takesWord G 9 N9 (fun x1 N1 => ((wI x1 = 0 → K 1 N1) ∧ (¬ (wI x1 = 0) → (C_X4_readTest G r N1 (fun x2 N2 => ((wI x2 = 0 → K 0 N2) ∧ (¬ (wI x2 = 0) → K 1 N2))))))) := by
      intro N9 F9 u0 u1 u2 u3 u4 u5 T9 na nc
      rw [if_neg na, if_neg nc] at k1 k0
      refine s_takesWord (by decide) (by decide) wl9 T9 (fun w N10 f10 T10 => ?_) (fun w => ?_)
      · rw [if_pos w] at k1 k0
        rw [wlitI (by decide) (by decide)]
        refine ⟨fun x => absurd x (by decide), fun _ => s_cTest hr T10 (fun ok N11 f11 v0 v1 v2 v3 v4 v5 T11 => ?_) (fun ok N11 f11 v => ?_)⟩
        · rw [if_pos ok] at k1
          rw [wlitI (by decide) (by decide)]
          refine ⟨fun x => absurd x (by decide), fun _ => k1 rfl N11 ((F9.tr f10.toS).tr f11) (fun f hf => ?_) T11⟩
          rcases (by omega : f = 0 ∨ f = 1 ∨ f = 2 ∨ f = 3 ∨ f = 4 ∨ f = 5) with rfl | rfl | rfl | rfl | rfl | rfl
          · rw [v0, f10 _ _ _ (by omega), u0]; rfl
          · rw [v1, f10 _ _ _ (by omega), u1]; rfl
          · rw [v2, f10 _ _ _ (by omega), u2]; rfl
          · rw [v3]; rfl
          · rw [v4]; rfl
          · rw [v5]; rfl
        · have ok' : ¬ (pTest b sz (tE b sz (pNn b sz s (pPp b sz s (tE b sz p))))).1 = true := by rw [ok]; decide
          rw [if_neg ok'] at k0
          rw [wlitI (by decide) (by decide)]
          exact ⟨fun _ => k0 rfl N11 ((F9.tr f10.toS).tr f11) v, fun x => absurd rfl x⟩
      · rw [if_neg w] at k1
        rw [wlitI (by decide) (by decide)]
        refine ⟨fun _ => k1 rfl N9 F9 (fun f hf => ?_) T9, fun x => absurd rfl x⟩
        rcases (by omega : f = 0 ∨ f = 1 ∨ f = 2 ∨ f = 3 ∨ f = 4 ∨ f = 5) with rfl | rfl | rfl | rfl | rfl | rfl
        · rw [u0]; rfl
        · rw [u1]; rfl
        · rw [u2]; rfl
        · rw [u3]; rfl
        · rw [u4]; rfl
        · rw [u5]; rfl
    -- the number
    have num : ∀ N8 : NN, FrS r N N8 → N8 33 r 0 = s → N8 33 r 1 = (if 1 ≤ s ∧ s ≤ 3 then paX (tV b sz (tE b sz p)) else -1) → N8 33 r 2 = -1 → N8 33 r 3 = 0 → N8 33 r 4 = -1 → N8 33 r 5 = -1 → TC b sz (pPp b sz s (tE b sz p)) N8 → ¬ ((1 ≤ s ∧ s ≤ 3) ∧ ¬ (tT b sz (tE b sz p) = 1 ∧ paX (tV b sz (tE b sz p)) ≠ -1)) →
        ∀ l4 : Int, l4 = (if s = 0 ∨ s = 3 ∨ s = 4 then 1 else 0) → W_X4_readStep G K 85 [(0, vR 8 0), (1, vR 33 r), (4, vI l4)] [] N8 := by
      intro N8 F8 u0 u1 u2 u3 u4 u5 T8 na l4 hl
      refine vc_X4_readStep_85 hr ?_
      by_cases c : s = 0 ∨ s = 3 ∨ s = 4
      · rw [if_pos c] at hl
        subst hl
        rw [wlitI (by decide) (by decide)]
        refine ⟨fun x => absurd x (by decide), fun _ => s_cNumber (f := 2) hr (by decide) T8 (fun g2 N9 f9 w9 T9 => ?_) (fun g2 => ?_)⟩
        · rw [wlitI (by decide) (by decide)]
          refine ⟨fun _ => tail N9 (fun c' i k a1 a2 => by rw [f9 _ _ _ a1 (by omega), F8 _ _ _ a1 a2]) (by rw [f9 _ _ _ (by omega) (by omega), u0]) (by rw [f9 _ _ _ (by omega) (by omega), u1]) (by rw [w9, if_pos c]) (by rw [f9 _ _ _ (by omega) (by omega), u3]) (by rw [f9 _ _ _ (by omega) (by omega), u4]) (by rw [f9 _ _ _ (by omega) (by omega), u5]) ?_ na (fun q => q.2 g2), fun x => absurd (by decide) x⟩
          unfold pNn
          rw [if_pos c]
          exact T9
        · rw [wlitI (by decide) (by decide)]
          rw [if_neg na, if_pos ⟨c, g2⟩] at k0
          exact ⟨fun x => absurd rfl x, fun _ => k0 rfl N8 F8 T8.2.2.1⟩
      · rw [if_neg c] at hl
        subst hl
        rw [wlitI (by decide) (by decide)]
        refine ⟨fun _ => tail N8 F8 u0 u1 (by rw [u2, if_neg c]) u3 u4 u5 ?_ na (fun q => c q.1), fun x => absurd rfl x⟩
        unfold pNn
        rw [if_neg c]
        exact T8
    -- the paper
    have pap : ∀ (l3 l4 : Int), l3 = (if 1 ≤ s ∧ s ≤ 3 then 1 else 0) → l4 = (if s = 0 ∨ s = 3 ∨ s = 4 then 1 else 0) → W_X4_readStep G K 66 [(0, vR 8 0), (1, vR 33 r), (3, vI l3)] [vI l4] N7 := by
      intro l3 l4 h3 h4
      refine vc_X4_readStep_66 hr ?_
      by_cases c : 1 ≤ s ∧ s ≤ 3
      · rw [if_pos c] at h3
        subst h3
        rw [wlitI (by decide) (by decide)]
        refine ⟨fun x => absurd x (by decide), fun _ => s_cWord (f := 1) (by decide) (by decide) wl8' (fun v => by have := paX_rng (v := v); omega) hr (by decide) T7 (fun g2 N8 f8 w8 T8 => ?_) (fun g2 => ?_)⟩
        · rw [wlitI (by decide) (by decide)]
          refine ⟨fun _ => num N8 (fun c' i k a1 a2 => by rw [f8 _ _ _ a1 (by omega), F7 _ _ _ a1 a2]) (by rw [f8 _ _ _ (by omega) (by omega), y0]) (by rw [w8, if_pos c]) (by rw [f8 _ _ _ (by omega) (by omega), y2]) (by rw [f8 _ _ _ (by omega) (by omega), y3]) (by rw [f8 _ _ _ (by omega) (by omega), y4]) (by rw [f8 _ _ _ (by omega) (by omega), y5]) ?_ (fun q => q.2 g2) l4 h4, fun x => absurd (by decide) x⟩
          unfold pPp
          rw [if_pos c]
          exact T8
        · rw [wlitI (by decide) (by decide)]
          rw [if_pos ⟨c, g2⟩] at k0
          exact ⟨fun x => absurd rfl x, fun _ => k0 rfl N7 F7 T7.2.2.1⟩
      · rw [if_neg c] at h3
        subst h3
        rw [wlitI (by decide) (by decide)]
        refine ⟨fun _ => num N7 F7 y0 (by rw [y1, if_neg c]) y2 y3 y4 y5 ?_ (fun q => c q.1) l4 h4, fun x => absurd rfl x⟩
        unfold pPp
        rw [if_neg c]
        exact T7
    have at46 : ∀ l3 : Int, l3 = (if 1 ≤ s ∧ s ≤ 3 then 1 else 0) → W_X4_readStep G K 46 [(0, vR 8 0), (1, vR 33 r), (2, vI s)] [vI l3] N7 := by
      intro l3 h3
      refine vc_X4_readStep_46 hr ?_
      rw [ws ()]
      exact ⟨fun q => vc_X4_readStep_61 hr (pap l3 1 h3 (by rw [if_pos (.inl q)])), fun q => ⟨fun q2 => vc_X4_readStep_61 hr (pap l3 1 h3 (by rw [if_pos (.inr (.inl q2))])), fun q2 => ⟨fun q3 => pap l3 0 h3 (by rw [if_neg (by omega)]), fun q3 => vc_X4_readStep_61 hr (pap l3 1 h3 (by rw [if_pos (.inr (.inr (Decidable.not_not.mp q3)))]))⟩⟩⟩
    have at41 : 1 ≤ s ∧ s ≤ 3 → W_X4_readStep G K 41 [(0, vR 8 0), (1, vR 33 r), (2, vI s)] [] N7 := fun c => vc_X4_readStep_41 hr (at46 1 (by rw [if_pos c]))
    exact ⟨fun q => at41 (by omega), fun q => ⟨fun q2 => at41 (by omega), fun q2 => ⟨fun q3 => at46 0 (by rw [if_neg (by omega)]), fun q3 => at41 (by omega)⟩⟩⟩
  · rw [if_neg g] at k0
    have e : wI (if tT b sz p = 1 then sxX (tV b sz p) else -1) = -1 := by
      by_cases t1 : tT b sz p = 1
      · rw [if_pos t1, wI_id (x := sxX (tV b sz p)) (by omega) (by omega)]
        by_cases z : sxX (tV b sz p) = -1
        · exact z
        · exact absurd ⟨t1, z⟩ g
      · rw [if_neg t1]
        rfl
    rw [e]
    exact ⟨fun x => absurd rfl x, fun _ => k0 rfl M5 F5 T5.2.2.1⟩
/-- what an order's reading may change -/
def FrO (o : Nat) (N N' : NN) : Prop := ∀ c i k, ¬ (c = 8 ∧ i = 0 ∧ 2 ≤ k ∧ k ≤ 5) → ¬ (c = 33 ∧ 10 * o ≤ i ∧ i < 10 * o + 10) → ¬ (c = 4 ∧ i = o ∧ k = 1) → N' c i k = N c i k
theorem s_cOrder {K : Int → NN → Prop} {N : NN} {o : Nat} (ho : o < 6) (h : TP b sz N)
    (k1 : (pOrd b sz 10 0 0 (fun _ _ => 0)).1 = true → ∀ N', FrO o N N' → N' 4 o 1 = ((pOrd b sz 10 0 0 (fun _ _ => 0)).2.2.1 : Int) → (∀ i, i < (pOrd b sz 10 0 0 (fun _ _ => 0)).2.2.1 → ∀ f, f < 6 → N' 33 (10 * o + i) f = (pOrd b sz 10 0 0 (fun _ _ => 0)).2.2.2 i f) → K (-1) N')
    (k0 : (pOrd b sz 10 0 0 (fun _ _ => 0)).1 = false → ∀ N', FrO o N N' → K ((pOrd b sz 10 0 0 (fun _ _ => 0)).2.1 : Int) N') : C_X4_read G o N K := by
  have z := h.2.1
  refine vc_X4_read ho (vc_X8_begin (fun M3 e3 => ?_))
  have f3 : ∀ c j k, ¬ (c = 8 ∧ j = 0 ∧ k = 4) → M3 c j k = N c j k := fun c j k a => by rw [e3, up3_o' (by omega)]
  have T3 : TP b sz M3 := ⟨by rw [f3 _ _ _ (by omega)]; exact h.1, h.2.1, fun j hj => by rw [f3 _ _ _ (by omega)]; exact h.2.2 j hj⟩
  refine s_next T3 (Nat.zero_le _) (by rw [e3]; exact up3_s) (fun N0 f0 T0 => ?_)
  have loop : ∀ (k i p : Nat) (R : Nat → Nat → Int) (M : NN), i + k = 10 → FrO o N M → TC b sz p M → (∀ a, a < i → ∀ f, f < 6 → M 33 (10 * o + a) f = R a f) →
      ((pOrd b sz k i p R).1 = true → ∀ N', FrO o N N' → N' 4 o 1 = ((pOrd b sz k i p R).2.2.1 : Int) → (∀ i', i' < (pOrd b sz k i p R).2.2.1 → ∀ f, f < 6 → N' 33 (10 * o + i') f = (pOrd b sz k i p R).2.2.2 i' f) → K (-1) N') →
      ((pOrd b sz k i p R).1 = false → ∀ N', FrO o N N' → K ((pOrd b sz k i p R).2.1 : Int) N') → W_X4_read G K 6 [(0, vR 4 o), (1, vR 8 0), (2, vI (i : Int))] [] M := by
    intro k
    induction k with
    | zero =>
      intro i p R M hi F T rows k1 k0
      refine vc_X4_read_6 ho ?_
      rw [wI_id (x := (i : Int)) (by omega) (by omega)]
      refine ⟨fun _ => ?_, fun q => absurd (by omega) q⟩
      rw [T.2.2.1]
      exact k0 rfl M F
    | succ k ih =>
      intro i p R M hi F T rows k1 k0
      have wi := fun _ : Unit => wI_id (x := (i : Int)) (by omega) (by omega)
      unfold pOrd at k1 k0
      refine vc_X4_read_6 ho ?_
      rw [wi ()]
      refine ⟨fun q => by omega, fun _ => s_takesWord (by decide) (by decide) wl6 T (fun w N1 f1 T1 => ?_) (fun w => ?_)⟩
      · rw [if_pos w] at k1 k0
        rw [wlitI (by decide) (by decide)]
        refine ⟨fun x => absurd x (by decide), fun _ => vc_X4_writeRest ho ?_⟩
        rw [wi ()]
        refine ⟨fun q => by omega, fun _ => ⟨fun q => by omega, fun _ => ⟨i, rfl, by omega, vc_X4_clear (by omega) (fun Q1 q1 Q2 q2 Q3 q3 Q4 q4 Q5 q5 => ⟨i, rfl, by omega, fun Q6 q6 Q7 q7 => ?_⟩)⟩⟩⟩
        have g7 : ∀ c j k, ¬ (c = 33 ∧ j = 10 * o + i ∧ k ≤ 5) → ¬ (c = 4 ∧ j = o ∧ k = 1) → Q7 c j k = N1 c j k := fun c j k a d => by
          rw [q7, up3_o' (by omega), q6, up3_o' (by omega), q5, up3_o' (by omega), q4, up3_o' (by omega), q3, up3_o' (by omega), q2, up3_o' (by omega), q1, up3_o' (by omega)]
        have F7 : FrO o N Q7 := fun c j k a1 a2 a3 => by rw [g7 _ _ _ (by omega) (by omega), f1 _ _ _ a1, F _ _ _ a1 a2 a3]
        refine s_isEnd (p := tE b sz p) (T1.kp fun c j k a => g7 _ _ _ (by omega) (by omega)) ?_
        by_cases te : tT b sz (tE b sz p) = 0
        · rw [if_pos te] at k1
          rw [bI_t te, wlitI (by decide) (by decide)]
          refine ⟨fun x => absurd x (by decide), fun _ => k1 rfl Q7 F7 ?_ (fun a ha f hf => ?_)⟩
          · rw [q7, up3_s]
            show (i : Int) + 1 = ((i + 1 : Nat) : Int)
            omega
          · have ha' : a < i + 1 := ha
            show _ = (if a = i then restRow else R a) f
            by_cases e : a = i
            · subst e
              rw [if_pos rfl]
              rcases (by omega : f = 0 ∨ f = 1 ∨ f = 2 ∨ f = 3 ∨ f = 4 ∨ f = 5) with rfl | rfl | rfl | rfl | rfl | rfl
              · rw [q7, up3_o' (by omega), q6, up3_s]; rfl
              · rw [q7, up3_o' (by omega), q6, up3_o' (by omega), q5, up3_o' (by omega), q4, up3_o' (by omega), q3, up3_o' (by omega), q2, up3_o' (by omega), q1, up3_s]; rfl
              · rw [q7, up3_o' (by omega), q6, up3_o' (by omega), q5, up3_o' (by omega), q4, up3_o' (by omega), q3, up3_o' (by omega), q2, up3_s]; rfl
              · rw [q7, up3_o' (by omega), q6, up3_o' (by omega), q5, up3_o' (by omega), q4, up3_o' (by omega), q3, up3_s]; rfl
              · rw [q7, up3_o' (by omega), q6, up3_o' (by omega), q5, up3_o' (by omega), q4, up3_s]; rfl
              · rw [q7, up3_o' (by omega), q6, up3_o' (by omega), q5, up3_s]; rfl
            · rw [if_neg e, g7 _ _ _ (by omega) (by omega), f1 _ _ _ (by omega), rows a (by omega) f hf]
        · rw [if_neg te] at k0
          rw [bI_f te, wlitI (by decide) (by decide)]
          refine ⟨fun _ => ?_, fun x => absurd rfl x⟩
          rw [g7 _ _ _ (by omega) (by omega), T1.2.2.1]
          exact k0 rfl Q7 F7
      · rw [if_neg w] at k1 k0
        rw [wlitI (by decide) (by decide)]
        refine ⟨fun _ => ⟨fun q9 => ?_, fun q9 => ⟨i, rfl, by omega, ?_⟩⟩, fun x => absurd rfl x⟩
        · rw [if_pos (by omega)] at k0
          rw [T.2.2.1]
          exact k0 rfl M F
        · rw [if_neg (by omega)] at k1 k0
          refine s_cStep (by omega) T (fun ok N3 f3 r3 T3 => ?_) (fun ok N3 f3 v => ?_)
          · rw [if_pos ok] at k1 k0
            rw [wlitI (by decide) (by decide)]
            have F3 : FrO o N N3 := fun c j k a1 a2 a3 => by rw [f3 _ _ _ a1 (by omega), F _ _ _ a1 a2 a3]
            refine ⟨fun x => absurd x (by decide), fun _ => s_takesSign (by decide) T3 (fun s N4 f4 T4 => ?_) (fun s => ?_)⟩
            · rw [if_pos s] at k1 k0
              rw [wlitI (by decide) (by decide)]
              refine ⟨fun _ => ih (i + 1) _ _ N4 (by omega) (fun c j k a1 a2 a3 => by rw [f4 _ _ _ a1, F3 _ _ _ a1 a2 a3]) T4 (fun a ha f hf => ?_) k1 k0, fun x => absurd (by decide) x⟩
              rw [f4 _ _ _ (by omega)]
              show _ = (if a = i then (pStep b sz p).2.2 else R a) f
              by_cases e : a = i
              · subst e
                rw [if_pos rfl, r3 f hf]
              · rw [if_neg e, f3 _ _ _ (by omega) (by omega), rows a (by omega) f hf]
            · rw [if_neg s] at k0
              rw [wlitI (by decide) (by decide)]
              refine ⟨fun x => absurd rfl x, fun _ => ?_⟩
              rw [T3.2.2.1]
              exact k0 rfl N3 F3
          · have ok' : ¬ (pStep b sz p).1 = true := by rw [ok]; decide
            rw [if_neg ok'] at k0
            rw [wlitI (by decide) (by decide)]
            refine ⟨fun _ => ?_, fun x => absurd rfl x⟩
            rw [v]
            exact k0 rfl N3 (fun c j k a1 a2 a3 => by rw [f3 _ _ _ a1 (by omega), F _ _ _ a1 a2 a3])
  exact loop 10 0 0 _ N0 rfl (fun c j k a1 _ _ => by rw [f0 _ _ _ a1, f3 _ _ _ (by omega)]) T0 (fun a ha => by omega) k1 k0
end CO
