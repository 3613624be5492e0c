/-! a month's collecting keeps its numbers small; eight fields of a loan are all that counts -/
def tr8 (v : Nat → Int) : Nat → Int := fun f => if f < 8 then v f else 0
theorem tr8_lt {v : Nat → Int} {f : Nat} (h : f < 8) : tr8 v f = v f := if_pos h
theorem tr8_ge {v : Nat → Int} {f : Nat} (h : ¬ f < 8) : tr8 v f = 0 := if_neg h
theorem tr8_of {v w : Nat → Int} (h : ∀ f, f < 8 → v f = w f) : tr8 v = tr8 w := funext fun f => by
  by_cases hf : f < 8
  · rw [tr8_lt hf, tr8_lt hf, h f hf]
  · rw [tr8_ge hf, tr8_ge hf]
/-- a law's value is read off these fields alone -/
def lvC (lv : Nat → (Nat → Int) → Int → Int) : Prop := ∀ part v w m, (∀ f, f < 8 → v f = w f) → lv part v m = lv part w m
theorem tr8_if {g : Nat → Int} {h : Nat → Int} (e1 : ∀ f, f < 8 → g f = h f) (e2 : ∀ f, ¬ f < 8 → g f = 0) : g = tr8 h := funext fun f => by
  by_cases hf : f < 8
  · rw [tr8_lt hf, e1 f hf]
  · rw [tr8_ge hf, e2 f hf]
theorem tr8_beg {m : Int} {v : Nat → Int} : vBeg m (tr8 v) = tr8 (vBeg m v) := by
  refine tr8_if (fun f hf => ?_) (fun f hf => ?_)
  · unfold vBeg
    rw [tr8_lt hf]
    rfl
  · rw [vBeg_8 hf, tr8_ge hf]
theorem tr8_all {st : Int} {v : Nat → Int} : vAll st (tr8 v) = tr8 (vAll st v) := by
  refine tr8_if (fun f hf => ?_) (fun f hf => ?_)
  · unfold vAll
    rw [tr8_lt hf]
  · unfold vAll
    rw [if_neg (by omega), if_neg (by omega), if_neg (by omega), tr8_ge hf]
theorem tr8_fail {m : Int} {v : Nat → Int} : vFail m (tr8 v) = tr8 (vFail m v) := by
  refine tr8_if (fun f hf => ?_) (fun f hf => ?_)
  · unfold vFail
    rw [tr8_lt hf]
  · unfold vFail
    rw [if_neg (by omega), if_neg (by omega), if_neg (by omega), tr8_ge hf]
theorem tr8_late {m : Int} {v : Nat → Int} : vLate m (tr8 v) = tr8 (vLate m v) := by
  refine tr8_if (fun f hf => ?_) (fun f hf => ?_)
  · unfold vLate
    rw [tr8_lt hf]
    rfl
  · unfold vLate
    rw [if_neg (by omega), if_neg (by omega), if_neg (by omega), tr8_ge hf]
theorem tr8_mon {m : Int} {v : Nat → Int} : vMon m (tr8 v) = tr8 (vMon m v) := by
  refine tr8_if (fun f hf => ?_) (fun f hf => ?_)
  · unfold vMon
    rw [tr8_lt hf]
    rfl
  · unfold vMon
    rw [if_neg (by omega), if_neg (by omega), if_neg (by omega), tr8_ge hf]
theorem tr8_sell {v : Nat → Int} : vSell (tr8 v) = tr8 (vSell v) := by
  refine tr8_if (fun f hf => ?_) (fun f hf => ?_)
  · unfold vSell
    rw [tr8_lt hf]
  · unfold vSell
    rw [if_neg (by omega), if_neg (by omega), tr8_ge hf]
theorem tr8_draw {m f l e x : Int} {v : Nat → Int} : vDraw m f l e x (tr8 v) = tr8 (vDraw m f l e x v) := by
  have e3 : tr8 v 3 = v 3 := rfl
  have ef : freeB m (tr8 v) = freeB m v := rfl
  unfold vDraw
  rw [e3, ef]
  by_cases a : x < f
  · rw [if_pos a, if_pos a, tr8_fail]
  · rw [if_neg a, if_neg a]
    by_cases b : x < f + l ∧ freeB m v = false
    · rw [if_pos b, if_pos b, tr8_late]
    · rw [if_neg b, if_neg b]
      by_cases c : f + l ≤ x ∧ x < f + l + e
      · rw [if_pos c, if_pos c, tr8_all]
      · rw [if_neg c, if_neg c, tr8_mon]
theorem tr8_step {m f l e x : Int} {v : Nat → Int} : vStep m f l e x (tr8 v) = tr8 (vStep m f l e x v) := by
  have e5 : tr8 v 5 = v 5 := rfl
  have e7 : tr8 v 7 = v 7 := rfl
  unfold vStep
  rw [e5, e7]
  by_cases a : v 5 = 0 ∨ v 5 = 1
  · rw [if_pos a, if_pos a, tr8_draw]
  · rw [if_neg a, if_neg a]
    by_cases b : v 5 = 6
    · rw [if_pos b, if_pos b, tr8_all]
    · rw [if_neg b, if_neg b]
      by_cases c : v 5 = 3 ∧ v 7 + 3 ≤ m
      · rw [if_pos c, if_pos c, tr8_sell]
      · rw [if_neg c, if_neg c]
theorem w8_mon {m : Int} {v : Nat → Int} : wMon m (tr8 v) = wMon m v := rfl
theorem w8_draw {m f l e x adv : Int} {v : Nat → Int} : wDraw m f l e x adv (tr8 v) = wDraw m f l e x adv v := rfl
theorem w8_step {m f l e x adv back : Int} {v : Nat → Int} : wStep m f l e x adv back (tr8 v) = wStep m f l e x adv back v := rfl
section
variable {lv : Nat → (Nat → Int) → Int → Int} {m seed adv back : Int} {n : Nat} {v w : Nat → Int}
theorem tr8_fin (C : lvC lv) : vFin lv m seed n (tr8 v) = tr8 (vFin lv m seed n v) := by
  unfold vFin
  rw [tr8_beg, tr8_step, C 0 (tr8 (vBeg m v)) (vBeg m v) m (fun f h => tr8_lt h), C 1 (tr8 (vBeg m v)) (vBeg m v) m (fun f h => tr8_lt h), C 2 (tr8 (vBeg m v)) (vBeg m v) m (fun f h => tr8_lt h)]
theorem w8_fin (C : lvC lv) : wFin lv m seed adv back n (tr8 v) = wFin lv m seed adv back n v := by
  unfold wFin
  rw [tr8_beg, w8_step, C 0 (tr8 (vBeg m v)) (vBeg m v) m (fun f h => tr8_lt h), C 1 (tr8 (vBeg m v)) (vBeg m v) m (fun f h => tr8_lt h), C 2 (tr8 (vBeg m v)) (vBeg m v) m (fun f h => tr8_lt h)]
theorem vFin_8 (C : lvC lv) (h : ∀ f, f < 8 → v f = w f) : ∀ f, f < 8 → vFin lv m seed n v f = vFin lv m seed n w f := by
  intro f hf
  rw [← tr8_lt (v := vFin lv m seed n v) hf, ← tr8_fin C, tr8_of h, tr8_fin C, tr8_lt hf]
theorem wFin_8 (C : lvC lv) (h : ∀ f, f < 8 → v f = w f) : wFin lv m seed adv back n v = wFin lv m seed adv back n w := by
  rw [← w8_fin C, tr8_of h, w8_fin C]
end
/-- a loan behind k months -/
def LK (k : Int) (v : Nat → Int) : Prop := 0 ≤ v 0 ∧ v 0 ≤ 5 ∧ 0 ≤ v 1 ∧ v 1 ≤ 1000000 + 25000 * (k / 6) ∧ 0 ≤ v 2 ∧ v 2 ≤ 200 ∧ 1 ≤ v 3 ∧ v 3 ≤ 61 ∧ 0 ≤ v 4 ∧ v 4 ≤ 25000 * k ∧ 0 ≤ v 5 ∧ v 5 ≤ 6 ∧ 0 ≤ v 6 ∧ v 6 ≤ 2000000 ∧ 0 ≤ v 7 ∧ v 7 ≤ 60 ∧ (v 5 = 0 ∨ v 5 = 1 → k + 1 ≤ v 3) ∧ (v 5 = 3 → k ≤ v 7 + 2 ∧ v 7 ≤ k)
theorem LK_8 {k : Int} {v w : Nat → Int} (h : ∀ f, f < 8 → v f = w f) (B : LK k w) : LK k v := by
  unfold LK at *
  rw [h 0 (by decide), h 1 (by decide), h 2 (by decide), h 3 (by decide), h 4 (by decide), h 5 (by decide), h 6 (by decide), h 7 (by decide)]
  exact B
theorem LK_LBv {k : Int} {v : Nat → Int} (hk : 0 ≤ k ∧ k ≤ 60) (B : LK k v) : LBv v := by
  unfold LK at B
  unfold LBv
  omega
theorem iS_k {b r A : Int} (h1 : 0 ≤ b) (h2 : b ≤ A) (h3 : 0 ≤ r) (h4 : r ≤ 200) : 0 ≤ iS b r ∧ iS b r ≤ A / 50 := by
  have h := mul_rng h1 h2 h3 h4
  unfold iS
  omega
theorem pS_rng {kd b r mo pay k : Int} (h1 : 0 ≤ b) (hp : k ≤ mo) : 0 ≤ pS kd b r mo pay k ∧ pS kd b r mo pay k ≤ b := by
  unfold pS
  split
  · omega
  · split
    · omega
    · split
      · generalize hd : mo + 1 - k = d
        have d0 : 0 < d := by omega
        refine ⟨Int.ediv_nonneg (by omega) (by omega), ?_⟩
        have : (b + d - 1) / d < b + 1 := by
          refine Int.ediv_lt_of_lt_mul d0 ?_
          have : 0 ≤ b * (d - 1) := Int.mul_nonneg h1 (by omega)
          have e : (b + 1) * d = b * (d - 1) + b + d := by
            rw [Int.add_mul, Int.mul_sub, Int.mul_one, Int.one_mul]
            omega
          omega
        omega
      · omega
def WK (w : Nat → Int) : Prop := 0 ≤ w 0 ∧ w 0 ≤ 2000000 ∧ 0 ≤ w 1 ∧ w 1 ≤ 2000000 ∧ 0 ≤ w 2 ∧ w 2 ≤ 2000000 ∧ 0 ≤ w 3 ∧ w 3 ≤ 25000 ∧ 0 ≤ w 8 ∧ w 8 ≤ 2000000
/-- a month that is begun, its numbers as they were -/
def LG (k : Int) (v : Nat → Int) : Prop := 0 ≤ v 0 ∧ v 0 ≤ 5 ∧ 0 ≤ v 1 ∧ v 1 ≤ 1000000 + 25000 * ((k - 1) / 6) ∧ 0 ≤ v 2 ∧ v 2 ≤ 200 ∧ 1 ≤ v 3 ∧ v 3 ≤ 61 ∧ 0 ≤ v 4 ∧ v 4 ≤ 25000 * (k - 1) ∧ 0 ≤ v 5 ∧ v 5 ≤ 6 ∧ 0 ≤ v 6 ∧ v 6 ≤ 2000000 ∧ 0 ≤ v 7 ∧ v 7 ≤ 60 ∧ (v 5 = 0 ∨ v 5 = 1 → k ≤ v 3) ∧ (v 5 = 3 → k ≤ v 7 + 3 ∧ v 7 ≤ k)
theorem LG_of {k : Int} {v : Nat → Int} (B : LK (k - 1) v) : LG k v := by
  unfold LK at B
  unfold LG
  omega
theorem LG_beg {k : Int} {v : Nat → Int} (hk : 1 ≤ k ∧ k ≤ 60) (B : LG k v) : LG k (vBeg k v) := by
  by_cases h13 : k = 13 ∧ (v 0 = 2 ∨ v 0 = 4) ∧ (v 5 = 0 ∨ v 5 = 1)
  · have e := vBeg_13 h13
    unfold LG at *
    have hi := iS_k (b := v 1) (r := min 200 (2 * v 2)) (A := 1300000) (by omega) (by omega) (by omega) (by omega)
    have hp := payS_rng (r := min 200 (2 * v 2)) (b := v 1) (n := (v 3 + 1 - k).toNat) 64 0 (v 1 + iS (v 1) (min 200 (2 * v 2))) (by omega)
    have e0 : vBeg k v 0 = v 0 := rfl
    have e1 : vBeg k v 1 = v 1 := rfl
    have e2 : vBeg k v 2 = min 200 (2 * v 2) := e 2
    have e3 : vBeg k v 3 = v 3 := rfl
    have e4 : vBeg k v 4 = v 4 := rfl
    have e5 : vBeg k v 5 = v 5 := rfl
    have e6 : vBeg k v 6 = _ := e 6
    have e7 : vBeg k v 7 = v 7 := rfl
    simp only [Nat.reduceEqDiff, ↓reduceIte] at e6
    rw [e0, e1, e2, e3, e4, e5, e6, e7]
    generalize payS (min 200 (2 * v 2)) (v 1) (v 3 + 1 - k).toNat 64 0 (v 1 + iS (v 1) (min 200 (2 * v 2))) = z at *
    omega
  · by_cases h1 : k = 1 ∧ (v 0 = 1 ∨ v 0 = 2 ∨ v 0 = 4)
    · have e := vBeg_1 h1
      unfold LG at *
      have hi := iS_k (b := v 1) (r := v 2) (A := 1300000) (by omega) (by omega) (by omega) (by omega)
      have hp := payS_rng (r := v 2) (b := v 1) (n := (v 3 + 1 - k).toNat) 64 0 (v 1 + iS (v 1) (v 2)) (by omega)
      have e0 : vBeg k v 0 = v 0 := rfl
      have e1 : vBeg k v 1 = v 1 := rfl
      have e2 : vBeg k v 2 = v 2 := e 2
      have e3 : vBeg k v 3 = v 3 := rfl
      have e4 : vBeg k v 4 = v 4 := rfl
      have e5 : vBeg k v 5 = v 5 := rfl
      have e6 : vBeg k v 6 = _ := e 6
      have e7 : vBeg k v 7 = v 7 := rfl
      simp only [↓reduceIte] at e6
      rw [e0, e1, e2, e3, e4, e5, e6, e7]
      generalize payS (v 2) (v 1) (v 3 + 1 - k).toNat 64 0 (v 1 + iS (v 1) (v 2)) = z at *
      omega
    · have e := vBeg_0 h13 h1
      unfold LG at *
      rw [e 0, e 1, e 2, e 3, e 4, e 5, e 6, e 7]
      exact B
theorem LK_of {k : Int} {v : Nat → Int} {a0 a1 a2 a3 a4 a5 a6 a7 : Int} (h0 : v 0 = a0) (h1 : v 1 = a1) (h2 : v 2 = a2) (h3 : v 3 = a3) (h4 : v 4 = a4) (h5 : v 5 = a5) (h6 : v 6 = a6) (h7 : v 7 = a7)
    (h : 0 ≤ a0 ∧ a0 ≤ 5 ∧ 0 ≤ a1 ∧ a1 ≤ 1000000 + 25000 * (k / 6) ∧ 0 ≤ a2 ∧ a2 ≤ 200 ∧ 1 ≤ a3 ∧ a3 ≤ 61 ∧ 0 ≤ a4 ∧ a4 ≤ 25000 * k ∧ 0 ≤ a5 ∧ a5 ≤ 6 ∧ 0 ≤ a6 ∧ a6 ≤ 2000000 ∧ 0 ≤ a7 ∧ a7 ≤ 60 ∧ (a5 = 0 ∨ a5 = 1 → k + 1 ≤ a3) ∧ (a5 = 3 → k ≤ a7 + 2 ∧ a7 ≤ k)) : LK k v := by
  unfold LK
  rw [h0, h1, h2, h3, h4, h5, h6, h7]
  exact h
theorem WK_of {w : Nat → Int} {a0 a1 a2 a3 a8 : Int} (h0 : w 0 = a0) (h1 : w 1 = a1) (h2 : w 2 = a2) (h3 : w 3 = a3) (h8 : w 8 = a8) (h : 0 ≤ a0 ∧ a0 ≤ 2000000 ∧ 0 ≤ a1 ∧ a1 ≤ 2000000 ∧ 0 ≤ a2 ∧ a2 ≤ 2000000 ∧ 0 ≤ a3 ∧ a3 ≤ 25000 ∧ 0 ≤ a8 ∧ a8 ≤ 2000000) : WK w := by
  unfold WK
  rw [h0, h1, h2, h3, h8]
  exact h
theorem WK_0 : WK (fun _ => 0) := by unfold WK; decide
theorem step_grow {k f l e x adv back : Int} {v : Nat → Int} (hk : 1 ≤ k ∧ k ≤ 60) (B : LG k v) (hb : 0 ≤ back ∧ back ≤ 100) : LK k (vStep k f l e x v) ∧ WK (wStep k f l e x adv back v) := by
  have B' := B
  obtain ⟨b0, b1, b2, b3, b4, b5, b6, b7, b8, b9, b10, b11, b12, b13, b14, b15, b16, b17⟩ := B
  have hi := iS_k (b := v 1) (r := v 2) b2 b3 b4 b5
  have all : ∀ (i st : Int), 0 ≤ i ∧ i ≤ 25000 → (st = 2 ∨ st = 5 ∨ st = 6) → LK k (vAll st v) ∧ WK (wAll i v) := by
    intro i st h1 h2
    exact ⟨LK_of (a0 := v 0) (a1 := 0) (a2 := v 2) (a3 := v 3) (a4 := 0) (a5 := st) (a6 := v 6) (a7 := v 7) rfl rfl rfl rfl rfl rfl rfl rfl (by omega), WK_of (a0 := i + v 4) (a1 := v 1) (a2 := 0) (a3 := 0) (a8 := 0) rfl rfl rfl rfl rfl (by omega)⟩
  unfold vStep wStep
  by_cases g : v 5 = 0 ∨ v 5 = 1
  · rw [if_pos g, if_pos g]
    have hm := b16 g
    unfold vDraw wDraw
    by_cases a : x < f
    · rw [if_pos a, if_pos a]
      exact ⟨LK_of (a0 := v 0) (a1 := v 1) (a2 := v 2) (a3 := v 3) (a4 := 0) (a5 := 3) (a6 := v 6) (a7 := k) rfl rfl rfl rfl rfl rfl rfl rfl (by omega), WK_0⟩
    · rw [if_neg a, if_neg a]
      by_cases b : x < f + l ∧ freeB k v = false
      · rw [if_pos b, if_pos b]
        refine ⟨LK_of (a0 := v 0) (a1 := v 1) (a2 := v 2) (a3 := if v 3 ≤ k then v 3 + 1 else v 3) (a4 := v 4 + iS (v 1) (v 2)) (a5 := 1) (a6 := v 6) (a7 := v 7) rfl rfl rfl rfl rfl rfl rfl rfl ?_, WK_of (a0 := 0) (a1 := 0) (a2 := 0) (a3 := if adv = 0 then 0 else iS (v 1) (v 2)) (a8 := 0) rfl rfl rfl rfl rfl ?_⟩
        · clear all
          split <;> omega
        · clear all
          split <;> omega
      · rw [if_neg b, if_neg b]
        by_cases c : f + l ≤ x ∧ x < f + l + e
        · rw [if_pos c, if_pos c]
          exact all _ _ (by omega) (by split <;> omega)
        · rw [if_neg c, if_neg c]
          have hp := pS_rng (kd := v 0) (b := v 1) (r := v 2) (mo := v 3) (pay := v 6) (k := k) b2 hm
          refine ⟨LK_of (a0 := v 0) (a1 := if freeB k v = true then v 1 + iS (v 1) (v 2) else v 1 - pS (v 0) (v 1) (v 2) (v 3) (v 6) k) (a2 := v 2) (a3 := v 3) (a4 := 0) (a5 := if v 3 ≤ k then 5 else 0) (a6 := v 6) (a7 := v 7) rfl rfl rfl rfl rfl rfl rfl rfl ?_, WK_of (a0 := if freeB k v = true then v 4 else v 4 + iS (v 1) (v 2)) (a1 := if freeB k v = true then 0 else pS (v 0) (v 1) (v 2) (v 3) (v 6) k) (a2 := 0) (a3 := 0) (a8 := 0) rfl rfl rfl rfl rfl ?_⟩
          · clear all
            generalize pS (v 0) (v 1) (v 2) (v 3) (v 6) k = z at *
            by_cases hF : freeB k v = true
            · have h2 := freeB_iff.mp hF
              rw [if_pos hF]
              split <;> omega
            · rw [if_neg hF]
              split <;> omega
          · clear all
            generalize pS (v 0) (v 1) (v 2) (v 3) (v 6) k = z at *
            split <;> omega
  · rw [if_neg g, if_neg g]
    by_cases g6 : v 5 = 6
    · rw [if_pos g6, if_pos g6]
      exact all 0 6 (by omega) (by omega)
    · rw [if_neg g6, if_neg g6]
      by_cases c : v 5 = 3 ∧ v 7 + 3 ≤ k
      · rw [if_pos c, if_pos c]
        have m1 := mul_rng b2 (Int.le_refl (v 1)) hb.1 hb.2
        refine ⟨LK_of (a0 := v 0) (a1 := 0) (a2 := v 2) (a3 := v 3) (a4 := v 4) (a5 := 4) (a6 := v 6) (a7 := v 7) rfl rfl rfl rfl rfl rfl rfl rfl (by omega), WK_of (a0 := 0) (a1 := 0) (a2 := v 1 * back / 100) (a3 := 0) (a8 := v 1 - v 1 * back / 100) rfl rfl rfl rfl rfl (by omega)⟩
      · rw [if_neg c, if_neg c]
        refine ⟨LK_of (a0 := v 0) (a1 := v 1) (a2 := v 2) (a3 := v 3) (a4 := v 4) (a5 := v 5) (a6 := v 6) (a7 := v 7) rfl rfl rfl rfl rfl rfl rfl rfl (by omega), WK_0⟩
theorem fin_grow {lv : Nat → (Nat → Int) → Int → Int} {k seed adv back : Int} {n : Nat} {v : Nat → Int} (hk : 1 ≤ k ∧ k ≤ 60) (B : LK (k - 1) v) (hb : 0 ≤ back ∧ back ≤ 100) : LK k (vFin lv k seed n v) ∧ WK (wFin lv k seed adv back n v) :=
  step_grow hk (LG_beg hk (LG_of B)) hb
