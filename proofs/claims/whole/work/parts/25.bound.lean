/-! a month's pouring keeps its numbers small -/
def OKm (mo : Nat → Int) : Prop := 0 ≤ mo 0 ∧ 0 ≤ mo 1 ∧ 0 ≤ mo 2 ∧ 0 ≤ mo 3 ∧ mo 0 + mo 1 + mo 2 + mo 3 ≤ 900000000 ∧ 0 ≤ mo 4 ∧ mo 4 ≤ mo 0 ∧ 0 ≤ mo 6 ∧ mo 6 ≤ 100000000 ∧ 0 ≤ mo 7 ∧ mo 7 ≤ 100000000 ∧ 0 ≤ mo 8 ∧ mo 8 ≤ 100000000 ∧ 0 ≤ mo 9 ∧ mo 9 ≤ 12
def okR (r : Nat → Int) : Prop := 0 ≤ r 0 ∧ r 0 ≤ 5 ∧ ((1 ≤ r 0 ∧ r 0 ≤ 3 ∧ 0 ≤ r 1 ∧ r 1 ≤ 4) ∨ ((r 0 = 0 ∨ 4 ≤ r 0) ∧ r 1 = -1)) ∧ -1 ≤ r 2 ∧ r 2 ≤ 9999 ∧ (r 0 = 0 ∨ r 0 = 3 ∨ r 0 = 4 → 0 ≤ r 2) ∧ 0 ≤ r 3 ∧ r 3 ≤ 4 ∧ -1 ≤ r 4 ∧ r 4 ≤ 4 ∧ -1 ≤ r 5 ∧ r 5 ≤ 9999
def pOK (k : Int) (v : Nat → Int) : Prop := 0 ≤ v 0 ∧ v 0 ≤ 200 ∧ 0 ≤ v 2 ∧ v 2 + v 5 + v 6 = v 1 ∧ v 1 ≤ 9999999 ∧ 0 ≤ v 3 ∧ 0 ≤ v 4 ∧ v 3 + v 4 ≤ 200000 * k ∧ 0 ≤ v 5 ∧ 0 ≤ v 6 ∧ v 5 ≤ v 7 ∧ v 7 ≤ 60 * v 5
def qOK (k : Int) (v : Nat → Int) : Prop := 0 ≤ v 0 ∧ v 0 ≤ 200 ∧ 0 ≤ v 2 ∧ v 2 + v 5 + v 6 = v 1 ∧ v 1 ≤ 9999999 ∧ 0 ≤ v 8 ∧ 0 ≤ v 4 ∧ v 8 + v 4 ≤ 200000 * k ∧ 0 ≤ v 5 ∧ 0 ≤ v 6 ∧ v 5 ≤ v 7 ∧ v 7 ≤ 60 * v 5
def sOK (k cash : Int) (v : Nat → Int) : Prop := 0 ≤ v 2 ∧ v 2 ≤ 1000 ∧ 1 ≤ v 3 ∧ v 3 ≤ 12 ∧ 0 ≤ v 4 ∧ v 4 ≤ 9999 ∧ (v 5 = 0 ∨ v 5 = 1) ∧ 0 ≤ v 6 ∧ v 6 ≤ k ∧ 0 ≤ v 7 ∧ v 7 ≤ 100000000 * k ∧ 0 ≤ v 8 ∧ v 8 ≤ 100000000 ∧ 0 ≤ v 9 ∧ 0 ≤ cash ∧ v 9 + cash ≤ 1000000000 * k
/-- between two months -/
def OKF (c : Nat) (k : Int) (F : Nat → Nat → Int) : Prop := c ≤ 5 ∧ F 9 1 = c ∧ (∀ q, q < c → pOK k (F q)) ∧ sOK k 0 (F 9)
/-- between two steps -/
def SPF (c : Nat) (k cash : Int) (F : Nat → Nat → Int) : Prop := c ≤ 5 ∧ F 9 1 = c ∧ (∀ q, q < c → qOK k (F q)) ∧ sOK k cash (F 9)
def pgX (c : Nat) (F : Nat → Nat → Int) (r : Nat → Int) : Prop := (pgP F r = none ∧ (r 1 = -1 ∨ (c : Int) ≤ r 1)) ∨ ∃ p : Nat, pgP F r = some p ∧ p < c ∧ r 1 = p
theorem pg_ok {c : Nat} {F : Nat → Nat → Int} {r : Nat → Int} (h5 : c ≤ 5) (h : F 9 1 = c) (hr : okR r) : pgX c F r := by
  unfold pgX
  unfold okR at hr
  unfold pgP
  rw [h, wI_id (x := r 1) (by omega) (by omega), wI_id (x := (c : Int)) (by omega) (by omega)]
  by_cases a : r 1 < 0
  · rw [if_pos a]
    exact .inl ⟨rfl, by omega⟩
  · rw [if_neg a]
    by_cases b : (c : Int) ≤ r 1
    · rw [if_pos b]
      exact .inl ⟨rfl, by omega⟩
    · rw [if_neg b]
      exact .inr ⟨_, rfl, by omega, by omega⟩
theorem wish_ok {c : Nat} {k cash : Int} {F : Nat → Nat → Int} {r mo : Nat → Int} (hk : 1 ≤ k ∧ k ≤ 60) (S : SPF c k cash F) (hr : okR r) (hm : OKm mo) :
    0 ≤ wishP F r mo cash ∧ wishP F r mo cash ≤ 100000000000 ∧ (r 0 = 1 → ∀ p, pgP F r = some p → wishP F r mo cash = F p 8) ∧ (r 0 = 2 ∨ r 0 = 3 → ∀ p, pgP F r = some p → wishP F r mo cash ≤ F p 2) ∧ (1 ≤ r 0 ∧ r 0 ≤ 3 → pgP F r = none → wishP F r mo cash = 0) ∧ (r 0 = 4 → F 9 4 + wishP F r mo cash ≤ 9999) := by
  obtain ⟨c5, h1, hq, hs⟩ := S
  have pg := pg_ok c5 h1 hr
  unfold okR at hr
  unfold OKm at hm
  unfold sOK at hs
  have e0 := wI_id (x := r 0) (by omega) (by omega)
  have e2 := wI_id (x := r 2) (by omega) (by omega)
  unfold wishP
  rw [e0, e2]
  have m6 : r 0 = 0 → 0 ≤ mo 6 * r 2 ∧ mo 6 * r 2 ≤ 100000000 * 9999 := fun _ => mul_rng (by omega) (by omega) (by omega) (by omega)
  have m1 : r 0 = 3 → 0 ≤ mo 1 * r 2 ∧ mo 1 * r 2 ≤ 900000000 * 9999 := fun _ => mul_rng (by omega) (by omega) (by omega) (by omega)
  rcases (by omega : r 0 = 0 ∨ r 0 = 1 ∨ r 0 = 2 ∨ r 0 = 3 ∨ r 0 = 4 ∨ r 0 = 5) with h | h | h | h | h | h
  · have := m6 h
    rw [if_pos h, wL_id (x := mo 6 * r 2) (by omega) (by omega), td_n (by omega)]
    refine ⟨by omega, by omega, by omega, by omega, by omega, by omega⟩
  · rw [if_neg (by omega), if_pos h]
    rcases pg with ⟨e, _⟩ | ⟨p, e, hp, _⟩
    · rw [e]
      refine ⟨by simp, by simp, fun _ p q => by simp at q, fun _ p q => by simp at q, fun _ _ => rfl, by omega⟩
    · rw [e]
      have := hq p hp
      unfold qOK at this
      refine ⟨by dsimp only; omega, by dsimp only; omega, fun _ p' q => by rw [Option.some.inj q], by omega, fun _ q => by simp at q, by omega⟩
  · rw [if_neg (by omega), if_neg (by omega), if_pos h]
    rcases pg with ⟨e, _⟩ | ⟨p, e, hp, _⟩
    · rw [e]
      refine ⟨by simp, by simp, fun _ p q => by simp at q, fun _ p q => by simp at q, fun _ _ => rfl, by omega⟩
    · rw [e]
      have := hq p hp
      unfold qOK at this
      refine ⟨by dsimp only; omega, by dsimp only; omega, by omega, fun _ p' q => by rw [Option.some.inj q]; exact Int.le_refl _, fun _ q => by simp at q, by omega⟩
  · rw [if_neg (by omega), if_neg (by omega), if_neg (by omega), if_pos h]
    have := m1 h
    rcases pg with ⟨e, _⟩ | ⟨p, e, hp, _⟩
    · rw [e]
      refine ⟨by simp, by simp, fun _ p q => by simp at q, fun _ p q => by simp at q, fun _ _ => rfl, by omega⟩
    · rw [e]
      have := hq p hp
      unfold qOK at this
      dsimp only
      rw [wL_id (x := F p 2) (by omega) (by omega), wL_id (x := mo 1 * r 2) (by omega) (by omega), td_n (by omega), wL_id (by omega) (by omega)]
      refine ⟨by omega, by omega, by omega, fun _ p' q => by rw [← Option.some.inj q]; omega, fun _ q => by simp at q, by omega⟩
  · rw [if_neg (by omega), if_neg (by omega), if_neg (by omega), if_neg (by omega), if_pos h, wL_id (x := r 2 - F 9 4) (by omega) (by omega)]
    refine ⟨by omega, by omega, by omega, by omega, by omega, by omega⟩
  · rw [if_neg (by omega), if_neg (by omega), if_neg (by omega), if_neg (by omega), if_neg (by omega)]
    refine ⟨by omega, by omega, by omega, by omega, by omega, by omega⟩
theorem up2_9 {F : Nat → Nat → Int} {q k : Nat} {v : Int} (h : q ≠ 9) : up2 F q k v 9 = F 9 := funext fun _ => if_neg fun e => h e.1.symm
theorem up2_q {F : Nat → Nat → Int} {q p k : Nat} {v : Int} (h : p ≠ q) : up2 F q k v p = F p := funext fun _ => if_neg fun e => h e.1
theorem up2_s {F : Nat → Nat → Int} {q k j : Nat} {v : Int} : up2 F q k v q j = if j = k then v else F q j := by
  unfold up2
  by_cases h : j = k
  · rw [if_pos h, if_pos ⟨rfl, h⟩]
  · rw [if_neg h, if_neg fun e => h e.2]
theorem step_ok {c i : Nat} {cnt k cash : Int} {F : Nat → Nat → Int} {r mo : Nat → Int} (hk : 1 ≤ k ∧ k ≤ 60) (S : SPF c k cash F) (hr : ¬ wI cnt ≤ (i : Int) → okR r) (hm : OKm mo) :
    0 ≤ stepP cnt k mo i r F cash ∧ stepP cnt k mo i r F cash ≤ cash ∧ SPF c k (cash - stepP cnt k mo i r F cash) (stepF cnt k mo i r F cash) := by
  have S' := S
  obtain ⟨c5, h1, hq, hs⟩ := S
  have hs' := hs
  unfold sOK at hs
  unfold stepP stepF
  by_cases a : wI cnt ≤ (i : Int)
  · rw [if_pos a, if_pos a, Int.sub_zero]
    exact ⟨by omega, by omega, S'⟩
  · have hr := hr a
    obtain ⟨w1, w2, w3, w4, w5, w6⟩ := wish_ok hk S' hr hm
    rw [if_neg a, if_neg a]
    by_cases b : passP F r k mo = true
    · rw [if_pos b, if_pos b, wL_id (x := cash) (by omega) (by omega), wL_id (x := wishP F r mo cash) (by omega) (by omega)]
      generalize hv : min cash (wishP F r mo cash) = v
      refine ⟨by omega, by omega, c5, ?_⟩
      have pg := pg_ok c5 h1 hr
      have hr' := hr
      unfold okR at hr
      have e0 := wI_id (x := r 0) (by omega) (by omega)
      have ek := wI_id (x := k) (by omega) (by omega)
      unfold giveP
      rw [e0]
      have same : v = 0 ∨ r 0 = 0 → F 9 1 = c ∧ (∀ q, q < c → qOK k (F q)) ∧ sOK k (cash - v) (F 9) := fun _ => ⟨h1, hq, by unfold sOK; omega⟩
      rcases (by omega : r 0 = 0 ∨ r 0 = 1 ∨ r 0 = 2 ∨ r 0 = 3 ∨ r 0 = 4 ∨ r 0 = 5) with h | h | h | h | h | h
      · rw [if_neg (by omega), if_neg (by omega), if_neg (by omega), if_neg (by omega)]
        exact same (.inr h)
      · rw [if_pos h]
        rcases pg with ⟨e, _⟩ | ⟨p, e, hp, _⟩
        · have := w5 (by omega) e
          rw [e]
          exact same (by omega)
        · have := w3 h p e
          rw [e]
          dsimp only
          rw [up2_9 (by omega), up2_9 (by omega)]
          refine ⟨h1, fun q hq' => ?_, by unfold sOK; omega⟩
          have := hq q hq'
          by_cases e : q = p
          · subst e
            unfold qOK at *
            simp [up2_s]
            omega
          · rw [up2_q e, up2_q e]
            exact this
      · rw [if_neg (by omega), if_pos (by omega)]
        rcases pg with ⟨e, _⟩ | ⟨p, e, hp, _⟩
        · have := w5 (by omega) e
          rw [e]
          exact same (by omega)
        · have := w4 (by omega) p e
          rw [e]
          dsimp only
          unfold payP
          rw [up2_9 (by omega), up2_9 (by omega), up2_9 (by omega), ek]
          refine ⟨h1, fun q hq' => ?_, by unfold sOK; omega⟩
          have := hq q hq'
          by_cases e : q = p
          · subst e
            have m1 := mul_rng (a := v) (b := k - 1) (A := v) (B := 59) (by omega) (by omega) (by omega) (by omega)
            have m2 : v * k = v * (k - 1) + v := by rw [Int.mul_sub, Int.mul_one]; omega
            unfold qOK at *
            simp [up2_s]
            omega
          · rw [up2_q e, up2_q e, up2_q e]
            exact this
      · rw [if_neg (by omega), if_pos (by omega)]
        rcases pg with ⟨e, _⟩ | ⟨p, e, hp, _⟩
        · have := w5 (by omega) e
          rw [e]
          exact same (by omega)
        · have := w4 (by omega) p e
          rw [e]
          dsimp only
          unfold payP
          rw [up2_9 (by omega), up2_9 (by omega), up2_9 (by omega), ek]
          refine ⟨h1, fun q hq' => ?_, by unfold sOK; omega⟩
          have := hq q hq'
          by_cases e : q = p
          · subst e
            have m1 := mul_rng (a := v) (b := k - 1) (A := v) (B := 59) (by omega) (by omega) (by omega) (by omega)
            have m2 : v * k = v * (k - 1) + v := by rw [Int.mul_sub, Int.mul_one]; omega
            unfold qOK at *
            simp [up2_s]
            omega
          · rw [up2_q e, up2_q e, up2_q e]
            exact this
      · rw [if_neg (by omega), if_neg (by omega), if_pos h]
        have := w6 h
        refine ⟨by rw [up2_s, if_neg (by decide), h1], fun q hq' => by rw [up2_q (by omega)]; exact hq q hq', ?_⟩
        unfold sOK
        simp [up2_s]
        omega
      · rw [if_neg (by omega), if_neg (by omega), if_neg (by omega), if_pos h]
        refine ⟨by rw [up2_s, if_neg (by decide), h1], fun q hq' => by rw [up2_q (by omega)]; exact hq q hq', ?_⟩
        unfold sOK
        simp [up2_s]
        omega
    · rw [if_neg b, if_neg b, Int.sub_zero]
      exact ⟨by omega, by omega, S'⟩
theorem trip_9 {loss : Int} {F : Nat → Nat → Int} {q k : Nat} (h : q ≠ 9) : tripP loss F q k = F q k := trip_o (by omega)
theorem start_ok {c : Nat} {k : Int} {F : Nat → Nat → Int} {mo : Nat → Int} (hk : 1 ≤ k ∧ k ≤ 60) (S : OKF c (k - 1) F) (hm : OKm mo) : sOK k 0 (startP k mo F 9) := by
  obtain ⟨c5, h1, hq, hs⟩ := S
  have t5 := startP_5 (m := k) (mo := mo) (F := F)
  have o : ∀ i, ¬ (5 ≤ i ∧ i ≤ 8) → startP k mo F 9 i = F 9 i := fun i h => start_o (by omega)
  unfold sOK at hs
  unfold OKm at hm
  have s6 : startP k mo F 9 6 = quP (mo 8) F := by
    unfold startP
    split
    · rfl
    · rfl
  have s7 : startP k mo F 9 7 = F 9 7 + mo 8 := by
    unfold startP
    split
    · rfl
    · rfl
  have s8 : startP k mo F 9 8 = if wI k ≠ 1 then F 9 8 else mo 6 := by
    unfold startP
    split
    · rfl
    · rfl
  have q6 : 0 ≤ quP (mo 8) F ∧ quP (mo 8) F ≤ k := by
    unfold quP
    split <;> omega
  have q8 : 0 ≤ startP k mo F 9 8 ∧ startP k mo F 9 8 ≤ 100000000 := by
    rw [s8]
    split <;> omega
  unfold sOK
  rw [o 2 (by decide), o 3 (by decide), o 4 (by decide), o 9 (by decide), s6, s7]
  omega
theorem pourC_ok {c : Nat} {k : Int} {F : Nat → Nat → Int} {mo : Nat → Int} (S : OKF c (k - 1) F) (hm : OKm mo) : 0 ≤ pourC mo F ∧ pourC mo F ≤ 900009999 := by
  obtain ⟨c5, h1, hq, hs⟩ := S
  unfold sOK at hs
  unfold OKm at hm
  unfold pourC
  omega
theorem pourB_ok {c : Nat} {k : Int} {F : Nat → Nat → Int} {mo : Nat → Int} (hk : 1 ≤ k ∧ k ≤ 60) (S : OKF c (k - 1) F) (hm : OKm mo) : SPF c k (pourC mo F) (pourB c k mo F) := by
  have s := start_ok hk S hm
  have pc := pourC_ok S hm
  obtain ⟨c5, h1, hq, hs⟩ := S
  unfold sOK at hs
  have e9 : ∀ i, pourB c k mo F 9 i = if i = 4 then 0 else startP k mo F 9 i := by
    intro i
    unfold pourB
    rw [up2_s, begP_n (by omega)]
  have o : ∀ i, ¬ (5 ≤ i ∧ i ≤ 8) → startP k mo F 9 i = F 9 i := fun i h => start_o (by omega)
  refine ⟨c5, by rw [e9, if_neg (by decide), o 1 (by decide), h1], fun q h => ?_, ?_⟩
  · have := hq q h
    have e : pourB c k mo F q = begP c F q := by
      unfold pourB
      rw [up2_q (by omega)]
      funext i
      unfold begP
      rw [start_o (by omega), start_o (by omega), start_o (by omega), start_o (by omega)]
    rw [e]
    unfold pOK at this
    have m := mul_rng (a := F q 2) (b := F q 0) (A := 9999999) (B := 200) (by omega) (by omega) (by omega) (by omega)
    unfold qOK begP
    simp only [h, true_and]
    rw [if_pos trivial, wI_id (x := F q 0) (by omega) (by omega), wL_id (x := F q 2 * F q 0) (by omega) (by omega), td_n (by omega)]
    simp
    omega
  · unfold sOK at *
    simp only [e9]
    simp
    rw [o 9 (by decide)] at *
    omega
theorem steps_ok {c : Nat} {cnt k cash : Int} {F R : Nat → Nat → Int} {mo : Nat → Int} (hk : 1 ≤ k ∧ k ≤ 60) (S : SPF c k cash F) (hr : ∀ i : Nat, i < 10 → ¬ wI cnt ≤ (i : Int) → okR (R i)) (hm : OKm mo) : ∀ i, i ≤ 10 → SPF c k (stepsP cnt k mo R F cash i).2 (stepsP cnt k mo R F cash i).1 := by
  intro i
  induction i with
  | zero => intro _; exact S
  | succ i ih => intro h; exact (step_ok hk (ih (by omega)) (hr i (by omega)) hm).2.2
theorem SPF_cash {c : Nat} {k cash : Int} {F : Nat → Nat → Int} (S : SPF c k cash F) : 0 ≤ cash := by
  obtain ⟨_, _, _, h⟩ := S
  unfold sOK at h
  omega
theorem tookP_ok {c : Nat} {cnt k cash : Int} {F R : Nat → Nat → Int} {mo : Nat → Int} (hk : 1 ≤ k ∧ k ≤ 60) (S : SPF c k cash F) (hr : ∀ i : Nat, i < 10 → ¬ wI cnt ≤ (i : Int) → okR (R i)) (hm : OKm mo) (i : Nat) (hi : i < 10) : 0 ≤ tookP cnt k mo R F cash i ∧ tookP cnt k mo R F cash i ≤ (stepsP cnt k mo R F cash i).2 :=
  have a := step_ok (cnt := cnt) (i := i) hk (steps_ok (cnt := cnt) hk S hr hm i (by omega)) (hr i hi) hm
  ⟨a.1, a.2.1⟩
theorem wd_ok {c : Nat} {k : Int} : ∀ (n : Nat) (F : Nat → Nat → Int) (o : Int), n ≤ c → -1000000000 ≤ o ∧ o ≤ 1000000000 → OKF c k F → OKF c k (wdP n F o) := by
  intro n
  induction n with
  | zero => intro F o _ _ h; exact h
  | succ n ih =>
    intro F o hn ho h
    have h' := h
    obtain ⟨c5, h1, hq, hs⟩ := h
    unfold wdP
    split
    · exact h'
    · rename_i q
      have p := hq n (by omega)
      unfold pOK at p
      by_cases ho0 : o ≤ 0
      · exact absurd (by rw [wL_id (by omega) (by omega)]; omega) q
      · rw [wL_id (x := o) (by omega) (by omega), wL_id (x := F n 2) (by omega) (by omega)]
        refine ih _ _ (by omega) (by omega) ⟨c5, by rw [up2_9 (by omega), up2_9 (by omega), h1], fun q hq' => ?_, by rw [up2_9 (by omega), up2_9 (by omega)]; exact hs⟩
        by_cases e : q = n
        · subst e
          unfold pOK
          simp [up2_s]
          omega
        · rw [up2_q e, up2_q e]
          exact hq q hq'
theorem ov_ok {c : Nat} {k : Int} {F : Nat → Nat → Int} {b : Int} (h : OKF c k F) (hb : 0 ≤ b ∧ b ≤ 100000000) : ∀ n, n ≤ c → -100009999 ≤ ovP F b n ∧ ovP F b n ≤ 10000000 * n := by
  obtain ⟨c5, h1, hq, hs⟩ := h
  unfold sOK at hs
  intro n
  induction n with
  | zero => intro _; unfold ovP; omega
  | succ n ih =>
    intro hn
    have a := ih (by omega)
    have p := hq n (by omega)
    unfold pOK at p
    unfold ovP
    omega
theorem pourS_ok {c : Nat} {cnt k : Int} {F R : Nat → Nat → Int} {mo : Nat → Int} (hk : 1 ≤ k ∧ k ≤ 60) (S : OKF c (k - 1) F) (hr : ∀ i : Nat, i < 10 → ¬ wI cnt ≤ (i : Int) → okR (R i)) (hm : OKm mo) : OKF c k (pourS c k mo cnt R F) := by
  have a := steps_ok (cnt := cnt) hk (pourB_ok hk S hm) hr hm 10 (by omega)
  obtain ⟨c5, h1, hq, hs⟩ := a
  have e9 : pourS c k mo cnt R F 9 = (stepsP cnt k mo R (pourB c k mo F) (pourC mo F) 10).1 9 := funext fun i => if_neg (by omega)
  refine ⟨c5, by rw [e9, h1], fun q h => ?_, ?_⟩
  · have p := hq q h
    unfold qOK at p
    unfold pOK pourS endP
    simp only [h, true_and]
    simp
    omega
  · rw [e9]
    unfold sOK at *
    omega
theorem pourF_ok {c : Nat} {cnt k : Int} {F R : Nat → Nat → Int} {mo : Nat → Int} (hk : 1 ≤ k ∧ k ≤ 60) (S : OKF c (k - 1) F) (hr : ∀ i : Nat, i < 10 → ¬ wI cnt ≤ (i : Int) → okR (R i)) (hm : OKm mo) : OKF c k (pourF c k mo cnt R F) := by
  have a := pourS_ok (cnt := cnt) hk S hr hm
  have o := ov_ok a (b := mo 7) (by unfold OKm at hm; omega) c (by omega)
  have c5 := a.1
  exact wd_ok c _ _ (by omega) (by omega) a
