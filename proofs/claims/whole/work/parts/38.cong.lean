/-! a month's pouring reads and writes the papers that there are, and the fall's own numbers, alone -/
def cn (c : Nat) (F : Nat → Nat → Int) : Nat → Nat → Int := fun q e => if (q < c ∧ e < 9) ∨ (q = 9 ∧ 1 ≤ e ∧ e ≤ 9) then F q e else 0
section CN
variable {c : Nat} {F : Nat → Nat → Int} {m cash : Int} {r mo : Nat → Int}
theorem cn_in {q e : Nat} (h : (q < c ∧ e < 9) ∨ (q = 9 ∧ 1 ≤ e ∧ e ≤ 9)) : cn c F q e = F q e := if_pos h
theorem cn_9 {e : Nat} (h : 1 ≤ e ∧ e ≤ 9) : cn c F 9 e = F 9 e := if_pos (.inr ⟨rfl, h⟩)
theorem cn_p {q e : Nat} (h : q < c) (h2 : e < 9) : cn c F q e = F q e := if_pos (.inl ⟨h, h2⟩)
theorem cn_up {q e : Nat} {v : Int} (h : (q < c ∧ e < 9) ∨ (q = 9 ∧ 1 ≤ e ∧ e ≤ 9)) : cn c (up2 F q e v) = up2 (cn c F) q e v := by
  funext a b
  unfold up2 cn
  dsimp only
  by_cases e1 : a = q ∧ b = e
  · rw [if_pos (by rw [e1.1, e1.2]; exact h), if_pos e1, if_pos e1]
  · rw [if_neg e1, if_neg e1]
theorem cn_eq {F' : Nat → Nat → Int} (h : ∀ q e, (q < c ∧ e < 9) ∨ (q = 9 ∧ 1 ≤ e ∧ e ≤ 9) → F q e = F' q e) : cn c F = cn c F' := by
  funext a b
  unfold cn
  by_cases e1 : (a < c ∧ b < 9) ∨ (a = 9 ∧ 1 ≤ b ∧ b ≤ 9)
  · rw [if_pos e1, if_pos e1, h _ _ e1]
  · rw [if_neg e1, if_neg e1]
theorem cn_lost : lostP (cn c F) = lostP F := by
  unfold lostP
  rw [cn_9 (by decide), cn_9 (by decide)]
theorem cn_field {f : Int} (h1 : F 9 1 = c) : fieldP (cn c F) f m mo = fieldP F f m mo := by
  unfold fieldP coverP
  rw [cn_lost, cn_9 (e := 5) (by decide), cn_9 (e := 1) (by decide)]
  by_cases hc : 0 < c
  · rw [cn_p hc (by decide)]
  · have e0 : wI (F 9 1) ≤ 0 := by
      rw [h1, show c = 0 by omega]
      decide
    rw [if_pos e0, if_pos e0]
theorem cn_pass (h1 : F 9 1 = c) : passP (cn c F) r m mo = passP F r m mo := by
  unfold passP
  rw [cn_field h1]
theorem cn_pg : pgP (cn c F) r = pgP F r := by
  unfold pgP
  rw [cn_9 (e := 1) (by decide)]
theorem cn_wish (hp : ∀ p, pgP F r = some p → p < c) : wishP (cn c F) r mo cash = wishP F r mo cash := by
  unfold wishP
  rw [cn_pg, cn_9 (e := 4) (by decide)]
  cases hq : pgP F r with
  | none => rfl
  | some p =>
    have := hp p hq
    dsimp only
    rw [cn_p this (by decide), cn_p this (by decide)]
theorem cn_give {v : Int} (hp : ∀ p, pgP F r = some p → p < c) : giveP (cn c F) r v m = cn c (giveP F r v m) := by
  unfold giveP
  rw [cn_pg]
  by_cases a : wI (r 0) = 1
  · rw [if_pos a, if_pos a]
    cases hq : pgP F r with
    | none => rfl
    | some p =>
      have := hp p hq
      dsimp only
      rw [cn_up (by omega), cn_up (by omega), cn_p this (by decide), cn_p this (by decide)]
  · rw [if_neg a, if_neg a]
    by_cases b : wI (r 0) = 2 ∨ wI (r 0) = 3
    · rw [if_pos b, if_pos b]
      cases hq : pgP F r with
      | none => rfl
      | some p =>
        have := hp p hq
        dsimp only
        unfold payP
        rw [cn_up (by omega), cn_up (by omega), cn_up (by omega), cn_p this (by decide), cn_p this (by decide), cn_p this (by decide)]
    · rw [if_neg b, if_neg b]
      by_cases d : wI (r 0) = 4
      · rw [if_pos d, if_pos d, cn_up (by omega), cn_9 (by decide)]
      · rw [if_neg d, if_neg d]
        by_cases e : wI (r 0) = 5
        · rw [if_pos e, if_pos e, cn_up (by omega), cn_9 (by decide)]
        · rw [if_neg e, if_neg e]
theorem pg_lt {c : Nat} {F : Nat → Nat → Int} {r : Nat → Int} (h5 : c ≤ 5) (h : F 9 1 = c) : ∀ p, pgP F r = some p → p < c := by
  intro p hp
  unfold pgP at hp
  rw [h, wI_id (x := (c : Int)) (by omega) (by omega)] at hp
  split at hp
  · cases hp
  · split at hp
    · cases hp
    · cases hp
      omega
theorem cn_steps {cnt : Int} {R : Nat → Nat → Int} (h5 : c ≤ 5) (h1 : F 9 1 = c) : ∀ i, stepsP cnt m mo R (cn c F) cash i = (cn c (stepsP cnt m mo R F cash i).1, (stepsP cnt m mo R F cash i).2) := by
  intro i
  induction i with
  | zero => rfl
  | succ i ih =>
    have f1 : (stepsP cnt m mo R F cash i).1 9 1 = c := by rw [stepsP_1 (by omega), h1]
    unfold stepsP
    rw [ih]
    dsimp only
    unfold stepF stepP
    rw [cn_pass f1, cn_wish (pg_lt h5 f1), cn_give (pg_lt h5 f1)]
    by_cases a : wI cnt ≤ (i : Int)
    · rw [if_pos a, if_pos a, if_pos a]
    · rw [if_neg a, if_neg a, if_neg a]
      by_cases b : passP (stepsP cnt m mo R F cash i).1 (R i) m mo = true
      · rw [if_pos b, if_pos b, if_pos b]
      · rw [if_neg b, if_neg b, if_neg b]
theorem cn_took {cnt : Int} {R : Nat → Nat → Int} (h5 : c ≤ 5) (h1 : F 9 1 = c) (i : Nat) : tookP cnt m mo R (cn c F) cash i = tookP cnt m mo R F cash i := by
  have f1 : (stepsP cnt m mo R F cash i).1 9 1 = c := by rw [stepsP_1 (by omega), h1]
  unfold tookP
  rw [cn_steps h5 h1]
  dsimp only
  unfold stepP
  rw [cn_pass f1, cn_wish (pg_lt h5 f1)]
theorem cn_end (h5 : c ≤ 5) : endP c (cn c F) = cn c (endP c F) := by
  funext q e
  unfold endP cn
  dsimp only
  by_cases a : q < c ∧ e = 3
  · rw [if_pos a, if_pos (.inl ⟨a.1, by decide⟩), if_pos (.inl ⟨a.1, by omega⟩), if_pos a]
  · rw [if_neg a, if_neg a]
theorem cn_ov {b : Int} : ∀ n, n ≤ c → ovP (cn c F) b n = ovP F b n
  | 0, _ => by unfold ovP; rw [cn_9 (by decide)]
  | n + 1, h => by
    unfold ovP
    rw [cn_ov n (by omega), cn_p (by omega) (by decide)]
theorem cn_wd : ∀ (n : Nat) (F : Nat → Nat → Int) (o : Int), n ≤ c → wdP n (cn c F) o = cn c (wdP n F o)
  | 0, _, _, _ => rfl
  | n + 1, F, o, h => by
    unfold wdP
    by_cases a : wL o ≤ 0
    · rw [if_pos a, if_pos a]
    · rw [if_neg a, if_neg a, cn_p (by omega) (by decide), cn_p (by omega) (by decide), ← cn_wd n _ _ (by omega), cn_up (by omega), cn_up (by omega)]
theorem end_91 {F : Nat → Nat → Int} (h5 : c ≤ 5) {e : Nat} : endP c F 9 e = F 9 e := if_neg (by omega)
/-- two falls that tell the same as a month begins -/
def EqF (c : Nat) (k : Int) (F F' : Nat → Nat → Int) : Prop := ∀ q e, (q < c ∧ e < 8) ∨ (q = 9 ∧ 1 ≤ e ∧ e ≤ 9 ∧ (e = 8 → 1 ≤ k)) → F q e = F' q e
theorem pourB_eq {k : Int} {F F' : Nat → Nat → Int} {mo mo' : Nat → Int} (h5 : c ≤ 5) (hk : 1 ≤ k ∧ k ≤ 60) (E : EqF c (k - 1) F F') (m6 : mo 6 = mo' 6) (m8 : mo 8 = mo' 8) : cn c (pourB c k mo F) = cn c (pourB c k mo' F') ∧ startP k mo F 9 5 = startP k mo' F' 9 5 := by
  have wk := wI_id (x := k) (by omega) (by omega)
  have e7 := E 9 7 (by omega)
  have e6 := E 9 6 (by omega)
  have e5 := E 9 5 (by omega)
  have e2 := E 9 2 (by omega)
  have e3 := E 9 3 (by omega)
  have s9 : ∀ e, 1 ≤ e ∧ e ≤ 9 → startP k mo F 9 e = startP k mo' F' 9 e := by
    intro e he
    unfold startP
    rw [wk]
    by_cases k1 : k ≠ 1
    · rw [if_pos k1, if_pos k1, m8, e7]
      have e8 := E 9 8 (by omega)
      unfold tripP onP quP lostP
      simp only [up2, and_self, and_true, and_false, false_and, true_and, Nat.reduceEqDiff, ↓reduceIte, e5, e6, e2, e3, e8, e7]
      rw [E 9 e (by omega)]
    · rw [if_neg k1, if_neg k1, m8, m6, e7]
      unfold tripP onP quP lostP
      simp only [up2, and_self, and_true, and_false, false_and, true_and, Nat.reduceEqDiff, ↓reduceIte, e5, e6, e2, e3]
      by_cases e8 : e = 8
      · subst e8
        rfl
      · rw [if_neg e8, if_neg e8, E 9 e (by omega)]
  refine ⟨cn_eq fun q e hd => ?_, s9 5 (by decide)⟩
  unfold pourB begP up2
  dsimp only
  by_cases a : q = 9 ∧ e = 4
  · rw [if_pos a, if_pos a]
  · rw [if_neg a, if_neg a]
    by_cases b : q < c ∧ e = 8
    · rw [if_pos b, if_pos b, start_o (by omega), start_o (by omega), start_o (by omega), start_o (by omega), start_o (by omega), start_o (by omega), E q 2 (by omega), E q 0 (by omega), E q 3 (by omega)]
    · rw [if_neg b, if_neg b]
      by_cases d : q = 9
      · subst d
        exact s9 e (by omega)
      · rw [start_o (by omega), start_o (by omega), E q e (by omega)]
theorem stepP_r {cnt : Int} {i : Nat} {r r' : Nat → Int} (h : ∀ f, f < 6 → r f = r' f) : stepP cnt m mo i r F cash = stepP cnt m mo i r' F cash ∧ stepF cnt m mo i r F cash = stepF cnt m mo i r' F cash := by
  unfold stepP stepF passP wishP giveP pgP
  rw [h 0 (by decide), h 1 (by decide), h 2 (by decide), h 3 (by decide), h 4 (by decide), h 5 (by decide)]
  exact ⟨rfl, rfl⟩
theorem steps_R {cnt : Int} {R R' : Nat → Nat → Int} (h : ∀ i : Nat, ¬ wI cnt ≤ (i : Int) → ∀ f, f < 6 → R i f = R' i f) : ∀ i, stepsP cnt m mo R F cash i = stepsP cnt m mo R' F cash i
  | 0 => rfl
  | i + 1 => by
    unfold stepsP
    rw [steps_R h i]
    dsimp only
    by_cases a : wI cnt ≤ (i : Int)
    · unfold stepF stepP
      rw [if_pos a, if_pos a, if_pos a, if_pos a]
    · rw [(stepP_r (h i a)).1, (stepP_r (h i a)).2]
theorem took_R {cnt : Int} {R R' : Nat → Nat → Int} (h : ∀ i : Nat, ¬ wI cnt ≤ (i : Int) → ∀ f, f < 6 → R i f = R' i f) (i : Nat) : tookP cnt m mo R F cash i = tookP cnt m mo R' F cash i := by
  unfold tookP
  rw [steps_R h i]
  by_cases a : wI cnt ≤ (i : Int)
  · unfold stepP
    rw [if_pos a, if_pos a]
  · rw [(stepP_r (h i a)).1]
theorem cn_pour {k cnt : Int} {F F' : Nat → Nat → Int} {mo mo' : Nat → Int} {R R' : Nat → Nat → Int} (h5 : c ≤ 5) (h1 : F 9 1 = c) (hk : 1 ≤ k ∧ k ≤ 60) (E : EqF c (k - 1) F F') (hm : ∀ f, f < 10 → f ≠ 5 → mo f = mo' f) (hR : ∀ i : Nat, ¬ wI cnt ≤ (i : Int) → ∀ f, f < 6 → R i f = R' i f) :
    EqF c k (pourF c k mo cnt R F) (pourF c k mo' cnt R' F') ∧ pourC mo F = pourC mo' F' ∧ startP k mo F 9 5 = startP k mo' F' 9 5 ∧ ∀ i, tookP cnt k mo R (pourB c k mo F) (pourC mo F) i = tookP cnt k mo' R' (pourB c k mo' F') (pourC mo' F') i := by
  have h1' : F' 9 1 = c := by rw [← E 9 1 (by omega), h1]
  obtain ⟨eB, e5⟩ := pourB_eq (mo := mo) (mo' := mo') h5 hk E (hm 6 (by decide) (by decide)) (hm 8 (by decide) (by decide))
  have eC : pourC mo F = pourC mo' F' := by
    unfold pourC
    rw [hm 0 (by decide) (by decide), hm 1 (by decide) (by decide), hm 2 (by decide) (by decide), hm 3 (by decide) (by decide), hm 4 (by decide) (by decide), E 9 4 (by omega)]
  have b1 : pourB c k mo F 9 1 = c := by
    show up2 (begP c (startP k mo F)) 9 4 0 9 1 = c
    rw [up2_s, if_neg (by decide), begP_n (by omega), start_o (by omega), h1]
  have b1' : pourB c k mo' F' 9 1 = c := by
    show up2 (begP c (startP k mo' F')) 9 4 0 9 1 = c
    rw [up2_s, if_neg (by decide), begP_n (by omega), start_o (by omega), h1']
  have st : ∀ i, (cn c (stepsP cnt k mo R (pourB c k mo F) (pourC mo F) i).1, (stepsP cnt k mo R (pourB c k mo F) (pourC mo F) i).2) = (cn c (stepsP cnt k mo' R' (pourB c k mo' F') (pourC mo' F') i).1, (stepsP cnt k mo' R' (pourB c k mo' F') (pourC mo' F') i).2) := by
    intro i
    rw [← cn_steps h5 b1, ← cn_steps h5 b1', eB, eC, stepsP_mo (hm 1 (by decide) (by decide)) (hm 6 (by decide) (by decide)) (hm 7 (by decide) (by decide)) (hm 9 (by decide) (by decide)), steps_R hR]
  have s1 : ∀ i, cn c (stepsP cnt k mo R (pourB c k mo F) (pourC mo F) i).1 = cn c (stepsP cnt k mo' R' (pourB c k mo' F') (pourC mo' F') i).1 := fun i => congrArg Prod.fst (st i)
  have sS : cn c (pourS c k mo cnt R F) = cn c (pourS c k mo' cnt R' F') := by
    unfold pourS
    rw [← cn_end h5, ← cn_end h5, s1]
  have sF : cn c (pourF c k mo cnt R F) = cn c (pourF c k mo' cnt R' F') := by
    unfold pourF
    rw [← cn_wd c _ _ (Nat.le_refl c), ← cn_wd c _ _ (Nat.le_refl c), sS, ← cn_ov c (Nat.le_refl c), ← cn_ov (F := pourS c k mo' cnt R' F') c (Nat.le_refl c), sS, hm 7 (by decide) (by decide)]
  refine ⟨fun q e hd => ?_, eC, e5, fun i => ?_⟩
  · have := congrFun (congrFun sF q) e
    rwa [cn_in (by omega), cn_in (by omega)] at this
  · rw [← cn_took h5 b1, ← cn_took h5 b1', eB, eC, tookP_mo (hm 1 (by decide) (by decide)) (hm 6 (by decide) (by decide)) (hm 7 (by decide) (by decide)) (hm 9 (by decide) (by decide)), took_R hR]
end CN
