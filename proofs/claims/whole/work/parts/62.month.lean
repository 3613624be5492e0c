/-! months, one behind the other: the class's, and the reference's beside them -/
section PO
variable {c q : Nat} {F : Nat → Nat → Int} {m : Int} {mo : Nat → Int}
theorem up2_o {q' k' : Nat} {v : Int} (h : q ≠ q') : up2 F q' k' v q = F q := funext fun k => if_neg (by omega)
theorem trip_out {l : Int} (h : q ≠ 9) : tripP l F q = F q := by unfold tripP; rw [up2_o h, up2_o h]
theorem beg_out (h : c ≤ q) (h9 : q ≠ 9) : pourB c m mo F q = F q := by
  unfold pourB
  rw [up2_o h9]
  have : begP c (startP m mo F) q = startP m mo F q := funext fun k => if_neg (by omega)
  rw [this]
  unfold startP
  split
  · rw [trip_out h9, up2_o h9]
  · rw [trip_out h9, up2_o h9, up2_o h9]
theorem give_out {r : Nat → Int} {v : Int} (hp : ∀ p, pgP F r = some p → p < c) (h : c ≤ q) (h9 : q ≠ 9) : giveP F r v m q = F q := by
  unfold giveP
  by_cases a : wI (r 0) = 1
  · rw [if_pos a]
    cases hq : pgP F r with
    | none => rfl
    | some p =>
      have := hp p hq
      dsimp only
      rw [up2_o (by omega), up2_o (by omega)]
  · rw [if_neg a]
    by_cases b : wI (r 0) = 2 ∨ wI (r 0) = 3
    · rw [if_pos b]
      cases hq : pgP F r with
      | none => rfl
      | some p =>
        have := hp p hq
        dsimp only
        unfold payP
        rw [up2_o (by omega), up2_o (by omega), up2_o (by omega)]
    · rw [if_neg b]
      split
      · rw [up2_o h9]
      · split
        · rw [up2_o h9]
        · rfl
theorem steps_out {cnt cash : Int} {R : Nat → Nat → Int} (h5 : c ≤ 5) (h1 : F 9 1 = c) (h : c ≤ q) (h9 : q ≠ 9) : ∀ i, (stepsP cnt m mo R F cash i).1 q = F q
  | 0 => rfl
  | i + 1 => by
    have f1 : (stepsP cnt m mo R F cash i).1 9 1 = c := by rw [stepsP_1 (by omega), h1]
    unfold stepsP
    dsimp only
    unfold stepF
    split
    · exact steps_out h5 h1 h h9 i
    · split
      · rw [give_out (pg_lt h5 f1) h h9]
        exact steps_out h5 h1 h h9 i
      · exact steps_out h5 h1 h h9 i
theorem wd_out (h : c ≤ q) : ∀ (n : Nat) (F : Nat → Nat → Int) (o : Int), n ≤ c → wdP n F o q = F q
  | 0, _, _, _ => rfl
  | n + 1, F, o, hn => by
    unfold wdP
    split
    · rfl
    · rw [wd_out h n _ _ (by omega), up2_o (by omega), up2_o (by omega)]
theorem pourB_91 (h5 : c ≤ 5) : pourB c m mo F 9 1 = F 9 1 := by
  unfold pourB up2
  rw [if_neg (by decide)]
  unfold begP
  rw [if_neg (by omega)]
  unfold startP
  split
  · unfold tripP up2; rw [if_neg (by decide), if_neg (by decide), if_neg (by decide)]
  · unfold tripP up2; rw [if_neg (by decide), if_neg (by decide), if_neg (by decide), if_neg (by decide)]
theorem pour_out {cnt : Int} {R : Nat → Nat → Int} (h5 : c ≤ 5) (h1 : F 9 1 = c) (h : c ≤ q) (h9 : q ≠ 9) : pourF c m mo cnt R F q = F q := by
  have p1 : pourB c m mo F 9 1 = c := by rw [pourB_91 h5]; exact h1
  unfold pourF
  rw [wd_out h _ _ _ (Nat.le_refl _)]
  unfold pourS
  have : endP c (stepsP cnt m mo R (pourB c m mo F) (pourC mo F) 10).1 q = (stepsP cnt m mo R (pourB c m mo F) (pourC mo F) 10).1 q := funext fun k => if_neg (by omega)
  rw [this, steps_out h5 p1 h h9, beg_out h h9]
end PO
theorem OKm_n5 {v w : Nat → Int} (h : ∀ f, f < 10 → f ≠ 5 → v f = w f) (B : OKm w) : OKm v := by
  unfold OKm at *
  rw [h 0 (by decide) (by decide), h 1 (by decide) (by decide), h 2 (by decide) (by decide), h 3 (by decide) (by decide), h 4 (by decide) (by decide), h 6 (by decide) (by decide), h 7 (by decide) (by decide), h 8 (by decide) (by decide), h 9 (by decide) (by decide)]
  exact B
/-- a month of the class's -/
def MoC (lv : Nat → (Nat → Int) → Int → Int) (c cp p f j kk : Nat) (A A2 : NN) : Prop := ∃ (A0 A1 : NN) (o : Nat), (∀ x i g, ¬ (x = 9 ∧ i = 0 ∧ g = 11) → A0 x i g = A x i g) ∧ A0 23 0 kk = (o : Int) ∧ CollC lv c p j kk A0 A1 ∧ PourC cp f j o kk A1 A2 ∧ BL c p kk A1 ∧ OKm (A1 3 j) ∧ OKF cp kk (VF A2 f)
def FrMo (c p f j : Nat) (A A2 : NN) : Prop := ∀ x i g, ¬ (x = 2 ∧ 12 * p ≤ i ∧ i < 12 * p + c) → ¬ (x = 3 ∧ i = j) → ¬ (x = 6 ∧ i = p ∧ g = 5) → x ≠ 31 → ¬ (x = 0 ∧ i = f) → ¬ (x = 5 ∧ 5 * f ≤ i ∧ i < 5 * f + 5) → ¬ (x = 28 ∧ i = j ∧ g < 10) → ¬ (x = 9 ∧ i = 0 ∧ g = 11) → A2 x i g = A x i g
section MON
variable {G : GT} {lv : Nat → (Nat → Int) → Int → Int} {c cp p f j kk : Nat} {A A2 : NN}
theorem coll_fr {A1 : NN} (h : CollC lv c p j kk A A1) : ∀ x i g, ¬ (x = 2 ∧ 12 * p ≤ i ∧ i < 12 * p + c) → ¬ (x = 3 ∧ i = j) → ¬ (x = 6 ∧ i = p ∧ g = 5) → x ≠ 31 → A1 x i g = A x i g := by
  intro x i g d1 d2 d3 d4
  obtain ⟨_, h2, _, _, _, _, _, _, h9⟩ := h
  by_cases e : x = 2 ∧ 12 * p ≤ i ∧ i < 12 * p + 12
  · obtain ⟨e1, e2, e3⟩ := e
    subst e1
    have := h2 (i - 12 * p) (by omega) (by omega) g
    rw [show 12 * p + (i - 12 * p) = i by omega] at this
    exact this
  · exact h9 x i g e d2 d3 d4
theorem MoC_fr (h : MoC lv c cp p f j kk A A2) : FrMo c p f j A A2 := by
  obtain ⟨A0, A1, o, f0, ho, hc, hp, _⟩ := h
  intro x i g d1 d2 d3 d4 d5 d6 d7 d8
  rw [hp.2.2.2.2.2 _ _ _ d5 d6 d7 (by omega), coll_fr hc _ _ _ d1 d2 d3 d4, f0 _ _ _ d8]
theorem MoC_BL (h : MoC lv c cp p f j kk A A2) : BL c p kk A2 := by
  obtain ⟨A0, A1, o, f0, ho, hc, hp, hb, _⟩ := h
  exact BL_fr hb fun x i g d => hp.2.2.2.2.2 _ _ _ (by omega) (by omega) (by omega) (by omega)
theorem MoC_F (h : MoC lv c cp p f j kk A A2) : OKF cp kk (VF A2 f) := by
  obtain ⟨A0, A1, o, f0, ho, hc, hp, hb, hm, hf⟩ := h
  exact hf
theorem MoC_row (h : MoC lv c cp p f j kk A A2) : OKm (A2 3 j) ∧ ∀ o : Nat, A2 23 0 kk = (o : Int) → ∀ i : Nat, i < 10 → A2 4 o 1 ≤ (i : Int) → (∀ o : Nat, A2 23 0 kk = (o : Int) → 1 ≤ A2 4 o 1 ∧ A2 4 o 1 ≤ 10) → A2 28 j i = 0 := by
  have fr := MoC_fr h
  obtain ⟨A0, A1, o, f0, ho, hc, hp, hb, hm, hf⟩ := h
  have e23 : A2 23 0 kk = A0 23 0 kk := by rw [fr _ _ _ (by omega) (by omega) (by omega) (by omega) (by omega) (by omega) (by omega) (by omega), f0 _ _ _ (by omega)]
  refine ⟨OKm_n5 (fun e h1 h2 => hp.2.2.2.2.2 _ _ _ (by omega) (by omega) (by omega) (by omega)) hm, fun o' ho' i hi hl hr => ?_⟩
  have : o' = o := by omega
  subst this
  have r := hr o' ho'
  have e4 : A1 4 o' 1 = A2 4 o' 1 := (hp.2.2.2.2.2 _ _ _ (by omega) (by omega) (by omega) (by omega)).symm
  rw [hp.2.2.2.2.1 i hi]
  unfold tookP stepP
  rw [e4, wI_id (by omega) (by omega), if_pos hl]
theorem relO_fr2 {o : Nat} {B A' B' : NN} (h : relO o A B) (fa : ∀ x i g, (x = 4 ∧ i = o) ∨ (x = 33 ∧ 10 * o ≤ i ∧ i < 10 * o + 10) → A' x i g = A x i g) (fb : ∀ x i g, (x = 60 ∧ i = 0 ∧ g = o) ∨ (61 ≤ x ∧ x ≤ 66 ∧ i = 0 ∧ 10 * o ≤ g ∧ g < 10 * o + 10) → B' x i g = B x i g) : relO o A' B' := by
  obtain ⟨h1, h2, h3, h4⟩ := h
  have e4 : A' 4 o 1 = A 4 o 1 := fa _ _ _ (by omega)
  refine ⟨by rw [e4, fb 60 _ _ (by omega)]; exact h1, by rw [e4]; exact h2, by rw [e4]; exact h3, fun i hi => ?_⟩
  rw [e4] at hi
  obtain ⟨g1, g2⟩ := h4 i hi
  have e33 : ∀ k, A' 33 (10 * o + i) k = A 33 (10 * o + i) k := fun k => fa _ _ _ (by omega)
  exact ⟨okR_8 (fun g _ => (e33 g).symm) g1, fun g hg => by rw [e33, fb _ _ _ (by omega)]; exact g2 g hg⟩
/-- what a month of the reference's may change -/
def FrB (c a n : Nat) (B B2 : NN) : Prop := ∀ x i g, ¬ (40 ≤ x ∧ x < 48 ∧ i = 0 ∧ g < c) → ¬ (48 ≤ x ∧ x ≤ 56 ∧ i = 0 ∧ a < g ∧ g ≤ a + n) → ¬ (77 ≤ x ∧ x ≤ 79 ∧ i = 0 ∧ a < g ∧ g ≤ a + n) → ¬ (x = 10 ∧ i = 0 ∧ (g = 1 ∨ g = 14 ∨ (30 ≤ g ∧ g ≤ 44) ∨ (64 ≤ g ∧ g ≤ 68))) → ¬ (69 ≤ x ∧ x ≤ 75 ∧ i = 0) → ¬ (x = 80 ∧ i = 0 ∧ 10 * a + 10 ≤ g ∧ g < 10 * (a + n) + 10) → B2 x i g = B x i g
theorem FrB_rf {a : Nat} {B : NN} : FrB c a 0 B B := fun _ _ _ _ _ _ _ _ _ => rfl
theorem FrB_tr {a n : Nat} {B B1 B2 : NN} (h1 : FrB c a 1 B B1) (h2 : FrB c (a + 1) n B1 B2) : FrB c a (n + 1) B B2 := fun x i g d1 d2 d3 d4 d5 d6 => by
  rw [h2 x i g d1 (by omega) (by omega) d4 d5 (by omega), h1 x i g d1 (by omega) (by omega) d4 d5 (by omega)]
/-- a month of the reference's beside one of the class's -/
theorem m_month {t cc : Nat} {B : NN} {K P : NN → Prop} {tx : Nat → Int} {ts : Int} (hcp : cc = kk + 1) (lC : lvC lv) (hk : kk < 60) (b : BL c p kk A) (S : relS c p A B) (R : relL c p A B) (OF : OKF cp kk (VF A f)) (E : EqF cp kk (VF A f) (VM B)) (V : VOKm G t tx ts lv) (ht : B 10 0 27 = t) (h57 : ∀ j, j < 160 → B 57 0 (160 * t + j) = tx j) (h58 : B 58 0 t = ts)
    (M : MoC lv c cp p f j cc A A2) (hO : ∃ o : Nat, o < 6 ∧ A 23 0 cc = (o : Int) ∧ B 76 0 cc = (o : Int) ∧ relO o A B)
    (k : ∀ B2, relS c p A2 B2 → relL c p A2 B2 → EqF cp cc (VF A2 f) (VM B2) → relT j cc A2 B2 → FrB c kk 1 B B2 → (∀ q e, cp ≤ q → q < 5 → e < 9 → B2 (mK e) 0 q = B (mK e) 0 q) → B2 10 0 1 = B 10 0 1 → K B2) (hP : ∀ B1 : NN, B1 10 0 1 = B 10 0 1 → C_X10_pay G (cc : Int) B1 K → P B1) : C_X10_collect G cc B P := by
  subst hcp
  obtain ⟨A0, A1, o', f0, ho', hc, hp, hb, hm, hf⟩ := M
  obtain ⟨o, o6, oa, ob, rO⟩ := hO
  have : o' = o := by rw [f0 _ _ _ (by omega)] at ho'; omega
  subst this
  have k1 : (((kk + 1 : Nat) : Int)) - 1 = (kk : Int) := by omega
  have b0 : BL c p kk A0 := BL_fr b fun x i g d => f0 _ _ _ (by omega)
  have S0 : relS c p A0 B := by
    obtain ⟨s1, s2, s3, s4⟩ := S
    exact ⟨s1, by rw [f0 _ _ _ (by omega)]; exact s2, by rw [f0 _ _ _ (by omega)]; exact s3, by rw [f0 _ _ _ (by omega)]; exact s4⟩
  have R0 : relL c p A0 B := ⟨fun n hn g hg => by rw [f0 _ _ _ (by omega)]; exact R.1 n hn g hg, by rw [f0 _ _ _ (by omega)]; exact R.2⟩
  refine m_collect (p := p) (A := A0) (by omega) (by rw [k1]; exact b0) S0 R0 V ht h57 h58 (fun B1 hB => ?_)
  obtain ⟨R1, M1⟩ := lock_collect lC S0 R0 hc hB
  obtain ⟨bb1, bb2, _, _, _, _, _, _, bfr⟩ := hB
  have fB1 : ∀ x i g, ¬ (40 ≤ x ∧ x < 48 ∧ i = 0 ∧ g < c) → ¬ (48 ≤ x ∧ x ≤ 56 ∧ i = 0 ∧ g = kk + 1) → ¬ (x = 10 ∧ i = 0 ∧ (g = 14 ∨ (30 ≤ g ∧ g ≤ 44))) → B1 x i g = B x i g := by
    intro x i g d1 d2 d3
    by_cases e : 40 ≤ x ∧ x < 48 ∧ i = 0 ∧ g < 12
    · obtain ⟨e1, e2, e3, e4⟩ := e
      subst e3
      have := bb2 g (by omega) (x - 40) (by omega)
      rw [show 40 + (x - 40) = x by omega] at this
      exact this
    · exact bfr x i g e d2 d3
  have eVF : VF A1 f = VF A f := VF_un fun x i g d => by rw [coll_fr hc _ _ _ (by omega) (by omega) (by omega) (by omega), f0 _ _ _ (by omega)]
  have OF1 : OKF cp (((kk + 1 : Nat) : Int) - 1) (VF A1 f) := by rw [k1, eVF]; exact OF
  have E1 : EqF cp (((kk + 1 : Nat) : Int) - 1) (VF A1 f) (VM B1) := by
    rw [k1, eVF]
    intro q e d
    rw [E q e d]
    rcases d with ⟨d1, d2⟩ | ⟨d1, d2, d3, d4⟩
    · have := OF.1
      rw [VMp (by omega) (by omega), VMp (by omega) (by omega)]
      have := mK_r e (by omega)
      exact (fB1 _ _ _ (by omega) (by omega) (by omega)).symm
    · subst d1
      by_cases h8 : e = 8
      · subst h8
        have := d4 rfl
        show B 53 0 1 = B1 53 0 1
        exact (fB1 _ _ _ (by omega) (by omega) (by omega)).symm
      · rw [VMs (by omega) (by omega) h8, VMs (by omega) (by omega) h8]
        have : mS e = 53 ∨ (64 ≤ mS e ∧ mS e ≤ 70) := by
          unfold mS
          repeat' split
          all_goals omega
        exact (fB1 _ _ _ (by omega) (by omega) (by omega)).symm
  have rO1 : relO o' A1 B1 := relO_fr2 rO (fun x i g d => by rw [coll_fr hc _ _ _ (by omega) (by omega) (by omega) (by omega), f0 _ _ _ (by omega)]) (fun x i g d => fB1 _ _ _ (by omega) (by omega) (by omega))
  refine hP B1 (fB1 _ _ _ (by omega) (by omega) (by omega)) ?_
  refine m_pay (A := A1) (by omega) OF1 E1 hm M1 o6 rO1 (by rw [fB1 _ _ _ (by omega) (by omega) (by omega)]; exact ob) (fun B2 hB2 => ?_)
  obtain ⟨E2, T2⟩ := lock_pour (by omega) OF1 E1 M1 rO1 hp hB2
  have vm := hB2.1
  have fB2 : FrM B1 B2 (kk + 1) := hB2.2.2.2.2.2
  have fA2 := hp.2.2.2.2.2
  refine k B2 ?_ ?_ E2 T2 (fun x i g d1 d2 d3 d4 d5 d6 => ?_) (fun q e q1 q2 q3 => ?_) ?_
  · obtain ⟨s1, s2, s3, s4⟩ := S0
    refine ⟨?_, ?_, ?_, ?_⟩
    · rw [fB2 _ _ _ (by omega) (by omega) (by omega) (by omega), fB1 _ _ _ (by omega) (by omega) (by omega)]; exact s1
    · rw [fB2 _ _ _ (by omega) (by omega) (by omega) (by omega), fB1 _ _ _ (by omega) (by omega) (by omega), fA2 _ _ _ (by omega) (by omega) (by omega) (by omega), coll_fr hc _ _ _ (by omega) (by omega) (by omega) (by omega)]; exact s2
    · rw [fB2 _ _ _ (by omega) (by omega) (by omega) (by omega), fB1 _ _ _ (by omega) (by omega) (by omega), fA2 _ _ _ (by omega) (by omega) (by omega) (by omega), coll_fr hc _ _ _ (by omega) (by omega) (by omega) (by omega)]; exact s3
    · rw [fB2 _ _ _ (by omega) (by omega) (by omega) (by omega), fB1 _ _ _ (by omega) (by omega) (by omega), fA2 _ _ _ (by omega) (by omega) (by omega) (by omega), coll_fr hc _ _ _ (by omega) (by omega) (by omega) (by omega)]; exact s4
  · exact ⟨fun n hn g hg => by rw [fB2 _ _ _ (by omega) (by omega) (by omega) (by omega), fA2 _ _ _ (by omega) (by omega) (by omega) (by omega)]; exact R1.1 n hn g hg, by rw [fB2 _ _ _ (by omega) (by omega) (by omega) (by omega), fA2 _ _ _ (by omega) (by omega) (by omega) (by omega)]; exact R1.2⟩
  · rw [fB2 _ _ _ (by omega) (by omega) (by omega) (by omega), fB1 _ _ _ d1 (by omega) (by omega)]
  · have c5 := OF.1
    have h1 : VM B1 9 1 = cp := by rw [← E1 9 1 (by omega), eVF]; exact OF.2.1
    have := congrFun (congrFun vm q) e
    rw [VMp q2 q3, pour_out c5 h1 q1 (by omega), VMp q2 q3] at this
    rw [this]
    have := mK_r e q3
    exact fB1 _ _ _ (by omega) (by omega) (by omega)
  · rw [fB2 _ _ _ (by omega) (by omega) (by omega) (by omega), fB1 _ _ _ (by omega) (by omega) (by omega)]
end MON
