/-! the small constructors -/
/-- what a constructor without arguments does, called on the cell at place m, whose own cells lie at m .. n1 - 1 -/
def IC (G : GT) (y : MethodName) (cc : ByteArray) (nL L m n1 c i : Nat) : Prop := ∀ (N : NN) (R : RR), Bl m N R → Ctr G y cc nL none L (m + 1) n1 [vR c i] N R (fun r N' R' => r = none ∧ N' = pt m n1 NB N ∧ R' = pt m n1 RB R)
theorem ob_i : Cond.instanceMethod Lib.objectInit ∈ ALL := mT1 (i := 24) rfl rfl
theorem ob_c : Cond.code Lib.objectInit ⟨#[0xb1]⟩ 1 none ∈ ALL := mT1 (i := 25) rfl rfl
theorem one_eq {m n1 q : Nat} (h1 : m ≤ q) (h2 : q < n1) (e : n1 = m + 1) : q = m := by omega
section CT
variable {G : GT}
theorem i_X2 {m i : Nat} (hL : layF m = (2, i)) (hm : m + 1 ≤ TOT) : IC G yX2_init cX2_init 1 1 m (m + 1) 2 i := by
  intro N R hB
  refine Ctr.ofAW RX2 true rfl (by decide) (fun _ => rfl) (Nat.le_of_ble_eq_true rfl) hm ?_
  refine A_aload_n (i := 0) dX2_init_0 rfl rfl ?_
  refine A_objInit dX2_init_1 (mT1 (i := 38) rfl rfl) ob_i ob_c (by decide) (Nat.le_of_ble_eq_true rfl) (Nat.le_of_ble_eq_true rfl) ?_
  refine A_vret dX2_init_4 ⟨rfl, pt_eq (fun q c i' h1 h2 hq k => ?_) (fun _ _ _ _ => rfl), pt_eq (fun q c i' h1 h2 hq k => ?_) (fun _ _ _ _ => rfl)⟩
  all_goals
    cases one_eq h1 h2 rfl
    rw [hL] at hq
    cases hq
  · exact (hB.at hL (by omega) k).1
  · exact (hB.at hL (by omega) k).2
theorem i_X5 {m i : Nat} (hL : layF m = (5, i)) (hm : m + 1 ≤ TOT) : IC G yX5_init cX5_init 1 1 m (m + 1) 5 i := by
  intro N R hB
  refine Ctr.ofAW RX5 true rfl (by decide) (fun _ => rfl) (Nat.le_of_ble_eq_true rfl) hm ?_
  refine A_aload_n (i := 0) dX5_init_0 rfl rfl ?_
  refine A_objInit dX5_init_1 (mT1 (i := 121) rfl rfl) ob_i ob_c (by decide) (Nat.le_of_ble_eq_true rfl) (Nat.le_of_ble_eq_true rfl) ?_
  refine A_vret dX5_init_4 ⟨rfl, pt_eq (fun q c i' h1 h2 hq k => ?_) (fun _ _ _ _ => rfl), pt_eq (fun q c i' h1 h2 hq k => ?_) (fun _ _ _ _ => rfl)⟩
  all_goals
    cases one_eq h1 h2 rfl
    rw [hL] at hq
    cases hq
  · exact (hB.at hL (by omega) k).1
  · exact (hB.at hL (by omega) k).2
theorem two_eq {m q : Nat} (h1 : m ≤ q) (h2 : q < m + 2) : q = m ∨ q = m + 1 := by omega
theorem not_in {a b q c i : Nat} (hL : layF q = (c, i)) (hq : q < TOT) (h1 : a ≤ q) (h2 : q < b) {c' i' : Nat} (h : ¬ (i' < cnt c' ∧ a ≤ pos (c', i') ∧ pos (c', i') < b)) : ¬ (c' = c ∧ i' = i) := by
  rintro ⟨rfl, rfl⟩
  have := lay_ok hL hq
  exact h ⟨this.1, by omega, by omega⟩
theorem okLy {m n c i : Nat} (hL : layF m = (c, i)) (hm : m < n) (hn : n ≤ TOT) : okA n c i := ⟨(lay_ok hL (by omega)).1, by rw [(lay_ok hL (by omega)).2]; exact hm⟩
theorem i_X3 {m i : Nat} (hL : layF m = (3, i)) (hL1 : layF (m + 1) = (28, i)) (hm : m + 2 ≤ TOT) : IC G yX3_init cX3_init 1 1 m (m + 2) 3 i := by
  intro N R hB
  refine Ctr.ofAW RX3 true rfl (by decide) (fun _ => rfl) (Nat.le_of_ble_eq_true rfl) (by omega) ?_
  refine A_aload_n (i := 0) dX3_init_0 rfl rfl ?_
  refine A_objInit dX3_init_1 (mT1 (i := 202) rfl rfl) ob_i ob_c (by decide) (Nat.le_of_ble_eq_true rfl) (Nat.le_of_ble_eq_true rfl) ?_
  refine A_aload_n (i := 0) dX3_init_4 rfl rfl ?_
  refine A_bipush (v := 10) dX3_init_5 (by decide +kernel) ?_
  refine A_newa (c := 28) (i := i) (atype := .long) dX3_init_7 (by decide) rfl (mT2 (i := 24) rfl rfl) rfl (by decide) hL1 (by omega) (rm_le (by omega)) (fun k => (hB.at2 hL1 (by omega) (by omega) k).1) (fun k => (hB.at2 hL1 (by omega) (by omega) k).2) ?_
  refine A_putR dX3_init_9 fX3_9 (fun _ => rfl) (fun _ q hq => by cases hq; rfl) rfl (fun _ => ⟨rfl, rfl⟩) (okLy hL (by omega) (by omega)) ?_
  refine A_vret dX3_init_12 ⟨rfl, pt_eq (fun q c i' h1 h2 hq k => ?_) (fun _ _ _ _ => rfl), pt_eq (fun q c i' h1 h2 hq k => ?_) (fun c i' no k => upR_o _ _ _ (not_in hL (by omega) (Nat.le_refl _) (by omega) no))⟩
  · rcases two_eq h1 h2 with rfl | rfl
    · rw [hL] at hq; cases hq; exact (hB.at hL (by omega) k).1
    · rw [hL1] at hq; cases hq; exact (hB.at2 hL1 (by omega) (by omega) k).1
  · rcases two_eq h1 h2 with rfl | rfl
    · rw [hL] at hq; cases hq
      show (if _ then _ else _) = if k = 12 then some (28, i) else none
      by_cases e : k = 12
      · subst e; rw [if_pos ⟨rfl, rfl, rfl⟩, if_pos rfl]
      · rw [if_neg (fun z => e z.2.1), if_neg e]; exact (hB.at hL (by omega) k).2
    · rw [hL1] at hq; cases hq
      exact (upR_o _ _ _ (by omega)).trans (hB.at2 hL1 (by omega) (by omega) k).2
theorem i_X8 {m : Nat} (hL : layF m = (8, 0)) (hL1 : layF (m + 1) = (24, 0)) (hm : m + 2 ≤ TOT) : IC G yX8_init cX8_init 1 1 m (m + 2) 8 0 := by
  intro N R hB
  refine Ctr.ofAW RX8 true rfl (by decide) (fun _ => rfl) (Nat.le_of_ble_eq_true rfl) (by omega) ?_
  refine A_aload_n (i := 0) dX8_init_0 rfl rfl ?_
  refine A_objInit dX8_init_1 (mT2 (i := 31) rfl rfl) ob_i ob_c (by decide) (Nat.le_of_ble_eq_true rfl) (Nat.le_of_ble_eq_true rfl) ?_
  refine A_aload_n (i := 0) dX8_init_4 rfl rfl ?_
  refine A_sipush (v := 160) dX8_init_5 (by decide +kernel) ?_
  refine A_newa (c := 24) (i := 0) (atype := .byte) dX8_init_8 (by decide) rfl (mT2 (i := 57) rfl rfl) rfl (by decide) hL1 (by omega) (rm_le (by omega)) (fun k => (hB.at2 hL1 (by omega) (by omega) k).1) (fun k => (hB.at2 hL1 (by omega) (by omega) k).2) ?_
  refine A_putR dX8_init_10 fX8_9 (fun _ => rfl) (fun _ q hq => by cases hq; rfl) rfl (fun _ => ⟨rfl, rfl⟩) (okLy hL (by omega) (by omega)) ?_
  refine A_vret dX8_init_13 ⟨rfl, pt_eq (fun q c i' h1 h2 hq k => ?_) (fun _ _ _ _ => rfl), pt_eq (fun q c i' h1 h2 hq k => ?_) (fun c i' no k => upR_o _ _ _ (not_in hL (by omega) (Nat.le_refl _) (by omega) no))⟩
  · rcases two_eq h1 h2 with rfl | rfl
    · rw [hL] at hq; cases hq; exact (hB.at hL (by omega) k).1
    · rw [hL1] at hq; cases hq; exact (hB.at2 hL1 (by omega) (by omega) k).1
  · rcases two_eq h1 h2 with rfl | rfl
    · rw [hL] at hq; cases hq
      show (if _ then _ else _) = if k = 0 then some (24, 0) else none
      by_cases e : k = 0
      · subst e; rw [if_pos ⟨rfl, rfl, rfl⟩, if_pos rfl]
      · rw [if_neg (fun z => e z.2.1), if_neg e]; exact (hB.at hL (by omega) k).2
    · rw [hL1] at hq; cases hq
      exact (upR_o _ _ _ (by omega)).trans (hB.at2 hL1 (by omega) (by omega) k).2
theorem i_X7 {m i : Nat} (hL : layF m = (7, i)) (hL1 : layF (m + 1) = (34, i)) (hm : m + 2 ≤ TOT) : IC G yX7_init cX7_init 1 1 m (m + 2) 7 i := by
  intro N R hB
  refine Ctr.ofAW RX7 true rfl (by decide) (fun _ => rfl) (Nat.le_of_ble_eq_true rfl) (by omega) ?_
  refine A_aload_n (i := 0) dX7_init_0 rfl rfl ?_
  refine A_objInit dX7_init_1 (mT2 (i := 114) rfl rfl) ob_i ob_c (by decide) (Nat.le_of_ble_eq_true rfl) (Nat.le_of_ble_eq_true rfl) ?_
  refine A_aload_n (i := 0) dX7_init_4 rfl rfl ?_
  refine A_bipush (v := 40) dX7_init_5 (by decide +kernel) ?_
  refine A_newa (c := 34) (i := i) (atype := .int) dX7_init_7 (by decide) rfl (mT2 (i := 56) rfl rfl) rfl (by decide) hL1 (by omega) (rm_le (by omega)) (fun k => (hB.at2 hL1 (by omega) (by omega) k).1) (fun k => (hB.at2 hL1 (by omega) (by omega) k).2) ?_
  refine A_putR dX7_init_9 fX7_9 (fun _ => rfl) (fun _ q hq => by cases hq; rfl) rfl (fun _ => ⟨rfl, rfl⟩) (okLy hL (by omega) (by omega)) ?_
  refine A_aload_n (i := 0) dX7_init_12 rfl rfl ?_
  refine A_iconst (v := -1) dX7_init_13 rfl ?_
  refine A_putI dX7_init_14 fX7_15 (okLy hL (by omega) (by omega)) ?_
  refine A_vret dX7_init_17 ⟨rfl, pt_eq (fun q c i' h1 h2 hq k => ?_) (fun c i' no k => up3_o _ _ _ (not_in hL (by omega) (Nat.le_refl _) (by omega) no)), pt_eq (fun q c i' h1 h2 hq k => ?_) (fun c i' no k => upR_o _ _ _ (not_in hL (by omega) (Nat.le_refl _) (by omega) no))⟩
  · rcases two_eq h1 h2 with rfl | rfl
    · rw [hL] at hq; cases hq
      show (if _ then _ else _) = if k = 1 then (-1 : Int) else 0
      by_cases e : k = 1
      · subst e; rw [if_pos ⟨rfl, rfl, rfl⟩, if_pos rfl]
      · rw [if_neg (fun z => e z.2.1), if_neg e]; exact (hB.at hL (by omega) k).1
    · rw [hL1] at hq; cases hq
      exact (up3_o _ _ _ (by omega)).trans (hB.at2 hL1 (by omega) (by omega) k).1
  · rcases two_eq h1 h2 with rfl | rfl
    · rw [hL] at hq; cases hq
      show (if _ then _ else _) = if k = 0 then some (34, i) else none
      by_cases e : k = 0
      · subst e; rw [if_pos ⟨rfl, rfl, rfl⟩, if_pos rfl]
      · rw [if_neg (fun z => e z.2.1), if_neg e]; exact (hB.at hL (by omega) k).2
    · rw [hL1] at hq; cases hq
      exact (upR_o _ _ _ (by omega)).trans (hB.at2 hL1 (by omega) (by omega) k).2
theorem four_eq {m q : Nat} (h1 : m ≤ q) (h2 : q < m + 4) : q = m ∨ q = m + 1 ∨ q = m + 2 ∨ q = m + 3 := by omega
theorem i_X1 {m i : Nat} (hL : layF m = (1, i)) (hL1 : layF (m + 1) = (29, i)) (hL2 : layF (m + 2) = (30, i)) (hL3 : layF (m + 3) = (31, i)) (hm : m + 4 ≤ TOT) : IC G yX1_init cX1_init 1 1 m (m + 4) 1 i := by
  intro N R hB
  have b0 := fun k => hB.at hL (by omega) k
  have b1 := fun k => hB.at2 hL1 (by omega) (by omega) k
  have b2 := fun k => hB.at2 hL2 (by omega) (by omega) k
  have b3 := fun k => hB.at2 hL3 (by omega) (by omega) k
  have k2 : okA (m + 1 + 1 + 1) 30 i := okLy hL2 (by omega) (by omega)
  have k2' : okA (m + 1 + 1 + 1 + 1) 30 i := okLy hL2 (by omega) (by omega)
  refine Ctr.ofAW RX1 true rfl (by decide) (fun _ => rfl) (Nat.le_of_ble_eq_true rfl) (by omega) ?_
  refine A_aload_n (i := 0) dX1_init_0 rfl rfl ?_
  refine A_objInit dX1_init_1 (mT2 (i := 68) rfl rfl) ob_i ob_c (by decide) (Nat.le_of_ble_eq_true rfl) (Nat.le_of_ble_eq_true rfl) ?_
  refine A_aload_n (i := 0) dX1_init_4 rfl rfl ?_
  refine A_sipush (v := 160) dX1_init_5 (by decide +kernel) ?_
  refine A_newa (c := 29) (i := i) (atype := .int) dX1_init_8 (by decide) rfl (mT2 (i := 56) rfl rfl) rfl (by decide) hL1 (by omega) (rm_le (by omega)) (fun k => (b1 k).1) (fun k => (b1 k).2) ?_
  refine A_putR dX1_init_10 fX1_9 (fun _ => rfl) (fun _ q hq => by cases hq; rfl) rfl (fun _ => ⟨rfl, rfl⟩) (okLy hL (by omega) (by omega)) ?_
  refine A_aload_n (i := 0) dX1_init_13 rfl rfl ?_
  refine A_iconst (v := 4) dX1_init_14 rfl ?_
  refine A_newa (c := 30) (i := i) (atype := .int) dX1_init_15 (by decide) rfl (mT2 (i := 56) rfl rfl) rfl (by decide) hL2 (by omega) (rm_le (by omega)) (fun k => (b2 k).1) (fun k => (upR_o _ _ _ (by omega)).trans (b2 k).2) ?_
  refine A_dup dX1_init_17 rfl ?_
  refine A_iconst (v := 0) dX1_init_18 rfl ?_
  refine A_iconst (v := 0) dX1_init_19 rfl ?_
  refine A_iast (j := 0) dX1_init_20 (by decide) rfl k2 (by decide) (by decide) ?_
  refine A_dup dX1_init_21 rfl ?_
  refine A_iconst (v := 1) dX1_init_22 rfl ?_
  refine A_iconst (v := 1) dX1_init_23 rfl ?_
  refine A_iast (j := 1) dX1_init_24 (by decide) rfl k2 (by decide) (by decide) ?_
  refine A_dup dX1_init_25 rfl ?_
  refine A_iconst (v := 2) dX1_init_26 rfl ?_
  refine A_iconst (v := 2) dX1_init_27 rfl ?_
  refine A_iast (j := 2) dX1_init_28 (by decide) rfl k2 (by decide) (by decide) ?_
  refine A_dup dX1_init_29 rfl ?_
  refine A_iconst (v := 3) dX1_init_30 rfl ?_
  refine A_iconst (v := 3) dX1_init_31 rfl ?_
  refine A_iast (j := 3) dX1_init_32 (by decide) rfl k2 (by decide) (by decide) ?_
  refine A_putR dX1_init_33 fX1_15 (fun _ => rfl) (fun _ q hq => by cases hq; rfl) rfl (fun _ => ⟨rfl, rfl⟩) (okLy hL (by omega) (by omega)) ?_
  refine A_aload_n (i := 0) dX1_init_36 rfl rfl ?_
  refine A_bipush (v := 40) dX1_init_37 (by decide +kernel) ?_
  refine A_newa (c := 31) (i := i) (atype := .int) dX1_init_39 (by decide) rfl (mT2 (i := 56) rfl rfl) rfl (by decide) hL3 (by omega) (rm_le (by omega)) (fun k => (up3_o _ _ _ (by omega)).trans ((up3_o _ _ _ (by omega)).trans ((up3_o _ _ _ (by omega)).trans ((up3_o _ _ _ (by omega)).trans (b3 k).1)))) (fun k => (upR_o _ _ _ (by omega)).trans ((upR_o _ _ _ (by omega)).trans (b3 k).2)) ?_
  refine A_putR dX1_init_41 fX1_18 (fun _ => rfl) (fun _ q hq => by cases hq; rfl) rfl (fun _ => ⟨rfl, rfl⟩) (okLy hL (by omega) (by omega)) ?_
  refine A_aload_n (i := 0) dX1_init_44 rfl rfl ?_
  refine A_iconst (v := 3) dX1_init_45 rfl ?_
  refine A_putI dX1_init_46 fX1_21 (okLy hL (by omega) (by omega)) ?_
  refine A_vret dX1_init_49 ⟨rfl, pt_eq (fun q c i' h1 h2 hq k => ?_) (fun c i' no k => ?_), pt_eq (fun q c i' h1 h2 hq k => ?_) (fun c i' no k => ?_)⟩
  · rcases four_eq h1 h2 with rfl | rfl | rfl | rfl
    · rw [hL] at hq; cases hq
      show _ = if k = 3 then (3 : Int) else 0
      by_cases e : k = 3
      · subst e; rw [if_pos rfl]; exact up3_s
      · rw [if_neg e, up3_n e, up3_o _ _ _ (by omega), up3_o _ _ _ (by omega), up3_o _ _ _ (by omega), up3_o _ _ _ (by omega)]; exact (b0 k).1
    · rw [hL1] at hq; cases hq
      rw [up3_o _ _ _ (by omega), up3_o _ _ _ (by omega), up3_o _ _ _ (by omega), up3_o _ _ _ (by omega), up3_o _ _ _ (by omega)]; exact (b1 k).1
    · rw [hL2] at hq; cases hq
      show _ = if k < 4 then (k : Int) else 0
      rw [up3_o _ _ _ (by omega)]
      by_cases e3 : k = 3
      · subst e3; rw [if_pos (by decide)]; exact up3_s
      rw [up3_n e3]
      by_cases e2 : k = 2
      · subst e2; rw [if_pos (by decide)]; exact up3_s
      rw [up3_n e2]
      by_cases e1 : k = 1
      · subst e1; rw [if_pos (by decide)]; exact up3_s
      rw [up3_n e1]
      by_cases e0 : k = 0
      · subst e0; rw [if_pos (by decide)]; exact up3_s
      rw [up3_n e0, if_neg (by omega)]
      exact (b2 k).1
    · rw [hL3] at hq; cases hq
      rw [up3_o _ _ _ (by omega), up3_o _ _ _ (by omega), up3_o _ _ _ (by omega), up3_o _ _ _ (by omega), up3_o _ _ _ (by omega)]; exact (b3 k).1
  · have n1 := not_in hL (by omega) (Nat.le_refl _) (by omega) no
    have n2 := not_in hL2 (by omega) (by omega) (by omega) no
    rw [up3_o _ _ _ n1, up3_o _ _ _ n2, up3_o _ _ _ n2, up3_o _ _ _ n2, up3_o _ _ _ n2]
  · rcases four_eq h1 h2 with rfl | rfl | rfl | rfl
    · rw [hL] at hq; cases hq
      show _ = if k = 0 then some (29, i) else if k = 1 then some (30, i) else if k = 2 then some (31, i) else none
      by_cases e2 : k = 2
      · subst e2; exact upR_s
      rw [upR_n e2]
      by_cases e1 : k = 1
      · subst e1; exact upR_s
      rw [upR_n e1]
      by_cases e0 : k = 0
      · subst e0; exact upR_s
      rw [upR_n e0, if_neg e0, if_neg e1, if_neg e2]
      exact (b0 k).2
    · rw [hL1] at hq; cases hq
      rw [upR_o _ _ _ (by omega), upR_o _ _ _ (by omega), upR_o _ _ _ (by omega)]; exact (b1 k).2
    · rw [hL2] at hq; cases hq
      rw [upR_o _ _ _ (by omega), upR_o _ _ _ (by omega), upR_o _ _ _ (by omega)]; exact (b2 k).2
    · rw [hL3] at hq; cases hq
      rw [upR_o _ _ _ (by omega), upR_o _ _ _ (by omega), upR_o _ _ _ (by omega)]; exact (b3 k).2
  · have n1 := not_in hL (by omega) (Nat.le_refl _) (by omega) no
    rw [upR_o _ _ _ n1, upR_o _ _ _ n1, upR_o _ _ _ n1]
end CT
