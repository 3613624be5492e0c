/-! pools, falls, the class's own -/
section CT3
variable {G : GT}
theorem hc_2 {o : String} {cc : ByteArray} {nL L n0 n1 pc i m : Nat} {Z : ZT} {ls : List (Nat × AV)} {st : List AV} {N : NN} {R : RR} (hd : decode cc pc = .ok (.invokespecial 21, 3)) (ho : o = RX6) (hL : layF m = (2, i)) (hm : m + 1 ≤ TOT) (hn : m + 1 ≤ n1) (hst : (st.map fun v => if isL v then 2 else 1).sum ≤ 8) (hl : 2 ≤ L) (hB : Bl m N R) (h : AW G o cc nL none true (rmL L n0 n1) n0 Z (pc + 3) ls st (m + 1) (pt m (m + 1) NB N) (pt m (m + 1) RB R)) : AW G o cc nL none true (rmL L n0 n1) n0 Z pc ls (vR 2 i :: st) (m + 1) N R := by
  subst ho
  refine A_callN (av := []) (st := st) (L := 1) (n1 := m + 1) hd vX6_21 mX2_init rfl hst ⟨Nat.le_refl _, hm⟩ ⟨?_, ?_⟩ (rm_le hn) (Ctr.mono (i_X2 hL hm N R hB) (fun r N1 R1 hh => ?_)) rfl
  · show 8 + 1 + 1 ≤ 8 + L; omega
  · show 8 + (1 + 11) + (400 + 40 * 1) ≤ 400 + 40 * L; omega
  obtain ⟨rfl, rfl, rfl⟩ := hh
  exact h
theorem hc_5 {o : String} {cc : ByteArray} {nL L n0 n1 pc i m : Nat} {Z : ZT} {ls : List (Nat × AV)} {st : List AV} {N : NN} {R : RR} (hd : decode cc pc = .ok (.invokespecial 24, 3)) (ho : o = RX0) (hL : layF m = (5, i)) (hm : m + 1 ≤ TOT) (hn : m + 1 ≤ n1) (hst : (st.map fun v => if isL v then 2 else 1).sum ≤ 8) (hl : 2 ≤ L) (hB : Bl m N R) (h : AW G o cc nL none true (rmL L n0 n1) n0 Z (pc + 3) ls st (m + 1) (pt m (m + 1) NB N) (pt m (m + 1) RB R)) : AW G o cc nL none true (rmL L n0 n1) n0 Z pc ls (vR 5 i :: st) (m + 1) N R := by
  subst ho
  refine A_callN (av := []) (st := st) (L := 1) (n1 := m + 1) hd vX0_24 mX5_init rfl hst ⟨Nat.le_refl _, hm⟩ ⟨?_, ?_⟩ (rm_le hn) (Ctr.mono (i_X5 hL hm N R hB) (fun r N1 R1 hh => ?_)) rfl
  · show 8 + 1 + 1 ≤ 8 + L; omega
  · show 8 + (1 + 11) + (400 + 40 * 1) ≤ 400 + 40 * L; omega
  obtain ⟨rfl, rfl, rfl⟩ := hh
  exact h
theorem i_X6 {m i : Nat} (hL : layF m = (6, i)) (hL1 : layF (m + 1) = (20, i)) (hLj : ∀ j, j < 12 → layF (m + 2 + 1 * j) = (2, 12 * i + j)) (hm : m + 14 ≤ TOT) : IC G yX6_init cX6_init 2 2 m (m + 14) 6 i := by
  intro N R hB
  have b0 := fun k => hB.at hL (by omega) k
  have b1 := fun k => hB.at2 hL1 (by omega) (by omega) k
  have k6 : okA (m + 1 + 1) 6 i := okLy hL (by omega) (by omega)
  have k20 : okA (m + 1 + 1) 20 i := okLy hL1 (by omega) (by omega)
  have p0 := (lay_ok hL (by omega)).2
  have p1 := (lay_ok hL1 (by omega)).2
  refine Ctr.ofAW RX6 true rfl (by decide) (fun _ => rfl) (Nat.le_of_ble_eq_true rfl) (by omega) ?_
  refine A_aload_n (i := 0) dX6_init_0 rfl rfl ?_
  refine A_objInit dX6_init_1 (mT1 (i := 31) rfl rfl) ob_i ob_c (by decide) (Nat.le_of_ble_eq_true rfl) (Nat.le_of_ble_eq_true rfl) ?_
  refine A_aload_n (i := 0) dX6_init_4 rfl rfl ?_
  refine A_bipush (v := 12) dX6_init_5 (by decide +kernel) ?_
  refine A_anew (c := 20) (i := i) dX6_init_7 (by decide) rfl (mT1 (i := 32) rfl rfl) (by decide) rfl (by decide) hL1 (by omega) (rm_le (by omega)) (fun k => (b1 k).1) (fun k => (b1 k).2) ?_
  refine A_putR dX6_init_10 fX6_11 (fun _ => rfl) (fun _ q hq => by cases hq; rfl) rfl (fun _ => ⟨rfl, rfl⟩) k6 ?_
  refine A_aload_n (i := 0) dX6_init_13 rfl rfl ?_
  refine A_bipush (v := 50) dX6_init_14 (by decide +kernel) ?_
  refine A_putI dX6_init_16 fX6_17 k6 ?_
  refine A_iconst (v := 0) dX6_init_19 rfl ?_
  refine A_istore_n (i := 1) dX6_init_20 rfl (by decide) rfl ?_
  have hB2 : Bl (m + 2) (up3 N 6 i 3 50) (upR R 6 i 0 (some (20, i))) := ((hB.up (by omega)).n k6).r k6
  have w := loop_new (G := G) (o := RX6) (cc := cX6_init) (nL := 2) (L := 2) (n0 := m + 1) (n1 := m + 14) (Z := ZQ G (m + 1) (m + 14) (fun r N' R' => r = none ∧ N' = pt m (m + 14) NB N ∧ R' = pt m (m + 14) RB R)) (b := m + 2) (s := 1) (ca := 20) (ia := i) (ce := 2) (ie := fun j => 12 * i + j) (len := 12) dX6_init_21 dX6_init_22 dX6_init_23 dX6_init_26 dX6_init_27 dX6_init_30 dX6_init_31 dX6_init_34 dX6_init_35 dX6_init_38 dX6_init_42 dX6_init_43 dX6_init_46 fX6_11 rfl upR_s k6 k20 (by decide) (by decide) rfl rfl CF2 (mT1 (i := 32) rfl rfl) (mT1 (i := 34) rfl rfl) (mT1 (i := 3) rfl rfl) hLj (by omega) (by decide) (by decide) (by decide) (by omega) hB2 (fun j hj N R hBj hh => hc_2 dX6_init_39 rfl (hLj j hj) (by omega) (by omega) (Nat.le_of_ble_eq_true rfl) (by decide) hBj hh) ?_ 12 0 rfl
  · rw [Nat.mul_zero, Nat.add_zero, pt_nil, pt_nil, rowR_0] at w
    exact w
  refine A_vret dX6_init_49 ⟨rfl, pt_eq (fun q c i' h1 h2 hq k => ?_) (fun c i' no k => ?_), pt_eq (fun q c i' h1 h2 hq k => ?_) (fun c i' no k => ?_)⟩
  · have pq := lay_ok hq (by omega)
    rcases (by omega : q = m ∨ q = m + 1 ∨ m + 2 ≤ q) with rfl | rfl | h3
    · rw [hL] at hq; cases hq
      rw [pt_out (by omega)]
      show _ = if k = 3 then (50 : Int) else 0
      by_cases e : k = 3
      · subst e; rw [if_pos rfl]; exact up3_s
      · rw [if_neg e, up3_n e]; exact (b0 k).1
    · rw [hL1] at hq; cases hq
      rw [pt_out (by omega), up3_o _ _ _ (by omega)]; exact (b1 k).1
    · rw [pt_in (by omega)]
  · have n1 := not_in hL (by omega) (Nat.le_refl _) (by omega) no
    rw [pt_out (by omega), up3_o _ _ _ n1]
  · have pq := lay_ok hq (by omega)
    rcases (by omega : q = m ∨ q = m + 1 ∨ m + 2 ≤ q) with rfl | rfl | h3
    · rw [hL] at hq; cases hq
      rw [rowR_o _ _ _ (by omega), pt_out (by omega)]
      show _ = if k = 0 then some (20, i) else none
      by_cases e : k = 0
      · subst e; rw [if_pos rfl]; exact upR_s
      · rw [if_neg e, upR_n e]; exact (b0 k).2
    · rw [hL1] at hq; cases hq
      show (if _ then _ else _) = if k < 12 then some (2, 12 * i + k) else none
      by_cases e : k < 12
      · rw [if_pos ⟨rfl, rfl, e⟩, if_pos e]
      · rw [if_neg (fun z => e z.2.2), if_neg e, pt_out (by omega), upR_o _ _ _ (by omega)]; exact (b1 k).2
    · rw [rowR_o _ _ _ (by rintro ⟨rfl, rfl⟩; omega), pt_in (by omega)]
  · have n1 := not_in hL (by omega) (Nat.le_refl _) (by omega) no
    have n2 := not_in hL1 (by omega) (by omega) (by omega) no
    rw [rowR_o _ _ _ n2, pt_out (by omega), upR_o _ _ _ n1]
theorem i_X0 {m i : Nat} (hL : layF m = (0, i)) (hL1 : layF (m + 1) = (21, i)) (hLj : ∀ j, j < 5 → layF (m + 2 + 1 * j) = (5, 5 * i + j)) (hm : m + 7 ≤ TOT) : IC G yX0_init cX0_init 2 2 m (m + 7) 0 i := by
  intro N R hB
  have b0 := fun k => hB.at hL (by omega) k
  have b1 := fun k => hB.at2 hL1 (by omega) (by omega) k
  have k6 : okA (m + 1 + 1) 0 i := okLy hL (by omega) (by omega)
  have k20 : okA (m + 1 + 1) 21 i := okLy hL1 (by omega) (by omega)
  have p0 := (lay_ok hL (by omega)).2
  have p1 := (lay_ok hL1 (by omega)).2
  refine Ctr.ofAW RX0 true rfl (by decide) (fun _ => rfl) (Nat.le_of_ble_eq_true rfl) (by omega) ?_
  refine A_aload_n (i := 0) dX0_init_0 rfl rfl ?_
  refine A_objInit dX0_init_1 (mT1 (i := 114) rfl rfl) ob_i ob_c (by decide) (Nat.le_of_ble_eq_true rfl) (Nat.le_of_ble_eq_true rfl) ?_
  refine A_aload_n (i := 0) dX0_init_4 rfl rfl ?_
  refine A_iconst (v := 5) dX0_init_5 rfl ?_
  refine A_anew (c := 21) (i := i) dX0_init_6 (by decide) rfl (mT1 (i := 115) rfl rfl) (by decide) rfl (by decide) hL1 (by omega) (rm_le (by omega)) (fun k => (b1 k).1) (fun k => (b1 k).2) ?_
  refine A_putR dX0_init_9 fX0_11 (fun _ => rfl) (fun _ q hq => by cases hq; rfl) rfl (fun _ => ⟨rfl, rfl⟩) k6 ?_
  refine A_aload_n (i := 0) dX0_init_12 rfl rfl ?_
  refine A_sipush (v := 1000) dX0_init_13 (by decide +kernel) ?_
  refine A_putI dX0_init_16 fX0_17 k6 ?_
  refine A_aload_n (i := 0) dX0_init_19 rfl rfl ?_
  refine A_iconst (v := 1) dX0_init_20 rfl ?_
  refine A_putI dX0_init_21 fX0_21 k6 ?_
  refine A_iconst (v := 0) dX0_init_24 rfl ?_
  refine A_istore_n (i := 1) dX0_init_25 rfl (by decide) rfl ?_
  have hB2 : Bl (m + 2) (up3 (up3 N 0 i 2 1000) 0 i 3 1) (upR R 0 i 0 (some (21, i))) := (((hB.up (by omega)).n k6).n k6).r k6
  have w := loop_new (G := G) (o := RX0) (cc := cX0_init) (nL := 2) (L := 2) (n0 := m + 1) (n1 := m + 7) (Z := ZQ G (m + 1) (m + 7) (fun r N' R' => r = none ∧ N' = pt m (m + 7) NB N ∧ R' = pt m (m + 7) RB R)) (b := m + 2) (s := 1) (ca := 21) (ia := i) (ce := 5) (ie := fun j => 5 * i + j) (len := 5) dX0_init_26 dX0_init_27 dX0_init_28 dX0_init_31 dX0_init_32 dX0_init_35 dX0_init_36 dX0_init_39 dX0_init_40 dX0_init_43 dX0_init_47 dX0_init_48 dX0_init_51 fX0_11 rfl upR_s k6 k20 (by decide) (by decide) rfl rfl CF5 (mT1 (i := 115) rfl rfl) (mT1 (i := 117) rfl rfl) (mT1 (i := 5) rfl rfl) hLj (by omega) (by decide) (by decide) (by decide) (by omega) hB2 (fun j hj N R hBj hh => hc_5 dX0_init_44 rfl (hLj j hj) (by omega) (by omega) (Nat.le_of_ble_eq_true rfl) (by decide) hBj hh) ?_ 5 0 rfl
  · rw [Nat.mul_zero, Nat.add_zero, pt_nil, pt_nil, rowR_0] at w
    exact w
  refine A_vret dX0_init_54 ⟨rfl, pt_eq (fun q c i' h1 h2 hq k => ?_) (fun c i' no k => ?_), pt_eq (fun q c i' h1 h2 hq k => ?_) (fun c i' no k => ?_)⟩
  · have pq := lay_ok hq (by omega)
    rcases (by omega : q = m ∨ q = m + 1 ∨ m + 2 ≤ q) with rfl | rfl | h3
    · rw [hL] at hq; cases hq
      rw [pt_out (by omega)]
      show _ = if k = 2 then (1000 : Int) else if k = 3 then 1 else 0
      by_cases e : k = 3
      · subst e; rw [if_neg (by decide), if_pos rfl]; exact up3_s
      rw [up3_n e]
      by_cases e2 : k = 2
      · subst e2; rw [if_pos rfl]; exact up3_s
      · rw [if_neg e2, if_neg e, up3_n e2]; exact (b0 k).1
    · rw [hL1] at hq; cases hq
      rw [pt_out (by omega), up3_o _ _ _ (by omega), up3_o _ _ _ (by omega)]; exact (b1 k).1
    · rw [pt_in (by omega)]
  · have n1 := not_in hL (by omega) (Nat.le_refl _) (by omega) no
    rw [pt_out (by omega), up3_o _ _ _ n1, up3_o _ _ _ n1]
  · have pq := lay_ok hq (by omega)
    rcases (by omega : q = m ∨ q = m + 1 ∨ m + 2 ≤ q) with rfl | rfl | h3
    · rw [hL] at hq; cases hq
      rw [rowR_o _ _ _ (by omega), pt_out (by omega)]
      show _ = if k = 0 then some (21, i) else none
      by_cases e : k = 0
      · subst e; rw [if_pos rfl]; exact upR_s
      · rw [if_neg e, upR_n e]; exact (b0 k).2
    · rw [hL1] at hq; cases hq
      show (if _ then _ else _) = if k < 5 then some (5, 5 * i + k) else none
      by_cases e : k < 5
      · rw [if_pos ⟨rfl, rfl, e⟩, if_pos e]
      · rw [if_neg (fun z => e z.2.2), if_neg e, pt_out (by omega), upR_o _ _ _ (by omega)]; exact (b1 k).2
    · rw [rowR_o _ _ _ (by rintro ⟨rfl, rfl⟩; omega), pt_in (by omega)]
  · have n1 := not_in hL (by omega) (Nat.le_refl _) (by omega) no
    have n2 := not_in hL1 (by omega) (by omega) (by omega) no
    rw [rowR_o _ _ _ n2, pt_out (by omega), upR_o _ _ _ n1]
end CT3
