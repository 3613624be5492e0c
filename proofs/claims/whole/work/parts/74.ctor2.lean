/-! orders, pools, falls -/
section CT2
variable {G : GT}
def clN (N : NN) (i : Nat) : NN := up3 (up3 (up3 (up3 (up3 N 33 i 1 (-1)) 33 i 2 (-1)) 33 i 3 0) 33 i 4 (-1)) 33 i 5 (-1)
theorem i_clear {n i : Nat} {N : NN} {R : RR} (hn : n ≤ TOT) (ho : okA n 33 i) : Ctr G yX4_clear cX4_clear 1 none 1 n n [vR 33 i] N R (fun r N' R' => r = none ∧ N' = clN N i ∧ R' = R) := by
  refine Ctr.ofAW RX4 false rfl (by decide) (fun q => by cases q) (Nat.le_of_ble_eq_true rfl) hn ?_
  refine A_aload_n (i := 0) dX4_clear_0 rfl rfl ?_
  refine A_iconst (v := 1) dX4_clear_1 rfl ?_
  refine A_iconst (v := -1) dX4_clear_2 rfl ?_
  refine A_iast (j := 1) dX4_clear_3 (by decide) rfl ho (by decide) (by decide) ?_
  refine A_aload_n (i := 0) dX4_clear_4 rfl rfl ?_
  refine A_iconst (v := 2) dX4_clear_5 rfl ?_
  refine A_iconst (v := -1) dX4_clear_6 rfl ?_
  refine A_iast (j := 2) dX4_clear_7 (by decide) rfl ho (by decide) (by decide) ?_
  refine A_aload_n (i := 0) dX4_clear_8 rfl rfl ?_
  refine A_iconst (v := 3) dX4_clear_9 rfl ?_
  refine A_iconst (v := 0) dX4_clear_10 rfl ?_
  refine A_iast (j := 3) dX4_clear_11 (by decide) rfl ho (by decide) (by decide) ?_
  refine A_aload_n (i := 0) dX4_clear_12 rfl rfl ?_
  refine A_iconst (v := 4) dX4_clear_13 rfl ?_
  refine A_iconst (v := -1) dX4_clear_14 rfl ?_
  refine A_iast (j := 4) dX4_clear_15 (by decide) rfl ho (by decide) (by decide) ?_
  refine A_aload_n (i := 0) dX4_clear_16 rfl rfl ?_
  refine A_iconst (v := 5) dX4_clear_17 rfl ?_
  refine A_iconst (v := -1) dX4_clear_18 rfl ?_
  refine A_iast (j := 5) dX4_clear_19 (by decide) rfl ho (by decide) (by decide) ?_
  exact A_vret dX4_clear_20 ⟨rfl, rfl, rfl⟩
theorem i_rest {n i : Nat} {N : NN} {R : RR} (hn : n ≤ TOT) (h4 : okA n 4 i) (h32 : okA n 32 i) (h33 : okA n 33 (10 * i)) (r4 : R 4 i 0 = some (32, i)) (r32 : R 32 i 0 = some (33, 10 * i)) : Ctr G yX4_writeRest cX4_writeRest 2 none 2 n n [vR 4 i, vI 0] N R (fun r N' R' => r = none ∧ N' = up3 (up3 (clN N (10 * i)) 33 (10 * i) 0 5) 4 i 1 1 ∧ R' = R) := by
  refine Ctr.ofAW RX4 false rfl (by decide) (fun q => by cases q) (Nat.le_of_ble_eq_true rfl) hn ?_
  refine A_iload_n (i := 1) dX4_writeRest_0 rfl rfl ?_
  refine A_if_lt (tgt := 35) dX4_writeRest_1 (by decide) (fun q => absurd q (by decide)) (fun _ => ?_)
  refine A_iload_n (i := 1) dX4_writeRest_4 rfl rfl ?_
  refine A_bipush (v := 10) dX4_writeRest_5 (by decide +kernel) ?_
  refine A_icmp_ge (tgt := 35) dX4_writeRest_7 (by decide) (fun q => absurd q (by decide)) (fun _ => ?_)
  refine A_aload_n (i := 0) dX4_writeRest_10 rfl rfl ?_
  refine A_getR dX4_writeRest_11 fX4_13 rfl h4 r4 ?_
  refine A_iload_n (i := 1) dX4_writeRest_14 rfl rfl ?_
  refine A_aald (j := 0) dX4_writeRest_15 (by decide) (by decide) h32 (by decide) (by decide) r32 ?_
  refine A_callS (av := [vR 33 (10 * i)]) (st := []) (L := 1) (n1 := n) dX4_writeRest_16 vX4_47 mX4_clear rfl (by decide) ⟨Nat.le_refl _, hn⟩ ⟨Nat.le_of_ble_eq_true rfl, Nat.le_of_ble_eq_true rfl⟩ (rm_le (Nat.le_refl _)) (Ctr.mono (i_clear hn h33) (fun r N1 R1 hh => ?_)) rfl
  obtain ⟨rfl, rfl, rfl⟩ := hh
  refine A_aload_n (i := 0) dX4_writeRest_19 rfl rfl ?_
  refine A_getR dX4_writeRest_20 fX4_13 rfl h4 r4 ?_
  refine A_iload_n (i := 1) dX4_writeRest_23 rfl rfl ?_
  refine A_aald (j := 0) dX4_writeRest_24 (by decide) (by decide) h32 (by decide) (by decide) r32 ?_
  refine A_iconst (v := 0) dX4_writeRest_25 rfl ?_
  refine A_iconst (v := 5) dX4_writeRest_26 rfl ?_
  refine A_iast (j := 0) dX4_writeRest_27 (by decide) rfl h33 (by decide) (by decide) ?_
  refine A_aload_n (i := 0) dX4_writeRest_28 rfl rfl ?_
  refine A_iload_n (i := 1) dX4_writeRest_29 rfl rfl ?_
  refine A_iconst (v := 1) dX4_writeRest_30 rfl ?_
  refine A_iadd dX4_writeRest_31 ?_
  refine A_putI dX4_writeRest_32 fX4_51 h4 ?_
  exact A_vret dX4_writeRest_35 ⟨rfl, rfl, rfl⟩
theorem cl_o {N : NN} {i : Nat} (c' i' k : Nat) (h : ¬ (c' = 33 ∧ i' = i)) : clN N i c' i' k = N c' i' k := by
  unfold clN
  rw [up3_o _ _ _ h, up3_o _ _ _ h, up3_o _ _ _ h, up3_o _ _ _ h, up3_o _ _ _ h]
theorem ten_eq {m q : Nat} (h1 : m ≤ q) (h2 : q < m + 12) : q = m ∨ q = m + 1 ∨ ∃ j, j < 10 ∧ q = m + 1 + (j + 1) := by
  by_cases a : q = m
  · exact .inl a
  · by_cases b : q = m + 1
    · exact .inr (.inl b)
    · exact .inr (.inr ⟨q - (m + 2), by omega, by omega⟩)
theorem i_X4 {m i : Nat} (hL : layF m = (4, i)) (hL1 : layF (m + 1) = (32, i)) (hLj : ∀ j, j < 10 → layF (m + 1 + (j + 1)) = (33, 10 * i + j)) (hm : m + 12 ≤ TOT) : IC G yX4_init cX4_init 1 3 m (m + 12) 4 i := by
  intro N R hB
  have b0 := fun k => hB.at hL (by omega) k
  have b1 := fun k => hB.at2 hL1 (by omega) (by omega) k
  have bj := fun j (hj : j < 10) k => hB.at2 (hLj j hj) (by omega) (by omega) k
  have k4 : okA (m + 1 + 11) 4 i := okLy hL (by omega) (by omega)
  have k32 : okA (m + 1 + 11) 32 i := okLy hL1 (by omega) (by omega)
  have k33 : okA (m + 1 + 11) 33 (10 * i) := okLy (hLj 0 (by decide)) (by omega) (by omega)
  refine Ctr.ofAW RX4 true rfl (by decide) (fun _ => rfl) (Nat.le_of_ble_eq_true rfl) (by omega) ?_
  refine A_aload_n (i := 0) dX4_init_0 rfl rfl ?_
  refine A_objInit dX4_init_1 (mT2 (i := 89) rfl rfl) ob_i ob_c (by decide) (Nat.le_of_ble_eq_true rfl) (Nat.le_of_ble_eq_true rfl) ?_
  refine A_aload_n (i := 0) dX4_init_4 rfl rfl ?_
  refine A_bipush (v := 10) dX4_init_5 (by decide +kernel) ?_
  refine A_bipush (v := 6) dX4_init_7 (by decide +kernel) ?_
  refine A_mna (i := i) dX4_init_9 (mT2 (i := 90) rfl rfl) (mT2 (i := 56) rfl rfl) hL1 hLj (by omega) (rm_le (by omega)) (fun j hj k => (bj j hj k).1) ?_ (fun c' i' k' h => if_neg fun z => h ⟨z.1, z.2.1⟩)
  refine A_putR dX4_init_13 fX4_13 (fun _ => rfl) (fun _ q hq => by cases hq; rfl) rfl (fun _ => ⟨rfl, rfl⟩) k4 ?_
  refine A_aload_n (i := 0) dX4_init_16 rfl rfl ?_
  refine A_iconst (v := 0) dX4_init_17 rfl ?_
  refine A_callV (av := [vI 0]) (st := []) (L := 2) (c := 4) (i := i) (n1 := m + 1 + 11) dX4_init_18 vX4_16 mX4_writeRest ⟨rfl, rfl, by decide⟩ k4 rfl (by decide) ⟨Nat.le_refl _, by omega⟩ ⟨Nat.le_of_ble_eq_true rfl, Nat.le_of_ble_eq_true rfl⟩ (rm_le (by omega)) (Ctr.mono (i_rest (by omega) k4 k32 k33 upR_s ?_) (fun r N1 R1 hh => ?_)) rfl
  · rw [upR_o _ _ _ (by omega)]
    exact if_pos ⟨rfl, rfl, by decide⟩
  obtain ⟨rfl, rfl, rfl⟩ := hh
  refine A_vret dX4_init_21 ⟨rfl, pt_eq (fun q c i' h1 h2 hq k => ?_) (fun c i' no k => ?_), pt_eq (fun q c i' h1 h2 hq k => ?_) (fun c i' no k => ?_)⟩
  · rcases ten_eq h1 h2 with rfl | rfl | ⟨j, hj, rfl⟩
    · rw [hL] at hq; cases hq
      show _ = if k = 1 then (1 : Int) else 0
      by_cases e : k = 1
      · subst e; rw [if_pos rfl]; exact up3_s
      · rw [if_neg e, up3_n e, up3_o _ _ _ (by omega), cl_o _ _ _ (by omega)]; exact (b0 k).1
    · rw [hL1] at hq; cases hq
      rw [up3_o _ _ _ (by omega), up3_o _ _ _ (by omega), cl_o _ _ _ (by omega)]; exact (b1 k).1
    · rw [hLj j hj] at hq; cases hq
      show _ = if (10 * i + j) % 10 = 0 then (if k = 0 then (5 : Int) else if k = 1 ∨ k = 2 ∨ k = 4 ∨ k = 5 then -1 else 0) else 0
      rw [up3_o _ _ _ (by omega)]
      have bk := (bj j hj k).1
      by_cases e : j = 0
      · subst e
        rw [if_pos (by omega)]
        rw [Nat.add_zero] at bk ⊢
        by_cases e0 : k = 0
        · subst e0; exact up3_s
        rw [up3_n e0, if_neg e0]
        unfold clN
        by_cases e5 : k = 5
        · subst e5; rw [if_pos (by decide)]; exact up3_s
        rw [up3_n e5]
        by_cases e4 : k = 4
        · subst e4; rw [if_pos (by decide)]; exact up3_s
        rw [up3_n e4]
        by_cases e3 : k = 3
        · subst e3; rw [if_neg (by decide)]; exact up3_s
        rw [up3_n e3]
        by_cases e2 : k = 2
        · subst e2; rw [if_pos (by decide)]; exact up3_s
        rw [up3_n e2]
        by_cases e1 : k = 1
        · subst e1; rw [if_pos (by decide)]; exact up3_s
        rw [up3_n e1, if_neg (by omega)]
        exact bk
      · rw [if_neg (by omega), up3_o _ _ _ (by omega), cl_o _ _ _ (by omega)]
        exact bk
  · have n1 := not_in hL (by omega) (Nat.le_refl _) (by omega) no
    have n2 : ¬ (c = 33 ∧ i' = 10 * i) := not_in (hLj 0 (by decide)) (by omega) (by omega) (by omega) no
    rw [up3_o _ _ _ n1, up3_o _ _ _ n2, cl_o _ _ _ n2]
  · rcases ten_eq h1 h2 with rfl | rfl | ⟨j, hj, rfl⟩
    · rw [hL] at hq; cases hq
      show _ = if k = 0 then some (32, i) else none
      by_cases e : k = 0
      · subst e; rw [if_pos rfl]; exact upR_s
      · rw [if_neg e, upR_n e]; exact (if_neg (by omega)).trans (b0 k).2
    · rw [hL1] at hq; cases hq
      rw [upR_o _ _ _ (by omega)]
      show (if _ then _ else _) = if k < 10 then some (33, 10 * i + k) else none
      by_cases e : k < 10
      · rw [if_pos ⟨rfl, rfl, e⟩, if_pos e]
      · rw [if_neg (fun z => e z.2.2), if_neg e]; exact (b1 k).2
    · rw [hLj j hj] at hq; cases hq
      rw [upR_o _ _ _ (by omega)]
      exact (if_neg (by omega)).trans (bj j hj k).2
  · have n1 := not_in hL (by omega) (Nat.le_refl _) (by omega) no
    have n2 := not_in hL1 (by omega) (by omega) (by omega) no
    rw [upR_o _ _ _ n1]
    exact if_neg fun z => n2 ⟨z.1, z.2.1⟩
/-- a row of new objects, filled in a loop -/
theorem loop_new {o : String} {cc : ByteArray} {nL L n0 n1 : Nat} {Z : ZT} {h fi ci kf co io ca ia ce len b s k0 : Nat} {tf : FieldType} {fin : Bool} {ie : Nat → Nat} {C0 : String} {T0 : u_T} {N1 : NN} {R1 : RR}
    (d0 : decode cc h = .ok (.iload_n 1, 1)) (d1 : decode cc (h + 1) = .ok (.aload_n 0, 1)) (d2 : decode cc (h + 2) = .ok (.getfield fi, 3)) (d5 : decode cc (h + 5) = .ok (.arraylength, 1)) (d6 : decode cc (h + 6) = .ok (.if_icmp .ge 22, 3)) (d9 : decode cc (h + 9) = .ok (.aload_n 0, 1)) (d10 : decode cc (h + 10) = .ok (.getfield fi, 3)) (d13 : decode cc (h + 13) = .ok (.iload_n 1, 1)) (d14 : decode cc (h + 14) = .ok (.new ci, 3)) (d17 : decode cc (h + 17) = .ok (.dup, 1)) (d21 : decode cc (h + 21) = .ok (.aastore, 1)) (d22 : decode cc (h + 22) = .ok (.iinc 1 1, 3)) (d25 : decode cc (h + 25) = .ok (.goto (-25), 3))
    (F : FW o fi co kf tf fin) (tf2 : tagOf tf = 2) (hra : R1 co io kf = some (ca, ia)) (hco : okA b co io) (hca : okA b ca ia) (hne : ¬ (co = ca)) (h20 : 20 ≤ ca) (hT : aT ca = .object C0) (hlen : aN ca = len) (FE : CF ce C0 T0 k0) (hcl : Cond.classLink o ci C0 ∈ ALL) (hin : Cond.instantiable C0 k0 ∈ ALL) (hini : Cond.initialized C0 ∈ ALL)
    (hlay : ∀ j, j < len → layF (b + s * j) = (ce, ie j)) (hTOT : b + s * len ≤ TOT) (hs : 1 ≤ s) (hlen2 : len ≤ 2000) (hnL : 1 < nL) (hn1 : b + s * len ≤ n1) (hB : Bl b N1 R1)
    (hcall : ∀ j, j < len → ∀ (N : NN) (R : RR), Bl (b + s * j) N R → AW G o cc nL none true (rmL L n0 n1) n0 Z (h + 21) [(1, vI (j : Nat)), (0, vR co io)] [vR ce (ie j), vI (j : Nat), vR ca ia] (b + s * j + s) (pt (b + s * j) (b + s * j + s) NB N) (pt (b + s * j) (b + s * j + s) RB R) → AW G o cc nL none true (rmL L n0 n1) n0 Z (h + 18) [(1, vI (j : Nat)), (0, vR co io)] [vR ce (ie j), vR ce (ie j), vI (j : Nat), vR ca ia] (b + s * j + 1) N R)
    (hexit : AW G o cc nL none true (rmL L n0 n1) n0 Z (h + 28) [(1, vI (len : Nat)), (0, vR co io)] [] (b + s * len) (pt b (b + s * len) NB N1) (rowR (pt b (b + s * len) RB R1) ca ia len (fun k => (ce, ie k)))) :
    ∀ d j, j + d = len → AW G o cc nL none true (rmL L n0 n1) n0 Z h [(1, vI (j : Nat)), (0, vR co io)] [] (b + s * j) (pt b (b + s * j) NB N1) (rowR (pt b (b + s * j) RB R1) ca ia j (fun k => (ce, ie k))) := by
  intro d
  induction d with
  | zero =>
    intro j hj
    have mono : s * j ≤ s * len := Nat.mul_le_mul_left s (by omega)
    have ok1 : okA (b + s * j) co io := ⟨hco.1, by have := hco.2; omega⟩
    have ok2 : okA (b + s * j) ca ia := ⟨hca.1, by have := hca.2; omega⟩
    have r1 : rowR (pt b (b + s * j) RB R1) ca ia j (fun k => (ce, ie k)) co io kf = some (ca, ia) := by
      rw [rowR_o _ _ _ (fun z => hne z.1), pt_out (by have := hco.2; omega), hra]
    refine A_iload_n (i := 1) d0 rfl rfl ?_
    refine A_aload_n (i := 0) d1 rfl rfl ?_
    refine A_getR d2 F tf2 ok1 r1 ?_
    refine A_alen (v := (len : Int)) d5 h20 ok2 (by rw [hlen]) ?_
    have e : j = len := by omega
    subst e
    exact A_icmp_ge (tgt := h + 28) d6 (by omega) (fun _ => hexit) (fun q => absurd (Int.le_refl _) q)
  | succ d ih =>
    intro j hj
    have hjl : j < len := by omega
    have mono : s * (j + 1) ≤ s * len := Nat.mul_le_mul_left s (by omega)
    have es : s * (j + 1) = s * j + s := Nat.mul_succ s j
    have ok1 : okA (b + s * j) co io := ⟨hco.1, by have := hco.2; omega⟩
    have ok2 : okA (b + s * j) ca ia := ⟨hca.1, by have := hca.2; omega⟩
    have r1 : rowR (pt b (b + s * j) RB R1) ca ia j (fun k => (ce, ie k)) co io kf = some (ca, ia) := by
      rw [rowR_o _ _ _ (fun z => hne z.1), pt_out (by have := hco.2; omega), hra]
    have z1 : (-2147483648 : Int) ≤ (j : Int) := by omega
    have z2 : (j : Int) < 2147483648 := by omega
    have z3 : (-2147483648 : Int) ≤ (len : Int) := by omega
    have z4 : (len : Int) < 2147483648 := by omega
    have wj : wI ((j : Nat) : Int) = (j : Int) := wI_id z1 z2
    have wl : wI ((len : Nat) : Int) = (len : Int) := wI_id z3 z4
    have hBj : Bl (b + s * j) (pt b (b + s * j) NB N1) (rowR (pt b (b + s * j) RB R1) ca ia j (fun k => (ce, ie k))) := ((hB.up (by clear wj wl; omega)).p).w ok2
    refine A_iload_n (i := 1) d0 rfl rfl ?_
    refine A_aload_n (i := 0) d1 rfl rfl ?_
    refine A_getR d2 F tf2 ok1 r1 ?_
    refine A_alen (v := (len : Int)) d5 h20 ok2 (by rw [hlen]) ?_
    refine A_icmp_ge (tgt := h + 28) d6 (by clear wj wl; omega) (fun q => ?_) (fun _ => ?_)
    · rw [wj, wl] at q
      exact absurd q (by clear wj wl; omega)
    refine A_aload_n (i := 0) d9 rfl rfl ?_
    refine A_getR d10 F tf2 ok1 r1 ?_
    refine A_iload_n (i := 1) d13 rfl rfl ?_
    refine A_new d14 FE hcl hin hini (hlay j hjl) (by clear wj wl; omega) (rm_le (by clear wj wl; omega)) (fun k => (hBj.at (hlay j hjl) (by clear wj wl; omega) k).1) (fun k => (hBj.at (hlay j hjl) (by clear wj wl; omega) k).2) ?_
    refine A_dup d17 rfl ?_
    refine hcall j hjl _ _ hBj ?_
    have oka : okA (b + s * j + s) ca ia := ⟨hca.1, by have := hca.2; clear wj wl; omega⟩
    have oke : okA (b + s * j + s) ce (ie j) := okLy (hlay j hjl) (by clear wj wl; omega) (by clear wj wl; omega)
    refine A_aast (j := j) d21 h20 hT FE oka oke wj (by rw [hlen]; exact hjl) ?_
    have ca2 := hca.2
    have eR : upR (pt (b + s * j) (b + s * j + s) RB (rowR (pt b (b + s * j) RB R1) ca ia j (fun k => (ce, ie k)))) ca ia j (some (ce, ie j)) = rowR (pt b (b + s * (j + 1)) RB R1) ca ia (j + 1) (fun k => (ce, ie k)) := by
      rw [pt_row (by clear wj wl; omega), pt_pt (by clear wj wl; omega) (by clear wj wl; omega), es, ← Nat.add_assoc]
      exact rowR_s
    have eN : pt (b + s * j) (b + s * j + s) NB (pt b (b + s * j) NB N1) = pt b (b + s * (j + 1)) NB N1 := by
      rw [pt_pt (by clear wj wl; omega) (by clear wj wl; omega), es, ← Nat.add_assoc]
    rw [eR, eN]
    refine A_iinc (v := ((j + 1 : Nat) : Int)) d22 hnL rfl (by clear wj wl; omega) rfl ?_
    refine A_goto (tgt := h) d25 (by clear wj wl; omega) ?_
    have w := ih (j + 1) (by clear wj wl; omega)
    rw [show b + s * (j + 1) = b + s * j + s by clear wj wl; omega] at w ⊢
    exact w
end CT2
