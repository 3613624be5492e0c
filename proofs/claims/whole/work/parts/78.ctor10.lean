/-! the reference's constructor -/
theorem Bl9 : Bl 278 NE9 RE9 := by
  have hB : Bl 1 N0 R0 := Bl0.up (by decide)
  replace hB := (hB.up (by decide : 1 ≤ 15)).p (F0 := NB) (F1 := RB) (a := 1)
  replace hB := hB.r (c := 9) (i := 0) (k := 0) (v := some (6, 0)) ⟨by decide +kernel, by decide +kernel⟩
  replace hB := (hB.up (by decide : 15 ≤ 22)).p (F0 := NB) (F1 := RB) (a := 15)
  replace hB := hB.r (c := 9) (i := 0) (k := 1) (v := some (0, 0)) ⟨by decide +kernel, by decide +kernel⟩
  replace hB := (hB.up (by decide : 22 ≤ 36)).p (F0 := NB) (F1 := RB) (a := 22)
  replace hB := hB.r (c := 9) (i := 0) (k := 2) (v := some (6, 1)) ⟨by decide +kernel, by decide +kernel⟩
  replace hB := (hB.up (by decide : 36 ≤ 43)).p (F0 := NB) (F1 := RB) (a := 36)
  replace hB := hB.r (c := 9) (i := 0) (k := 3) (v := some (0, 1)) ⟨by decide +kernel, by decide +kernel⟩
  replace hB := (hB.up (by decide : 43 ≤ 45)).p (F0 := NB) (F1 := RB) (a := 43)
  replace hB := hB.r (c := 9) (i := 0) (k := 4) (v := some (3, 61)) ⟨by decide +kernel, by decide +kernel⟩
  replace hB := hB.up (by decide : 45 ≤ 47)
  replace hB := hB.r (c := 9) (i := 0) (k := 5) (v := some (22, 0)) ⟨by decide +kernel, by decide +kernel⟩
  replace hB := hB.r (c := 9) (i := 0) (k := 6) (v := some (23, 0)) ⟨by decide +kernel, by decide +kernel⟩
  replace hB := (hB.up (by decide : 47 ≤ 49)).p (F0 := NB) (F1 := RB) (a := 47)
  replace hB := hB.r (c := 9) (i := 0) (k := 7) (v := some (8, 0)) ⟨by decide +kernel, by decide +kernel⟩
  replace hB := hB.up (by decide : 49 ≤ 52)
  replace hB := hB.r (c := 9) (i := 0) (k := 8) (v := some (25, 0)) ⟨by decide +kernel, by decide +kernel⟩
  replace hB := hB.r (c := 9) (i := 0) (k := 9) (v := some (26, 0)) ⟨by decide +kernel, by decide +kernel⟩
  replace hB := hB.r (c := 9) (i := 0) (k := 10) (v := some (27, 0)) ⟨by decide +kernel, by decide +kernel⟩
  replace hB := hB.n (c := 9) (i := 0) (k := 12) (v := 1) ⟨by decide +kernel, by decide +kernel⟩
  replace hB := hB.n (c := 9) (i := 0) (k := 13) (v := 1) ⟨by decide +kernel, by decide +kernel⟩
  replace hB := ((hB.up (by decide : 52 ≤ 174)).p (F0 := NB) (F1 := RB) (a := 52)).w (c := 22) (i := 0) (j := 61) (g := fun k => (3, k)) ⟨by decide +kernel, by decide +kernel⟩
  replace hB := ((hB.up (by decide : 174 ≤ 198)).p (F0 := NB) (F1 := RB) (a := 174)).w (c := 25) (i := 0) (j := 6) (g := fun k => (1, k)) ⟨by decide +kernel, by decide +kernel⟩
  replace hB := ((hB.up (by decide : 198 ≤ 270)).p (F0 := NB) (F1 := RB) (a := 198)).w (c := 26) (i := 0) (j := 6) (g := fun k => (4, k)) ⟨by decide +kernel, by decide +kernel⟩
  replace hB := ((hB.up (by decide : 270 ≤ 278)).p (F0 := NB) (F1 := RB) (a := 270)).w (c := 27) (i := 0) (j := 4) (g := fun k => (7, k)) ⟨by decide +kernel, by decide +kernel⟩
  exact hB.r (c := 6) (i := 0) (k := 6) (v := some (1, 0)) ⟨by decide +kernel, by decide +kernel⟩
theorem Bl10 : Bl 279 NE9 RE9 := Bl9.up (by decide)
def NE10 : NN := up3 (up3 (up3 (NE9) 10 0 12 50) 10 0 69 1000) 10 0 70 1
def RE10 : RR := upR (upR (upR (upR (upR (upR (upR (upR (upR (upR (upR (upR (upR (upR (upR (upR (upR (upR (upR (upR (upR (upR (upR (upR (upR (upR (upR (upR (upR (upR (upR (upR (upR (upR (upR (upR (upR (upR (upR (upR (upR (upR (upR (upR (upR (upR (RE9) 10 0 3 (some (40, 0))) 10 0 4 (some (41, 0))) 10 0 5 (some (42, 0))) 10 0 6 (some (43, 0))) 10 0 7 (some (44, 0))) 10 0 8 (some (45, 0))) 10 0 9 (some (46, 0))) 10 0 10 (some (47, 0))) 10 0 15 (some (48, 0))) 10 0 16 (some (49, 0))) 10 0 17 (some (50, 0))) 10 0 18 (some (51, 0))) 10 0 19 (some (52, 0))) 10 0 20 (some (53, 0))) 10 0 21 (some (54, 0))) 10 0 22 (some (55, 0))) 10 0 23 (some (56, 0))) 10 0 24 (some (57, 0))) 10 0 25 (some (58, 0))) 10 0 28 (some (59, 0))) 10 0 46 (some (60, 0))) 10 0 47 (some (61, 0))) 10 0 48 (some (62, 0))) 10 0 49 (some (63, 0))) 10 0 50 (some (64, 0))) 10 0 51 (some (65, 0))) 10 0 52 (some (66, 0))) 10 0 54 (some (67, 0))) 10 0 55 (some (68, 0))) 10 0 56 (some (69, 0))) 10 0 57 (some (70, 0))) 10 0 58 (some (71, 0))) 10 0 59 (some (72, 0))) 10 0 60 (some (73, 0))) 10 0 61 (some (74, 0))) 10 0 62 (some (75, 0))) 10 0 63 (some (76, 0))) 10 0 71 (some (77, 0))) 10 0 72 (some (78, 0))) 10 0 73 (some (79, 0))) 10 0 74 (some (80, 0))) 10 0 75 (some (81, 0))) 10 0 77 (some (82, 0))) 10 0 78 (some (83, 0))) 10 0 79 (some (84, 0))) 10 0 80 (some (85, 0))
def NF10 : NN := up3 NE10 6 1 6 (-1)
theorem cell_q (P : Nat → Nat → Prop) (h : ∀ q, q < TOT → P (layF q).1 (layF q).2) : ∀ c i, okA TOT c i → P c i := fun c i ho => by
  have := h (pos (c, i)) ho.2
  rw [(pos_lay ho.1).1] at this
  exact this
def chk2 (c i : Nat) : Bool := if c < 11 then (List.range (nf c)).all (fun k => decide (tagOf (tyC c k) ≠ 2) || decide (RE10 c i k = RF NF10 c i k)) else (decide (tagOf (aT c) ≠ 2) || (List.range (aN c)).all (fun k => decide (RE10 c i k = RF NF10 c i k)))
theorem chk_ok : (List.range 325).all (fun q => chk2 (layF q).1 (layF q).2) = true := by decide +kernel
theorem R10_ok {q : Nat} (hq : q < TOT) : chk2 (layF q).1 (layF q).2 = true := List.all_eq_true.mp chk_ok q (List.mem_range.mpr hq)
theorem S10_ok : Same TOT NE10 RE10 NF10 (RF NF10) := by
  refine cell_q (fun c i => ∀ k, k < szOf c → (tg c k ≠ 2 → NE10 c i k = NF10 c i k) ∧ (tg c k = 2 → RE10 c i k = RF NF10 c i k)) (fun q hq => ?_)
  have h := R10_ok hq
  generalize (layF q).1 = c at h ⊢
  generalize (layF q).2 = i at h ⊢
  intro k hk
  refine ⟨fun ht => ?_, fun ht => ?_⟩
  · refine (if_neg fun z => ht ?_).symm
    obtain ⟨rfl, rfl, rfl⟩ := z
    decide
  · unfold szOf at hk
    unfold tg at ht
    by_cases c11 : c < 11
    · unfold chk2 at h
      rw [if_pos c11] at h hk ht
      have g := List.all_eq_true.mp h k (List.mem_range.mpr hk)
      simp only [Bool.or_eq_true, decide_eq_true_eq] at g
      exact g.resolve_left (fun z => z ht)
    · unfold chk2 at h
      rw [if_neg c11] at h hk ht
      simp only [Bool.or_eq_true, decide_eq_true_eq] at h
      have g := List.all_eq_true.mp (h.resolve_left (fun z => z ht)) k (List.mem_range.mpr hk)
      exact of_decide_eq_true g
def spN (N : NN) (a : Nat) (v : Int) (j : Nat) : NN := fun c i k => if c = 57 ∧ i = 0 ∧ a ≤ k ∧ k < a + j then andL (shrL v (56 - 8 * ((k - a : Nat) : Int))) 255 else N c i k
theorem spN_s {N : NN} {a j : Nat} {v : Int} : up3 (spN N a v j) 57 0 (a + j) (andL (shrL v (56 - 8 * (j : Int))) 255) = spN N a v (j + 1) := by
  funext c i k
  by_cases h : c = 57 ∧ k = a + j ∧ i = 0
  · obtain ⟨rfl, rfl, rfl⟩ := h
    rw [up3_s]
    unfold spN
    rw [if_pos ⟨rfl, rfl, by omega, by omega⟩, show a + j - a = j by omega]
  · refine (if_neg h).trans ?_
    unfold spN
    by_cases g : c = 57 ∧ i = 0 ∧ a ≤ k ∧ k < a + j
    · rw [if_pos g, if_pos ⟨g.1, g.2.1, g.2.2.1, by omega⟩]
    · rw [if_neg g, if_neg (fun z => ?_)]
      by_cases e : k = a + j
      · exact h ⟨z.1, e, z.2.1⟩
      · exact g ⟨z.1, z.2.1, z.2.2.1, by omega⟩
theorem s_spell {G : GT} {N : NN} {a : Nat} {v : Int} {K : NN → Prop} (ha : a ≤ 1000) (hk : K (spN N a v 8)) : C_X10_spell G (a : Int) v N K := by
  refine vc_X10_spell ?_
  have key : ∀ d j : Nat, j + d = 8 → W_X10_spell G K 3 [(0, vR 10 0), (1, vI (a : Int)), (2, vL v), (4, vI (j : Int))] [] (spN N a v j) := by
    intro d
    induction d with
    | zero =>
      intro j hj
      have e : j = 8 := by omega
      subst e
      exact vc_X10_spell_3 ⟨fun _ => hk, fun q => absurd (by decide) q⟩
    | succ d ih =>
      intro j hj
      have wj : wI (j : Int) = (j : Int) := wI_id (by omega) (by omega)
      have wa : wI ((a : Int) + (j : Int)) = ((a + j : Nat) : Int) := by rw [wI_id (by omega) (by omega)]; omega
      refine vc_X10_spell_3 ⟨fun q => ?_, fun _ => ⟨a + j, wa, by clear wj wa; omega, fun M2 e2 => ?_⟩⟩
      · rw [wj] at q
        exact absurd q (by clear wj wa; omega)
      · rw [spN_s] at e2
        subst e2
        exact ih (j + 1) (by clear wj wa; omega)
  have w := key 8 0 rfl
  have e : spN N a v 0 = N := by
    funext c i k
    exact if_neg (by omega)
  rw [e] at w
  exact w
def NS1 : NN := spN (NF10) 0 (7377293577726992443) 8
def NS2 : NN := spN (NS1) 8 (2336349459239153696) 8
def NS3 : NN := spN (NS2) 16 (4260516716698433824) 8
def NS4 : NN := spN (NS3) 24 (3467836722239250464) 8
def NL10 : NN := up3 (up3 (up3 (up3 (up3 (up3 (up3 (up3 (up3 (NS4) 58 0 0 (32)) 10 0 26 (1)) 60 0 0 (1)) 61 0 0 (5)) 62 0 0 (-1)) 63 0 0 (-1)) 65 0 0 (-1)) 66 0 0 (-1)) 10 0 45 (1)
theorem RL10 : RF NL10 = RF NS4 := RF_ext fun i => rfl
def Q10 : QT := fun r N' R' => r = none ∧ N' = NL10 ∧ R' = RF NL10
set_option maxHeartbeats 4000000 in
theorem i_X10b {G : GT} : AW G RX10 cX10_init 1 none false (rmL 4 279 TOT) 279 (ZQ G 279 TOT Q10) 383 [(0, vR 10 0)] [] TOT NF10 (RF NF10) := by
  refine A_aload_n (i := 0) dX10_init_383 rfl rfl ?_
  refine A_iconst (v := 0) dX10_init_384 rfl ?_
  refine A_ldc2 (x := 7377293577726992443) dX10_init_385 kX10_163 (by decide +kernel) ?_
  refine A_callV (av := [vI 0, vL (7377293577726992443)]) (st := []) (L := 1) (c := 10) (i := 0) (n := TOT) (n1 := TOT) dX10_init_388 vX10_165 mX10_spell ⟨rfl, rfl, by decide⟩ ⟨by decide +kernel, by decide +kernel⟩ rfl (by decide) ⟨Nat.le_refl _, Nat.le_refl _⟩ ⟨Nat.le_of_ble_eq_true rfl, Nat.le_of_ble_eq_true rfl⟩ (rm_le (Nat.le_refl _)) (Ctr.mono (s_spell (G := G) (N := NF10) (a := 0) (v := 7377293577726992443) (K := fun N1 => N1 = NS1) (by decide) rfl) (fun r N1 R1 hh => ?_)) rfl
  obtain ⟨rfl, rfl, rfl⟩ := hh
  refine A_aload_n (i := 0) dX10_init_391 rfl rfl ?_
  refine A_bipush (v := 8) dX10_init_392 (by decide +kernel) ?_
  refine A_ldc2 (x := 2336349459239153696) dX10_init_394 kX10_169 (by decide +kernel) ?_
  refine A_callV (av := [vI 8, vL (2336349459239153696)]) (st := []) (L := 1) (c := 10) (i := 0) (n := TOT) (n1 := TOT) dX10_init_397 vX10_165 mX10_spell ⟨rfl, rfl, by decide⟩ ⟨by decide +kernel, by decide +kernel⟩ rfl (by decide) ⟨Nat.le_refl _, Nat.le_refl _⟩ ⟨Nat.le_of_ble_eq_true rfl, Nat.le_of_ble_eq_true rfl⟩ (rm_le (Nat.le_refl _)) (Ctr.mono (s_spell (G := G) (N := NS1) (a := 8) (v := 2336349459239153696) (K := fun N1 => N1 = NS2) (by decide) rfl) (fun r N1 R1 hh => ?_)) rfl
  obtain ⟨rfl, rfl, rfl⟩ := hh
  refine A_aload_n (i := 0) dX10_init_400 rfl rfl ?_
  refine A_bipush (v := 16) dX10_init_401 (by decide +kernel) ?_
  refine A_ldc2 (x := 4260516716698433824) dX10_init_403 kX10_171 (by decide +kernel) ?_
  refine A_callV (av := [vI 16, vL (4260516716698433824)]) (st := []) (L := 1) (c := 10) (i := 0) (n := TOT) (n1 := TOT) dX10_init_406 vX10_165 mX10_spell ⟨rfl, rfl, by decide⟩ ⟨by decide +kernel, by decide +kernel⟩ rfl (by decide) ⟨Nat.le_refl _, Nat.le_refl _⟩ ⟨Nat.le_of_ble_eq_true rfl, Nat.le_of_ble_eq_true rfl⟩ (rm_le (Nat.le_refl _)) (Ctr.mono (s_spell (G := G) (N := NS2) (a := 16) (v := 4260516716698433824) (K := fun N1 => N1 = NS3) (by decide) rfl) (fun r N1 R1 hh => ?_)) rfl
  obtain ⟨rfl, rfl, rfl⟩ := hh
  refine A_aload_n (i := 0) dX10_init_409 rfl rfl ?_
  refine A_bipush (v := 24) dX10_init_410 (by decide +kernel) ?_
  refine A_ldc2 (x := 3467836722239250464) dX10_init_412 kX10_173 (by decide +kernel) ?_
  refine A_callV (av := [vI 24, vL (3467836722239250464)]) (st := []) (L := 1) (c := 10) (i := 0) (n := TOT) (n1 := TOT) dX10_init_415 vX10_165 mX10_spell ⟨rfl, rfl, by decide⟩ ⟨by decide +kernel, by decide +kernel⟩ rfl (by decide) ⟨Nat.le_refl _, Nat.le_refl _⟩ ⟨Nat.le_of_ble_eq_true rfl, Nat.le_of_ble_eq_true rfl⟩ (rm_le (Nat.le_refl _)) (Ctr.mono (s_spell (G := G) (N := NS3) (a := 24) (v := 3467836722239250464) (K := fun N1 => N1 = NS4) (by decide) rfl) (fun r N1 R1 hh => ?_)) rfl
  obtain ⟨rfl, rfl, rfl⟩ := hh
  refine A_aload_n (i := 0) dX10_init_418 rfl rfl ?_
  refine A_getR (c2 := 58) (i2 := 0) dX10_init_419 fX10_72 rfl ⟨by decide +kernel, by decide +kernel⟩ rfl ?_
  refine A_iconst (v := 0) dX10_init_422 rfl ?_
  refine A_bipush (v := 32) dX10_init_423 (by decide +kernel) ?_
  refine A_iast (j := 0) dX10_init_425 (by decide) rfl ⟨by decide +kernel, by decide +kernel⟩ (by decide) (by decide) ?_
  refine A_aload_n (i := 0) dX10_init_426 rfl rfl ?_
  refine A_iconst (v := 1) dX10_init_427 rfl ?_
  refine A_putI dX10_init_428 fX10_175 ⟨by decide +kernel, by decide +kernel⟩ ?_
  refine A_aload_n (i := 0) dX10_init_431 rfl rfl ?_
  refine A_getR (c2 := 60) (i2 := 0) dX10_init_432 fX10_78 rfl ⟨by decide +kernel, by decide +kernel⟩ rfl ?_
  refine A_iconst (v := 0) dX10_init_435 rfl ?_
  refine A_iconst (v := 1) dX10_init_436 rfl ?_
  refine A_iast (j := 0) dX10_init_437 (by decide) rfl ⟨by decide +kernel, by decide +kernel⟩ (by decide) (by decide) ?_
  refine A_aload_n (i := 0) dX10_init_438 rfl rfl ?_
  refine A_getR (c2 := 61) (i2 := 0) dX10_init_439 fX10_81 rfl ⟨by decide +kernel, by decide +kernel⟩ rfl ?_
  refine A_iconst (v := 0) dX10_init_442 rfl ?_
  refine A_iconst (v := 5) dX10_init_443 rfl ?_
  refine A_iast (j := 0) dX10_init_444 (by decide) rfl ⟨by decide +kernel, by decide +kernel⟩ (by decide) (by decide) ?_
  refine A_aload_n (i := 0) dX10_init_445 rfl rfl ?_
  refine A_getR (c2 := 62) (i2 := 0) dX10_init_446 fX10_84 rfl ⟨by decide +kernel, by decide +kernel⟩ rfl ?_
  refine A_iconst (v := 0) dX10_init_449 rfl ?_
  refine A_iconst (v := -1) dX10_init_450 rfl ?_
  refine A_iast (j := 0) dX10_init_451 (by decide) rfl ⟨by decide +kernel, by decide +kernel⟩ (by decide) (by decide) ?_
  refine A_aload_n (i := 0) dX10_init_452 rfl rfl ?_
  refine A_getR (c2 := 63) (i2 := 0) dX10_init_453 fX10_87 rfl ⟨by decide +kernel, by decide +kernel⟩ rfl ?_
  refine A_iconst (v := 0) dX10_init_456 rfl ?_
  refine A_iconst (v := -1) dX10_init_457 rfl ?_
  refine A_iast (j := 0) dX10_init_458 (by decide) rfl ⟨by decide +kernel, by decide +kernel⟩ (by decide) (by decide) ?_
  refine A_aload_n (i := 0) dX10_init_459 rfl rfl ?_
  refine A_getR (c2 := 65) (i2 := 0) dX10_init_460 fX10_93 rfl ⟨by decide +kernel, by decide +kernel⟩ rfl ?_
  refine A_iconst (v := 0) dX10_init_463 rfl ?_
  refine A_iconst (v := -1) dX10_init_464 rfl ?_
  refine A_iast (j := 0) dX10_init_465 (by decide) rfl ⟨by decide +kernel, by decide +kernel⟩ (by decide) (by decide) ?_
  refine A_aload_n (i := 0) dX10_init_466 rfl rfl ?_
  refine A_getR (c2 := 66) (i2 := 0) dX10_init_467 fX10_96 rfl ⟨by decide +kernel, by decide +kernel⟩ rfl ?_
  refine A_iconst (v := 0) dX10_init_470 rfl ?_
  refine A_iconst (v := -1) dX10_init_471 rfl ?_
  refine A_iast (j := 0) dX10_init_472 (by decide) rfl ⟨by decide +kernel, by decide +kernel⟩ (by decide) (by decide) ?_
  refine A_aload_n (i := 0) dX10_init_473 rfl rfl ?_
  refine A_iconst (v := 1) dX10_init_474 rfl ?_
  refine A_putI dX10_init_475 fX10_178 ⟨by decide +kernel, by decide +kernel⟩ ?_
  exact A_vret dX10_init_478 ⟨rfl, rfl, RL10.symm⟩
set_option maxHeartbeats 4000000 in
theorem i_X10 {G : GT} : Ctr G yX10_init cX10_init 1 none 4 279 TOT [vR 10 0] NE9 RE9 Q10 := by
  refine Ctr.ofAW RX10 true rfl (by decide) (fun _ => rfl) (Nat.le_of_ble_eq_true rfl) (by decide) ?_
  have hB : Bl 279 NE9 RE9 := Bl10
  refine A_aload_n (i := 0) dX10_init_0 rfl rfl ?_
  refine A_objInit dX10_init_1 (mT5 (i := 69) rfl rfl) ob_i ob_c (by decide) (Nat.le_of_ble_eq_true rfl) (Nat.le_of_ble_eq_true rfl) ?_
  refine A_aload_n (i := 0) dX10_init_4 rfl rfl ?_
  refine A_bipush (v := 12) dX10_init_5 (by decide +kernel) ?_
  refine A_newa (c := 40) (i := 0) (atype := .int) dX10_init_7 (by decide) rfl (mT2 (i := 56) rfl rfl) rfl (by decide) (by decide +kernel) (by decide) (rm_le (by decide)) (fun k => (hB.at (by decide +kernel : layF 279 = (40, 0)) (by decide) k).1) (fun k => (hB.at (by decide +kernel : layF 279 = (40, 0)) (by decide) k).2) ?_
  refine A_putR dX10_init_9 fX10_13 (fun _ => rfl) (fun _ q hq => by cases hq; rfl) rfl (fun _ => ⟨rfl, rfl⟩) ⟨by decide +kernel, by decide +kernel⟩ ?_
  replace hB := (hB.up (by decide : 279 ≤ 280)).r (c := 10) (i := 0) (k := 3) (v := some (40, 0)) ⟨by decide +kernel, by decide +kernel⟩
  refine A_aload_n (i := 0) dX10_init_12 rfl rfl ?_
  refine A_bipush (v := 12) dX10_init_13 (by decide +kernel) ?_
  refine A_newa (c := 41) (i := 0) (atype := .int) dX10_init_15 (by decide) rfl (mT2 (i := 56) rfl rfl) rfl (by decide) (by decide +kernel) (by decide) (rm_le (by decide)) (fun k => (hB.at (by decide +kernel : layF 280 = (41, 0)) (by decide) k).1) (fun k => (hB.at (by decide +kernel : layF 280 = (41, 0)) (by decide) k).2) ?_
  refine A_putR dX10_init_17 fX10_17 (fun _ => rfl) (fun _ q hq => by cases hq; rfl) rfl (fun _ => ⟨rfl, rfl⟩) ⟨by decide +kernel, by decide +kernel⟩ ?_
  replace hB := (hB.up (by decide : 280 ≤ 281)).r (c := 10) (i := 0) (k := 4) (v := some (41, 0)) ⟨by decide +kernel, by decide +kernel⟩
  refine A_aload_n (i := 0) dX10_init_20 rfl rfl ?_
  refine A_bipush (v := 12) dX10_init_21 (by decide +kernel) ?_
  refine A_newa (c := 42) (i := 0) (atype := .int) dX10_init_23 (by decide) rfl (mT2 (i := 56) rfl rfl) rfl (by decide) (by decide +kernel) (by decide) (rm_le (by decide)) (fun k => (hB.at (by decide +kernel : layF 281 = (42, 0)) (by decide) k).1) (fun k => (hB.at (by decide +kernel : layF 281 = (42, 0)) (by decide) k).2) ?_
  refine A_putR dX10_init_25 fX10_20 (fun _ => rfl) (fun _ q hq => by cases hq; rfl) rfl (fun _ => ⟨rfl, rfl⟩) ⟨by decide +kernel, by decide +kernel⟩ ?_
  replace hB := (hB.up (by decide : 281 ≤ 282)).r (c := 10) (i := 0) (k := 5) (v := some (42, 0)) ⟨by decide +kernel, by decide +kernel⟩
  refine A_aload_n (i := 0) dX10_init_28 rfl rfl ?_
  refine A_bipush (v := 12) dX10_init_29 (by decide +kernel) ?_
  refine A_newa (c := 43) (i := 0) (atype := .int) dX10_init_31 (by decide) rfl (mT2 (i := 56) rfl rfl) rfl (by decide) (by decide +kernel) (by decide) (rm_le (by decide)) (fun k => (hB.at (by decide +kernel : layF 282 = (43, 0)) (by decide) k).1) (fun k => (hB.at (by decide +kernel : layF 282 = (43, 0)) (by decide) k).2) ?_
  refine A_putR dX10_init_33 fX10_23 (fun _ => rfl) (fun _ q hq => by cases hq; rfl) rfl (fun _ => ⟨rfl, rfl⟩) ⟨by decide +kernel, by decide +kernel⟩ ?_
  replace hB := (hB.up (by decide : 282 ≤ 283)).r (c := 10) (i := 0) (k := 6) (v := some (43, 0)) ⟨by decide +kernel, by decide +kernel⟩
  refine A_aload_n (i := 0) dX10_init_36 rfl rfl ?_
  refine A_bipush (v := 12) dX10_init_37 (by decide +kernel) ?_
  refine A_newa (c := 44) (i := 0) (atype := .int) dX10_init_39 (by decide) rfl (mT2 (i := 56) rfl rfl) rfl (by decide) (by decide +kernel) (by decide) (rm_le (by decide)) (fun k => (hB.at (by decide +kernel : layF 283 = (44, 0)) (by decide) k).1) (fun k => (hB.at (by decide +kernel : layF 283 = (44, 0)) (by decide) k).2) ?_
  refine A_putR dX10_init_41 fX10_26 (fun _ => rfl) (fun _ q hq => by cases hq; rfl) rfl (fun _ => ⟨rfl, rfl⟩) ⟨by decide +kernel, by decide +kernel⟩ ?_
  replace hB := (hB.up (by decide : 283 ≤ 284)).r (c := 10) (i := 0) (k := 7) (v := some (44, 0)) ⟨by decide +kernel, by decide +kernel⟩
  refine A_aload_n (i := 0) dX10_init_44 rfl rfl ?_
  refine A_bipush (v := 12) dX10_init_45 (by decide +kernel) ?_
  refine A_newa (c := 45) (i := 0) (atype := .int) dX10_init_47 (by decide) rfl (mT2 (i := 56) rfl rfl) rfl (by decide) (by decide +kernel) (by decide) (rm_le (by decide)) (fun k => (hB.at (by decide +kernel : layF 284 = (45, 0)) (by decide) k).1) (fun k => (hB.at (by decide +kernel : layF 284 = (45, 0)) (by decide) k).2) ?_
  refine A_putR dX10_init_49 fX10_29 (fun _ => rfl) (fun _ q hq => by cases hq; rfl) rfl (fun _ => ⟨rfl, rfl⟩) ⟨by decide +kernel, by decide +kernel⟩ ?_
  replace hB := (hB.up (by decide : 284 ≤ 285)).r (c := 10) (i := 0) (k := 8) (v := some (45, 0)) ⟨by decide +kernel, by decide +kernel⟩
  refine A_aload_n (i := 0) dX10_init_52 rfl rfl ?_
  refine A_bipush (v := 12) dX10_init_53 (by decide +kernel) ?_
  refine A_newa (c := 46) (i := 0) (atype := .int) dX10_init_55 (by decide) rfl (mT2 (i := 56) rfl rfl) rfl (by decide) (by decide +kernel) (by decide) (rm_le (by decide)) (fun k => (hB.at (by decide +kernel : layF 285 = (46, 0)) (by decide) k).1) (fun k => (hB.at (by decide +kernel : layF 285 = (46, 0)) (by decide) k).2) ?_
  refine A_putR dX10_init_57 fX10_32 (fun _ => rfl) (fun _ q hq => by cases hq; rfl) rfl (fun _ => ⟨rfl, rfl⟩) ⟨by decide +kernel, by decide +kernel⟩ ?_
  replace hB := (hB.up (by decide : 285 ≤ 286)).r (c := 10) (i := 0) (k := 9) (v := some (46, 0)) ⟨by decide +kernel, by decide +kernel⟩
  refine A_aload_n (i := 0) dX10_init_60 rfl rfl ?_
  refine A_bipush (v := 12) dX10_init_61 (by decide +kernel) ?_
  refine A_newa (c := 47) (i := 0) (atype := .int) dX10_init_63 (by decide) rfl (mT2 (i := 56) rfl rfl) rfl (by decide) (by decide +kernel) (by decide) (rm_le (by decide)) (fun k => (hB.at (by decide +kernel : layF 286 = (47, 0)) (by decide) k).1) (fun k => (hB.at (by decide +kernel : layF 286 = (47, 0)) (by decide) k).2) ?_
  refine A_putR dX10_init_65 fX10_35 (fun _ => rfl) (fun _ q hq => by cases hq; rfl) rfl (fun _ => ⟨rfl, rfl⟩) ⟨by decide +kernel, by decide +kernel⟩ ?_
  replace hB := (hB.up (by decide : 286 ≤ 287)).r (c := 10) (i := 0) (k := 10) (v := some (47, 0)) ⟨by decide +kernel, by decide +kernel⟩
  refine A_aload_n (i := 0) dX10_init_68 rfl rfl ?_
  refine A_bipush (v := 50) dX10_init_69 (by decide +kernel) ?_
  refine A_putI dX10_init_71 fX10_38 ⟨by decide +kernel, by decide +kernel⟩ ?_
  replace hB := hB.n (c := 10) (i := 0) (k := 12) (v := 50) ⟨by decide +kernel, by decide +kernel⟩
  refine A_aload_n (i := 0) dX10_init_74 rfl rfl ?_
  refine A_bipush (v := 61) dX10_init_75 (by decide +kernel) ?_
  refine A_newa (c := 48) (i := 0) (atype := .long) dX10_init_77 (by decide) rfl (mT2 (i := 24) rfl rfl) rfl (by decide) (by decide +kernel) (by decide) (rm_le (by decide)) (fun k => (hB.at (by decide +kernel : layF 287 = (48, 0)) (by decide) k).1) (fun k => (hB.at (by decide +kernel : layF 287 = (48, 0)) (by decide) k).2) ?_
  refine A_putR dX10_init_79 fX10_41 (fun _ => rfl) (fun _ q hq => by cases hq; rfl) rfl (fun _ => ⟨rfl, rfl⟩) ⟨by decide +kernel, by decide +kernel⟩ ?_
  replace hB := (hB.up (by decide : 287 ≤ 288)).r (c := 10) (i := 0) (k := 15) (v := some (48, 0)) ⟨by decide +kernel, by decide +kernel⟩
  refine A_aload_n (i := 0) dX10_init_82 rfl rfl ?_
  refine A_bipush (v := 61) dX10_init_83 (by decide +kernel) ?_
  refine A_newa (c := 49) (i := 0) (atype := .long) dX10_init_85 (by decide) rfl (mT2 (i := 24) rfl rfl) rfl (by decide) (by decide +kernel) (by decide) (rm_le (by decide)) (fun k => (hB.at (by decide +kernel : layF 288 = (49, 0)) (by decide) k).1) (fun k => (hB.at (by decide +kernel : layF 288 = (49, 0)) (by decide) k).2) ?_
  refine A_putR dX10_init_87 fX10_45 (fun _ => rfl) (fun _ q hq => by cases hq; rfl) rfl (fun _ => ⟨rfl, rfl⟩) ⟨by decide +kernel, by decide +kernel⟩ ?_
  replace hB := (hB.up (by decide : 288 ≤ 289)).r (c := 10) (i := 0) (k := 16) (v := some (49, 0)) ⟨by decide +kernel, by decide +kernel⟩
  refine A_aload_n (i := 0) dX10_init_90 rfl rfl ?_
  refine A_bipush (v := 61) dX10_init_91 (by decide +kernel) ?_
  refine A_newa (c := 50) (i := 0) (atype := .long) dX10_init_93 (by decide) rfl (mT2 (i := 24) rfl rfl) rfl (by decide) (by decide +kernel) (by decide) (rm_le (by decide)) (fun k => (hB.at (by decide +kernel : layF 289 = (50, 0)) (by decide) k).1) (fun k => (hB.at (by decide +kernel : layF 289 = (50, 0)) (by decide) k).2) ?_
  refine A_putR dX10_init_95 fX10_48 (fun _ => rfl) (fun _ q hq => by cases hq; rfl) rfl (fun _ => ⟨rfl, rfl⟩) ⟨by decide +kernel, by decide +kernel⟩ ?_
  replace hB := (hB.up (by decide : 289 ≤ 290)).r (c := 10) (i := 0) (k := 17) (v := some (50, 0)) ⟨by decide +kernel, by decide +kernel⟩
  refine A_aload_n (i := 0) dX10_init_98 rfl rfl ?_
  refine A_bipush (v := 61) dX10_init_99 (by decide +kernel) ?_
  refine A_newa (c := 51) (i := 0) (atype := .long) dX10_init_101 (by decide) rfl (mT2 (i := 24) rfl rfl) rfl (by decide) (by decide +kernel) (by decide) (rm_le (by decide)) (fun k => (hB.at (by decide +kernel : layF 290 = (51, 0)) (by decide) k).1) (fun k => (hB.at (by decide +kernel : layF 290 = (51, 0)) (by decide) k).2) ?_
  refine A_putR dX10_init_103 fX10_51 (fun _ => rfl) (fun _ q hq => by cases hq; rfl) rfl (fun _ => ⟨rfl, rfl⟩) ⟨by decide +kernel, by decide +kernel⟩ ?_
  replace hB := (hB.up (by decide : 290 ≤ 291)).r (c := 10) (i := 0) (k := 18) (v := some (51, 0)) ⟨by decide +kernel, by decide +kernel⟩
  refine A_aload_n (i := 0) dX10_init_106 rfl rfl ?_
  refine A_bipush (v := 61) dX10_init_107 (by decide +kernel) ?_
  refine A_newa (c := 52) (i := 0) (atype := .long) dX10_init_109 (by decide) rfl (mT2 (i := 24) rfl rfl) rfl (by decide) (by decide +kernel) (by decide) (rm_le (by decide)) (fun k => (hB.at (by decide +kernel : layF 291 = (52, 0)) (by decide) k).1) (fun k => (hB.at (by decide +kernel : layF 291 = (52, 0)) (by decide) k).2) ?_
  refine A_putR dX10_init_111 fX10_54 (fun _ => rfl) (fun _ q hq => by cases hq; rfl) rfl (fun _ => ⟨rfl, rfl⟩) ⟨by decide +kernel, by decide +kernel⟩ ?_
  replace hB := (hB.up (by decide : 291 ≤ 292)).r (c := 10) (i := 0) (k := 19) (v := some (52, 0)) ⟨by decide +kernel, by decide +kernel⟩
  refine A_aload_n (i := 0) dX10_init_114 rfl rfl ?_
  refine A_bipush (v := 61) dX10_init_115 (by decide +kernel) ?_
  refine A_newa (c := 53) (i := 0) (atype := .long) dX10_init_117 (by decide) rfl (mT2 (i := 24) rfl rfl) rfl (by decide) (by decide +kernel) (by decide) (rm_le (by decide)) (fun k => (hB.at (by decide +kernel : layF 292 = (53, 0)) (by decide) k).1) (fun k => (hB.at (by decide +kernel : layF 292 = (53, 0)) (by decide) k).2) ?_
  refine A_putR dX10_init_119 fX10_57 (fun _ => rfl) (fun _ q hq => by cases hq; rfl) rfl (fun _ => ⟨rfl, rfl⟩) ⟨by decide +kernel, by decide +kernel⟩ ?_
  replace hB := (hB.up (by decide : 292 ≤ 293)).r (c := 10) (i := 0) (k := 20) (v := some (53, 0)) ⟨by decide +kernel, by decide +kernel⟩
  refine A_aload_n (i := 0) dX10_init_122 rfl rfl ?_
  refine A_bipush (v := 61) dX10_init_123 (by decide +kernel) ?_
  refine A_newa (c := 54) (i := 0) (atype := .long) dX10_init_125 (by decide) rfl (mT2 (i := 24) rfl rfl) rfl (by decide) (by decide +kernel) (by decide) (rm_le (by decide)) (fun k => (hB.at (by decide +kernel : layF 293 = (54, 0)) (by decide) k).1) (fun k => (hB.at (by decide +kernel : layF 293 = (54, 0)) (by decide) k).2) ?_
  refine A_putR dX10_init_127 fX10_60 (fun _ => rfl) (fun _ q hq => by cases hq; rfl) rfl (fun _ => ⟨rfl, rfl⟩) ⟨by decide +kernel, by decide +kernel⟩ ?_
  replace hB := (hB.up (by decide : 293 ≤ 294)).r (c := 10) (i := 0) (k := 21) (v := some (54, 0)) ⟨by decide +kernel, by decide +kernel⟩
  refine A_aload_n (i := 0) dX10_init_130 rfl rfl ?_
  refine A_bipush (v := 61) dX10_init_131 (by decide +kernel) ?_
  refine A_newa (c := 55) (i := 0) (atype := .long) dX10_init_133 (by decide) rfl (mT2 (i := 24) rfl rfl) rfl (by decide) (by decide +kernel) (by decide) (rm_le (by decide)) (fun k => (hB.at (by decide +kernel : layF 294 = (55, 0)) (by decide) k).1) (fun k => (hB.at (by decide +kernel : layF 294 = (55, 0)) (by decide) k).2) ?_
  refine A_putR dX10_init_135 fX10_63 (fun _ => rfl) (fun _ q hq => by cases hq; rfl) rfl (fun _ => ⟨rfl, rfl⟩) ⟨by decide +kernel, by decide +kernel⟩ ?_
  replace hB := (hB.up (by decide : 294 ≤ 295)).r (c := 10) (i := 0) (k := 22) (v := some (55, 0)) ⟨by decide +kernel, by decide +kernel⟩
  refine A_aload_n (i := 0) dX10_init_138 rfl rfl ?_
  refine A_bipush (v := 61) dX10_init_139 (by decide +kernel) ?_
  refine A_newa (c := 56) (i := 0) (atype := .int) dX10_init_141 (by decide) rfl (mT2 (i := 56) rfl rfl) rfl (by decide) (by decide +kernel) (by decide) (rm_le (by decide)) (fun k => (hB.at (by decide +kernel : layF 295 = (56, 0)) (by decide) k).1) (fun k => (hB.at (by decide +kernel : layF 295 = (56, 0)) (by decide) k).2) ?_
  refine A_putR dX10_init_143 fX10_66 (fun _ => rfl) (fun _ q hq => by cases hq; rfl) rfl (fun _ => ⟨rfl, rfl⟩) ⟨by decide +kernel, by decide +kernel⟩ ?_
  replace hB := (hB.up (by decide : 295 ≤ 296)).r (c := 10) (i := 0) (k := 23) (v := some (56, 0)) ⟨by decide +kernel, by decide +kernel⟩
  refine A_aload_n (i := 0) dX10_init_146 rfl rfl ?_
  refine A_sipush (v := 1120) dX10_init_147 (by decide +kernel) ?_
  refine A_newa (c := 57) (i := 0) (atype := .int) dX10_init_150 (by decide) rfl (mT2 (i := 56) rfl rfl) rfl (by decide) (by decide +kernel) (by decide) (rm_le (by decide)) (fun k => (hB.at (by decide +kernel : layF 296 = (57, 0)) (by decide) k).1) (fun k => (hB.at (by decide +kernel : layF 296 = (57, 0)) (by decide) k).2) ?_
  refine A_putR dX10_init_152 fX10_69 (fun _ => rfl) (fun _ q hq => by cases hq; rfl) rfl (fun _ => ⟨rfl, rfl⟩) ⟨by decide +kernel, by decide +kernel⟩ ?_
  replace hB := (hB.up (by decide : 296 ≤ 297)).r (c := 10) (i := 0) (k := 24) (v := some (57, 0)) ⟨by decide +kernel, by decide +kernel⟩
  refine A_aload_n (i := 0) dX10_init_155 rfl rfl ?_
  refine A_bipush (v := 7) dX10_init_156 (by decide +kernel) ?_
  refine A_newa (c := 58) (i := 0) (atype := .int) dX10_init_158 (by decide) rfl (mT2 (i := 56) rfl rfl) rfl (by decide) (by decide +kernel) (by decide) (rm_le (by decide)) (fun k => (hB.at (by decide +kernel : layF 297 = (58, 0)) (by decide) k).1) (fun k => (hB.at (by decide +kernel : layF 297 = (58, 0)) (by decide) k).2) ?_
  refine A_putR dX10_init_160 fX10_72 (fun _ => rfl) (fun _ q hq => by cases hq; rfl) rfl (fun _ => ⟨rfl, rfl⟩) ⟨by decide +kernel, by decide +kernel⟩ ?_
  replace hB := (hB.up (by decide : 297 ≤ 298)).r (c := 10) (i := 0) (k := 25) (v := some (58, 0)) ⟨by decide +kernel, by decide +kernel⟩
  refine A_aload_n (i := 0) dX10_init_163 rfl rfl ?_
  refine A_sipush (v := 160) dX10_init_164 (by decide +kernel) ?_
  refine A_newa (c := 59) (i := 0) (atype := .int) dX10_init_167 (by decide) rfl (mT2 (i := 56) rfl rfl) rfl (by decide) (by decide +kernel) (by decide) (rm_le (by decide)) (fun k => (hB.at (by decide +kernel : layF 298 = (59, 0)) (by decide) k).1) (fun k => (hB.at (by decide +kernel : layF 298 = (59, 0)) (by decide) k).2) ?_
  refine A_putR dX10_init_169 fX10_75 (fun _ => rfl) (fun _ q hq => by cases hq; rfl) rfl (fun _ => ⟨rfl, rfl⟩) ⟨by decide +kernel, by decide +kernel⟩ ?_
  replace hB := (hB.up (by decide : 298 ≤ 299)).r (c := 10) (i := 0) (k := 28) (v := some (59, 0)) ⟨by decide +kernel, by decide +kernel⟩
  refine A_aload_n (i := 0) dX10_init_172 rfl rfl ?_
  refine A_bipush (v := 6) dX10_init_173 (by decide +kernel) ?_
  refine A_newa (c := 60) (i := 0) (atype := .int) dX10_init_175 (by decide) rfl (mT2 (i := 56) rfl rfl) rfl (by decide) (by decide +kernel) (by decide) (rm_le (by decide)) (fun k => (hB.at (by decide +kernel : layF 299 = (60, 0)) (by decide) k).1) (fun k => (hB.at (by decide +kernel : layF 299 = (60, 0)) (by decide) k).2) ?_
  refine A_putR dX10_init_177 fX10_78 (fun _ => rfl) (fun _ q hq => by cases hq; rfl) rfl (fun _ => ⟨rfl, rfl⟩) ⟨by decide +kernel, by decide +kernel⟩ ?_
  replace hB := (hB.up (by decide : 299 ≤ 300)).r (c := 10) (i := 0) (k := 46) (v := some (60, 0)) ⟨by decide +kernel, by decide +kernel⟩
  refine A_aload_n (i := 0) dX10_init_180 rfl rfl ?_
  refine A_bipush (v := 60) dX10_init_181 (by decide +kernel) ?_
  refine A_newa (c := 61) (i := 0) (atype := .int) dX10_init_183 (by decide) rfl (mT2 (i := 56) rfl rfl) rfl (by decide) (by decide +kernel) (by decide) (rm_le (by decide)) (fun k => (hB.at (by decide +kernel : layF 300 = (61, 0)) (by decide) k).1) (fun k => (hB.at (by decide +kernel : layF 300 = (61, 0)) (by decide) k).2) ?_
  refine A_putR dX10_init_185 fX10_81 (fun _ => rfl) (fun _ q hq => by cases hq; rfl) rfl (fun _ => ⟨rfl, rfl⟩) ⟨by decide +kernel, by decide +kernel⟩ ?_
  replace hB := (hB.up (by decide : 300 ≤ 301)).r (c := 10) (i := 0) (k := 47) (v := some (61, 0)) ⟨by decide +kernel, by decide +kernel⟩
  refine A_aload_n (i := 0) dX10_init_188 rfl rfl ?_
  refine A_bipush (v := 60) dX10_init_189 (by decide +kernel) ?_
  refine A_newa (c := 62) (i := 0) (atype := .int) dX10_init_191 (by decide) rfl (mT2 (i := 56) rfl rfl) rfl (by decide) (by decide +kernel) (by decide) (rm_le (by decide)) (fun k => (hB.at (by decide +kernel : layF 301 = (62, 0)) (by decide) k).1) (fun k => (hB.at (by decide +kernel : layF 301 = (62, 0)) (by decide) k).2) ?_
  refine A_putR dX10_init_193 fX10_84 (fun _ => rfl) (fun _ q hq => by cases hq; rfl) rfl (fun _ => ⟨rfl, rfl⟩) ⟨by decide +kernel, by decide +kernel⟩ ?_
  replace hB := (hB.up (by decide : 301 ≤ 302)).r (c := 10) (i := 0) (k := 48) (v := some (62, 0)) ⟨by decide +kernel, by decide +kernel⟩
  refine A_aload_n (i := 0) dX10_init_196 rfl rfl ?_
  refine A_bipush (v := 60) dX10_init_197 (by decide +kernel) ?_
  refine A_newa (c := 63) (i := 0) (atype := .int) dX10_init_199 (by decide) rfl (mT2 (i := 56) rfl rfl) rfl (by decide) (by decide +kernel) (by decide) (rm_le (by decide)) (fun k => (hB.at (by decide +kernel : layF 302 = (63, 0)) (by decide) k).1) (fun k => (hB.at (by decide +kernel : layF 302 = (63, 0)) (by decide) k).2) ?_
  refine A_putR dX10_init_201 fX10_87 (fun _ => rfl) (fun _ q hq => by cases hq; rfl) rfl (fun _ => ⟨rfl, rfl⟩) ⟨by decide +kernel, by decide +kernel⟩ ?_
  replace hB := (hB.up (by decide : 302 ≤ 303)).r (c := 10) (i := 0) (k := 49) (v := some (63, 0)) ⟨by decide +kernel, by decide +kernel⟩
  refine A_aload_n (i := 0) dX10_init_204 rfl rfl ?_
  refine A_bipush (v := 60) dX10_init_205 (by decide +kernel) ?_
  refine A_newa (c := 64) (i := 0) (atype := .int) dX10_init_207 (by decide) rfl (mT2 (i := 56) rfl rfl) rfl (by decide) (by decide +kernel) (by decide) (rm_le (by decide)) (fun k => (hB.at (by decide +kernel : layF 303 = (64, 0)) (by decide) k).1) (fun k => (hB.at (by decide +kernel : layF 303 = (64, 0)) (by decide) k).2) ?_
  refine A_putR dX10_init_209 fX10_90 (fun _ => rfl) (fun _ q hq => by cases hq; rfl) rfl (fun _ => ⟨rfl, rfl⟩) ⟨by decide +kernel, by decide +kernel⟩ ?_
  replace hB := (hB.up (by decide : 303 ≤ 304)).r (c := 10) (i := 0) (k := 50) (v := some (64, 0)) ⟨by decide +kernel, by decide +kernel⟩
  refine A_aload_n (i := 0) dX10_init_212 rfl rfl ?_
  refine A_bipush (v := 60) dX10_init_213 (by decide +kernel) ?_
  refine A_newa (c := 65) (i := 0) (atype := .int) dX10_init_215 (by decide) rfl (mT2 (i := 56) rfl rfl) rfl (by decide) (by decide +kernel) (by decide) (rm_le (by decide)) (fun k => (hB.at (by decide +kernel : layF 304 = (65, 0)) (by decide) k).1) (fun k => (hB.at (by decide +kernel : layF 304 = (65, 0)) (by decide) k).2) ?_
  refine A_putR dX10_init_217 fX10_93 (fun _ => rfl) (fun _ q hq => by cases hq; rfl) rfl (fun _ => ⟨rfl, rfl⟩) ⟨by decide +kernel, by decide +kernel⟩ ?_
  replace hB := (hB.up (by decide : 304 ≤ 305)).r (c := 10) (i := 0) (k := 51) (v := some (65, 0)) ⟨by decide +kernel, by decide +kernel⟩
  refine A_aload_n (i := 0) dX10_init_220 rfl rfl ?_
  refine A_bipush (v := 60) dX10_init_221 (by decide +kernel) ?_
  refine A_newa (c := 66) (i := 0) (atype := .int) dX10_init_223 (by decide) rfl (mT2 (i := 56) rfl rfl) rfl (by decide) (by decide +kernel) (by decide) (rm_le (by decide)) (fun k => (hB.at (by decide +kernel : layF 305 = (66, 0)) (by decide) k).1) (fun k => (hB.at (by decide +kernel : layF 305 = (66, 0)) (by decide) k).2) ?_
  refine A_putR dX10_init_225 fX10_96 (fun _ => rfl) (fun _ q hq => by cases hq; rfl) rfl (fun _ => ⟨rfl, rfl⟩) ⟨by decide +kernel, by decide +kernel⟩ ?_
  replace hB := (hB.up (by decide : 305 ≤ 306)).r (c := 10) (i := 0) (k := 52) (v := some (66, 0)) ⟨by decide +kernel, by decide +kernel⟩
  refine A_aload_n (i := 0) dX10_init_228 rfl rfl ?_
  refine A_iconst (v := 5) dX10_init_229 rfl ?_
  refine A_newa (c := 67) (i := 0) (atype := .long) dX10_init_230 (by decide) rfl (mT2 (i := 24) rfl rfl) rfl (by decide) (by decide +kernel) (by decide) (rm_le (by decide)) (fun k => (hB.at (by decide +kernel : layF 306 = (67, 0)) (by decide) k).1) (fun k => (hB.at (by decide +kernel : layF 306 = (67, 0)) (by decide) k).2) ?_
  refine A_putR dX10_init_232 fX10_99 (fun _ => rfl) (fun _ q hq => by cases hq; rfl) rfl (fun _ => ⟨rfl, rfl⟩) ⟨by decide +kernel, by decide +kernel⟩ ?_
  replace hB := (hB.up (by decide : 306 ≤ 307)).r (c := 10) (i := 0) (k := 54) (v := some (67, 0)) ⟨by decide +kernel, by decide +kernel⟩
  refine A_aload_n (i := 0) dX10_init_235 rfl rfl ?_
  refine A_iconst (v := 5) dX10_init_236 rfl ?_
  refine A_newa (c := 68) (i := 0) (atype := .int) dX10_init_237 (by decide) rfl (mT2 (i := 56) rfl rfl) rfl (by decide) (by decide +kernel) (by decide) (rm_le (by decide)) (fun k => (hB.at (by decide +kernel : layF 307 = (68, 0)) (by decide) k).1) (fun k => (hB.at (by decide +kernel : layF 307 = (68, 0)) (by decide) k).2) ?_
  refine A_putR dX10_init_239 fX10_102 (fun _ => rfl) (fun _ q hq => by cases hq; rfl) rfl (fun _ => ⟨rfl, rfl⟩) ⟨by decide +kernel, by decide +kernel⟩ ?_
  replace hB := (hB.up (by decide : 307 ≤ 308)).r (c := 10) (i := 0) (k := 55) (v := some (68, 0)) ⟨by decide +kernel, by decide +kernel⟩
  refine A_aload_n (i := 0) dX10_init_242 rfl rfl ?_
  refine A_iconst (v := 5) dX10_init_243 rfl ?_
  refine A_newa (c := 69) (i := 0) (atype := .long) dX10_init_244 (by decide) rfl (mT2 (i := 24) rfl rfl) rfl (by decide) (by decide +kernel) (by decide) (rm_le (by decide)) (fun k => (hB.at (by decide +kernel : layF 308 = (69, 0)) (by decide) k).1) (fun k => (hB.at (by decide +kernel : layF 308 = (69, 0)) (by decide) k).2) ?_
  refine A_putR dX10_init_246 fX10_105 (fun _ => rfl) (fun _ q hq => by cases hq; rfl) rfl (fun _ => ⟨rfl, rfl⟩) ⟨by decide +kernel, by decide +kernel⟩ ?_
  replace hB := (hB.up (by decide : 308 ≤ 309)).r (c := 10) (i := 0) (k := 56) (v := some (69, 0)) ⟨by decide +kernel, by decide +kernel⟩
  refine A_aload_n (i := 0) dX10_init_249 rfl rfl ?_
  refine A_iconst (v := 5) dX10_init_250 rfl ?_
  refine A_newa (c := 70) (i := 0) (atype := .long) dX10_init_251 (by decide) rfl (mT2 (i := 24) rfl rfl) rfl (by decide) (by decide +kernel) (by decide) (rm_le (by decide)) (fun k => (hB.at (by decide +kernel : layF 309 = (70, 0)) (by decide) k).1) (fun k => (hB.at (by decide +kernel : layF 309 = (70, 0)) (by decide) k).2) ?_
  refine A_putR dX10_init_253 fX10_108 (fun _ => rfl) (fun _ q hq => by cases hq; rfl) rfl (fun _ => ⟨rfl, rfl⟩) ⟨by decide +kernel, by decide +kernel⟩ ?_
  replace hB := (hB.up (by decide : 309 ≤ 310)).r (c := 10) (i := 0) (k := 57) (v := some (70, 0)) ⟨by decide +kernel, by decide +kernel⟩
  refine A_aload_n (i := 0) dX10_init_256 rfl rfl ?_
  refine A_iconst (v := 5) dX10_init_257 rfl ?_
  refine A_newa (c := 71) (i := 0) (atype := .long) dX10_init_258 (by decide) rfl (mT2 (i := 24) rfl rfl) rfl (by decide) (by decide +kernel) (by decide) (rm_le (by decide)) (fun k => (hB.at (by decide +kernel : layF 310 = (71, 0)) (by decide) k).1) (fun k => (hB.at (by decide +kernel : layF 310 = (71, 0)) (by decide) k).2) ?_
  refine A_putR dX10_init_260 fX10_111 (fun _ => rfl) (fun _ q hq => by cases hq; rfl) rfl (fun _ => ⟨rfl, rfl⟩) ⟨by decide +kernel, by decide +kernel⟩ ?_
  replace hB := (hB.up (by decide : 310 ≤ 311)).r (c := 10) (i := 0) (k := 58) (v := some (71, 0)) ⟨by decide +kernel, by decide +kernel⟩
  refine A_aload_n (i := 0) dX10_init_263 rfl rfl ?_
  refine A_iconst (v := 5) dX10_init_264 rfl ?_
  refine A_newa (c := 72) (i := 0) (atype := .long) dX10_init_265 (by decide) rfl (mT2 (i := 24) rfl rfl) rfl (by decide) (by decide +kernel) (by decide) (rm_le (by decide)) (fun k => (hB.at (by decide +kernel : layF 311 = (72, 0)) (by decide) k).1) (fun k => (hB.at (by decide +kernel : layF 311 = (72, 0)) (by decide) k).2) ?_
  refine A_putR dX10_init_267 fX10_114 (fun _ => rfl) (fun _ q hq => by cases hq; rfl) rfl (fun _ => ⟨rfl, rfl⟩) ⟨by decide +kernel, by decide +kernel⟩ ?_
  replace hB := (hB.up (by decide : 311 ≤ 312)).r (c := 10) (i := 0) (k := 59) (v := some (72, 0)) ⟨by decide +kernel, by decide +kernel⟩
  refine A_aload_n (i := 0) dX10_init_270 rfl rfl ?_
  refine A_iconst (v := 5) dX10_init_271 rfl ?_
  refine A_newa (c := 73) (i := 0) (atype := .long) dX10_init_272 (by decide) rfl (mT2 (i := 24) rfl rfl) rfl (by decide) (by decide +kernel) (by decide) (rm_le (by decide)) (fun k => (hB.at (by decide +kernel : layF 312 = (73, 0)) (by decide) k).1) (fun k => (hB.at (by decide +kernel : layF 312 = (73, 0)) (by decide) k).2) ?_
  refine A_putR dX10_init_274 fX10_117 (fun _ => rfl) (fun _ q hq => by cases hq; rfl) rfl (fun _ => ⟨rfl, rfl⟩) ⟨by decide +kernel, by decide +kernel⟩ ?_
  replace hB := (hB.up (by decide : 312 ≤ 313)).r (c := 10) (i := 0) (k := 60) (v := some (73, 0)) ⟨by decide +kernel, by decide +kernel⟩
  refine A_aload_n (i := 0) dX10_init_277 rfl rfl ?_
  refine A_iconst (v := 5) dX10_init_278 rfl ?_
  refine A_newa (c := 74) (i := 0) (atype := .long) dX10_init_279 (by decide) rfl (mT2 (i := 24) rfl rfl) rfl (by decide) (by decide +kernel) (by decide) (rm_le (by decide)) (fun k => (hB.at (by decide +kernel : layF 313 = (74, 0)) (by decide) k).1) (fun k => (hB.at (by decide +kernel : layF 313 = (74, 0)) (by decide) k).2) ?_
  refine A_putR dX10_init_281 fX10_120 (fun _ => rfl) (fun _ q hq => by cases hq; rfl) rfl (fun _ => ⟨rfl, rfl⟩) ⟨by decide +kernel, by decide +kernel⟩ ?_
  replace hB := (hB.up (by decide : 313 ≤ 314)).r (c := 10) (i := 0) (k := 61) (v := some (74, 0)) ⟨by decide +kernel, by decide +kernel⟩
  refine A_aload_n (i := 0) dX10_init_284 rfl rfl ?_
  refine A_iconst (v := 5) dX10_init_285 rfl ?_
  refine A_newa (c := 75) (i := 0) (atype := .long) dX10_init_286 (by decide) rfl (mT2 (i := 24) rfl rfl) rfl (by decide) (by decide +kernel) (by decide) (rm_le (by decide)) (fun k => (hB.at (by decide +kernel : layF 314 = (75, 0)) (by decide) k).1) (fun k => (hB.at (by decide +kernel : layF 314 = (75, 0)) (by decide) k).2) ?_
  refine A_putR dX10_init_288 fX10_123 (fun _ => rfl) (fun _ q hq => by cases hq; rfl) rfl (fun _ => ⟨rfl, rfl⟩) ⟨by decide +kernel, by decide +kernel⟩ ?_
  replace hB := (hB.up (by decide : 314 ≤ 315)).r (c := 10) (i := 0) (k := 62) (v := some (75, 0)) ⟨by decide +kernel, by decide +kernel⟩
  refine A_aload_n (i := 0) dX10_init_291 rfl rfl ?_
  refine A_bipush (v := 62) dX10_init_292 (by decide +kernel) ?_
  refine A_newa (c := 76) (i := 0) (atype := .int) dX10_init_294 (by decide) rfl (mT2 (i := 56) rfl rfl) rfl (by decide) (by decide +kernel) (by decide) (rm_le (by decide)) (fun k => (hB.at (by decide +kernel : layF 315 = (76, 0)) (by decide) k).1) (fun k => (hB.at (by decide +kernel : layF 315 = (76, 0)) (by decide) k).2) ?_
  refine A_putR dX10_init_296 fX10_126 (fun _ => rfl) (fun _ q hq => by cases hq; rfl) rfl (fun _ => ⟨rfl, rfl⟩) ⟨by decide +kernel, by decide +kernel⟩ ?_
  replace hB := (hB.up (by decide : 315 ≤ 316)).r (c := 10) (i := 0) (k := 63) (v := some (76, 0)) ⟨by decide +kernel, by decide +kernel⟩
  refine A_aload_n (i := 0) dX10_init_299 rfl rfl ?_
  refine A_sipush (v := 1000) dX10_init_300 (by decide +kernel) ?_
  refine A_putI dX10_init_303 fX10_129 ⟨by decide +kernel, by decide +kernel⟩ ?_
  replace hB := hB.n (c := 10) (i := 0) (k := 69) (v := 1000) ⟨by decide +kernel, by decide +kernel⟩
  refine A_aload_n (i := 0) dX10_init_306 rfl rfl ?_
  refine A_iconst (v := 1) dX10_init_307 rfl ?_
  refine A_putI dX10_init_308 fX10_132 ⟨by decide +kernel, by decide +kernel⟩ ?_
  replace hB := hB.n (c := 10) (i := 0) (k := 70) (v := 1) ⟨by decide +kernel, by decide +kernel⟩
  refine A_aload_n (i := 0) dX10_init_311 rfl rfl ?_
  refine A_bipush (v := 61) dX10_init_312 (by decide +kernel) ?_
  refine A_newa (c := 77) (i := 0) (atype := .long) dX10_init_314 (by decide) rfl (mT2 (i := 24) rfl rfl) rfl (by decide) (by decide +kernel) (by decide) (rm_le (by decide)) (fun k => (hB.at (by decide +kernel : layF 316 = (77, 0)) (by decide) k).1) (fun k => (hB.at (by decide +kernel : layF 316 = (77, 0)) (by decide) k).2) ?_
  refine A_putR dX10_init_316 fX10_135 (fun _ => rfl) (fun _ q hq => by cases hq; rfl) rfl (fun _ => ⟨rfl, rfl⟩) ⟨by decide +kernel, by decide +kernel⟩ ?_
  replace hB := (hB.up (by decide : 316 ≤ 317)).r (c := 10) (i := 0) (k := 71) (v := some (77, 0)) ⟨by decide +kernel, by decide +kernel⟩
  refine A_aload_n (i := 0) dX10_init_319 rfl rfl ?_
  refine A_bipush (v := 61) dX10_init_320 (by decide +kernel) ?_
  refine A_newa (c := 78) (i := 0) (atype := .long) dX10_init_322 (by decide) rfl (mT2 (i := 24) rfl rfl) rfl (by decide) (by decide +kernel) (by decide) (rm_le (by decide)) (fun k => (hB.at (by decide +kernel : layF 317 = (78, 0)) (by decide) k).1) (fun k => (hB.at (by decide +kernel : layF 317 = (78, 0)) (by decide) k).2) ?_
  refine A_putR dX10_init_324 fX10_138 (fun _ => rfl) (fun _ q hq => by cases hq; rfl) rfl (fun _ => ⟨rfl, rfl⟩) ⟨by decide +kernel, by decide +kernel⟩ ?_
  replace hB := (hB.up (by decide : 317 ≤ 318)).r (c := 10) (i := 0) (k := 72) (v := some (78, 0)) ⟨by decide +kernel, by decide +kernel⟩
  refine A_aload_n (i := 0) dX10_init_327 rfl rfl ?_
  refine A_bipush (v := 61) dX10_init_328 (by decide +kernel) ?_
  refine A_newa (c := 79) (i := 0) (atype := .boolean) dX10_init_330 (by decide) rfl (mT6 (i := 82) rfl rfl) rfl (by decide) (by decide +kernel) (by decide) (rm_le (by decide)) (fun k => (hB.at (by decide +kernel : layF 318 = (79, 0)) (by decide) k).1) (fun k => (hB.at (by decide +kernel : layF 318 = (79, 0)) (by decide) k).2) ?_
  refine A_putR dX10_init_332 fX10_141 (fun _ => rfl) (fun _ q hq => by cases hq; rfl) rfl (fun _ => ⟨rfl, rfl⟩) ⟨by decide +kernel, by decide +kernel⟩ ?_
  replace hB := (hB.up (by decide : 318 ≤ 319)).r (c := 10) (i := 0) (k := 73) (v := some (79, 0)) ⟨by decide +kernel, by decide +kernel⟩
  refine A_aload_n (i := 0) dX10_init_335 rfl rfl ?_
  refine A_sipush (v := 610) dX10_init_336 (by decide +kernel) ?_
  refine A_newa (c := 80) (i := 0) (atype := .long) dX10_init_339 (by decide) rfl (mT2 (i := 24) rfl rfl) rfl (by decide) (by decide +kernel) (by decide) (rm_le (by decide)) (fun k => (hB.at (by decide +kernel : layF 319 = (80, 0)) (by decide) k).1) (fun k => (hB.at (by decide +kernel : layF 319 = (80, 0)) (by decide) k).2) ?_
  refine A_putR dX10_init_341 fX10_145 (fun _ => rfl) (fun _ q hq => by cases hq; rfl) rfl (fun _ => ⟨rfl, rfl⟩) ⟨by decide +kernel, by decide +kernel⟩ ?_
  replace hB := (hB.up (by decide : 319 ≤ 320)).r (c := 10) (i := 0) (k := 74) (v := some (80, 0)) ⟨by decide +kernel, by decide +kernel⟩
  refine A_aload_n (i := 0) dX10_init_344 rfl rfl ?_
  refine A_sipush (v := 200) dX10_init_345 (by decide +kernel) ?_
  refine A_newa (c := 81) (i := 0) (atype := .long) dX10_init_348 (by decide) rfl (mT2 (i := 24) rfl rfl) rfl (by decide) (by decide +kernel) (by decide) (rm_le (by decide)) (fun k => (hB.at (by decide +kernel : layF 320 = (81, 0)) (by decide) k).1) (fun k => (hB.at (by decide +kernel : layF 320 = (81, 0)) (by decide) k).2) ?_
  refine A_putR dX10_init_350 fX10_148 (fun _ => rfl) (fun _ q hq => by cases hq; rfl) rfl (fun _ => ⟨rfl, rfl⟩) ⟨by decide +kernel, by decide +kernel⟩ ?_
  replace hB := (hB.up (by decide : 320 ≤ 321)).r (c := 10) (i := 0) (k := 75) (v := some (81, 0)) ⟨by decide +kernel, by decide +kernel⟩
  refine A_aload_n (i := 0) dX10_init_353 rfl rfl ?_
  refine A_iconst (v := 4) dX10_init_354 rfl ?_
  refine A_newa (c := 82) (i := 0) (atype := .boolean) dX10_init_355 (by decide) rfl (mT6 (i := 82) rfl rfl) rfl (by decide) (by decide +kernel) (by decide) (rm_le (by decide)) (fun k => (hB.at (by decide +kernel : layF 321 = (82, 0)) (by decide) k).1) (fun k => (hB.at (by decide +kernel : layF 321 = (82, 0)) (by decide) k).2) ?_
  refine A_putR dX10_init_357 fX10_151 (fun _ => rfl) (fun _ q hq => by cases hq; rfl) rfl (fun _ => ⟨rfl, rfl⟩) ⟨by decide +kernel, by decide +kernel⟩ ?_
  replace hB := (hB.up (by decide : 321 ≤ 322)).r (c := 10) (i := 0) (k := 77) (v := some (82, 0)) ⟨by decide +kernel, by decide +kernel⟩
  refine A_aload_n (i := 0) dX10_init_360 rfl rfl ?_
  refine A_iconst (v := 4) dX10_init_361 rfl ?_
  refine A_newa (c := 83) (i := 0) (atype := .int) dX10_init_362 (by decide) rfl (mT2 (i := 56) rfl rfl) rfl (by decide) (by decide +kernel) (by decide) (rm_le (by decide)) (fun k => (hB.at (by decide +kernel : layF 322 = (83, 0)) (by decide) k).1) (fun k => (hB.at (by decide +kernel : layF 322 = (83, 0)) (by decide) k).2) ?_
  refine A_putR dX10_init_364 fX10_154 (fun _ => rfl) (fun _ q hq => by cases hq; rfl) rfl (fun _ => ⟨rfl, rfl⟩) ⟨by decide +kernel, by decide +kernel⟩ ?_
  replace hB := (hB.up (by decide : 322 ≤ 323)).r (c := 10) (i := 0) (k := 78) (v := some (83, 0)) ⟨by decide +kernel, by decide +kernel⟩
  refine A_aload_n (i := 0) dX10_init_367 rfl rfl ?_
  refine A_iconst (v := 4) dX10_init_368 rfl ?_
  refine A_newa (c := 84) (i := 0) (atype := .int) dX10_init_369 (by decide) rfl (mT2 (i := 56) rfl rfl) rfl (by decide) (by decide +kernel) (by decide) (rm_le (by decide)) (fun k => (hB.at (by decide +kernel : layF 323 = (84, 0)) (by decide) k).1) (fun k => (hB.at (by decide +kernel : layF 323 = (84, 0)) (by decide) k).2) ?_
  refine A_putR dX10_init_371 fX10_157 (fun _ => rfl) (fun _ q hq => by cases hq; rfl) rfl (fun _ => ⟨rfl, rfl⟩) ⟨by decide +kernel, by decide +kernel⟩ ?_
  replace hB := (hB.up (by decide : 323 ≤ 324)).r (c := 10) (i := 0) (k := 79) (v := some (84, 0)) ⟨by decide +kernel, by decide +kernel⟩
  refine A_aload_n (i := 0) dX10_init_374 rfl rfl ?_
  refine A_sipush (v := 160) dX10_init_375 (by decide +kernel) ?_
  refine A_newa (c := 85) (i := 0) (atype := .int) dX10_init_378 (by decide) rfl (mT2 (i := 56) rfl rfl) rfl (by decide) (by decide +kernel) (by decide) (rm_le (by decide)) (fun k => (hB.at (by decide +kernel : layF 324 = (85, 0)) (by decide) k).1) (fun k => (hB.at (by decide +kernel : layF 324 = (85, 0)) (by decide) k).2) ?_
  refine A_putR dX10_init_380 fX10_160 (fun _ => rfl) (fun _ q hq => by cases hq; rfl) rfl (fun _ => ⟨rfl, rfl⟩) ⟨by decide +kernel, by decide +kernel⟩ ?_
  replace hB := (hB.up (by decide : 324 ≤ 325)).r (c := 10) (i := 0) (k := 80) (v := some (85, 0)) ⟨by decide +kernel, by decide +kernel⟩
  exact AW_ini (AW_cells S10_ok i_X10b)
