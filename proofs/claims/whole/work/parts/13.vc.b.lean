set_option maxRecDepth 100000 in
set_option maxHeartbeats 4000000 in
theorem vc_X0_restart {G : GT} {i0 : Nat} {N : NN} {K : NN → Prop} (h_i0 : i0 < 2) (h : W_X0_restart G K 2 [(0, vR 0 i0), (1, vI 0)] [] N) : C_X0_restart G i0 N K := by
  refine Ctr.ofAW RX0 false rfl (by decide +kernel) (fun q => by cases q) (Nat.le_of_ble_eq_true rfl) (Nat.le_refl _) ?_
  refine A_iconst (v := 0) dX0_restart_0 rfl ?_
  refine A_istore_n (ls' := [(1, _), (0, _)]) dX0_restart_1 rfl (by decide) rfl ?_
  exact A_pick [1, 0] rfl h
set_option maxRecDepth 100000 in
set_option maxHeartbeats 4000000 in
theorem vc_X0_restart_2 {G : GT} {i0 : Nat} {l1 : Int} {N : NN} {K : NN → Prop} (h_i0 : i0 < 2) (h : ((5 ≤ (wI l1) → (∀ M1 : NN, M1 = up3 N 0 i0 4 0 → (∀ M2 : NN, M2 = up3 M1 0 i0 5 0 → (∀ M3 : NN, M3 = up3 M2 0 i0 6 0 → (∀ M4 : NN, M4 = up3 M3 0 i0 7 0 → (∀ M5 : NN, M5 = up3 M4 0 i0 8 0 → (∀ M6 : NN, M6 = up3 M5 0 i0 9 0 → K M6))))))) ∧ (¬ (5 ≤ (wI l1)) → (∃ j7 : Nat, (wI l1) = (j7 : Int) ∧ j7 < 5 ∧ (C_X5_restart G (5 * i0 + j7) N (fun N8 => W_X0_restart G K 2 [(0, vR 0 i0), (1, vI (l1 + 1))] [] N8)))))) : W_X0_restart G K 2 [(0, vR 0 i0), (1, vI l1)] [] N := by
  refine A_iload_n dX0_restart_2 rfl rfl ?_
  refine A_aload_n dX0_restart_3 rfl rfl ?_
  refine A_getR (c2 := 21) (i2 := i0) dX0_restart_4 fX0_11 rfl (okK0 (by omega)) rfl ?_
  refine A_alen (v := 5) dX0_restart_7 (by decide) (okK21 (by omega)) (by decide) ?_
  refine B_icmp_ge (tgt := 26) dX0_restart_8 (by decide) rfl (wlitI (by decide) (by decide)) ⟨fun q => ?_, fun q => ?_⟩
  · replace h := h.1 q
    refine A_aload_n dX0_restart_26 rfl rfl ?_
    refine A_lconst (v := 0) dX0_restart_27 (by decide +kernel) ?_
    refine B_putL dX0_restart_28 fX0_28 (by decide) (okK0 (by omega)) (fun M1 eM1 => ?_)
    replace h := h M1 eM1
    refine A_aload_n dX0_restart_31 rfl rfl ?_
    refine A_iconst (v := 0) dX0_restart_32 rfl ?_
    refine B_putZ dX0_restart_33 fX0_32 (by decide) (okK0 (by omega)) (by decide) (fun M2 eM2 => ?_)
    replace h := h M2 eM2
    refine A_aload_n dX0_restart_36 rfl rfl ?_
    refine A_iconst (v := 0) dX0_restart_37 rfl ?_
    refine B_putI dX0_restart_38 fX0_36 (by decide) (okK0 (by omega)) (fun M3 eM3 => ?_)
    replace h := h M3 eM3
    refine A_aload_n dX0_restart_41 rfl rfl ?_
    refine A_lconst (v := 0) dX0_restart_42 (by decide +kernel) ?_
    refine B_putL dX0_restart_43 fX0_39 (by decide) (okK0 (by omega)) (fun M4 eM4 => ?_)
    replace h := h M4 eM4
    refine A_aload_n dX0_restart_46 rfl rfl ?_
    refine A_lconst (v := 0) dX0_restart_47 (by decide +kernel) ?_
    refine B_putL dX0_restart_48 fX0_42 (by decide) (okK0 (by omega)) (fun M5 eM5 => ?_)
    replace h := h M5 eM5
    refine A_aload_n dX0_restart_51 rfl rfl ?_
    refine A_lconst (v := 0) dX0_restart_52 (by decide +kernel) ?_
    refine B_putL dX0_restart_53 fX0_45 (by decide) (okK0 (by omega)) (fun M6 eM6 => ?_)
    replace h := h M6 eM6
    exact A_vret dX0_restart_56 ⟨rfl, rfl, h⟩
  · replace h := h.2 q
    refine A_aload_n dX0_restart_11 rfl rfl ?_
    refine A_getR (c2 := 21) (i2 := i0) dX0_restart_12 fX0_11 rfl (okK0 (by omega)) rfl ?_
    refine A_iload_n dX0_restart_15 rfl rfl ?_
    obtain ⟨j7, qj7, bj7, h⟩ := h
    refine A_aald (j := j7) (c2 := 5) (i2 := 5 * i0 + j7) dX0_restart_16 (by decide) (by decide) (okK21 (by omega)) qj7 bj7 rfl ?_
    refine B_callV_V (av := []) rfl dX0_restart_17 vX0_25 mX5_restart ⟨rfl, rfl, by decide⟩ (okK5 (by omega)) rfl (Nat.le_of_ble_eq_true rfl) (by decide) (by decide) rfl (BC_monoV h (fun N8 h => ?_))
    refine A_iinc (ls' := [(1, _), (0, _)]) dX0_restart_20 (by decide) rfl rfl rfl ?_
    refine A_goto (tgt := 2) dX0_restart_23 (by decide) ?_
    exact A_pick [1, 0] rfl h
set_option maxRecDepth 100000 in
set_option maxHeartbeats 4000000 in
theorem vc_X0_copy {G : GT} {i0 : Nat} {i1 : Nat} {N : NN} {K : NN → Prop} (h_i0 : i0 < 2) (h_i1 : i1 < 2) (h : W_X0_copy G K 2 [(0, vR 0 i0), (1, vR 0 i1), (2, vI 0)] [] N) : C_X0_copy G i0 i1 N K := by
  refine Ctr.ofAW RX0 false rfl (by decide +kernel) (fun q => by cases q) (Nat.le_of_ble_eq_true rfl) (Nat.le_refl _) ?_
  refine A_iconst (v := 0) dX0_copy_0 rfl ?_
  refine A_istore_n (ls' := [(2, _), (0, _), (1, _)]) dX0_copy_1 rfl (by decide) rfl ?_
  exact A_pick [1, 2, 0] rfl h
set_option maxRecDepth 100000 in
set_option maxHeartbeats 4000000 in
theorem vc_X0_copy_2 {G : GT} {i0 : Nat} {i1 : Nat} {l2 : Int} {N : NN} {K : NN → Prop} (h_i0 : i0 < 2) (h_i1 : i1 < 2) (h : ((5 ≤ (wI l2) → (∀ M1 : NN, M1 = up3 N 0 i0 1 (N 0 i1 1) → (∀ M2 : NN, M2 = up3 M1 0 i0 2 (M1 0 i1 2) → (∀ M3 : NN, M3 = up3 M2 0 i0 3 (M2 0 i1 3) → (∀ M4 : NN, M4 = up3 M3 0 i0 4 (M3 0 i1 4) → ((M4 0 i1 5 = 0 ∨ M4 0 i1 5 = 1) ∧ (∀ M5 : NN, M5 = up3 M4 0 i0 5 (M4 0 i1 5) → (∀ M6 : NN, M6 = up3 M5 0 i0 6 (M5 0 i1 6) → (∀ M7 : NN, M7 = up3 M6 0 i0 7 (M6 0 i1 7) → (∀ M8 : NN, M8 = up3 M7 0 i0 8 (M7 0 i1 8) → (∀ M9 : NN, M9 = up3 M8 0 i0 9 (M8 0 i1 9) → K M9))))))))))) ∧ (¬ (5 ≤ (wI l2)) → (∃ j10 : Nat, (wI l2) = (j10 : Int) ∧ j10 < 5 ∧ (∃ j11 : Nat, (wI l2) = (j11 : Int) ∧ j11 < 5 ∧ (C_X5_copy G (5 * i0 + j10) (5 * i1 + j11) N (fun N12 => W_X0_copy G K 2 [(0, vR 0 i0), (1, vR 0 i1), (2, vI (l2 + 1))] [] N12))))))) : W_X0_copy G K 2 [(0, vR 0 i0), (1, vR 0 i1), (2, vI l2)] [] N := by
  refine A_iload_n dX0_copy_2 rfl rfl ?_
  refine A_aload_n dX0_copy_3 rfl rfl ?_
  refine A_getR (c2 := 21) (i2 := i0) dX0_copy_4 fX0_11 rfl (okK0 (by omega)) rfl ?_
  refine A_alen (v := 5) dX0_copy_7 (by decide) (okK21 (by omega)) (by decide) ?_
  refine B_icmp_ge (tgt := 32) dX0_copy_8 (by decide) rfl (wlitI (by decide) (by decide)) ⟨fun q => ?_, fun q => ?_⟩
  · replace h := h.1 q
    refine A_aload_n dX0_copy_32 rfl rfl ?_
    refine A_aload_n dX0_copy_33 rfl rfl ?_
    refine A_getI dX0_copy_34 fX0_52 rfl (okK0 (by omega)) ?_
    refine B_putI dX0_copy_37 fX0_52 (by decide) (okK0 (by omega)) (fun M1 eM1 => ?_)
    replace h := h M1 eM1
    refine A_aload_n dX0_copy_40 rfl rfl ?_
    refine A_aload_n dX0_copy_41 rfl rfl ?_
    refine A_getI dX0_copy_42 fX0_17 rfl (okK0 (by omega)) ?_
    refine B_putI dX0_copy_45 fX0_17 (by decide) (okK0 (by omega)) (fun M2 eM2 => ?_)
    replace h := h M2 eM2
    refine A_aload_n dX0_copy_48 rfl rfl ?_
    refine A_aload_n dX0_copy_49 rfl rfl ?_
    refine A_getI dX0_copy_50 fX0_21 rfl (okK0 (by omega)) ?_
    refine B_putI dX0_copy_53 fX0_21 (by decide) (okK0 (by omega)) (fun M3 eM3 => ?_)
    replace h := h M3 eM3
    refine A_aload_n dX0_copy_56 rfl rfl ?_
    refine A_aload_n dX0_copy_57 rfl rfl ?_
    refine A_getL dX0_copy_58 fX0_28 rfl (okK0 (by omega)) ?_
    refine B_putL dX0_copy_61 fX0_28 (by decide) (okK0 (by omega)) (fun M4 eM4 => ?_)
    replace h := h M4 eM4
    refine A_aload_n dX0_copy_64 rfl rfl ?_
    refine A_aload_n dX0_copy_65 rfl rfl ?_
    refine A_getI dX0_copy_66 fX0_32 rfl (okK0 (by omega)) ?_
    refine B_putZ dX0_copy_69 fX0_32 (by decide) (okK0 (by omega)) h.1 (fun M5 eM5 => ?_)
    replace h := h.2
    replace h := h M5 eM5
    refine A_aload_n dX0_copy_72 rfl rfl ?_
    refine A_aload_n dX0_copy_73 rfl rfl ?_
    refine A_getI dX0_copy_74 fX0_36 rfl (okK0 (by omega)) ?_
    refine B_putI dX0_copy_77 fX0_36 (by decide) (okK0 (by omega)) (fun M6 eM6 => ?_)
    replace h := h M6 eM6
    refine A_aload_n dX0_copy_80 rfl rfl ?_
    refine A_aload_n dX0_copy_81 rfl rfl ?_
    refine A_getL dX0_copy_82 fX0_39 rfl (okK0 (by omega)) ?_
    refine B_putL dX0_copy_85 fX0_39 (by decide) (okK0 (by omega)) (fun M7 eM7 => ?_)
    replace h := h M7 eM7
    refine A_aload_n dX0_copy_88 rfl rfl ?_
    refine A_aload_n dX0_copy_89 rfl rfl ?_
    refine A_getL dX0_copy_90 fX0_42 rfl (okK0 (by omega)) ?_
    refine B_putL dX0_copy_93 fX0_42 (by decide) (okK0 (by omega)) (fun M8 eM8 => ?_)
    replace h := h M8 eM8
    refine A_aload_n dX0_copy_96 rfl rfl ?_
    refine A_aload_n dX0_copy_97 rfl rfl ?_
    refine A_getL dX0_copy_98 fX0_45 rfl (okK0 (by omega)) ?_
    refine B_putL dX0_copy_101 fX0_45 (by decide) (okK0 (by omega)) (fun M9 eM9 => ?_)
    replace h := h M9 eM9
    exact A_vret dX0_copy_104 ⟨rfl, rfl, h⟩
  · replace h := h.2 q
    refine A_aload_n dX0_copy_11 rfl rfl ?_
    refine A_getR (c2 := 21) (i2 := i0) dX0_copy_12 fX0_11 rfl (okK0 (by omega)) rfl ?_
    refine A_iload_n dX0_copy_15 rfl rfl ?_
    obtain ⟨j10, qj10, bj10, h⟩ := h
    refine A_aald (j := j10) (c2 := 5) (i2 := 5 * i0 + j10) dX0_copy_16 (by decide) (by decide) (okK21 (by omega)) qj10 bj10 rfl ?_
    refine A_aload_n dX0_copy_17 rfl rfl ?_
    refine A_getR (c2 := 21) (i2 := i1) dX0_copy_18 fX0_11 rfl (okK0 (by omega)) rfl ?_
    refine A_iload_n dX0_copy_21 rfl rfl ?_
    obtain ⟨j11, qj11, bj11, h⟩ := h
    refine A_aald (j := j11) (c2 := 5) (i2 := 5 * i1 + j11) dX0_copy_22 (by decide) (by decide) (okK21 (by omega)) qj11 bj11 rfl ?_
    refine B_callV_V (av := [vR 5 (5 * i1 + j11)]) rfl dX0_copy_23 vX0_48 mX5_copy ⟨rfl, rfl, by decide⟩ (okK5 (by omega)) rfl (Nat.le_of_ble_eq_true rfl) (by decide) (by decide) rfl (BC_monoV h (fun N12 h => ?_))
    refine A_iinc (ls' := [(2, _), (0, _), (1, _)]) dX0_copy_26 (by decide) rfl rfl rfl ?_
    refine A_goto (tgt := 2) dX0_copy_29 (by decide) ?_
    exact A_pick [1, 2, 0] rfl h
set_option maxRecDepth 100000 in
set_option maxHeartbeats 4000000 in
theorem vc_X0_pour {G : GT} {i0 : Nat} {a1 : Int} {i2 : Nat} {i3 : Nat} {N : NN} {K : NN → Prop} (h_i0 : i0 < 2) (h_i2 : i2 < 62) (h_i3 : i3 < 6) (h : (((wI a1) ≠ 1 → (∀ M1 : NN, M1 = up3 N 0 i0 7 ((N 0 i0 7) + (N 3 i2 8)) → (C_X0_turnTrip G i0 (M1 3 i2 8) M1 (fun N2 => ((N2 0 i0 5 = 0 ∨ N2 0 i0 5 = 1) ∧ (∀ M3 : NN, M3 = up3 N2 3 i2 11 (N2 0 i0 5) → W_X0_pour G K 45 [(0, vR 0 i0), (1, vI a1), (2, vR 3 i2), (3, vR 4 i3), (4, vI 0)] [] M3)))))) ∧ (¬ ((wI a1) ≠ 1) → (∀ M4 : NN, M4 = up3 N 0 i0 8 (N 3 i2 6) → (∀ M5 : NN, M5 = up3 M4 0 i0 7 ((M4 0 i0 7) + (M4 3 i2 8)) → (C_X0_turnTrip G i0 (M5 3 i2 8) M5 (fun N6 => ((N6 0 i0 5 = 0 ∨ N6 0 i0 5 = 1) ∧ (∀ M7 : NN, M7 = up3 N6 3 i2 11 (N6 0 i0 5) → W_X0_pour G K 45 [(0, vR 0 i0), (1, vI a1), (2, vR 3 i2), (3, vR 4 i3), (4, vI 0)] [] M7))))))))) : C_X0_pour G i0 a1 i2 i3 N K := by
  refine Ctr.ofAW RX0 false rfl (by decide +kernel) (fun q => by cases q) (Nat.le_of_ble_eq_true rfl) (Nat.le_refl _) ?_
  refine A_iload_n dX0_pour_0 rfl rfl ?_
  refine A_iconst (v := 1) dX0_pour_1 rfl ?_
  refine B_icmp_ne (tgt := 13) dX0_pour_2 (by decide) rfl (wlitI (by decide) (by decide)) ⟨fun q => ?_, fun q => ?_⟩
  · replace h := h.1 q
    refine A_aload_n dX0_pour_13 rfl rfl ?_
    refine A_dup dX0_pour_14 rfl ?_
    refine A_getL dX0_pour_15 fX0_39 rfl (okK0 (by omega)) ?_
    refine A_aload_n dX0_pour_18 rfl rfl ?_
    refine A_getL dX0_pour_19 fX0_60 rfl (okK3 (by omega)) ?_
    refine A_ladd dX0_pour_22 ?_
    refine B_putL dX0_pour_23 fX0_39 (by decide) (okK0 (by omega)) (fun M1 eM1 => ?_)
    replace h := h M1 eM1
    refine A_aload_n dX0_pour_26 rfl rfl ?_
    refine A_aload_n dX0_pour_27 rfl rfl ?_
    refine A_getL dX0_pour_28 fX0_60 rfl (okK3 (by omega)) ?_
    refine B_callV_V (av := [vL (M1 3 i2 8)]) rfl dX0_pour_31 vX0_63 mX0_turnTrip ⟨rfl, rfl, by decide⟩ (okK0 (by omega)) rfl (Nat.le_of_ble_eq_true rfl) (by decide) (by decide) rfl (BC_monoV h (fun N2 h => ?_))
    refine A_aload_n dX0_pour_34 rfl rfl ?_
    refine A_aload_n dX0_pour_35 rfl rfl ?_
    refine A_getI dX0_pour_36 fX0_32 rfl (okK0 (by omega)) ?_
    refine B_putZ dX0_pour_39 fX0_67 (by decide) (okK3 (by omega)) h.1 (fun M3 eM3 => ?_)
    replace h := h.2
    replace h := h M3 eM3
    refine A_iconst (v := 0) dX0_pour_42 rfl ?_
    refine A_istore (ls' := [(4, _), (0, _), (1, _), (2, _), (3, _)]) dX0_pour_43 (by decide) rfl ?_
    exact A_pick [1, 2, 3, 4, 0] rfl h
  · replace h := h.2 q
    refine A_aload_n dX0_pour_5 rfl rfl ?_
    refine A_aload_n dX0_pour_6 rfl rfl ?_
    refine A_getL dX0_pour_7 fX0_55 rfl (okK3 (by omega)) ?_
    refine B_putL dX0_pour_10 fX0_42 (by decide) (okK0 (by omega)) (fun M4 eM4 => ?_)
    replace h := h M4 eM4
    refine A_aload_n dX0_pour_13 rfl rfl ?_
    refine A_dup dX0_pour_14 rfl ?_
    refine A_getL dX0_pour_15 fX0_39 rfl (okK0 (by omega)) ?_
    refine A_aload_n dX0_pour_18 rfl rfl ?_
    refine A_getL dX0_pour_19 fX0_60 rfl (okK3 (by omega)) ?_
    refine A_ladd dX0_pour_22 ?_
    refine B_putL dX0_pour_23 fX0_39 (by decide) (okK0 (by omega)) (fun M5 eM5 => ?_)
    replace h := h M5 eM5
    refine A_aload_n dX0_pour_26 rfl rfl ?_
    refine A_aload_n dX0_pour_27 rfl rfl ?_
    refine A_getL dX0_pour_28 fX0_60 rfl (okK3 (by omega)) ?_
    refine B_callV_V (av := [vL (M5 3 i2 8)]) rfl dX0_pour_31 vX0_63 mX0_turnTrip ⟨rfl, rfl, by decide⟩ (okK0 (by omega)) rfl (Nat.le_of_ble_eq_true rfl) (by decide) (by decide) rfl (BC_monoV h (fun N6 h => ?_))
    refine A_aload_n dX0_pour_34 rfl rfl ?_
    refine A_aload_n dX0_pour_35 rfl rfl ?_
    refine A_getI dX0_pour_36 fX0_32 rfl (okK0 (by omega)) ?_
    refine B_putZ dX0_pour_39 fX0_67 (by decide) (okK3 (by omega)) h.1 (fun M7 eM7 => ?_)
    replace h := h.2
    replace h := h M7 eM7
    refine A_iconst (v := 0) dX0_pour_42 rfl ?_
    refine A_istore (ls' := [(4, _), (0, _), (1, _), (2, _), (3, _)]) dX0_pour_43 (by decide) rfl ?_
    exact A_pick [1, 2, 3, 4, 0] rfl h
set_option maxRecDepth 100000 in
set_option maxHeartbeats 4000000 in
theorem vc_X0_pour_45 {G : GT} {i0 : Nat} {l1 : Int} {i2 : Nat} {i3 : Nat} {l4 : Int} {N : NN} {K : NN → Prop} (h_i0 : i0 < 2) (h_i2 : i2 < 62) (h_i3 : i3 < 6) (h : (((wI (N 0 i0 1)) ≤ (wI l4) → (C_X3_collected G i2 N (fun x1 N1 => (∀ M2 : NN, M2 = up3 N1 3 i2 5 (x1 + (N1 0 i0 4)) → (∀ M3 : NN, M3 = up3 M2 0 i0 4 0 → (C_X0_takeSteps G i0 l1 i2 i3 M3 (fun N4 => W_X0_pour G K 98 [(0, vR 0 i0), (2, vR 3 i2), (4, vI 0)] [] N4))))))) ∧ (¬ ((wI (N 0 i0 1)) ≤ (wI l4)) → (∃ j5 : Nat, (wI l4) = (j5 : Int) ∧ j5 < 5 ∧ (C_X5_begin G (5 * i0 + j5) N (fun N6 => W_X0_pour G K 45 [(0, vR 0 i0), (1, vI l1), (2, vR 3 i2), (3, vR 4 i3), (4, vI (l4 + 1))] [] N6)))))) : W_X0_pour G K 45 [(0, vR 0 i0), (1, vI l1), (2, vR 3 i2), (3, vR 4 i3), (4, vI l4)] [] N := by
  refine A_iload dX0_pour_45 rfl ?_
  refine A_aload_n dX0_pour_47 rfl rfl ?_
  refine A_getI dX0_pour_48 fX0_52 rfl (okK0 (by omega)) ?_
  refine B_icmp_ge (tgt := 70) dX0_pour_51 (by decide) rfl rfl ⟨fun q => ?_, fun q => ?_⟩
  · replace h := h.1 q
    refine A_aload_n dX0_pour_70 rfl rfl ?_
    refine A_aload_n dX0_pour_71 rfl rfl ?_
    refine B_callV_L (av := []) rfl dX0_pour_72 vX0_71 mX3_collected ⟨rfl, rfl, by decide⟩ (okK3 (by omega)) rfl (Nat.le_of_ble_eq_true rfl) (by decide) (by decide) rfl (BC_monoL h (fun x1 N1 h => ?_))
    refine A_aload_n dX0_pour_75 rfl rfl ?_
    refine A_getL dX0_pour_76 fX0_28 rfl (okK0 (by omega)) ?_
    refine A_ladd dX0_pour_79 ?_
    refine B_putL dX0_pour_80 fX0_75 (by decide) (okK3 (by omega)) (fun M2 eM2 => ?_)
    replace h := h M2 eM2
    refine A_aload_n dX0_pour_83 rfl rfl ?_
    refine A_lconst (v := 0) dX0_pour_84 (by decide +kernel) ?_
    refine B_putL dX0_pour_85 fX0_28 (by decide) (okK0 (by omega)) (fun M3 eM3 => ?_)
    replace h := h M3 eM3
    refine A_aload_n dX0_pour_88 rfl rfl ?_
    refine A_iload_n dX0_pour_89 rfl rfl ?_
    refine A_aload_n dX0_pour_90 rfl rfl ?_
    refine A_aload_n dX0_pour_91 rfl rfl ?_
    refine B_callV_V (av := [vI l1, vR 3 i2, vR 4 i3]) rfl dX0_pour_92 vX0_78 mX0_takeSteps ⟨rfl, rfl, by decide⟩ (okK0 (by omega)) rfl (Nat.le_of_ble_eq_true rfl) (by decide) (by decide) rfl (BC_monoV h (fun N4 h => ?_))
    refine A_iconst (v := 0) dX0_pour_95 rfl ?_
    refine A_istore (ls' := [(4, _), (0, _), (1, _), (2, _), (3, _)]) dX0_pour_96 (by decide) rfl ?_
    exact A_pick [1, 3, 0] rfl h
  · replace h := h.2 q
    refine A_aload_n dX0_pour_54 rfl rfl ?_
    refine A_getR (c2 := 21) (i2 := i0) dX0_pour_55 fX0_11 rfl (okK0 (by omega)) rfl ?_
    refine A_iload dX0_pour_58 rfl ?_
    obtain ⟨j5, qj5, bj5, h⟩ := h
    refine A_aald (j := j5) (c2 := 5) (i2 := 5 * i0 + j5) dX0_pour_60 (by decide) (by decide) (okK21 (by omega)) qj5 bj5 rfl ?_
    refine B_callV_V (av := []) rfl dX0_pour_61 vX0_68 mX5_begin ⟨rfl, rfl, by decide⟩ (okK5 (by omega)) rfl (Nat.le_of_ble_eq_true rfl) (by decide) (by decide) rfl (BC_monoV h (fun N6 h => ?_))
    refine A_iinc (ls' := [(4, _), (0, _), (1, _), (2, _), (3, _)]) dX0_pour_64 (by decide) rfl rfl rfl ?_
    refine A_goto (tgt := 45) dX0_pour_67 (by decide) ?_
    exact A_pick [1, 2, 3, 4, 0] rfl h
set_option maxRecDepth 100000 in
set_option maxHeartbeats 4000000 in
theorem vc_X0_pour_98 {G : GT} {i0 : Nat} {i2 : Nat} {l4 : Int} {N : NN} {K : NN → Prop} (h_i0 : i0 < 2) (h_i2 : i2 < 62) (h : (((wI (N 0 i0 1)) ≤ (wI l4) → (C_X0_writeDown G i0 (N 3 i2 7) N (fun N1 => (∀ M2 : NN, M2 = up3 N1 3 i2 10 (N1 0 i0 4) → K M2)))) ∧ (¬ ((wI (N 0 i0 1)) ≤ (wI l4)) → (∃ j3 : Nat, (wI l4) = (j3 : Int) ∧ j3 < 5 ∧ (C_X5_end G (5 * i0 + j3) N (fun N4 => W_X0_pour G K 98 [(0, vR 0 i0), (2, vR 3 i2), (4, vI (l4 + 1))] [] N4)))))) : W_X0_pour G K 98 [(0, vR 0 i0), (2, vR 3 i2), (4, vI l4)] [] N := by
  refine A_iload dX0_pour_98 rfl ?_
  refine A_aload_n dX0_pour_100 rfl rfl ?_
  refine A_getI dX0_pour_101 fX0_52 rfl (okK0 (by omega)) ?_
  refine B_icmp_ge (tgt := 123) dX0_pour_104 (by decide) rfl rfl ⟨fun q => ?_, fun q => ?_⟩
  · replace h := h.1 q
    refine A_aload_n dX0_pour_123 rfl rfl ?_
    refine A_aload_n dX0_pour_124 rfl rfl ?_
    refine A_getL dX0_pour_125 fX0_85 rfl (okK3 (by omega)) ?_
    refine B_callV_V (av := [vL (N 3 i2 7)]) rfl dX0_pour_128 vX0_88 mX0_writeDown ⟨rfl, rfl, by decide⟩ (okK0 (by omega)) rfl (Nat.le_of_ble_eq_true rfl) (by decide) (by decide) rfl (BC_monoV h (fun N1 h => ?_))
    refine A_aload_n dX0_pour_131 rfl rfl ?_
    refine A_aload_n dX0_pour_132 rfl rfl ?_
    refine A_getL dX0_pour_133 fX0_28 rfl (okK0 (by omega)) ?_
    refine B_putL dX0_pour_136 fX0_91 (by decide) (okK3 (by omega)) (fun M2 eM2 => ?_)
    replace h := h M2 eM2
    exact A_vret dX0_pour_139 ⟨rfl, rfl, h⟩
  · replace h := h.2 q
    refine A_aload_n dX0_pour_107 rfl rfl ?_
    refine A_getR (c2 := 21) (i2 := i0) dX0_pour_108 fX0_11 rfl (okK0 (by omega)) rfl ?_
    refine A_iload dX0_pour_111 rfl ?_
    obtain ⟨j3, qj3, bj3, h⟩ := h
    refine A_aald (j := j3) (c2 := 5) (i2 := 5 * i0 + j3) dX0_pour_113 (by decide) (by decide) (okK21 (by omega)) qj3 bj3 rfl ?_
    refine B_callV_V (av := []) rfl dX0_pour_114 vX0_82 mX5_end ⟨rfl, rfl, by decide⟩ (okK5 (by omega)) rfl (Nat.le_of_ble_eq_true rfl) (by decide) (by decide) rfl (BC_monoV h (fun N4 h => ?_))
    refine A_iinc (ls' := [(4, _), (0, _), (2, _)]) dX0_pour_117 (by decide) rfl rfl rfl ?_
    refine A_goto (tgt := 98) dX0_pour_120 (by decide) ?_
    exact A_pick [1, 2, 0] rfl h
set_option maxRecDepth 100000 in
set_option maxHeartbeats 4000000 in
theorem vc_X0_turnTrip {G : GT} {i0 : Nat} {a1 : Int} {N : NN} {K : NN → Prop} (h_i0 : i0 < 2) (h : (((wL a1) ≤ 0 → (∀ M1 : NN, M1 = up3 N 0 i0 6 ((N 0 i0 6) + 1) → (((wI (M1 0 i0 5)) = 0 → (((wL a1) ≤ 0 → (∀ M2 : NN, M2 = up3 M1 0 i0 5 0 → K M2)) ∧ (¬ ((wL a1) ≤ 0) → (C_X0_lostShare G i0 M1 (fun x3 N3 => (((wL x3) ≤ (wL ((wI (N3 0 i0 2)))) → (∀ M4 : NN, M4 = up3 N3 0 i0 5 0 → K M4)) ∧ (¬ ((wL x3) ≤ (wL ((wI (N3 0 i0 2))))) → (∀ M5 : NN, M5 = up3 N3 0 i0 5 1 → K M5)))))))) ∧ (¬ ((wI (M1 0 i0 5)) = 0) → (((wI (M1 0 i0 3)) ≤ (wI (M1 0 i0 6)) → (∀ M6 : NN, M6 = up3 M1 0 i0 5 0 → K M6)) ∧ (¬ ((wI (M1 0 i0 3)) ≤ (wI (M1 0 i0 6))) → (∀ M7 : NN, M7 = up3 M1 0 i0 5 1 → K M7))))))) ∧ (¬ ((wL a1) ≤ 0) → (∀ M8 : NN, M8 = up3 N 0 i0 6 0 → (((wI (M8 0 i0 5)) = 0 → (((wL a1) ≤ 0 → (∀ M9 : NN, M9 = up3 M8 0 i0 5 0 → K M9)) ∧ (¬ ((wL a1) ≤ 0) → (C_X0_lostShare G i0 M8 (fun x10 N10 => (((wL x10) ≤ (wL ((wI (N10 0 i0 2)))) → (∀ M11 : NN, M11 = up3 N10 0 i0 5 0 → K M11)) ∧ (¬ ((wL x10) ≤ (wL ((wI (N10 0 i0 2))))) → (∀ M12 : NN, M12 = up3 N10 0 i0 5 1 → K M12)))))))) ∧ (¬ ((wI (M8 0 i0 5)) = 0) → (((wI (M8 0 i0 3)) ≤ (wI (M8 0 i0 6)) → (∀ M13 : NN, M13 = up3 M8 0 i0 5 0 → K M13)) ∧ (¬ ((wI (M8 0 i0 3)) ≤ (wI (M8 0 i0 6))) → (∀ M14 : NN, M14 = up3 M8 0 i0 5 1 → K M14))))))))) : C_X0_turnTrip G i0 a1 N K := by
  refine Ctr.ofAW RX0 false rfl (by decide +kernel) (fun q => by cases q) (Nat.le_of_ble_eq_true rfl) (Nat.le_refl _) ?_
  refine A_aload_n dX0_turnTrip_0 rfl rfl ?_
  refine A_lload_n dX0_turnTrip_1 rfl rfl ?_
  refine A_lconst (v := 0) dX0_turnTrip_2 (by decide +kernel) ?_
  refine B_lcmp_le (tgt := 11) dX0_turnTrip_3 rfl dX0_turnTrip_4 (by decide) rfl (wlitL (by decide) (by decide)) ⟨fun q => ?_, fun q => ?_⟩
  · replace h := h.1 q
    refine A_aload_n dX0_turnTrip_11 rfl rfl ?_
    refine A_getI dX0_turnTrip_12 fX0_36 rfl (okK0 (by omega)) ?_
    refine A_iconst (v := 1) dX0_turnTrip_15 rfl ?_
    refine A_iadd dX0_turnTrip_16 ?_
    refine B_putI dX0_turnTrip_17 fX0_36 (by decide) (okK0 (by omega)) (fun M1 eM1 => ?_)
    replace h := h M1 eM1
    refine A_aload_n dX0_turnTrip_20 rfl rfl ?_
    refine A_getI dX0_turnTrip_21 fX0_32 rfl (okK0 (by omega)) ?_
    refine B_if_eq (tgt := 50) dX0_turnTrip_24 (by decide) rfl ⟨fun q => ?_, fun q => ?_⟩
    · replace h := h.1 q
      refine A_aload_n dX0_turnTrip_50 rfl rfl ?_
      refine A_lload_n dX0_turnTrip_51 rfl rfl ?_
      refine A_lconst (v := 0) dX0_turnTrip_52 (by decide +kernel) ?_
      refine B_lcmp_le (tgt := 74) dX0_turnTrip_53 rfl dX0_turnTrip_54 (by decide) rfl (wlitL (by decide) (by decide)) ⟨fun q => ?_, fun q => ?_⟩
      · replace h := h.1 q
        refine A_iconst (v := 0) dX0_turnTrip_74 rfl ?_
        refine B_putZ dX0_turnTrip_75 fX0_32 (by decide) (okK0 (by omega)) (by decide) (fun M2 eM2 => ?_)
        replace h := h M2 eM2
        exact A_vret dX0_turnTrip_78 ⟨rfl, rfl, h⟩
      · replace h := h.2 q
        refine A_aload_n dX0_turnTrip_57 rfl rfl ?_
        refine B_callV_L (av := []) rfl dX0_turnTrip_58 vX0_92 mX0_lostShare ⟨rfl, rfl, by decide⟩ (okK0 (by omega)) rfl (Nat.le_of_ble_eq_true rfl) (by decide) (by decide) rfl (BC_monoL h (fun x3 N3 h => ?_))
        refine A_aload_n dX0_turnTrip_61 rfl rfl ?_
        refine A_getI dX0_turnTrip_62 fX0_17 rfl (okK0 (by omega)) ?_
        refine B_i2l dX0_turnTrip_65 rfl ?_
        refine B_lcmp_le (tgt := 74) dX0_turnTrip_66 rfl dX0_turnTrip_67 (by decide) rfl rfl ⟨fun q => ?_, fun q => ?_⟩
        · replace h := h.1 q
          refine A_iconst (v := 0) dX0_turnTrip_74 rfl ?_
          refine B_putZ dX0_turnTrip_75 fX0_32 (by decide) (okK0 (by omega)) (by decide) (fun M4 eM4 => ?_)
          replace h := h M4 eM4
          exact A_vret dX0_turnTrip_78 ⟨rfl, rfl, h⟩
        · replace h := h.2 q
          refine A_iconst (v := 1) dX0_turnTrip_70 rfl ?_
          refine A_goto (tgt := 75) dX0_turnTrip_71 (by decide) ?_
          refine B_putZ dX0_turnTrip_75 fX0_32 (by decide) (okK0 (by omega)) (by decide) (fun M5 eM5 => ?_)
          replace h := h M5 eM5
          exact A_vret dX0_turnTrip_78 ⟨rfl, rfl, h⟩
    · replace h := h.2 q
      refine A_aload_n dX0_turnTrip_27 rfl rfl ?_
      refine A_aload_n dX0_turnTrip_28 rfl rfl ?_
      refine A_getI dX0_turnTrip_29 fX0_36 rfl (okK0 (by omega)) ?_
      refine A_aload_n dX0_turnTrip_32 rfl rfl ?_
      refine A_getI dX0_turnTrip_33 fX0_21 rfl (okK0 (by omega)) ?_
      refine B_icmp_ge (tgt := 43) dX0_turnTrip_36 (by decide) rfl rfl ⟨fun q => ?_, fun q => ?_⟩
      · replace h := h.1 q
        refine A_iconst (v := 0) dX0_turnTrip_43 rfl ?_
        refine B_putZ dX0_turnTrip_44 fX0_32 (by decide) (okK0 (by omega)) (by decide) (fun M6 eM6 => ?_)
        replace h := h M6 eM6
        refine A_goto (tgt := 78) dX0_turnTrip_47 (by decide) ?_
        exact A_vret dX0_turnTrip_78 ⟨rfl, rfl, h⟩
      · replace h := h.2 q
        refine A_iconst (v := 1) dX0_turnTrip_39 rfl ?_
        refine A_goto (tgt := 44) dX0_turnTrip_40 (by decide) ?_
        refine B_putZ dX0_turnTrip_44 fX0_32 (by decide) (okK0 (by omega)) (by decide) (fun M7 eM7 => ?_)
        replace h := h M7 eM7
        refine A_goto (tgt := 78) dX0_turnTrip_47 (by decide) ?_
        exact A_vret dX0_turnTrip_78 ⟨rfl, rfl, h⟩
  · replace h := h.2 q
    refine A_iconst (v := 0) dX0_turnTrip_7 rfl ?_
    refine A_goto (tgt := 17) dX0_turnTrip_8 (by decide) ?_
    refine B_putI dX0_turnTrip_17 fX0_36 (by decide) (okK0 (by omega)) (fun M8 eM8 => ?_)
    replace h := h M8 eM8
    refine A_aload_n dX0_turnTrip_20 rfl rfl ?_
    refine A_getI dX0_turnTrip_21 fX0_32 rfl (okK0 (by omega)) ?_
    refine B_if_eq (tgt := 50) dX0_turnTrip_24 (by decide) rfl ⟨fun q => ?_, fun q => ?_⟩
    · replace h := h.1 q
      refine A_aload_n dX0_turnTrip_50 rfl rfl ?_
      refine A_lload_n dX0_turnTrip_51 rfl rfl ?_
      refine A_lconst (v := 0) dX0_turnTrip_52 (by decide +kernel) ?_
      refine B_lcmp_le (tgt := 74) dX0_turnTrip_53 rfl dX0_turnTrip_54 (by decide) rfl (wlitL (by decide) (by decide)) ⟨fun q => ?_, fun q => ?_⟩
      · replace h := h.1 q
        refine A_iconst (v := 0) dX0_turnTrip_74 rfl ?_
        refine B_putZ dX0_turnTrip_75 fX0_32 (by decide) (okK0 (by omega)) (by decide) (fun M9 eM9 => ?_)
        replace h := h M9 eM9
        exact A_vret dX0_turnTrip_78 ⟨rfl, rfl, h⟩
      · replace h := h.2 q
        refine A_aload_n dX0_turnTrip_57 rfl rfl ?_
        refine B_callV_L (av := []) rfl dX0_turnTrip_58 vX0_92 mX0_lostShare ⟨rfl, rfl, by decide⟩ (okK0 (by omega)) rfl (Nat.le_of_ble_eq_true rfl) (by decide) (by decide) rfl (BC_monoL h (fun x10 N10 h => ?_))
        refine A_aload_n dX0_turnTrip_61 rfl rfl ?_
        refine A_getI dX0_turnTrip_62 fX0_17 rfl (okK0 (by omega)) ?_
        refine B_i2l dX0_turnTrip_65 rfl ?_
        refine B_lcmp_le (tgt := 74) dX0_turnTrip_66 rfl dX0_turnTrip_67 (by decide) rfl rfl ⟨fun q => ?_, fun q => ?_⟩
        · replace h := h.1 q
          refine A_iconst (v := 0) dX0_turnTrip_74 rfl ?_
          refine B_putZ dX0_turnTrip_75 fX0_32 (by decide) (okK0 (by omega)) (by decide) (fun M11 eM11 => ?_)
          replace h := h M11 eM11
          exact A_vret dX0_turnTrip_78 ⟨rfl, rfl, h⟩
        · replace h := h.2 q
          refine A_iconst (v := 1) dX0_turnTrip_70 rfl ?_
          refine A_goto (tgt := 75) dX0_turnTrip_71 (by decide) ?_
          refine B_putZ dX0_turnTrip_75 fX0_32 (by decide) (okK0 (by omega)) (by decide) (fun M12 eM12 => ?_)
          replace h := h M12 eM12
          exact A_vret dX0_turnTrip_78 ⟨rfl, rfl, h⟩
    · replace h := h.2 q
      refine A_aload_n dX0_turnTrip_27 rfl rfl ?_
      refine A_aload_n dX0_turnTrip_28 rfl rfl ?_
      refine A_getI dX0_turnTrip_29 fX0_36 rfl (okK0 (by omega)) ?_
      refine A_aload_n dX0_turnTrip_32 rfl rfl ?_
      refine A_getI dX0_turnTrip_33 fX0_21 rfl (okK0 (by omega)) ?_
      refine B_icmp_ge (tgt := 43) dX0_turnTrip_36 (by decide) rfl rfl ⟨fun q => ?_, fun q => ?_⟩
      · replace h := h.1 q
        refine A_iconst (v := 0) dX0_turnTrip_43 rfl ?_
        refine B_putZ dX0_turnTrip_44 fX0_32 (by decide) (okK0 (by omega)) (by decide) (fun M13 eM13 => ?_)
        replace h := h M13 eM13
        refine A_goto (tgt := 78) dX0_turnTrip_47 (by decide) ?_
        exact A_vret dX0_turnTrip_78 ⟨rfl, rfl, h⟩
      · replace h := h.2 q
        refine A_iconst (v := 1) dX0_turnTrip_39 rfl ?_
        refine A_goto (tgt := 44) dX0_turnTrip_40 (by decide) ?_
        refine B_putZ dX0_turnTrip_44 fX0_32 (by decide) (okK0 (by omega)) (by decide) (fun M14 eM14 => ?_)
        replace h := h M14 eM14
        refine A_goto (tgt := 78) dX0_turnTrip_47 (by decide) ?_
        exact A_vret dX0_turnTrip_78 ⟨rfl, rfl, h⟩
set_option maxRecDepth 100000 in
set_option maxHeartbeats 4000000 in
theorem vc_X0_lostShare {G : GT} {i0 : Nat} {N : NN} {K : Int → NN → Prop} (h_i0 : i0 < 2) (h : (((wL (N 0 i0 8)) ≤ 0 → K 0 N) ∧ (¬ ((wL (N 0 i0 8)) ≤ 0) → ((wL (N 0 i0 8)) ≠ 0 ∧ K (((wL ((N 0 i0 7) * 1000))).tdiv ((wL (N 0 i0 8)))) N)))) : C_X0_lostShare G i0 N K := by
  refine Ctr.ofAW RX0 false rfl (by decide +kernel) (fun q => by cases q) (Nat.le_of_ble_eq_true rfl) (Nat.le_refl _) ?_
  refine A_aload_n dX0_lostShare_0 rfl rfl ?_
  refine A_getL dX0_lostShare_1 fX0_42 rfl (okK0 (by omega)) ?_
  refine A_lconst (v := 0) dX0_lostShare_4 (by decide +kernel) ?_
  refine B_lcmp_le (tgt := 25) dX0_lostShare_5 rfl dX0_lostShare_6 (by decide) rfl (wlitL (by decide) (by decide)) ⟨fun q => ?_, fun q => ?_⟩
  · replace h := h.1 q
    refine A_lconst (v := 0) dX0_lostShare_25 (by decide +kernel) ?_
    exact A_lret dX0_lostShare_26 ⟨rfl, _, rfl, h⟩
  · replace h := h.2 q
    refine A_aload_n dX0_lostShare_9 rfl rfl ?_
    refine A_getL dX0_lostShare_10 fX0_39 rfl (okK0 (by omega)) ?_
    refine A_ldc2 (x := 1000) dX0_lostShare_13 kX0_95 (by decide +kernel) ?_
    refine A_lmul dX0_lostShare_16 ?_
    refine A_aload_n dX0_lostShare_17 rfl rfl ?_
    refine A_getL dX0_lostShare_18 fX0_42 rfl (okK0 (by omega)) ?_
    refine B_ldiv dX0_lostShare_21 rfl rfl h.1 ?_
    replace h := h.2
    refine A_goto (tgt := 26) dX0_lostShare_22 (by decide) ?_
    exact A_lret dX0_lostShare_26 ⟨rfl, _, rfl, h⟩
set_option maxRecDepth 100000 in
set_option maxHeartbeats 4000000 in
theorem vc_X0_takeSteps {G : GT} {i0 : Nat} {a1 : Int} {i2 : Nat} {i3 : Nat} {N : NN} {K : NN → Prop} (h_i0 : i0 < 2) (h_i2 : i2 < 62) (h_i3 : i3 < 6) (h : W_X0_takeSteps G K 9 [(0, vR 0 i0), (1, vI a1), (2, vR 3 i2), (3, vR 4 i3), (4, vL (N 3 i2 5)), (6, vI 0)] [] N) : C_X0_takeSteps G i0 a1 i2 i3 N K := by
  refine Ctr.ofAW RX0 false rfl (by decide +kernel) (fun q => by cases q) (Nat.le_of_ble_eq_true rfl) (Nat.le_refl _) ?_
  refine A_aload_n dX0_takeSteps_0 rfl rfl ?_
  refine A_getL dX0_takeSteps_1 fX0_75 rfl (okK3 (by omega)) ?_
  refine A_lstore (ls' := [(4, _), (0, _), (1, _), (2, _), (3, _)]) dX0_takeSteps_4 (by decide) rfl ?_
  refine A_iconst (v := 0) dX0_takeSteps_6 rfl ?_
  refine A_istore (ls' := [(6, _), (4, _), (0, _), (1, _), (2, _), (3, _)]) dX0_takeSteps_7 (by decide) rfl ?_
  exact A_pick [2, 3, 4, 5, 1, 0] rfl h
set_option maxRecDepth 100000 in
set_option maxHeartbeats 4000000 in
theorem vc_X0_takeSteps_9 {G : GT} {i0 : Nat} {l1 : Int} {i2 : Nat} {i3 : Nat} {l4 : Int} {l6 : Int} {N : NN} {K : NN → Prop} (h_i0 : i0 < 2) (h_i2 : i2 < 62) (h_i3 : i3 < 6) (h : ((10 ≤ (wI l6) → K N) ∧ (¬ (10 ≤ (wI l6)) → (∃ j1 : Nat, (wI l6) = (j1 : Int) ∧ j1 < 10 ∧ (∀ M2 : NN, M2 = up3 N 28 i2 j1 0 → (((wI (M2 4 i3 1)) ≤ (wI l6) → W_X0_takeSteps G K 9 [(0, vR 0 i0), (1, vI l1), (2, vR 3 i2), (3, vR 4 i3), (4, vL l4), (6, vI (l6 + 1))] [] M2) ∧ (¬ ((wI (M2 4 i3 1)) ≤ (wI l6)) → (∃ j3 : Nat, (wI l6) = (j3 : Int) ∧ j3 < 10 ∧ (C_X0_passes G i0 (10 * i3 + j3) l1 i2 M2 (fun x4 N4 => (((wI x4) = 0 → W_X0_takeSteps G K 9 [(0, vR 0 i0), (1, vI l1), (2, vR 3 i2), (3, vR 4 i3), (4, vL l4), (6, vI (l6 + 1))] [] N4) ∧ (¬ ((wI x4) = 0) → (∃ j5 : Nat, (wI l6) = (j5 : Int) ∧ j5 < 10 ∧ (C_X0_wish G i0 (10 * i3 + j5) i2 l4 N4 (fun x6 N6 => (∃ j7 : Nat, (wI l6) = (j7 : Int) ∧ j7 < 10 ∧ (C_X0_give G i0 (10 * i3 + j7) (min ((wL l4)) ((wL x6))) l1 N6 (fun N8 => (∃ j9 : Nat, (wI l6) = (j9 : Int) ∧ j9 < 10 ∧ (∀ M10 : NN, M10 = up3 N8 28 i2 j9 (min ((wL l4)) ((wL x6))) → W_X0_takeSteps G K 9 [(0, vR 0 i0), (1, vI l1), (2, vR 3 i2), (3, vR 4 i3), (4, vL (l4 - (min ((wL l4)) ((wL x6))))), (6, vI (l6 + 1))] [] M10)))))))))))))))))))) : W_X0_takeSteps G K 9 [(0, vR 0 i0), (1, vI l1), (2, vR 3 i2), (3, vR 4 i3), (4, vL l4), (6, vI l6)] [] N := by
  refine A_iload dX0_takeSteps_9 rfl ?_
  refine A_bipush (v := 10) dX0_takeSteps_11 (by decide +kernel) ?_
  refine B_icmp_ge (tgt := 106) dX0_takeSteps_13 (by decide) rfl (wlitI (by decide) (by decide)) ⟨fun q => ?_, fun q => ?_⟩
  · replace h := h.1 q
    exact A_vret dX0_takeSteps_106 ⟨rfl, rfl, h⟩
  · replace h := h.2 q
    refine A_aload_n dX0_takeSteps_16 rfl rfl ?_
    refine A_getR (c2 := 28) (i2 := i2) dX0_takeSteps_17 fX0_97 rfl (okK3 (by omega)) rfl ?_
    refine A_iload dX0_takeSteps_20 rfl ?_
    refine A_lconst (v := 0) dX0_takeSteps_22 (by decide +kernel) ?_
    obtain ⟨j1, qj1, bj1, h⟩ := h
    refine B_last (j := j1) dX0_takeSteps_23 (by decide) rfl (okK28 (by omega)) qj1 bj1 (fun M2 eM2 => ?_)
    replace h := h M2 eM2
    refine A_iload dX0_takeSteps_24 rfl ?_
    refine A_aload_n dX0_takeSteps_26 rfl rfl ?_
    refine A_getI dX0_takeSteps_27 fX0_101 rfl (okK4 (by omega)) ?_
    refine B_icmp_ge (tgt := 100) dX0_takeSteps_30 (by decide) rfl rfl ⟨fun q => ?_, fun q => ?_⟩
    · replace h := h.1 q
      refine A_iinc (ls' := [(6, _), (0, _), (1, _), (2, _), (3, _), (4, _)]) dX0_takeSteps_100 (by decide) rfl rfl rfl ?_
      refine A_goto (tgt := 9) dX0_takeSteps_103 (by decide) ?_
      exact A_pick [1, 2, 3, 4, 5, 0] rfl h
    · replace h := h.2 q
      refine A_aload_n dX0_takeSteps_33 rfl rfl ?_
      refine A_aload_n dX0_takeSteps_34 rfl rfl ?_
      refine A_getR (c2 := 32) (i2 := i3) dX0_takeSteps_35 fX0_104 rfl (okK4 (by omega)) rfl ?_
      refine A_iload dX0_takeSteps_38 rfl ?_
      obtain ⟨j3, qj3, bj3, h⟩ := h
      refine A_aald (j := j3) (c2 := 33) (i2 := 10 * i3 + j3) dX0_takeSteps_40 (by decide) (by decide) (okK32 (by omega)) qj3 bj3 rfl ?_
      refine A_iload_n dX0_takeSteps_41 rfl rfl ?_
      refine A_aload_n dX0_takeSteps_42 rfl rfl ?_
      refine B_callV_I (av := [vR 33 (10 * i3 + j3), vI l1, vR 3 i2]) rfl dX0_takeSteps_43 vX0_108 mX0_passes ⟨rfl, rfl, by decide⟩ (okK0 (by omega)) rfl (Nat.le_of_ble_eq_true rfl) (by decide) (by decide) rfl (BC_monoI h (fun x4 N4 h => ?_))
      refine B_if_eq (tgt := 100) dX0_takeSteps_46 (by decide) rfl ⟨fun q => ?_, fun q => ?_⟩
      · replace h := h.1 q
        refine A_iinc (ls' := [(6, _), (0, _), (1, _), (2, _), (3, _), (4, _)]) dX0_takeSteps_100 (by decide) rfl rfl rfl ?_
        refine A_goto (tgt := 9) dX0_takeSteps_103 (by decide) ?_
        exact A_pick [1, 2, 3, 4, 5, 0] rfl h
      · replace h := h.2 q
        refine A_lload dX0_takeSteps_49 rfl ?_
        refine A_aload_n dX0_takeSteps_51 rfl rfl ?_
        refine A_aload_n dX0_takeSteps_52 rfl rfl ?_
        refine A_getR (c2 := 32) (i2 := i3) dX0_takeSteps_53 fX0_104 rfl (okK4 (by omega)) rfl ?_
        refine A_iload dX0_takeSteps_56 rfl ?_
        obtain ⟨j5, qj5, bj5, h⟩ := h
        refine A_aald (j := j5) (c2 := 33) (i2 := 10 * i3 + j5) dX0_takeSteps_58 (by decide) (by decide) (okK32 (by omega)) qj5 bj5 rfl ?_
        refine A_aload_n dX0_takeSteps_59 rfl rfl ?_
        refine A_lload dX0_takeSteps_60 rfl ?_
        refine B_callV_L (av := [vR 33 (10 * i3 + j5), vR 3 i2, vL l4]) rfl dX0_takeSteps_62 vX0_112 mX0_wish ⟨rfl, rfl, by decide⟩ (okK0 (by omega)) rfl (Nat.le_of_ble_eq_true rfl) (by decide) (by decide) rfl (BC_monoL h (fun x6 N6 h => ?_))
        refine B_minL dX0_takeSteps_65 mmX0_116 rfl rfl (Nat.le_of_ble_eq_true rfl) rfl ⟨rfl, rfl⟩ ?_
        refine A_lstore (ls' := [(7, _), (0, _), (1, _), (2, _), (3, _), (4, _), (6, _)]) dX0_takeSteps_68 (by decide) rfl ?_
        refine A_aload_n dX0_takeSteps_70 rfl rfl ?_
        refine A_aload_n dX0_takeSteps_71 rfl rfl ?_
        refine A_getR (c2 := 32) (i2 := i3) dX0_takeSteps_72 fX0_104 rfl (okK4 (by omega)) rfl ?_
        refine A_iload dX0_takeSteps_75 rfl ?_
        obtain ⟨j7, qj7, bj7, h⟩ := h
        refine A_aald (j := j7) (c2 := 33) (i2 := 10 * i3 + j7) dX0_takeSteps_77 (by decide) (by decide) (okK32 (by omega)) qj7 bj7 rfl ?_
        refine A_lload dX0_takeSteps_78 rfl ?_
        refine A_iload_n dX0_takeSteps_80 rfl rfl ?_
        refine B_callV_V (av := [vR 33 (10 * i3 + j7), vL (min ((wL l4)) ((wL x6))), vI l1]) rfl dX0_takeSteps_81 vX0_122 mX0_give ⟨rfl, rfl, by decide⟩ (okK0 (by omega)) rfl (Nat.le_of_ble_eq_true rfl) (by decide) (by decide) rfl (BC_monoV h (fun N8 h => ?_))
        refine A_aload_n dX0_takeSteps_84 rfl rfl ?_
        refine A_getR (c2 := 28) (i2 := i2) dX0_takeSteps_85 fX0_97 rfl (okK3 (by omega)) rfl ?_
        refine A_iload dX0_takeSteps_88 rfl ?_
        refine A_lload dX0_takeSteps_90 rfl ?_
        obtain ⟨j9, qj9, bj9, h⟩ := h
        refine B_last (j := j9) dX0_takeSteps_92 (by decide) rfl (okK28 (by omega)) qj9 bj9 (fun M10 eM10 => ?_)
        replace h := h M10 eM10
        refine A_lload dX0_takeSteps_93 rfl ?_
        refine A_lload dX0_takeSteps_95 rfl ?_
        refine A_lsub dX0_takeSteps_97 ?_
        refine A_lstore (ls' := [(4, _), (7, _), (0, _), (1, _), (2, _), (3, _), (6, _)]) dX0_takeSteps_98 (by decide) rfl ?_
        refine A_iinc (ls' := [(6, _), (4, _), (7, _), (0, _), (1, _), (2, _), (3, _)]) dX0_takeSteps_100 (by decide) rfl rfl rfl ?_
        refine A_goto (tgt := 9) dX0_takeSteps_103 (by decide) ?_
        exact A_pick [3, 4, 5, 6, 1, 0] rfl h
set_option maxRecDepth 100000 in
set_option maxHeartbeats 4000000 in
theorem vc_X0_passes {G : GT} {i0 : Nat} {i1 : Nat} {a2 : Int} {i3 : Nat} {N : NN} {K : Int → NN → Prop} (h_i0 : i0 < 2) (h_i1 : i1 < 60) (h_i3 : i3 < 62) (h : (((wI (N 33 i1 3)) ≠ 0 → (C_X0_field G i0 (N 33 i1 4) a2 i3 N (fun x1 N1 => (((wI (N 33 i1 3)) = 1 → (((wL ((wI (N1 33 i1 5)))) ≤ (wL x1) → K 0 N1) ∧ (¬ ((wL ((wI (N1 33 i1 5)))) ≤ (wL x1)) → K 1 N1))) ∧ (((wI (N 33 i1 3)) = 2 → (((wL x1) ≠ (wL ((wI (N1 33 i1 5)))) → K 0 N1) ∧ (¬ ((wL x1) ≠ (wL ((wI (N1 33 i1 5))))) → K 1 N1))) ∧ (((wI (N 33 i1 3)) = 3 → (((wL x1) < (wL ((wI (N1 33 i1 5)))) → K 0 N1) ∧ (¬ ((wL x1) < (wL ((wI (N1 33 i1 5))))) → K 1 N1))) ∧ ((wI (N 33 i1 3)) < 1 ∨ 3 < (wI (N 33 i1 3)) → (((wL x1) = (wL ((wI (N1 33 i1 5)))) → K 0 N1) ∧ (¬ ((wL x1) = (wL ((wI (N1 33 i1 5))))) → K 1 N1))))))))) ∧ (¬ ((wI (N 33 i1 3)) ≠ 0) → K 1 N))) : C_X0_passes G i0 i1 a2 i3 N K := by
  refine Ctr.ofAW RX0 false rfl (by decide +kernel) (fun q => by cases q) (Nat.le_of_ble_eq_true rfl) (Nat.le_refl _) ?_
  refine A_aload_n dX0_passes_0 rfl rfl ?_
  refine A_iconst (v := 3) dX0_passes_1 rfl ?_
  refine A_iald (j := 3) dX0_passes_2 (by decide) rfl (okK33 (by omega)) (show wI 3 = ((3 : Nat) : Int) from wlitI (by decide) (by decide)) (by decide) ?_
  refine A_istore (ls' := [(4, _), (0, _), (1, _), (2, _), (3, _)]) dX0_passes_3 (by decide) rfl ?_
  refine A_iload dX0_passes_5 rfl ?_
  refine B_if_ne (tgt := 12) dX0_passes_7 (by decide) rfl ⟨fun q => ?_, fun q => ?_⟩
  · replace h := h.1 q
    refine A_aload_n dX0_passes_12 rfl rfl ?_
    refine A_aload_n dX0_passes_13 rfl rfl ?_
    refine A_iconst (v := 4) dX0_passes_14 rfl ?_
    refine A_iald (j := 4) dX0_passes_15 (by decide) rfl (okK33 (by omega)) (show wI 4 = ((4 : Nat) : Int) from wlitI (by decide) (by decide)) (by decide) ?_
    refine A_iload_n dX0_passes_16 rfl rfl ?_
    refine A_aload_n dX0_passes_17 rfl rfl ?_
    refine B_callV_L (av := [vI (N 33 i1 4), vI a2, vR 3 i3]) rfl dX0_passes_18 vX0_126 mX0_field ⟨rfl, rfl, by decide⟩ (okK0 (by omega)) rfl (Nat.le_of_ble_eq_true rfl) (by decide) (by decide) rfl (BC_monoL h (fun x1 N1 h => ?_))
    refine A_lstore (ls' := [(5, _), (4, _), (0, _), (1, _), (2, _), (3, _)]) dX0_passes_21 (by decide) rfl ?_
    refine A_aload_n dX0_passes_23 rfl rfl ?_
    refine A_iconst (v := 5) dX0_passes_24 rfl ?_
    refine A_iald (j := 5) dX0_passes_25 (by decide) rfl (okK33 (by omega)) (show wI 5 = ((5 : Nat) : Int) from wlitI (by decide) (by decide)) (by decide) ?_
    refine A_istore (ls' := [(7, _), (5, _), (4, _), (0, _), (1, _), (2, _), (3, _)]) dX0_passes_26 (by decide) rfl ?_
    refine A_iload dX0_passes_28 rfl ?_
    by_cases q30_1 : wI (N 33 i1 3) = 1
    · replace h := h.1 q30_1
      refine A_tableIn (tgt := 56) dX0_passes_30 q30_1 (by decide) rfl (by decide) ?_
      refine A_lload dX0_passes_56 rfl ?_
      refine A_iload dX0_passes_58 rfl ?_
      refine B_i2l dX0_passes_60 rfl ?_
      refine B_lcmp_ge (tgt := 69) dX0_passes_61 rfl dX0_passes_62 (by decide) rfl rfl ⟨fun q => ?_, fun q => ?_⟩
      · replace h := h.1 q
        refine A_iconst (v := 0) dX0_passes_69 rfl ?_
        exact A_zret dX0_passes_70 (by decide) ⟨rfl, _, rfl, h⟩
      · replace h := h.2 q
        refine A_iconst (v := 1) dX0_passes_65 rfl ?_
        refine A_goto (tgt := 70) dX0_passes_66 (by decide) ?_
        exact A_zret dX0_passes_70 (by decide) ⟨rfl, _, rfl, h⟩
    replace h := h.2
    by_cases q30_2 : wI (N 33 i1 3) = 2
    · replace h := h.1 q30_2
      refine A_tableIn (tgt := 71) dX0_passes_30 q30_2 (by decide) rfl (by decide) ?_
      refine A_lload dX0_passes_71 rfl ?_
      refine A_iload dX0_passes_73 rfl ?_
      refine B_i2l dX0_passes_75 rfl ?_
      refine B_lcmp_ne (tgt := 84) dX0_passes_76 rfl dX0_passes_77 (by decide) rfl rfl ⟨fun q => ?_, fun q => ?_⟩
      · replace h := h.1 q
        refine A_iconst (v := 0) dX0_passes_84 rfl ?_
        exact A_zret dX0_passes_85 (by decide) ⟨rfl, _, rfl, h⟩
      · replace h := h.2 q
        refine A_iconst (v := 1) dX0_passes_80 rfl ?_
        refine A_goto (tgt := 85) dX0_passes_81 (by decide) ?_
        exact A_zret dX0_passes_85 (by decide) ⟨rfl, _, rfl, h⟩
    replace h := h.2
    by_cases q30_3 : wI (N 33 i1 3) = 3
    · replace h := h.1 q30_3
      refine A_tableIn (tgt := 86) dX0_passes_30 q30_3 (by decide) rfl (by decide) ?_
      refine A_lload dX0_passes_86 rfl ?_
      refine A_iload dX0_passes_88 rfl ?_
      refine B_i2l dX0_passes_90 rfl ?_
      refine B_lcmp_lt (tgt := 99) dX0_passes_91 rfl dX0_passes_92 (by decide) rfl rfl ⟨fun q => ?_, fun q => ?_⟩
      · replace h := h.1 q
        refine A_iconst (v := 0) dX0_passes_99 rfl ?_
        exact A_zret dX0_passes_100 (by decide) ⟨rfl, _, rfl, h⟩
      · replace h := h.2 q
        refine A_iconst (v := 1) dX0_passes_95 rfl ?_
        refine A_goto (tgt := 100) dX0_passes_96 (by decide) ?_
        exact A_zret dX0_passes_100 (by decide) ⟨rfl, _, rfl, h⟩
    replace h := h.2
    replace h := h (by omega)
    refine A_tableOut (tgt := 101) dX0_passes_30 (by omega) (by decide) ?_
    refine A_lload dX0_passes_101 rfl ?_
    refine A_iload dX0_passes_103 rfl ?_
    refine B_i2l dX0_passes_105 rfl ?_
    refine B_lcmp_eq (tgt := 114) dX0_passes_106 rfl dX0_passes_107 (by decide) rfl rfl ⟨fun q => ?_, fun q => ?_⟩
    · replace h := h.1 q
      refine A_iconst (v := 0) dX0_passes_114 rfl ?_
      exact A_zret dX0_passes_115 (by decide) ⟨rfl, _, rfl, h⟩
    · replace h := h.2 q
      refine A_iconst (v := 1) dX0_passes_110 rfl ?_
      refine A_goto (tgt := 115) dX0_passes_111 (by decide) ?_
      exact A_zret dX0_passes_115 (by decide) ⟨rfl, _, rfl, h⟩
  · replace h := h.2 q
    refine A_iconst (v := 1) dX0_passes_10 rfl ?_
    exact A_zret dX0_passes_11 (by decide) ⟨rfl, _, rfl, h⟩
set_option maxRecDepth 100000 in
set_option maxHeartbeats 4000000 in
theorem vc_X0_field {G : GT} {i0 : Nat} {a1 : Int} {a2 : Int} {i3 : Nat} {N : NN} {K : Int → NN → Prop} (h_i0 : i0 < 2) (h_i3 : i3 < 62) (h : (((wI a1) = 0 → K ((wI a2)) N) ∧ (((wI a1) = 1 → K ((wI (N 3 i3 9))) N) ∧ (((wI a1) = 2 → (C_X0_lostShare G i0 N (fun x1 N1 => K x1 N1))) ∧ (((wI a1) = 3 → (C_X0_cover G i0 (N 3 i3 7) N (fun x2 N2 => K x2 N2))) ∧ ((wI a1) < 0 ∨ 3 < (wI a1) → (((wI (N 0 i0 5)) = 0 → K 0 N) ∧ (¬ ((wI (N 0 i0 5)) = 0) → K 1 N)))))))) : C_X0_field G i0 a1 a2 i3 N K := by
  refine Ctr.ofAW RX0 false rfl (by decide +kernel) (fun q => by cases q) (Nat.le_of_ble_eq_true rfl) (Nat.le_refl _) ?_
  refine A_iload_n dX0_field_0 rfl rfl ?_
  by_cases q1_0 : wI a1 = 0
  · replace h := h.1 q1_0
    refine A_tableIn (tgt := 32) dX0_field_1 q1_0 (by decide) rfl (by decide) ?_
    refine A_iload_n dX0_field_32 rfl rfl ?_
    refine B_i2l dX0_field_33 rfl ?_
    exact A_lret dX0_field_34 ⟨rfl, _, rfl, h⟩
  replace h := h.2
  by_cases q1_1 : wI a1 = 1
  · replace h := h.1 q1_1
    refine A_tableIn (tgt := 35) dX0_field_1 q1_1 (by decide) rfl (by decide) ?_
    refine A_aload_n dX0_field_35 rfl rfl ?_
    refine A_getI dX0_field_36 fX0_130 rfl (okK3 (by omega)) ?_
    refine B_i2l dX0_field_39 rfl ?_
    exact A_lret dX0_field_40 ⟨rfl, _, rfl, h⟩
  replace h := h.2
  by_cases q1_2 : wI a1 = 2
  · replace h := h.1 q1_2
    refine A_tableIn (tgt := 41) dX0_field_1 q1_2 (by decide) rfl (by decide) ?_
    refine A_aload_n dX0_field_41 rfl rfl ?_
    refine B_callV_L (av := []) rfl dX0_field_42 vX0_92 mX0_lostShare ⟨rfl, rfl, by decide⟩ (okK0 (by omega)) rfl (Nat.le_of_ble_eq_true rfl) (by decide) (by decide) rfl (BC_monoL h (fun x1 N1 h => ?_))
    exact A_lret dX0_field_45 ⟨rfl, _, rfl, h⟩
  replace h := h.2
  by_cases q1_3 : wI a1 = 3
  · replace h := h.1 q1_3
    refine A_tableIn (tgt := 46) dX0_field_1 q1_3 (by decide) rfl (by decide) ?_
    refine A_aload_n dX0_field_46 rfl rfl ?_
    refine A_aload_n dX0_field_47 rfl rfl ?_
    refine A_getL dX0_field_48 fX0_85 rfl (okK3 (by omega)) ?_
    refine B_callV_L (av := [vL (N 3 i3 7)]) rfl dX0_field_51 vX0_133 mX0_cover ⟨rfl, rfl, by decide⟩ (okK0 (by omega)) rfl (Nat.le_of_ble_eq_true rfl) (by decide) (by decide) rfl (BC_monoL h (fun x2 N2 h => ?_))
    exact A_lret dX0_field_54 ⟨rfl, _, rfl, h⟩
  replace h := h.2
  replace h := h (by omega)
  refine A_tableOut (tgt := 55) dX0_field_1 (by omega) (by decide) ?_
  refine A_aload_n dX0_field_55 rfl rfl ?_
  refine A_getI dX0_field_56 fX0_32 rfl (okK0 (by omega)) ?_
  refine B_if_eq (tgt := 66) dX0_field_59 (by decide) rfl ⟨fun q => ?_, fun q => ?_⟩
  · replace h := h.1 q
    refine A_lconst (v := 0) dX0_field_66 (by decide +kernel) ?_
    exact A_lret dX0_field_67 ⟨rfl, _, rfl, h⟩
  · replace h := h.2 q
    refine A_lconst (v := 1) dX0_field_62 (by decide +kernel) ?_
    refine A_goto (tgt := 67) dX0_field_63 (by decide) ?_
    exact A_lret dX0_field_67 ⟨rfl, _, rfl, h⟩
set_option maxRecDepth 100000 in
set_option maxHeartbeats 4000000 in
theorem vc_X0_cover {G : GT} {i0 : Nat} {a1 : Int} {N : NN} {K : Int → NN → Prop} (h_i0 : i0 < 2) (h : (((wI (N 0 i0 1)) ≤ 0 → K 9999 N) ∧ (¬ ((wI (N 0 i0 1)) ≤ 0) → (((wL (N 5 (5 * i0 + 0) 2)) ≤ 0 → K 9999 N) ∧ (¬ ((wL (N 5 (5 * i0 + 0) 2)) ≤ 0) → ((wL (N 5 (5 * i0 + 0) 2)) ≠ 0 ∧ K (min 9999 ((wL (((wL (100 * a1))).tdiv ((wL (N 5 (5 * i0 + 0) 2))))))) N)))))) : C_X0_cover G i0 a1 N K := by
  refine Ctr.ofAW RX0 false rfl (by decide +kernel) (fun q => by cases q) (Nat.le_of_ble_eq_true rfl) (Nat.le_refl _) ?_
  refine A_aload_n dX0_cover_0 rfl rfl ?_
  refine A_getI dX0_cover_1 fX0_52 rfl (okK0 (by omega)) ?_
  refine B_if_le (tgt := 19) dX0_cover_4 (by decide) rfl ⟨fun q => ?_, fun q => ?_⟩
  · replace h := h.1 q
    refine A_lconst (v := 0) dX0_cover_19 (by decide +kernel) ?_
    refine A_lstore_n (ls' := [(3, _), (0, _), (1, _)]) dX0_cover_20 rfl (by decide) rfl ?_
    refine A_lload_n dX0_cover_21 rfl rfl ?_
    refine A_lconst (v := 0) dX0_cover_22 (by decide +kernel) ?_
    refine B_lcmp_le (tgt := 43) dX0_cover_23 rfl dX0_cover_24 (by decide) (wlitL (by decide) (by decide)) (wlitL (by decide) (by decide)) ⟨fun q => ?_, fun q => absurd (by decide) q⟩
    refine A_ldc2 (x := 9999) dX0_cover_43 kX0_140 (by decide +kernel) ?_
    exact A_lret dX0_cover_46 ⟨rfl, _, rfl, h⟩
  · replace h := h.2 q
    refine A_aload_n dX0_cover_7 rfl rfl ?_
    refine A_getR (c2 := 21) (i2 := i0) dX0_cover_8 fX0_11 rfl (okK0 (by omega)) rfl ?_
    refine A_iconst (v := 0) dX0_cover_11 rfl ?_
    refine A_aald (j := 0) (c2 := 5) (i2 := 5 * i0 + 0) dX0_cover_12 (by decide) (by decide) (okK21 (by omega)) (show wI 0 = ((0 : Nat) : Int) from wlitI (by decide) (by decide)) (by decide) rfl ?_
    refine A_getL dX0_cover_13 fX0_137 rfl (okK5 (by omega)) ?_
    refine A_goto (tgt := 20) dX0_cover_16 (by decide) ?_
    refine A_lstore_n (ls' := [(3, _), (0, _), (1, _)]) dX0_cover_20 rfl (by decide) rfl ?_
    refine A_lload_n dX0_cover_21 rfl rfl ?_
    refine A_lconst (v := 0) dX0_cover_22 (by decide +kernel) ?_
    refine B_lcmp_le (tgt := 43) dX0_cover_23 rfl dX0_cover_24 (by decide) rfl (wlitL (by decide) (by decide)) ⟨fun q => ?_, fun q => ?_⟩
    · replace h := h.1 q
      refine A_ldc2 (x := 9999) dX0_cover_43 kX0_140 (by decide +kernel) ?_
      exact A_lret dX0_cover_46 ⟨rfl, _, rfl, h⟩
    · replace h := h.2 q
      refine A_ldc2 (x := 9999) dX0_cover_27 kX0_140 (by decide +kernel) ?_
      refine A_ldc2 (x := 100) dX0_cover_30 kX0_142 (by decide +kernel) ?_
      refine A_lload_n dX0_cover_33 rfl rfl ?_
      refine A_lmul dX0_cover_34 ?_
      refine A_lload_n dX0_cover_35 rfl rfl ?_
      refine B_ldiv dX0_cover_36 rfl rfl h.1 ?_
      replace h := h.2
      refine B_minL dX0_cover_37 mmX0_116 (wlitL (by decide) (by decide)) rfl (Nat.le_of_ble_eq_true rfl) rfl ⟨rfl, rfl⟩ ?_
      refine A_goto (tgt := 46) dX0_cover_40 (by decide) ?_
      exact A_lret dX0_cover_46 ⟨rfl, _, rfl, h⟩
set_option maxRecDepth 100000 in
set_option maxHeartbeats 4000000 in
theorem vc_X0_wish {G : GT} {i0 : Nat} {i1 : Nat} {i2 : Nat} {a3 : Int} {N : NN} {K : Int → NN → Prop} (h_i0 : i0 < 2) (h_i1 : i1 < 60) (h_i2 : i2 < 62) (h : (C_X0_paperOf G i0 i1 N (fun x1 N1 => ((x1 = none → (((wI (N1 33 i1 0)) = 0 → K (((wL ((N1 3 i2 6) * ((wI (N 33 i1 2)))))).tdiv 10000) N1) ∧ (((wI (N1 33 i1 0)) = 1 → K 0 N1) ∧ (((wI (N1 33 i1 0)) = 2 → K 0 N1) ∧ (((wI (N1 33 i1 0)) = 3 → K 0 N1) ∧ (((wI (N1 33 i1 0)) = 4 → K (max 0 ((wL (((wI (N 33 i1 2))) - (N1 0 i0 4))))) N1) ∧ ((wI (N1 33 i1 0)) < 0 ∨ 4 < (wI (N1 33 i1 0)) → K a3 N1))))))) ∧ (∀ x1_ : Nat, x1 = some x1_ → (((wI (N1 33 i1 0)) = 0 → K (((wL ((N1 3 i2 6) * ((wI (N 33 i1 2)))))).tdiv 10000) N1) ∧ (((wI (N1 33 i1 0)) = 1 → K (N1 5 x1_ 8) N1) ∧ (((wI (N1 33 i1 0)) = 2 → K (N1 5 x1_ 2) N1) ∧ (((wI (N1 33 i1 0)) = 3 → K (min ((wL (N1 5 x1_ 2))) ((wL (((wL ((N1 3 i2 1) * ((wI (N 33 i1 2)))))).tdiv 100)))) N1) ∧ (((wI (N1 33 i1 0)) = 4 → K (max 0 ((wL (((wI (N 33 i1 2))) - (N1 0 i0 4))))) N1) ∧ ((wI (N1 33 i1 0)) < 0 ∨ 4 < (wI (N1 33 i1 0)) → K a3 N1))))))))))) : C_X0_wish G i0 i1 i2 a3 N K := by
  refine Ctr.ofAW RX0 false rfl (by decide +kernel) (fun q => by cases q) (Nat.le_of_ble_eq_true rfl) (Nat.le_refl _) ?_
  refine A_aload_n dX0_wish_0 rfl rfl ?_
  refine A_iconst (v := 2) dX0_wish_1 rfl ?_
  refine A_iald (j := 2) dX0_wish_2 (by decide) rfl (okK33 (by omega)) (show wI 2 = ((2 : Nat) : Int) from wlitI (by decide) (by decide)) (by decide) ?_
  refine A_istore (ls' := [(5, _), (0, _), (1, _), (2, _), (3, _)]) dX0_wish_3 (by decide) rfl ?_
  refine A_aload_n dX0_wish_5 rfl rfl ?_
  refine A_aload_n dX0_wish_6 rfl rfl ?_
  refine B_callV_O (av := [vR 33 i1]) rfl dX0_wish_7 vX0_144 mX0_paperOf ⟨rfl, rfl, by decide⟩ (okK0 (by omega)) rfl (Nat.le_of_ble_eq_true rfl) (by decide) (by decide) rfl (BC_monoO h (fun x1 N1 bx1 h => ?_))
  cases x1 with
  | none =>
    replace h := h.1 rfl
    refine A_astoreN (ls' := [(6, _), (5, _), (0, _), (1, _), (2, _), (3, _)]) dX0_wish_10 (by decide) rfl ?_
    refine A_aload_n dX0_wish_12 rfl rfl ?_
    refine A_iconst (v := 0) dX0_wish_13 rfl ?_
    refine A_iald (j := 0) dX0_wish_14 (by decide) rfl (okK33 (by omega)) (show wI 0 = ((0 : Nat) : Int) from wlitI (by decide) (by decide)) (by decide) ?_
    by_cases q15_0 : wI (N1 33 i1 0) = 0
    · replace h := h.1 q15_0
      refine A_tableIn (tgt := 48) dX0_wish_15 q15_0 (by decide) rfl (by decide) ?_
      refine A_aload_n dX0_wish_48 rfl rfl ?_
      refine A_getL dX0_wish_49 fX0_55 rfl (okK3 (by omega)) ?_
      refine A_iload dX0_wish_52 rfl ?_
      refine B_i2l dX0_wish_54 rfl ?_
      refine A_lmul dX0_wish_55 ?_
      refine A_ldc2 (x := 10000) dX0_wish_56 kX0_148 (by decide +kernel) ?_
      refine B_ldiv dX0_wish_59 rfl (wlitL (by decide) (by decide)) (by decide) ?_
      exact A_lret dX0_wish_60 ⟨rfl, _, rfl, h⟩
    replace h := h.2
    by_cases q15_1 : wI (N1 33 i1 0) = 1
    · replace h := h.1 q15_1
      refine A_tableIn (tgt := 61) dX0_wish_15 q15_1 (by decide) rfl (by decide) ?_
      refine A_aloadN dX0_wish_61 rfl ?_
      refine A_ifnonnullN dX0_wish_63 ?_
      refine A_lconst (v := 0) dX0_wish_66 (by decide +kernel) ?_
      refine A_goto (tgt := 75) dX0_wish_67 (by decide) ?_
      exact A_lret dX0_wish_75 ⟨rfl, _, rfl, h⟩
    replace h := h.2
    by_cases q15_2 : wI (N1 33 i1 0) = 2
    · replace h := h.1 q15_2
      refine A_tableIn (tgt := 76) dX0_wish_15 q15_2 (by decide) rfl (by decide) ?_
      refine A_aloadN dX0_wish_76 rfl ?_
      refine A_ifnonnullN dX0_wish_78 ?_
      refine A_lconst (v := 0) dX0_wish_81 (by decide +kernel) ?_
      refine A_goto (tgt := 90) dX0_wish_82 (by decide) ?_
      exact A_lret dX0_wish_90 ⟨rfl, _, rfl, h⟩
    replace h := h.2
    by_cases q15_3 : wI (N1 33 i1 0) = 3
    · replace h := h.1 q15_3
      refine A_tableIn (tgt := 91) dX0_wish_15 q15_3 (by decide) rfl (by decide) ?_
      refine A_aloadN dX0_wish_91 rfl ?_
      refine A_ifnonnullN dX0_wish_93 ?_
      refine A_lconst (v := 0) dX0_wish_96 (by decide +kernel) ?_
      refine A_goto (tgt := 120) dX0_wish_97 (by decide) ?_
      exact A_lret dX0_wish_120 ⟨rfl, _, rfl, h⟩
    replace h := h.2
    by_cases q15_4 : wI (N1 33 i1 0) = 4
    · replace h := h.1 q15_4
      refine A_tableIn (tgt := 121) dX0_wish_15 q15_4 (by decide) rfl (by decide) ?_
      refine A_lconst (v := 0) dX0_wish_121 (by decide +kernel) ?_
      refine A_iload dX0_wish_122 rfl ?_
      refine B_i2l dX0_wish_124 rfl ?_
      refine A_aload_n dX0_wish_125 rfl rfl ?_
      refine A_getL dX0_wish_126 fX0_28 rfl (okK0 (by omega)) ?_
      refine A_lsub dX0_wish_129 ?_
      refine B_maxL dX0_wish_130 mmX0_156 (wlitL (by decide) (by decide)) rfl (Nat.le_of_ble_eq_true rfl) rfl ⟨rfl, rfl⟩ ?_
      exact A_lret dX0_wish_133 ⟨rfl, _, rfl, h⟩
    replace h := h.2
    replace h := h (by omega)
    refine A_tableOut (tgt := 134) dX0_wish_15 (by omega) (by decide) ?_
    refine A_lload_n dX0_wish_134 rfl rfl ?_
    exact A_lret dX0_wish_135 ⟨rfl, _, rfl, h⟩
  | some x1 =>
    replace h := h.2 _ rfl
    replace bx1 := bx1 _ rfl
    refine A_astore (ls' := [(6, _), (5, _), (0, _), (1, _), (2, _), (3, _)]) dX0_wish_10 (by decide) rfl ?_
    refine A_aload_n dX0_wish_12 rfl rfl ?_
    refine A_iconst (v := 0) dX0_wish_13 rfl ?_
    refine A_iald (j := 0) dX0_wish_14 (by decide) rfl (okK33 (by omega)) (show wI 0 = ((0 : Nat) : Int) from wlitI (by decide) (by decide)) (by decide) ?_
    by_cases q15_0 : wI (N1 33 i1 0) = 0
    · replace h := h.1 q15_0
      refine A_tableIn (tgt := 48) dX0_wish_15 q15_0 (by decide) rfl (by decide) ?_
      refine A_aload_n dX0_wish_48 rfl rfl ?_
      refine A_getL dX0_wish_49 fX0_55 rfl (okK3 (by omega)) ?_
      refine A_iload dX0_wish_52 rfl ?_
      refine B_i2l dX0_wish_54 rfl ?_
      refine A_lmul dX0_wish_55 ?_
      refine A_ldc2 (x := 10000) dX0_wish_56 kX0_148 (by decide +kernel) ?_
      refine B_ldiv dX0_wish_59 rfl (wlitL (by decide) (by decide)) (by decide) ?_
      exact A_lret dX0_wish_60 ⟨rfl, _, rfl, h⟩
    replace h := h.2
    by_cases q15_1 : wI (N1 33 i1 0) = 1
    · replace h := h.1 q15_1
      refine A_tableIn (tgt := 61) dX0_wish_15 q15_1 (by decide) rfl (by decide) ?_
      refine A_aload dX0_wish_61 rfl ?_
      refine A_ifnonnull (tgt := 70) dX0_wish_63 (by decide) ?_
      refine A_aload dX0_wish_70 rfl ?_
      refine A_getL dX0_wish_72 fX0_150 rfl (okK5 (by omega)) ?_
      exact A_lret dX0_wish_75 ⟨rfl, _, rfl, h⟩
    replace h := h.2
    by_cases q15_2 : wI (N1 33 i1 0) = 2
    · replace h := h.1 q15_2
      refine A_tableIn (tgt := 76) dX0_wish_15 q15_2 (by decide) rfl (by decide) ?_
      refine A_aload dX0_wish_76 rfl ?_
      refine A_ifnonnull (tgt := 85) dX0_wish_78 (by decide) ?_
      refine A_aload dX0_wish_85 rfl ?_
      refine A_getL dX0_wish_87 fX0_137 rfl (okK5 (by omega)) ?_
      exact A_lret dX0_wish_90 ⟨rfl, _, rfl, h⟩
    replace h := h.2
    by_cases q15_3 : wI (N1 33 i1 0) = 3
    · replace h := h.1 q15_3
      refine A_tableIn (tgt := 91) dX0_wish_15 q15_3 (by decide) rfl (by decide) ?_
      refine A_aload dX0_wish_91 rfl ?_
      refine A_ifnonnull (tgt := 100) dX0_wish_93 (by decide) ?_
      refine A_aload dX0_wish_100 rfl ?_
      refine A_getL dX0_wish_102 fX0_137 rfl (okK5 (by omega)) ?_
      refine A_aload_n dX0_wish_105 rfl rfl ?_
      refine A_getL dX0_wish_106 fX0_153 rfl (okK3 (by omega)) ?_
      refine A_iload dX0_wish_109 rfl ?_
      refine B_i2l dX0_wish_111 rfl ?_
      refine A_lmul dX0_wish_112 ?_
      refine A_ldc2 (x := 100) dX0_wish_113 kX0_142 (by decide +kernel) ?_
      refine B_ldiv dX0_wish_116 rfl (wlitL (by decide) (by decide)) (by decide) ?_
      refine B_minL dX0_wish_117 mmX0_116 rfl rfl (Nat.le_of_ble_eq_true rfl) rfl ⟨rfl, rfl⟩ ?_
      exact A_lret dX0_wish_120 ⟨rfl, _, rfl, h⟩
    replace h := h.2
    by_cases q15_4 : wI (N1 33 i1 0) = 4
    · replace h := h.1 q15_4
      refine A_tableIn (tgt := 121) dX0_wish_15 q15_4 (by decide) rfl (by decide) ?_
      refine A_lconst (v := 0) dX0_wish_121 (by decide +kernel) ?_
      refine A_iload dX0_wish_122 rfl ?_
      refine B_i2l dX0_wish_124 rfl ?_
      refine A_aload_n dX0_wish_125 rfl rfl ?_
      refine A_getL dX0_wish_126 fX0_28 rfl (okK0 (by omega)) ?_
      refine A_lsub dX0_wish_129 ?_
      refine B_maxL dX0_wish_130 mmX0_156 (wlitL (by decide) (by decide)) rfl (Nat.le_of_ble_eq_true rfl) rfl ⟨rfl, rfl⟩ ?_
      exact A_lret dX0_wish_133 ⟨rfl, _, rfl, h⟩
    replace h := h.2
    replace h := h (by omega)
    refine A_tableOut (tgt := 134) dX0_wish_15 (by omega) (by decide) ?_
    refine A_lload_n dX0_wish_134 rfl rfl ?_
    exact A_lret dX0_wish_135 ⟨rfl, _, rfl, h⟩
set_option maxRecDepth 100000 in
set_option maxHeartbeats 4000000 in
theorem vc_X0_give {G : GT} {i0 : Nat} {i1 : Nat} {a2 : Int} {a3 : Int} {N : NN} {K : NN → Prop} (h_i0 : i0 < 2) (h_i1 : i1 < 60) (h : (C_X0_paperOf G i0 i1 N (fun x1 N1 => ((x1 = none → (((wI (N1 33 i1 0)) = 1 → K N1) ∧ (((wI (N1 33 i1 0)) = 2 → K N1) ∧ (((wI (N1 33 i1 0)) = 3 → K N1) ∧ (((wI (N1 33 i1 0)) = 4 → (∀ M2 : NN, M2 = up3 N1 0 i0 4 ((N1 0 i0 4) + a2) → K M2)) ∧ (((wI (N1 33 i1 0)) = 5 → (∀ M3 : NN, M3 = up3 N1 0 i0 9 ((N1 0 i0 9) + a2) → K M3)) ∧ ((wI (N1 33 i1 0)) < 1 ∨ 5 < (wI (N1 33 i1 0)) → K N1))))))) ∧ (∀ x1_ : Nat, x1 = some x1_ → (((wI (N1 33 i1 0)) = 1 → (C_X5_payInterest G x1_ a2 N1 (fun N4 => K N4))) ∧ (((wI (N1 33 i1 0)) = 2 → (C_X5_payPrincipal G x1_ a2 a3 N1 (fun N5 => K N5))) ∧ (((wI (N1 33 i1 0)) = 3 → (C_X5_payPrincipal G x1_ a2 a3 N1 (fun N6 => K N6))) ∧ (((wI (N1 33 i1 0)) = 4 → (∀ M7 : NN, M7 = up3 N1 0 i0 4 ((N1 0 i0 4) + a2) → K M7)) ∧ (((wI (N1 33 i1 0)) = 5 → (∀ M8 : NN, M8 = up3 N1 0 i0 9 ((N1 0 i0 9) + a2) → K M8)) ∧ ((wI (N1 33 i1 0)) < 1 ∨ 5 < (wI (N1 33 i1 0)) → K N1))))))))))) : C_X0_give G i0 i1 a2 a3 N K := by
  refine Ctr.ofAW RX0 false rfl (by decide +kernel) (fun q => by cases q) (Nat.le_of_ble_eq_true rfl) (Nat.le_refl _) ?_
  refine A_aload_n dX0_give_0 rfl rfl ?_
  refine A_aload_n dX0_give_1 rfl rfl ?_
  refine B_callV_O (av := [vR 33 i1]) rfl dX0_give_2 vX0_144 mX0_paperOf ⟨rfl, rfl, by decide⟩ (okK0 (by omega)) rfl (Nat.le_of_ble_eq_true rfl) (by decide) (by decide) rfl (BC_monoO h (fun x1 N1 bx1 h => ?_))
  cases x1 with
  | none =>
    replace h := h.1 rfl
    refine A_astoreN (ls' := [(5, _), (0, _), (1, _), (2, _), (4, _)]) dX0_give_5 (by decide) rfl ?_
    refine A_aload_n dX0_give_7 rfl rfl ?_
    refine A_iconst (v := 0) dX0_give_8 rfl ?_
    refine A_iald (j := 0) dX0_give_9 (by decide) rfl (okK33 (by omega)) (show wI 0 = ((0 : Nat) : Int) from wlitI (by decide) (by decide)) (by decide) ?_
    by_cases q10_1 : wI (N1 33 i1 0) = 1
    · replace h := h.1 q10_1
      refine A_tableIn (tgt := 70) dX0_give_10 q10_1 (by decide) rfl (by decide) ?_
      refine A_aloadN dX0_give_70 rfl ?_
      refine A_ifnullN (tgt := 100) dX0_give_72 (by decide) ?_
      exact A_vret dX0_give_100 ⟨rfl, rfl, h⟩
    replace h := h.2
    by_cases q10_2 : wI (N1 33 i1 0) = 2
    · replace h := h.1 q10_2
      refine A_tableIn (tgt := 84) dX0_give_10 q10_2 (by decide) rfl (by decide) ?_
      refine A_aloadN dX0_give_84 rfl ?_
      refine A_ifnullN (tgt := 100) dX0_give_86 (by decide) ?_
      exact A_vret dX0_give_100 ⟨rfl, rfl, h⟩
    replace h := h.2
    by_cases q10_3 : wI (N1 33 i1 0) = 3
    · replace h := h.1 q10_3
      refine A_tableIn (tgt := 84) dX0_give_10 q10_3 (by decide) rfl (by decide) ?_
      refine A_aloadN dX0_give_84 rfl ?_
      refine A_ifnullN (tgt := 100) dX0_give_86 (by decide) ?_
      exact A_vret dX0_give_100 ⟨rfl, rfl, h⟩
    replace h := h.2
    by_cases q10_4 : wI (N1 33 i1 0) = 4
    · replace h := h.1 q10_4
      refine A_tableIn (tgt := 44) dX0_give_10 q10_4 (by decide) rfl (by decide) ?_
      refine A_aload_n dX0_give_44 rfl rfl ?_
      refine A_dup dX0_give_45 rfl ?_
      refine A_getL dX0_give_46 fX0_28 rfl (okK0 (by omega)) ?_
      refine A_lload_n dX0_give_49 rfl rfl ?_
      refine A_ladd dX0_give_50 ?_
      refine B_putL dX0_give_51 fX0_28 (by decide) (okK0 (by omega)) (fun M2 eM2 => ?_)
      replace h := h M2 eM2
      refine A_goto (tgt := 100) dX0_give_54 (by decide) ?_
      exact A_vret dX0_give_100 ⟨rfl, rfl, h⟩
    replace h := h.2
    by_cases q10_5 : wI (N1 33 i1 0) = 5
    · replace h := h.1 q10_5
      refine A_tableIn (tgt := 57) dX0_give_10 q10_5 (by decide) rfl (by decide) ?_
      refine A_aload_n dX0_give_57 rfl rfl ?_
      refine A_dup dX0_give_58 rfl ?_
      refine A_getL dX0_give_59 fX0_45 rfl (okK0 (by omega)) ?_
      refine A_lload_n dX0_give_62 rfl rfl ?_
      refine A_ladd dX0_give_63 ?_
      refine B_putL dX0_give_64 fX0_45 (by decide) (okK0 (by omega)) (fun M3 eM3 => ?_)
      replace h := h M3 eM3
      refine A_goto (tgt := 100) dX0_give_67 (by decide) ?_
      exact A_vret dX0_give_100 ⟨rfl, rfl, h⟩
    replace h := h.2
    replace h := h (by omega)
    refine A_tableOut (tgt := 100) dX0_give_10 (by omega) (by decide) ?_
    exact A_vret dX0_give_100 ⟨rfl, rfl, h⟩
  | some x1 =>
    replace h := h.2 _ rfl
    replace bx1 := bx1 _ rfl
    refine A_astore (ls' := [(5, _), (0, _), (1, _), (2, _), (4, _)]) dX0_give_5 (by decide) rfl ?_
    refine A_aload_n dX0_give_7 rfl rfl ?_
    refine A_iconst (v := 0) dX0_give_8 rfl ?_
    refine A_iald (j := 0) dX0_give_9 (by decide) rfl (okK33 (by omega)) (show wI 0 = ((0 : Nat) : Int) from wlitI (by decide) (by decide)) (by decide) ?_
    by_cases q10_1 : wI (N1 33 i1 0) = 1
    · replace h := h.1 q10_1
      refine A_tableIn (tgt := 70) dX0_give_10 q10_1 (by decide) rfl (by decide) ?_
      refine A_aload dX0_give_70 rfl ?_
      refine A_ifnull dX0_give_72 ?_
      refine A_aload dX0_give_75 rfl ?_
      refine A_lload_n dX0_give_77 rfl rfl ?_
      refine B_callV_V (av := [vL a2]) rfl dX0_give_78 vX0_159 mX5_payInterest ⟨rfl, rfl, by decide⟩ (okK5 (by omega)) rfl (Nat.le_of_ble_eq_true rfl) (by decide) (by decide) rfl (BC_monoV h (fun N4 h => ?_))
      refine A_goto (tgt := 100) dX0_give_81 (by decide) ?_
      exact A_vret dX0_give_100 ⟨rfl, rfl, h⟩
    replace h := h.2
    by_cases q10_2 : wI (N1 33 i1 0) = 2
    · replace h := h.1 q10_2
      refine A_tableIn (tgt := 84) dX0_give_10 q10_2 (by decide) rfl (by decide) ?_
      refine A_aload dX0_give_84 rfl ?_
      refine A_ifnull dX0_give_86 ?_
      refine A_aload dX0_give_89 rfl ?_
      refine A_lload_n dX0_give_91 rfl rfl ?_
      refine A_iload dX0_give_92 rfl ?_
      refine B_callV_V (av := [vL a2, vI a3]) rfl dX0_give_94 vX0_162 mX5_payPrincipal ⟨rfl, rfl, by decide⟩ (okK5 (by omega)) rfl (Nat.le_of_ble_eq_true rfl) (by decide) (by decide) rfl (BC_monoV h (fun N5 h => ?_))
      refine A_goto (tgt := 100) dX0_give_97 (by decide) ?_
      exact A_vret dX0_give_100 ⟨rfl, rfl, h⟩
    replace h := h.2
    by_cases q10_3 : wI (N1 33 i1 0) = 3
    · replace h := h.1 q10_3
      refine A_tableIn (tgt := 84) dX0_give_10 q10_3 (by decide) rfl (by decide) ?_
      refine A_aload dX0_give_84 rfl ?_
      refine A_ifnull dX0_give_86 ?_
      refine A_aload dX0_give_89 rfl ?_
      refine A_lload_n dX0_give_91 rfl rfl ?_
      refine A_iload dX0_give_92 rfl ?_
      refine B_callV_V (av := [vL a2, vI a3]) rfl dX0_give_94 vX0_162 mX5_payPrincipal ⟨rfl, rfl, by decide⟩ (okK5 (by omega)) rfl (Nat.le_of_ble_eq_true rfl) (by decide) (by decide) rfl (BC_monoV h (fun N6 h => ?_))
      refine A_goto (tgt := 100) dX0_give_97 (by decide) ?_
      exact A_vret dX0_give_100 ⟨rfl, rfl, h⟩
    replace h := h.2
    by_cases q10_4 : wI (N1 33 i1 0) = 4
    · replace h := h.1 q10_4
      refine A_tableIn (tgt := 44) dX0_give_10 q10_4 (by decide) rfl (by decide) ?_
      refine A_aload_n dX0_give_44 rfl rfl ?_
      refine A_dup dX0_give_45 rfl ?_
      refine A_getL dX0_give_46 fX0_28 rfl (okK0 (by omega)) ?_
      refine A_lload_n dX0_give_49 rfl rfl ?_
      refine A_ladd dX0_give_50 ?_
      refine B_putL dX0_give_51 fX0_28 (by decide) (okK0 (by omega)) (fun M7 eM7 => ?_)
      replace h := h M7 eM7
      refine A_goto (tgt := 100) dX0_give_54 (by decide) ?_
      exact A_vret dX0_give_100 ⟨rfl, rfl, h⟩
    replace h := h.2
    by_cases q10_5 : wI (N1 33 i1 0) = 5
    · replace h := h.1 q10_5
      refine A_tableIn (tgt := 57) dX0_give_10 q10_5 (by decide) rfl (by decide) ?_
      refine A_aload_n dX0_give_57 rfl rfl ?_
      refine A_dup dX0_give_58 rfl ?_
      refine A_getL dX0_give_59 fX0_45 rfl (okK0 (by omega)) ?_
      refine A_lload_n dX0_give_62 rfl rfl ?_
      refine A_ladd dX0_give_63 ?_
      refine B_putL dX0_give_64 fX0_45 (by decide) (okK0 (by omega)) (fun M8 eM8 => ?_)
      replace h := h M8 eM8
      refine A_goto (tgt := 100) dX0_give_67 (by decide) ?_
      exact A_vret dX0_give_100 ⟨rfl, rfl, h⟩
    replace h := h.2
    replace h := h (by omega)
    refine A_tableOut (tgt := 100) dX0_give_10 (by omega) (by decide) ?_
    exact A_vret dX0_give_100 ⟨rfl, rfl, h⟩
set_option maxRecDepth 100000 in
set_option maxHeartbeats 4000000 in
theorem vc_X0_paperOf {G : GT} {i0 : Nat} {i1 : Nat} {N : NN} {K : Option Nat → NN → Prop} (h_i0 : i0 < 2) (h_i1 : i1 < 60) (h : (((wI (N 33 i1 1)) < 0 → K none N) ∧ (¬ ((wI (N 33 i1 1)) < 0) → (((wI (N 0 i0 1)) ≤ (wI (N 33 i1 1)) → K none N) ∧ (¬ ((wI (N 0 i0 1)) ≤ (wI (N 33 i1 1))) → (∃ j1 : Nat, (wI (N 33 i1 1)) = (j1 : Int) ∧ j1 < 5 ∧ (5 * i0 + j1 < 10 ∧ K (some (5 * i0 + j1)) N))))))) : C_X0_paperOf G i0 i1 N K := by
  refine Ctr.ofAW RX0 false rfl (by decide +kernel) (fun q => by cases q) (Nat.le_of_ble_eq_true rfl) (Nat.le_refl _) ?_
  refine A_aload_n dX0_paperOf_0 rfl rfl ?_
  refine A_iconst (v := 1) dX0_paperOf_1 rfl ?_
  refine A_iald (j := 1) dX0_paperOf_2 (by decide) rfl (okK33 (by omega)) (show wI 1 = ((1 : Nat) : Int) from wlitI (by decide) (by decide)) (by decide) ?_
  refine A_istore_n (ls' := [(2, _), (0, _), (1, _)]) dX0_paperOf_3 rfl (by decide) rfl ?_
  refine A_iload_n dX0_paperOf_4 rfl rfl ?_
  refine B_if_lt (tgt := 25) dX0_paperOf_5 (by decide) rfl ⟨fun q => ?_, fun q => ?_⟩
  · replace h := h.1 q
    refine A_null dX0_paperOf_25 ?_
    exact A_aret (r := none) dX0_paperOf_26 ⟨rfl, none, rfl, (fun i q => by cases q), h⟩
  · replace h := h.2 q
    refine A_iload_n dX0_paperOf_8 rfl rfl ?_
    refine A_aload_n dX0_paperOf_9 rfl rfl ?_
    refine A_getI dX0_paperOf_10 fX0_52 rfl (okK0 (by omega)) ?_
    refine B_icmp_ge (tgt := 25) dX0_paperOf_13 (by decide) rfl rfl ⟨fun q => ?_, fun q => ?_⟩
    · replace h := h.1 q
      refine A_null dX0_paperOf_25 ?_
      exact A_aret (r := none) dX0_paperOf_26 ⟨rfl, none, rfl, (fun i q => by cases q), h⟩
    · replace h := h.2 q
      refine A_aload_n dX0_paperOf_16 rfl rfl ?_
      refine A_getR (c2 := 21) (i2 := i0) dX0_paperOf_17 fX0_11 rfl (okK0 (by omega)) rfl ?_
      refine A_iload_n dX0_paperOf_20 rfl rfl ?_
      obtain ⟨j1, qj1, bj1, h⟩ := h
      refine A_aald (j := j1) (c2 := 5) (i2 := 5 * i0 + j1) dX0_paperOf_21 (by decide) (by decide) (okK21 (by omega)) qj1 bj1 rfl ?_
      refine A_goto (tgt := 26) dX0_paperOf_22 (by decide) ?_
      exact A_aret dX0_paperOf_26 ⟨rfl, some _, rfl, (fun i q => by cases q; exact h.1), h.2⟩
set_option maxRecDepth 100000 in
set_option maxHeartbeats 4000000 in
theorem vc_X0_writeDown {G : GT} {i0 : Nat} {a1 : Int} {N : NN} {K : NN → Prop} (h_i0 : i0 < 2) (h : W_X0_writeDown G K 11 [(0, vR 0 i0), (3, vL (((-a1)) - (N 0 i0 4))), (5, vI 0)] [] N) : C_X0_writeDown G i0 a1 N K := by
  refine Ctr.ofAW RX0 false rfl (by decide +kernel) (fun q => by cases q) (Nat.le_of_ble_eq_true rfl) (Nat.le_refl _) ?_
  refine A_lload_n dX0_writeDown_0 rfl rfl ?_
  refine A_lneg dX0_writeDown_1 ?_
  refine A_aload_n dX0_writeDown_2 rfl rfl ?_
  refine A_getL dX0_writeDown_3 fX0_28 rfl (okK0 (by omega)) ?_
  refine A_lsub dX0_writeDown_6 ?_
  refine A_lstore_n (ls' := [(3, _), (0, _), (1, _)]) dX0_writeDown_7 rfl (by decide) rfl ?_
  refine A_iconst (v := 0) dX0_writeDown_8 rfl ?_
  refine A_istore (ls' := [(5, _), (3, _), (0, _), (1, _)]) dX0_writeDown_9 (by decide) rfl ?_
  exact A_pick [2, 1, 0] rfl h
set_option maxRecDepth 100000 in
set_option maxHeartbeats 4000000 in
theorem vc_X0_writeDown_11 {G : GT} {i0 : Nat} {l3 : Int} {l5 : Int} {N : NN} {K : NN → Prop} (h_i0 : i0 < 2) (h : (((wI (N 0 i0 1)) ≤ (wI l5) → W_X0_writeDown G K 47 [(0, vR 0 i0), (3, vL l3), (5, vI ((N 0 i0 1) - 1))] [] N) ∧ (¬ ((wI (N 0 i0 1)) ≤ (wI l5)) → (∃ j1 : Nat, (wI l5) = (j1 : Int) ∧ j1 < 5 ∧ W_X0_writeDown G K 11 [(0, vR 0 i0), (3, vL (l3 + (N 5 (5 * i0 + j1) 2))), (5, vI (l5 + 1))] [] N)))) : W_X0_writeDown G K 11 [(0, vR 0 i0), (3, vL l3), (5, vI l5)] [] N := by
  refine A_iload dX0_writeDown_11 rfl ?_
  refine A_aload_n dX0_writeDown_13 rfl rfl ?_
  refine A_getI dX0_writeDown_14 fX0_52 rfl (okK0 (by omega)) ?_
  refine B_icmp_ge (tgt := 39) dX0_writeDown_17 (by decide) rfl rfl ⟨fun q => ?_, fun q => ?_⟩
  · replace h := h.1 q
    refine A_aload_n dX0_writeDown_39 rfl rfl ?_
    refine A_getI dX0_writeDown_40 fX0_52 rfl (okK0 (by omega)) ?_
    refine A_iconst (v := 1) dX0_writeDown_43 rfl ?_
    refine A_isub dX0_writeDown_44 ?_
    refine A_istore (ls' := [(5, _), (0, _), (3, _)]) dX0_writeDown_45 (by decide) rfl ?_
    exact A_pick [1, 2, 0] rfl h
  · replace h := h.2 q
    refine A_lload_n dX0_writeDown_20 rfl rfl ?_
    refine A_aload_n dX0_writeDown_21 rfl rfl ?_
    refine A_getR (c2 := 21) (i2 := i0) dX0_writeDown_22 fX0_11 rfl (okK0 (by omega)) rfl ?_
    refine A_iload dX0_writeDown_25 rfl ?_
    obtain ⟨j1, qj1, bj1, h⟩ := h
    refine A_aald (j := j1) (c2 := 5) (i2 := 5 * i0 + j1) dX0_writeDown_27 (by decide) (by decide) (okK21 (by omega)) qj1 bj1 rfl ?_
    refine A_getL dX0_writeDown_28 fX0_137 rfl (okK5 (by omega)) ?_
    refine A_ladd dX0_writeDown_31 ?_
    refine A_lstore_n (ls' := [(3, _), (0, _), (5, _)]) dX0_writeDown_32 rfl (by decide) rfl ?_
    refine A_iinc (ls' := [(5, _), (3, _), (0, _)]) dX0_writeDown_33 (by decide) rfl rfl rfl ?_
    refine A_goto (tgt := 11) dX0_writeDown_36 (by decide) ?_
    exact A_pick [2, 1, 0] rfl h
set_option maxRecDepth 100000 in
set_option maxHeartbeats 4000000 in
theorem vc_X0_writeDown_47 {G : GT} {i0 : Nat} {l3 : Int} {l5 : Int} {N : NN} {K : NN → Prop} (h_i0 : i0 < 2) (h : (((wI l5) < 0 → K N) ∧ (¬ ((wI l5) < 0) → (((wL l3) ≤ 0 → K N) ∧ (¬ ((wL l3) ≤ 0) → (∃ j1 : Nat, (wI l5) = (j1 : Int) ∧ j1 < 5 ∧ (∃ j2 : Nat, (wI l5) = (j2 : Int) ∧ j2 < 5 ∧ (C_X5_writeDown G (5 * i0 + j2) (min ((wL l3)) ((wL (N 5 (5 * i0 + j1) 2)))) N (fun N3 => W_X0_writeDown G K 47 [(0, vR 0 i0), (3, vL (l3 - (min ((wL l3)) ((wL (N 5 (5 * i0 + j1) 2)))))), (5, vI (l5 + (-1)))] [] N3))))))))) : W_X0_writeDown G K 47 [(0, vR 0 i0), (3, vL l3), (5, vI l5)] [] N := by
  refine A_iload dX0_writeDown_47 rfl ?_
  refine B_if_lt (tgt := 97) dX0_writeDown_49 (by decide) rfl ⟨fun q => ?_, fun q => ?_⟩
  · replace h := h.1 q
    exact A_vret dX0_writeDown_97 ⟨rfl, rfl, h⟩
  · replace h := h.2 q
    refine A_lload_n dX0_writeDown_52 rfl rfl ?_
    refine A_lconst (v := 0) dX0_writeDown_53 (by decide +kernel) ?_
    refine B_lcmp_le (tgt := 97) dX0_writeDown_54 rfl dX0_writeDown_55 (by decide) rfl (wlitL (by decide) (by decide)) ⟨fun q => ?_, fun q => ?_⟩
    · replace h := h.1 q
      exact A_vret dX0_writeDown_97 ⟨rfl, rfl, h⟩
    · replace h := h.2 q
      refine A_lload_n dX0_writeDown_58 rfl rfl ?_
      refine A_aload_n dX0_writeDown_59 rfl rfl ?_
      refine A_getR (c2 := 21) (i2 := i0) dX0_writeDown_60 fX0_11 rfl (okK0 (by omega)) rfl ?_
      refine A_iload dX0_writeDown_63 rfl ?_
      obtain ⟨j1, qj1, bj1, h⟩ := h
      refine A_aald (j := j1) (c2 := 5) (i2 := 5 * i0 + j1) dX0_writeDown_65 (by decide) (by decide) (okK21 (by omega)) qj1 bj1 rfl ?_
      refine A_getL dX0_writeDown_66 fX0_137 rfl (okK5 (by omega)) ?_
      refine B_minL dX0_writeDown_69 mmX0_116 rfl rfl (Nat.le_of_ble_eq_true rfl) rfl ⟨rfl, rfl⟩ ?_
      refine A_lstore (ls' := [(6, _), (0, _), (3, _), (5, _)]) dX0_writeDown_72 (by decide) rfl ?_
      refine A_aload_n dX0_writeDown_74 rfl rfl ?_
      refine A_getR (c2 := 21) (i2 := i0) dX0_writeDown_75 fX0_11 rfl (okK0 (by omega)) rfl ?_
      refine A_iload dX0_writeDown_78 rfl ?_
      obtain ⟨j2, qj2, bj2, h⟩ := h
      refine A_aald (j := j2) (c2 := 5) (i2 := 5 * i0 + j2) dX0_writeDown_80 (by decide) (by decide) (okK21 (by omega)) qj2 bj2 rfl ?_
      refine A_lload dX0_writeDown_81 rfl ?_
      refine B_callV_V (av := [vL (min ((wL l3)) ((wL (N 5 (5 * i0 + j1) 2))))]) rfl dX0_writeDown_83 vX0_166 mX5_writeDown ⟨rfl, rfl, by decide⟩ (okK5 (by omega)) rfl (Nat.le_of_ble_eq_true rfl) (by decide) (by decide) rfl (BC_monoV h (fun N3 h => ?_))
      refine A_lload_n dX0_writeDown_86 rfl rfl ?_
      refine A_lload dX0_writeDown_87 rfl ?_
      refine A_lsub dX0_writeDown_89 ?_
      refine A_lstore_n (ls' := [(3, _), (6, _), (0, _), (5, _)]) dX0_writeDown_90 rfl (by decide) rfl ?_
      refine A_iinc (ls' := [(5, _), (3, _), (6, _), (0, _)]) dX0_writeDown_91 (by decide) rfl rfl rfl ?_
      refine A_goto (tgt := 47) dX0_writeDown_94 (by decide) ?_
      exact A_pick [3, 1, 0] rfl h
set_option maxRecDepth 100000 in
set_option maxHeartbeats 4000000 in
theorem vc_X6_copy {G : GT} {i0 : Nat} {i1 : Nat} {N : NN} {K : NN → Prop} (h_i0 : i0 < 2) (h_i1 : i1 < 2) (h : W_X6_copy G K 2 [(0, vR 6 i0), (1, vR 6 i1), (2, vI 0)] [] N) : C_X6_copy G i0 i1 N K := by
  refine Ctr.ofAW RX6 false rfl (by decide +kernel) (fun q => by cases q) (Nat.le_of_ble_eq_true rfl) (Nat.le_refl _) ?_
  refine A_iconst (v := 0) dX6_copy_0 rfl ?_
  refine A_istore_n (ls' := [(2, _), (0, _), (1, _)]) dX6_copy_1 rfl (by decide) rfl ?_
  exact A_pick [1, 2, 0] rfl h
set_option maxRecDepth 100000 in
set_option maxHeartbeats 4000000 in
theorem vc_X6_copy_2 {G : GT} {i0 : Nat} {i1 : Nat} {l2 : Int} {N : NN} {K : NN → Prop} (h_i0 : i0 < 2) (h_i1 : i1 < 2) (h : ((12 ≤ (wI l2) → (∀ M1 : NN, M1 = up3 N 6 i0 1 (N 6 i1 1) → (∀ M2 : NN, M2 = up3 M1 6 i0 2 (M1 6 i1 2) → (∀ M3 : NN, M3 = up3 M2 6 i0 3 (M2 6 i1 3) → ((M3 6 i1 4 = 0 ∨ M3 6 i1 4 = 1) ∧ (∀ M4 : NN, M4 = up3 M3 6 i0 4 (M3 6 i1 4) → (∀ M5 : NN, M5 = up3 M4 6 i0 5 (M4 6 i1 5) → (0 ≤ M5 6 i1 6 ∧ (M5 6 i1 6).toNat < 6 ∧ (∀ M6 : NN, M6 = up3 M5 6 i0 6 (((M5 6 i1 6).toNat : Nat) : Int) → K M6))))))))) ∧ (¬ (12 ≤ (wI l2)) → (∃ j7 : Nat, (wI l2) = (j7 : Int) ∧ j7 < 12 ∧ (∃ j8 : Nat, (wI l2) = (j8 : Int) ∧ j8 < 12 ∧ (C_X2_copy G (12 * i0 + j7) (12 * i1 + j8) N (fun N9 => W_X6_copy G K 2 [(0, vR 6 i0), (1, vR 6 i1), (2, vI (l2 + 1))] [] N9))))))) : W_X6_copy G K 2 [(0, vR 6 i0), (1, vR 6 i1), (2, vI l2)] [] N := by
  refine A_iload_n dX6_copy_2 rfl rfl ?_
  refine A_aload_n dX6_copy_3 rfl rfl ?_
  refine A_getR (c2 := 20) (i2 := i0) dX6_copy_4 fX6_11 rfl (okK6 (by omega)) rfl ?_
  refine A_alen (v := 12) dX6_copy_7 (by decide) (okK20 (by omega)) (by decide) ?_
  refine B_icmp_ge (tgt := 32) dX6_copy_8 (by decide) rfl (wlitI (by decide) (by decide)) ⟨fun q => ?_, fun q => ?_⟩
  · replace h := h.1 q
    refine A_aload_n dX6_copy_32 rfl rfl ?_
    refine A_aload_n dX6_copy_33 rfl rfl ?_
    refine A_getI dX6_copy_34 fX6_26 rfl (okK6 (by omega)) ?_
    refine B_putI dX6_copy_37 fX6_26 (by decide) (okK6 (by omega)) (fun M1 eM1 => ?_)
    replace h := h M1 eM1
    refine A_aload_n dX6_copy_40 rfl rfl ?_
    refine A_aload_n dX6_copy_41 rfl rfl ?_
    refine A_getI dX6_copy_42 fX6_29 rfl (okK6 (by omega)) ?_
    refine B_putI dX6_copy_45 fX6_29 (by decide) (okK6 (by omega)) (fun M2 eM2 => ?_)
    replace h := h M2 eM2
    refine A_aload_n dX6_copy_48 rfl rfl ?_
    refine A_aload_n dX6_copy_49 rfl rfl ?_
    refine A_getI dX6_copy_50 fX6_17 rfl (okK6 (by omega)) ?_
    refine B_putI dX6_copy_53 fX6_17 (by decide) (okK6 (by omega)) (fun M3 eM3 => ?_)
    replace h := h M3 eM3
    refine A_aload_n dX6_copy_56 rfl rfl ?_
    refine A_aload_n dX6_copy_57 rfl rfl ?_
    refine A_getI dX6_copy_58 fX6_32 rfl (okK6 (by omega)) ?_
    refine B_putZ dX6_copy_61 fX6_32 (by decide) (okK6 (by omega)) h.1 (fun M4 eM4 => ?_)
    replace h := h.2
    replace h := h M4 eM4
    refine A_aload_n dX6_copy_64 rfl rfl ?_
    refine A_aload_n dX6_copy_65 rfl rfl ?_
    refine A_getL dX6_copy_66 fX6_36 rfl (okK6 (by omega)) ?_
    refine B_putL dX6_copy_69 fX6_36 (by decide) (okK6 (by omega)) (fun M5 eM5 => ?_)
    replace h := h M5 eM5
    refine A_aload_n dX6_copy_72 rfl rfl ?_
    refine A_aload_n dX6_copy_73 rfl rfl ?_
    obtain ⟨q74, q74b, h⟩ := h
    refine A_getR (c2 := 1) (i2 := (M5 6 i1 6).toNat) dX6_copy_74 fX6_40 rfl (okK6 (by omega)) (if_neg (by omega)) ?_
    refine B_law (t := (M5 6 i1 6).toNat) dX6_copy_77 fX6_40 (okK6 (by omega)) (fun M6 eM6 => ?_)
    replace h := h M6 eM6
    exact A_vret dX6_copy_80 ⟨rfl, rfl, h⟩
  · replace h := h.2 q
    refine A_aload_n dX6_copy_11 rfl rfl ?_
    refine A_getR (c2 := 20) (i2 := i0) dX6_copy_12 fX6_11 rfl (okK6 (by omega)) rfl ?_
    refine A_iload_n dX6_copy_15 rfl rfl ?_
    obtain ⟨j7, qj7, bj7, h⟩ := h
    refine A_aald (j := j7) (c2 := 2) (i2 := 12 * i0 + j7) dX6_copy_16 (by decide) (by decide) (okK20 (by omega)) qj7 bj7 rfl ?_
    refine A_aload_n dX6_copy_17 rfl rfl ?_
    refine A_getR (c2 := 20) (i2 := i1) dX6_copy_18 fX6_11 rfl (okK6 (by omega)) rfl ?_
    refine A_iload_n dX6_copy_21 rfl rfl ?_
    obtain ⟨j8, qj8, bj8, h⟩ := h
    refine A_aald (j := j8) (c2 := 2) (i2 := 12 * i1 + j8) dX6_copy_22 (by decide) (by decide) (okK20 (by omega)) qj8 bj8 rfl ?_
    refine B_callV_V (av := [vR 2 (12 * i1 + j8)]) rfl dX6_copy_23 vX6_22 mX2_copy ⟨rfl, rfl, by decide⟩ (okK2 (by omega)) rfl (Nat.le_of_ble_eq_true rfl) (by decide) (by decide) rfl (BC_monoV h (fun N9 h => ?_))
    refine A_iinc (ls' := [(2, _), (0, _), (1, _)]) dX6_copy_26 (by decide) rfl rfl rfl ?_
    refine A_goto (tgt := 2) dX6_copy_29 (by decide) ?_
    exact A_pick [1, 2, 0] rfl h
set_option maxRecDepth 100000 in
set_option maxHeartbeats 4000000 in
theorem vc_X6_balances {G : GT} {i0 : Nat} {N : NN} {K : Int → NN → Prop} (h_i0 : i0 < 2) (h : W_X6_balances G K 4 [(0, vR 6 i0), (1, vL 0), (3, vI 0)] [] N) : C_X6_balances G i0 N K := by
  refine Ctr.ofAW RX6 false rfl (by decide +kernel) (fun q => by cases q) (Nat.le_of_ble_eq_true rfl) (Nat.le_refl _) ?_
  refine A_lconst (v := 0) dX6_balances_0 (by decide +kernel) ?_
  refine A_lstore_n (ls' := [(1, _), (0, _)]) dX6_balances_1 rfl (by decide) rfl ?_
  refine A_iconst (v := 0) dX6_balances_2 rfl ?_
  refine A_istore_n (ls' := [(3, _), (1, _), (0, _)]) dX6_balances_3 rfl (by decide) rfl ?_
  exact A_pick [2, 1, 0] rfl h
set_option maxRecDepth 100000 in
set_option maxHeartbeats 4000000 in
theorem vc_X6_balances_4 {G : GT} {i0 : Nat} {l1 : Int} {l3 : Int} {N : NN} {K : Int → NN → Prop} (h_i0 : i0 < 2) (h : (((wI (N 6 i0 1)) ≤ (wI l3) → K l1 N) ∧ (¬ ((wI (N 6 i0 1)) ≤ (wI l3)) → (∃ j1 : Nat, (wI l3) = (j1 : Int) ∧ j1 < 12 ∧ (C_X2_isPooled G (12 * i0 + j1) N (fun x2 N2 => (((wI x2) = 0 → W_X6_balances G K 4 [(0, vR 6 i0), (1, vL (l1 + 0)), (3, vI (l3 + 1))] [] N2) ∧ (¬ ((wI x2) = 0) → (∃ j3 : Nat, (wI l3) = (j3 : Int) ∧ j3 < 12 ∧ W_X6_balances G K 4 [(0, vR 6 i0), (1, vL (l1 + (N2 2 (12 * i0 + j3) 1))), (3, vI (l3 + 1))] [] N2))))))))) : W_X6_balances G K 4 [(0, vR 6 i0), (1, vL l1), (3, vI l3)] [] N := by
  refine A_iload_n dX6_balances_4 rfl rfl ?_
  refine A_aload_n dX6_balances_5 rfl rfl ?_
  refine A_getI dX6_balances_6 fX6_26 rfl (okK6 (by omega)) ?_
  refine B_icmp_ge (tgt := 46) dX6_balances_9 (by decide) rfl rfl ⟨fun q => ?_, fun q => ?_⟩
  · replace h := h.1 q
    refine A_lload_n dX6_balances_46 rfl rfl ?_
    exact A_lret dX6_balances_47 ⟨rfl, _, rfl, h⟩
  · replace h := h.2 q
    refine A_lload_n dX6_balances_12 rfl rfl ?_
    refine A_aload_n dX6_balances_13 rfl rfl ?_
    refine A_getR (c2 := 20) (i2 := i0) dX6_balances_14 fX6_11 rfl (okK6 (by omega)) rfl ?_
    refine A_iload_n dX6_balances_17 rfl rfl ?_
    obtain ⟨j1, qj1, bj1, h⟩ := h
    refine A_aald (j := j1) (c2 := 2) (i2 := 12 * i0 + j1) dX6_balances_18 (by decide) (by decide) (okK20 (by omega)) qj1 bj1 rfl ?_
    refine B_callV_I (av := []) rfl dX6_balances_19 vX6_44 mX2_isPooled ⟨rfl, rfl, by decide⟩ (okK2 (by omega)) rfl (Nat.le_of_ble_eq_true rfl) (by decide) (by decide) rfl (BC_monoI h (fun x2 N2 h => ?_))
    refine B_if_eq (tgt := 37) dX6_balances_22 (by decide) rfl ⟨fun q => ?_, fun q => ?_⟩
    · replace h := h.1 q
      refine A_lconst (v := 0) dX6_balances_37 (by decide +kernel) ?_
      refine A_ladd dX6_balances_38 ?_
      refine A_lstore_n (ls' := [(1, _), (0, _), (3, _)]) dX6_balances_39 rfl (by decide) rfl ?_
      refine A_iinc (ls' := [(3, _), (1, _), (0, _)]) dX6_balances_40 (by decide) rfl rfl rfl ?_
      refine A_goto (tgt := 4) dX6_balances_43 (by decide) ?_
      exact A_pick [2, 1, 0] rfl h
    · replace h := h.2 q
      refine A_aload_n dX6_balances_25 rfl rfl ?_
      refine A_getR (c2 := 20) (i2 := i0) dX6_balances_26 fX6_11 rfl (okK6 (by omega)) rfl ?_
      refine A_iload_n dX6_balances_29 rfl rfl ?_
      obtain ⟨j3, qj3, bj3, h⟩ := h
      refine A_aald (j := j3) (c2 := 2) (i2 := 12 * i0 + j3) dX6_balances_30 (by decide) (by decide) (okK20 (by omega)) qj3 bj3 rfl ?_
      refine A_getL dX6_balances_31 fX6_48 rfl (okK2 (by omega)) ?_
      refine A_goto (tgt := 38) dX6_balances_34 (by decide) ?_
      refine A_ladd dX6_balances_38 ?_
      refine A_lstore_n (ls' := [(1, _), (0, _), (3, _)]) dX6_balances_39 rfl (by decide) rfl ?_
      refine A_iinc (ls' := [(3, _), (1, _), (0, _)]) dX6_balances_40 (by decide) rfl rfl rfl ?_
      refine A_goto (tgt := 4) dX6_balances_43 (by decide) ?_
      exact A_pick [2, 1, 0] rfl h
set_option maxRecDepth 100000 in
set_option maxHeartbeats 4000000 in
theorem vc_X6_late {G : GT} {i0 : Nat} {N : NN} {K : Int → NN → Prop} (h_i0 : i0 < 2) (h : W_X6_late G K 4 [(0, vR 6 i0), (1, vI 0), (2, vI 0)] [] N) : C_X6_late G i0 N K := by
  refine Ctr.ofAW RX6 false rfl (by decide +kernel) (fun q => by cases q) (Nat.le_of_ble_eq_true rfl) (Nat.le_refl _) ?_
  refine A_iconst (v := 0) dX6_late_0 rfl ?_
  refine A_istore_n (ls' := [(1, _), (0, _)]) dX6_late_1 rfl (by decide) rfl ?_
  refine A_iconst (v := 0) dX6_late_2 rfl ?_
  refine A_istore_n (ls' := [(2, _), (1, _), (0, _)]) dX6_late_3 rfl (by decide) rfl ?_
  exact A_pick [2, 1, 0] rfl h
set_option maxRecDepth 100000 in
set_option maxHeartbeats 4000000 in
theorem vc_X6_late_4 {G : GT} {i0 : Nat} {l1 : Int} {l2 : Int} {N : NN} {K : Int → NN → Prop} (h_i0 : i0 < 2) (h : (((wI (N 6 i0 1)) ≤ (wI l2) → K l1 N) ∧ (¬ ((wI (N 6 i0 1)) ≤ (wI l2)) → (∃ j1 : Nat, (wI l2) = (j1 : Int) ∧ j1 < 12 ∧ (((wI (N 2 (12 * i0 + j1) 5)) ≠ 1 → W_X6_late G K 4 [(0, vR 6 i0), (1, vI (l1 + 0)), (2, vI (l2 + 1))] [] N) ∧ (¬ ((wI (N 2 (12 * i0 + j1) 5)) ≠ 1) → W_X6_late G K 4 [(0, vR 6 i0), (1, vI (l1 + 1)), (2, vI (l2 + 1))] [] N)))))) : W_X6_late G K 4 [(0, vR 6 i0), (1, vI l1), (2, vI l2)] [] N := by
  refine A_iload_n dX6_late_4 rfl rfl ?_
  refine A_aload_n dX6_late_5 rfl rfl ?_
  refine A_getI dX6_late_6 fX6_26 rfl (okK6 (by omega)) ?_
  refine B_icmp_ge (tgt := 39) dX6_late_9 (by decide) rfl rfl ⟨fun q => ?_, fun q => ?_⟩
  · replace h := h.1 q
    refine A_iload_n dX6_late_39 rfl rfl ?_
    exact A_iret dX6_late_40 ⟨rfl, _, rfl, h⟩
  · replace h := h.2 q
    refine A_iload_n dX6_late_12 rfl rfl ?_
    refine A_aload_n dX6_late_13 rfl rfl ?_
    refine A_getR (c2 := 20) (i2 := i0) dX6_late_14 fX6_11 rfl (okK6 (by omega)) rfl ?_
    refine A_iload_n dX6_late_17 rfl rfl ?_
    obtain ⟨j1, qj1, bj1, h⟩ := h
    refine A_aald (j := j1) (c2 := 2) (i2 := 12 * i0 + j1) dX6_late_18 (by decide) (by decide) (okK20 (by omega)) qj1 bj1 rfl ?_
    refine A_getI dX6_late_19 fX6_51 rfl (okK2 (by omega)) ?_
    refine A_iconst (v := 1) dX6_late_22 rfl ?_
    refine B_icmp_ne (tgt := 30) dX6_late_23 (by decide) rfl (wlitI (by decide) (by decide)) ⟨fun q => ?_, fun q => ?_⟩
    · replace h := h.1 q
      refine A_iconst (v := 0) dX6_late_30 rfl ?_
      refine A_iadd dX6_late_31 ?_
      refine A_istore_n (ls' := [(1, _), (0, _), (2, _)]) dX6_late_32 rfl (by decide) rfl ?_
      refine A_iinc (ls' := [(2, _), (1, _), (0, _)]) dX6_late_33 (by decide) rfl rfl rfl ?_
      refine A_goto (tgt := 4) dX6_late_36 (by decide) ?_
      exact A_pick [2, 1, 0] rfl h
    · replace h := h.2 q
      refine A_iconst (v := 1) dX6_late_26 rfl ?_
      refine A_goto (tgt := 31) dX6_late_27 (by decide) ?_
      refine A_iadd dX6_late_31 ?_
      refine A_istore_n (ls' := [(1, _), (0, _), (2, _)]) dX6_late_32 rfl (by decide) rfl ?_
      refine A_iinc (ls' := [(2, _), (1, _), (0, _)]) dX6_late_33 (by decide) rfl rfl rfl ?_
      refine A_goto (tgt := 4) dX6_late_36 (by decide) ?_
      exact A_pick [2, 1, 0] rfl h
set_option maxRecDepth 100000 in
set_option maxHeartbeats 4000000 in
theorem vc_X6_collect {G : GT} {i0 : Nat} {a1 : Int} {i2 : Nat} {N : NN} {K : NN → Prop} (h_i0 : i0 < 2) (h_i2 : i2 < 62) (h : (C_X3_clear G i2 N (fun N1 => (C_X6_balances G i0 N1 (fun x2 N2 => (∀ M3 : NN, M3 = up3 N2 3 i2 6 x2 → W_X6_collect G K 14 [(0, vR 6 i0), (1, vI a1), (2, vR 3 i2), (3, vI 0)] [] M3)))))) : C_X6_collect G i0 a1 i2 N K := by
  refine Ctr.ofAW RX6 false rfl (by decide +kernel) (fun q => by cases q) (Nat.le_of_ble_eq_true rfl) (Nat.le_refl _) ?_
  refine A_aload_n dX6_collect_0 rfl rfl ?_
  refine B_callV_V (av := []) rfl dX6_collect_1 vX6_54 mX3_clear ⟨rfl, rfl, by decide⟩ (okK3 (by omega)) rfl (Nat.le_of_ble_eq_true rfl) (by decide) (by decide) rfl (BC_monoV h (fun N1 h => ?_))
  refine A_aload_n dX6_collect_4 rfl rfl ?_
  refine A_aload_n dX6_collect_5 rfl rfl ?_
  refine B_callV_L (av := []) rfl dX6_collect_6 vX6_59 mX6_balances ⟨rfl, rfl, by decide⟩ (okK6 (by omega)) rfl (Nat.le_of_ble_eq_true rfl) (by decide) (by decide) rfl (BC_monoL h (fun x2 N2 h => ?_))
  refine B_putL dX6_collect_9 fX6_63 (by decide) (okK3 (by omega)) (fun M3 eM3 => ?_)
  replace h := h M3 eM3
  refine A_iconst (v := 0) dX6_collect_12 rfl ?_
  refine A_istore_n (ls' := [(3, _), (0, _), (1, _), (2, _)]) dX6_collect_13 rfl (by decide) rfl ?_
  exact A_pick [1, 2, 3, 0] rfl h
set_option maxRecDepth 100000 in
set_option maxHeartbeats 4000000 in
theorem vc_X6_collect_14 {G : GT} {i0 : Nat} {l1 : Int} {i2 : Nat} {l3 : Int} {N : NN} {K : NN → Prop} (h_i0 : i0 < 2) (h_i2 : i2 < 62) (h : (((wI (N 6 i0 1)) ≤ (wI l3) → (∀ M1 : NN, M1 = up3 N 6 i0 5 ((N 6 i0 5) + (N 3 i2 3)) → (∀ M2 : NN, M2 = up3 M1 3 i2 4 (min ((wL (M1 6 i0 5))) ((wL (M1 3 i2 0)))) → (∀ M3 : NN, M3 = up3 M2 6 i0 5 ((M2 6 i0 5) - (M2 3 i2 4)) → (C_X6_balances G i0 M3 (fun x4 N4 => (∀ M5 : NN, M5 = up3 N4 3 i2 7 x4 → (C_X6_late G i0 M5 (fun x6 N6 => (∀ M7 : NN, M7 = up3 N6 3 i2 9 x6 → K M7)))))))))) ∧ (¬ ((wI (N 6 i0 1)) ≤ (wI l3)) → (∃ j8 : Nat, (wI l3) = (j8 : Int) ∧ j8 < 12 ∧ (C_X2_begin G (12 * i0 + j8) l1 N (fun N9 => (C_X2_goesOn G (12 * i0 + j8) N9 (fun x10 N10 => (((wI x10) = 0 → (((wI (N10 2 (12 * i0 + j8) 5)) ≠ 6 → (C_X2_isSoldIn G (12 * i0 + j8) l1 N10 (fun x11 N11 => (((wI x11) = 0 → W_X6_collect G K 14 [(0, vR 6 i0), (1, vI l1), (2, vR 3 i2), (3, vI (l3 + 1))] [] N11) ∧ (¬ ((wI x11) = 0) → (C_X6_sell G i0 (12 * i0 + j8) i2 N11 (fun N12 => W_X6_collect G K 14 [(0, vR 6 i0), (1, vI l1), (2, vR 3 i2), (3, vI (l3 + 1))] [] N12))))))) ∧ (¬ ((wI (N10 2 (12 * i0 + j8) 5)) ≠ 6) → (C_X6_payAll G (12 * i0 + j8) i2 0 6 N10 (fun N13 => W_X6_collect G K 14 [(0, vR 6 i0), (1, vI l1), (2, vR 3 i2), (3, vI (l3 + 1))] [] N13))))) ∧ (¬ ((wI x10) = 0) → (C_X6_draw G i0 l3 (12 * i0 + j8) l1 i2 N10 (fun N14 => W_X6_collect G K 14 [(0, vR 6 i0), (1, vI l1), (2, vR 3 i2), (3, vI (l3 + 1))] [] N14)))))))))))) : W_X6_collect G K 14 [(0, vR 6 i0), (1, vI l1), (2, vR 3 i2), (3, vI l3)] [] N := by
  refine A_iload_n dX6_collect_14 rfl rfl ?_
  refine A_aload_n dX6_collect_15 rfl rfl ?_
  refine A_getI dX6_collect_16 fX6_26 rfl (okK6 (by omega)) ?_
  refine B_icmp_ge (tgt := 100) dX6_collect_19 (by decide) rfl rfl ⟨fun q => ?_, fun q => ?_⟩
  · replace h := h.1 q
    refine A_aload_n dX6_collect_100 rfl rfl ?_
    refine A_dup dX6_collect_101 rfl ?_
    refine A_getL dX6_collect_102 fX6_36 rfl (okK6 (by omega)) ?_
    refine A_aload_n dX6_collect_105 rfl rfl ?_
    refine A_getL dX6_collect_106 fX6_89 rfl (okK3 (by omega)) ?_
    refine A_ladd dX6_collect_109 ?_
    refine B_putL dX6_collect_110 fX6_36 (by decide) (okK6 (by omega)) (fun M1 eM1 => ?_)
    replace h := h M1 eM1
    refine A_aload_n dX6_collect_113 rfl rfl ?_
    refine A_aload_n dX6_collect_114 rfl rfl ?_
    refine A_getL dX6_collect_115 fX6_36 rfl (okK6 (by omega)) ?_
    refine A_aload_n dX6_collect_118 rfl rfl ?_
    refine A_getL dX6_collect_119 fX6_90 rfl (okK3 (by omega)) ?_
    refine B_minL dX6_collect_122 mmX6_93 rfl rfl (Nat.le_of_ble_eq_true rfl) rfl ⟨rfl, rfl⟩ ?_
    refine B_putL dX6_collect_125 fX6_99 (by decide) (okK3 (by omega)) (fun M2 eM2 => ?_)
    replace h := h M2 eM2
    refine A_aload_n dX6_collect_128 rfl rfl ?_
    refine A_dup dX6_collect_129 rfl ?_
    refine A_getL dX6_collect_130 fX6_36 rfl (okK6 (by omega)) ?_
    refine A_aload_n dX6_collect_133 rfl rfl ?_
    refine A_getL dX6_collect_134 fX6_99 rfl (okK3 (by omega)) ?_
    refine A_lsub dX6_collect_137 ?_
    refine B_putL dX6_collect_138 fX6_36 (by decide) (okK6 (by omega)) (fun M3 eM3 => ?_)
    replace h := h M3 eM3
    refine A_aload_n dX6_collect_141 rfl rfl ?_
    refine A_aload_n dX6_collect_142 rfl rfl ?_
    refine B_callV_L (av := []) rfl dX6_collect_143 vX6_59 mX6_balances ⟨rfl, rfl, by decide⟩ (okK6 (by omega)) rfl (Nat.le_of_ble_eq_true rfl) (by decide) (by decide) rfl (BC_monoL h (fun x4 N4 h => ?_))
    refine B_putL dX6_collect_146 fX6_102 (by decide) (okK3 (by omega)) (fun M5 eM5 => ?_)
    replace h := h M5 eM5
    refine A_aload_n dX6_collect_149 rfl rfl ?_
    refine A_aload_n dX6_collect_150 rfl rfl ?_
    refine B_callV_I (av := []) rfl dX6_collect_151 vX6_105 mX6_late ⟨rfl, rfl, by decide⟩ (okK6 (by omega)) rfl (Nat.le_of_ble_eq_true rfl) (by decide) (by decide) rfl (BC_monoI h (fun x6 N6 h => ?_))
    refine B_putI dX6_collect_154 fX6_109 (by decide) (okK3 (by omega)) (fun M7 eM7 => ?_)
    replace h := h M7 eM7
    exact A_vret dX6_collect_157 ⟨rfl, rfl, h⟩
  · replace h := h.2 q
    refine A_aload_n dX6_collect_22 rfl rfl ?_
    refine A_getR (c2 := 20) (i2 := i0) dX6_collect_23 fX6_11 rfl (okK6 (by omega)) rfl ?_
    refine A_iload_n dX6_collect_26 rfl rfl ?_
    obtain ⟨j8, qj8, bj8, h⟩ := h
    refine A_aald (j := j8) (c2 := 2) (i2 := 12 * i0 + j8) dX6_collect_27 (by decide) (by decide) (okK20 (by omega)) qj8 bj8 rfl ?_
    refine A_astore (ls' := [(4, _), (0, _), (1, _), (2, _), (3, _)]) dX6_collect_28 (by decide) rfl ?_
    refine A_aload dX6_collect_30 rfl ?_
    refine A_iload_n dX6_collect_32 rfl rfl ?_
    refine B_callV_V (av := [vI l1]) rfl dX6_collect_33 vX6_66 mX2_begin ⟨rfl, rfl, by decide⟩ (okK2 (by omega)) rfl (Nat.le_of_ble_eq_true rfl) (by decide) (by decide) rfl (BC_monoV h (fun N9 h => ?_))
    refine A_aload dX6_collect_36 rfl ?_
    refine B_callV_I (av := []) rfl dX6_collect_38 vX6_70 mX2_goesOn ⟨rfl, rfl, by decide⟩ (okK2 (by omega)) rfl (Nat.le_of_ble_eq_true rfl) (by decide) (by decide) rfl (BC_monoI h (fun x10 N10 h => ?_))
    refine B_if_eq (tgt := 56) dX6_collect_41 (by decide) rfl ⟨fun q => ?_, fun q => ?_⟩
    · replace h := h.1 q
      refine A_aload dX6_collect_56 rfl ?_
      refine A_getI dX6_collect_58 fX6_51 rfl (okK2 (by omega)) ?_
      refine A_bipush (v := 6) dX6_collect_61 (by decide +kernel) ?_
      refine B_icmp_ne (tgt := 78) dX6_collect_63 (by decide) rfl (wlitI (by decide) (by decide)) ⟨fun q => ?_, fun q => ?_⟩
      · replace h := h.1 q
        refine A_aload dX6_collect_78 rfl ?_
        refine A_iload_n dX6_collect_80 rfl rfl ?_
        refine B_callV_I (av := [vI l1]) rfl dX6_collect_81 vX6_81 mX2_isSoldIn ⟨rfl, rfl, by decide⟩ (okK2 (by omega)) rfl (Nat.le_of_ble_eq_true rfl) (by decide) (by decide) rfl (BC_monoI h (fun x11 N11 h => ?_))
        refine B_if_eq (tgt := 94) dX6_collect_84 (by decide) rfl ⟨fun q => ?_, fun q => ?_⟩
        · replace h := h.1 q
          refine A_iinc (ls' := [(3, _), (4, _), (0, _), (1, _), (2, _)]) dX6_collect_94 (by decide) rfl rfl rfl ?_
          refine A_goto (tgt := 14) dX6_collect_97 (by decide) ?_
          exact A_pick [2, 3, 4, 0] rfl h
        · replace h := h.2 q
          refine A_aload_n dX6_collect_87 rfl rfl ?_
          refine A_aload dX6_collect_88 rfl ?_
          refine A_aload_n dX6_collect_90 rfl rfl ?_
          refine B_callV_V (av := [vR 2 (12 * i0 + j8), vR 3 i2]) rfl dX6_collect_91 vX6_85 mX6_sell ⟨rfl, rfl, by decide⟩ (okK6 (by omega)) rfl (Nat.le_of_ble_eq_true rfl) (by decide) (by decide) rfl (BC_monoV h (fun N12 h => ?_))
          refine A_iinc (ls' := [(3, _), (4, _), (0, _), (1, _), (2, _)]) dX6_collect_94 (by decide) rfl rfl rfl ?_
          refine A_goto (tgt := 14) dX6_collect_97 (by decide) ?_
          exact A_pick [2, 3, 4, 0] rfl h
      · replace h := h.2 q
        refine A_aload dX6_collect_66 rfl ?_
        refine A_aload_n dX6_collect_68 rfl rfl ?_
        refine A_lconst (v := 0) dX6_collect_69 (by decide +kernel) ?_
        refine A_bipush (v := 6) dX6_collect_70 (by decide +kernel) ?_
        refine B_callS_V (av := [vR 2 (12 * i0 + j8), vR 3 i2, vL 0, vI 6]) rfl dX6_collect_72 vX6_77 mX6_payAll rfl (Nat.le_of_ble_eq_true rfl) (by decide) (by decide) rfl (BC_monoV h (fun N13 h => ?_))
        refine A_goto (tgt := 94) dX6_collect_75 (by decide) ?_
        refine A_iinc (ls' := [(3, _), (4, _), (0, _), (1, _), (2, _)]) dX6_collect_94 (by decide) rfl rfl rfl ?_
        refine A_goto (tgt := 14) dX6_collect_97 (by decide) ?_
        exact A_pick [2, 3, 4, 0] rfl h
    · replace h := h.2 q
      refine A_aload_n dX6_collect_44 rfl rfl ?_
      refine A_iload_n dX6_collect_45 rfl rfl ?_
      refine A_aload dX6_collect_46 rfl ?_
      refine A_iload_n dX6_collect_48 rfl rfl ?_
      refine A_aload_n dX6_collect_49 rfl rfl ?_
      refine B_callV_V (av := [vI l3, vR 2 (12 * i0 + j8), vI l1, vR 3 i2]) rfl dX6_collect_50 vX6_73 mX6_draw ⟨rfl, rfl, by decide⟩ (okK6 (by omega)) rfl (Nat.le_of_ble_eq_true rfl) (by decide) (by decide) rfl (BC_monoV h (fun N14 h => ?_))
      refine A_goto (tgt := 94) dX6_collect_53 (by decide) ?_
      refine A_iinc (ls' := [(3, _), (4, _), (0, _), (1, _), (2, _)]) dX6_collect_94 (by decide) rfl rfl rfl ?_
      refine A_goto (tgt := 14) dX6_collect_97 (by decide) ?_
      exact A_pick [2, 3, 4, 0] rfl h
set_option maxRecDepth 100000 in
set_option maxHeartbeats 4000000 in
theorem vc_X6_draw {G : GT} {i0 : Nat} {a1 : Int} {i2 : Nat} {a3 : Int} {i4 : Nat} {N : NN} {K : NN → Prop} (h_i0 : i0 < 2) (h_i2 : i2 < 24) (h_i4 : i4 < 62) (h : (C_X6_chance G i0 0 i2 a3 N (fun x1 N1 => (C_X6_chance G i0 1 i2 a3 N1 (fun x2 N2 => (C_X6_chance G i0 2 i2 a3 N2 (fun x3 N3 => (C_X6_lot G i0 a1 a3 N3 (fun x4 N4 => (((wI x1) ≤ (wI x4) → (((wI (x1 + x2)) ≤ (wI x4) → (((wI x4) < (wI (x1 + x2)) → (C_X6_payMonth G i2 a3 i4 N4 (fun N5 => K N5))) ∧ (¬ ((wI x4) < (wI (x1 + x2))) → (((wI ((x1 + x2) + x3)) ≤ (wI x4) → (C_X6_payMonth G i2 a3 i4 N4 (fun N6 => K N6))) ∧ (¬ ((wI ((x1 + x2) + x3)) ≤ (wI x4)) → (C_X2_interest G i2 N4 (fun x7 N7 => (C_X2_isLast G i2 a3 N7 (fun x8 N8 => (((wI x8) = 0 → (C_X6_payAll G i2 i4 x7 2 N8 (fun N9 => K N9))) ∧ (¬ ((wI x8) = 0) → (C_X6_payAll G i2 i4 x7 5 N8 (fun N10 => K N10))))))))))))) ∧ (¬ ((wI (x1 + x2)) ≤ (wI x4)) → (C_X2_rests G i2 a3 N4 (fun x11 N11 => (((wI x11) ≠ 0 → (((wI x4) < (wI (x1 + x2)) → (C_X6_payMonth G i2 a3 i4 N11 (fun N12 => K N12))) ∧ (¬ ((wI x4) < (wI (x1 + x2))) → (((wI ((x1 + x2) + x3)) ≤ (wI x4) → (C_X6_payMonth G i2 a3 i4 N11 (fun N13 => K N13))) ∧ (¬ ((wI ((x1 + x2) + x3)) ≤ (wI x4)) → (C_X2_interest G i2 N11 (fun x14 N14 => (C_X2_isLast G i2 a3 N14 (fun x15 N15 => (((wI x15) = 0 → (C_X6_payAll G i2 i4 x14 2 N15 (fun N16 => K N16))) ∧ (¬ ((wI x15) = 0) → (C_X6_payAll G i2 i4 x14 5 N15 (fun N17 => K N17))))))))))))) ∧ (¬ ((wI x11) ≠ 0) → (C_X6_fallLate G i0 i2 a3 i4 N11 (fun N18 => K N18))))))))) ∧ (¬ ((wI x1) ≤ (wI x4)) → (∀ M19 : NN, M19 = up3 N4 2 i2 5 3 → (∀ M20 : NN, M20 = up3 M19 2 i2 7 a3 → (∀ M21 : NN, M21 = up3 M20 2 i2 4 0 → K M21)))))))))))))) : C_X6_draw G i0 a1 i2 a3 i4 N K := by
  refine Ctr.ofAW RX6 false rfl (by decide +kernel) (fun q => by cases q) (Nat.le_of_ble_eq_true rfl) (Nat.le_refl _) ?_
  refine A_aload_n dX6_draw_0 rfl rfl ?_
  refine A_iconst (v := 0) dX6_draw_1 rfl ?_
  refine A_aload_n dX6_draw_2 rfl rfl ?_
  refine A_iload_n dX6_draw_3 rfl rfl ?_
  refine B_callV_I (av := [vI 0, vR 2 i2, vI a3]) rfl dX6_draw_4 vX6_111 mX6_chance ⟨rfl, rfl, by decide⟩ (okK6 (by omega)) rfl (Nat.le_of_ble_eq_true rfl) (by decide) (by decide) rfl (BC_monoI h (fun x1 N1 h => ?_))
  refine A_istore (ls' := [(5, _), (0, _), (1, _), (2, _), (3, _), (4, _)]) dX6_draw_7 (by decide) rfl ?_
  refine A_iload dX6_draw_9 rfl ?_
  refine A_aload_n dX6_draw_11 rfl rfl ?_
  refine A_iconst (v := 1) dX6_draw_12 rfl ?_
  refine A_aload_n dX6_draw_13 rfl rfl ?_
  refine A_iload_n dX6_draw_14 rfl rfl ?_
  refine B_callV_I (av := [vI 1, vR 2 i2, vI a3]) rfl dX6_draw_15 vX6_111 mX6_chance ⟨rfl, rfl, by decide⟩ (okK6 (by omega)) rfl (Nat.le_of_ble_eq_true rfl) (by decide) (by decide) rfl (BC_monoI h (fun x2 N2 h => ?_))
  refine A_iadd dX6_draw_18 ?_
  refine A_istore (ls' := [(6, _), (5, _), (0, _), (1, _), (2, _), (3, _), (4, _)]) dX6_draw_19 (by decide) rfl ?_
  refine A_iload dX6_draw_21 rfl ?_
  refine A_aload_n dX6_draw_23 rfl rfl ?_
  refine A_iconst (v := 2) dX6_draw_24 rfl ?_
  refine A_aload_n dX6_draw_25 rfl rfl ?_
  refine A_iload_n dX6_draw_26 rfl rfl ?_
  refine B_callV_I (av := [vI 2, vR 2 i2, vI a3]) rfl dX6_draw_27 vX6_111 mX6_chance ⟨rfl, rfl, by decide⟩ (okK6 (by omega)) rfl (Nat.le_of_ble_eq_true rfl) (by decide) (by decide) rfl (BC_monoI h (fun x3 N3 h => ?_))
  refine A_iadd dX6_draw_30 ?_
  refine A_istore (ls' := [(7, _), (6, _), (5, _), (0, _), (1, _), (2, _), (3, _), (4, _)]) dX6_draw_31 (by decide) rfl ?_
  refine A_aload_n dX6_draw_33 rfl rfl ?_
  refine A_iload_n dX6_draw_34 rfl rfl ?_
  refine A_iload_n dX6_draw_35 rfl rfl ?_
  refine B_callV_I (av := [vI a1, vI a3]) rfl dX6_draw_36 vX6_115 mX6_lot ⟨rfl, rfl, by decide⟩ (okK6 (by omega)) rfl (Nat.le_of_ble_eq_true rfl) (by decide) (by decide) rfl (BC_monoI h (fun x4 N4 h => ?_))
  refine A_istore (ls' := [(8, _), (7, _), (6, _), (5, _), (0, _), (1, _), (2, _), (3, _), (4, _)]) dX6_draw_39 (by decide) rfl ?_
  refine A_iload dX6_draw_41 rfl ?_
  refine A_iload dX6_draw_43 rfl ?_
  refine B_icmp_ge (tgt := 66) dX6_draw_45 (by decide) rfl rfl ⟨fun q => ?_, fun q => ?_⟩
  · replace h := h.1 q
    refine A_iload dX6_draw_66 rfl ?_
    refine A_iload dX6_draw_68 rfl ?_
    refine B_icmp_ge (tgt := 92) dX6_draw_70 (by decide) rfl rfl ⟨fun q => ?_, fun q => ?_⟩
    · replace h := h.1 q
      refine A_iload dX6_draw_92 rfl ?_
      refine A_iload dX6_draw_94 rfl ?_
      refine B_icmp_lt (tgt := 132) dX6_draw_96 (by decide) rfl rfl ⟨fun q => ?_, fun q => ?_⟩
      · replace h := h.1 q
        refine A_aload_n dX6_draw_132 rfl rfl ?_
        refine A_iload_n dX6_draw_133 rfl rfl ?_
        refine A_aload dX6_draw_134 rfl ?_
        refine B_callS_V (av := [vR 2 i2, vI a3, vR 3 i4]) rfl dX6_draw_136 vX6_138 mX6_payMonth rfl (Nat.le_of_ble_eq_true rfl) (by decide) (by decide) rfl (BC_monoV h (fun N5 h => ?_))
        exact A_vret dX6_draw_139 ⟨rfl, rfl, h⟩
      · replace h := h.2 q
        refine A_iload dX6_draw_99 rfl ?_
        refine A_iload dX6_draw_101 rfl ?_
        refine B_icmp_ge (tgt := 132) dX6_draw_103 (by decide) rfl rfl ⟨fun q => ?_, fun q => ?_⟩
        · replace h := h.1 q
          refine A_aload_n dX6_draw_132 rfl rfl ?_
          refine A_iload_n dX6_draw_133 rfl rfl ?_
          refine A_aload dX6_draw_134 rfl ?_
          refine B_callS_V (av := [vR 2 i2, vI a3, vR 3 i4]) rfl dX6_draw_136 vX6_138 mX6_payMonth rfl (Nat.le_of_ble_eq_true rfl) (by decide) (by decide) rfl (BC_monoV h (fun N6 h => ?_))
          exact A_vret dX6_draw_139 ⟨rfl, rfl, h⟩
        · replace h := h.2 q
          refine A_aload_n dX6_draw_106 rfl rfl ?_
          refine A_aload dX6_draw_107 rfl ?_
          refine A_aload_n dX6_draw_109 rfl rfl ?_
          refine B_callV_L (av := []) rfl dX6_draw_110 vX6_132 mX2_interest ⟨rfl, rfl, by decide⟩ (okK2 (by omega)) rfl (Nat.le_of_ble_eq_true rfl) (by decide) (by decide) rfl (BC_monoL h (fun x7 N7 h => ?_))
          refine A_aload_n dX6_draw_113 rfl rfl ?_
          refine A_iload_n dX6_draw_114 rfl rfl ?_
          refine B_callV_I (av := [vI a3]) rfl dX6_draw_115 vX6_135 mX2_isLast ⟨rfl, rfl, by decide⟩ (okK2 (by omega)) rfl (Nat.le_of_ble_eq_true rfl) (by decide) (by decide) rfl (BC_monoI h (fun x8 N8 h => ?_))
          refine B_if_eq (tgt := 125) dX6_draw_118 (by decide) rfl ⟨fun q => ?_, fun q => ?_⟩
          · replace h := h.1 q
            refine A_iconst (v := 2) dX6_draw_125 rfl ?_
            refine B_callS_V (av := [vR 2 i2, vR 3 i4, vL x7, vI 2]) rfl dX6_draw_126 vX6_77 mX6_payAll rfl (Nat.le_of_ble_eq_true rfl) (by decide) (by decide) rfl (BC_monoV h (fun N9 h => ?_))
            refine A_goto (tgt := 139) dX6_draw_129 (by decide) ?_
            exact A_vret dX6_draw_139 ⟨rfl, rfl, h⟩
          · replace h := h.2 q
            refine A_iconst (v := 5) dX6_draw_121 rfl ?_
            refine A_goto (tgt := 126) dX6_draw_122 (by decide) ?_
            refine B_callS_V (av := [vR 2 i2, vR 3 i4, vL x7, vI 5]) rfl dX6_draw_126 vX6_77 mX6_payAll rfl (Nat.le_of_ble_eq_true rfl) (by decide) (by decide) rfl (BC_monoV h (fun N10 h => ?_))
            refine A_goto (tgt := 139) dX6_draw_129 (by decide) ?_
            exact A_vret dX6_draw_139 ⟨rfl, rfl, h⟩
    · replace h := h.2 q
      refine A_aload_n dX6_draw_73 rfl rfl ?_
      refine A_iload_n dX6_draw_74 rfl rfl ?_
      refine B_callV_I (av := [vI a3]) rfl dX6_draw_75 vX6_125 mX2_rests ⟨rfl, rfl, by decide⟩ (okK2 (by omega)) rfl (Nat.le_of_ble_eq_true rfl) (by decide) (by decide) rfl (BC_monoI h (fun x11 N11 h => ?_))
      refine B_if_ne (tgt := 92) dX6_draw_78 (by decide) rfl ⟨fun q => ?_, fun q => ?_⟩
      · replace h := h.1 q
        refine A_iload dX6_draw_92 rfl ?_
        refine A_iload dX6_draw_94 rfl ?_
        refine B_icmp_lt (tgt := 132) dX6_draw_96 (by decide) rfl rfl ⟨fun q => ?_, fun q => ?_⟩
        · replace h := h.1 q
          refine A_aload_n dX6_draw_132 rfl rfl ?_
          refine A_iload_n dX6_draw_133 rfl rfl ?_
          refine A_aload dX6_draw_134 rfl ?_
          refine B_callS_V (av := [vR 2 i2, vI a3, vR 3 i4]) rfl dX6_draw_136 vX6_138 mX6_payMonth rfl (Nat.le_of_ble_eq_true rfl) (by decide) (by decide) rfl (BC_monoV h (fun N12 h => ?_))
          exact A_vret dX6_draw_139 ⟨rfl, rfl, h⟩
        · replace h := h.2 q
          refine A_iload dX6_draw_99 rfl ?_
          refine A_iload dX6_draw_101 rfl ?_
          refine B_icmp_ge (tgt := 132) dX6_draw_103 (by decide) rfl rfl ⟨fun q => ?_, fun q => ?_⟩
          · replace h := h.1 q
            refine A_aload_n dX6_draw_132 rfl rfl ?_
            refine A_iload_n dX6_draw_133 rfl rfl ?_
            refine A_aload dX6_draw_134 rfl ?_
            refine B_callS_V (av := [vR 2 i2, vI a3, vR 3 i4]) rfl dX6_draw_136 vX6_138 mX6_payMonth rfl (Nat.le_of_ble_eq_true rfl) (by decide) (by decide) rfl (BC_monoV h (fun N13 h => ?_))
            exact A_vret dX6_draw_139 ⟨rfl, rfl, h⟩
          · replace h := h.2 q
            refine A_aload_n dX6_draw_106 rfl rfl ?_
            refine A_aload dX6_draw_107 rfl ?_
            refine A_aload_n dX6_draw_109 rfl rfl ?_
            refine B_callV_L (av := []) rfl dX6_draw_110 vX6_132 mX2_interest ⟨rfl, rfl, by decide⟩ (okK2 (by omega)) rfl (Nat.le_of_ble_eq_true rfl) (by decide) (by decide) rfl (BC_monoL h (fun x14 N14 h => ?_))
            refine A_aload_n dX6_draw_113 rfl rfl ?_
            refine A_iload_n dX6_draw_114 rfl rfl ?_
            refine B_callV_I (av := [vI a3]) rfl dX6_draw_115 vX6_135 mX2_isLast ⟨rfl, rfl, by decide⟩ (okK2 (by omega)) rfl (Nat.le_of_ble_eq_true rfl) (by decide) (by decide) rfl (BC_monoI h (fun x15 N15 h => ?_))
            refine B_if_eq (tgt := 125) dX6_draw_118 (by decide) rfl ⟨fun q => ?_, fun q => ?_⟩
            · replace h := h.1 q
              refine A_iconst (v := 2) dX6_draw_125 rfl ?_
              refine B_callS_V (av := [vR 2 i2, vR 3 i4, vL x14, vI 2]) rfl dX6_draw_126 vX6_77 mX6_payAll rfl (Nat.le_of_ble_eq_true rfl) (by decide) (by decide) rfl (BC_monoV h (fun N16 h => ?_))
              refine A_goto (tgt := 139) dX6_draw_129 (by decide) ?_
              exact A_vret dX6_draw_139 ⟨rfl, rfl, h⟩
            · replace h := h.2 q
              refine A_iconst (v := 5) dX6_draw_121 rfl ?_
              refine A_goto (tgt := 126) dX6_draw_122 (by decide) ?_
              refine B_callS_V (av := [vR 2 i2, vR 3 i4, vL x14, vI 5]) rfl dX6_draw_126 vX6_77 mX6_payAll rfl (Nat.le_of_ble_eq_true rfl) (by decide) (by decide) rfl (BC_monoV h (fun N17 h => ?_))
              refine A_goto (tgt := 139) dX6_draw_129 (by decide) ?_
              exact A_vret dX6_draw_139 ⟨rfl, rfl, h⟩
      · replace h := h.2 q
        refine A_aload_n dX6_draw_81 rfl rfl ?_
        refine A_aload_n dX6_draw_82 rfl rfl ?_
        refine A_iload_n dX6_draw_83 rfl rfl ?_
        refine A_aload dX6_draw_84 rfl ?_
        refine B_callV_V (av := [vR 2 i2, vI a3, vR 3 i4]) rfl dX6_draw_86 vX6_128 mX6_fallLate ⟨rfl, rfl, by decide⟩ (okK6 (by omega)) rfl (Nat.le_of_ble_eq_true rfl) (by decide) (by decide) rfl (BC_monoV h (fun N18 h => ?_))
        refine A_goto (tgt := 139) dX6_draw_89 (by decide) ?_
        exact A_vret dX6_draw_139 ⟨rfl, rfl, h⟩
  · replace h := h.2 q
    refine A_aload_n dX6_draw_48 rfl rfl ?_
    refine A_iconst (v := 3) dX6_draw_49 rfl ?_
    refine B_putI dX6_draw_50 fX6_51 (by decide) (okK2 (by omega)) (fun M19 eM19 => ?_)
    replace h := h M19 eM19
    refine A_aload_n dX6_draw_53 rfl rfl ?_
    refine A_iload_n dX6_draw_54 rfl rfl ?_
    refine B_putI dX6_draw_55 fX6_119 (by decide) (okK2 (by omega)) (fun M20 eM20 => ?_)
    replace h := h M20 eM20
    refine A_aload_n dX6_draw_58 rfl rfl ?_
    refine A_lconst (v := 0) dX6_draw_59 (by decide +kernel) ?_
    refine B_putL dX6_draw_60 fX6_122 (by decide) (okK2 (by omega)) (fun M21 eM21 => ?_)
    replace h := h M21 eM21
    refine A_goto (tgt := 139) dX6_draw_63 (by decide) ?_
    exact A_vret dX6_draw_139 ⟨rfl, rfl, h⟩
set_option maxRecDepth 100000 in
set_option maxHeartbeats 4000000 in
theorem vc_X6_chance {G : GT} {i0 : Nat} {a1 : Int} {i2 : Nat} {a3 : Int} {N : NN} {K : Int → NN → Prop} (h_i0 : i0 < 2) (h_i2 : i2 < 24) (h : (0 ≤ N 6 i0 6 ∧ (N 6 i0 6).toNat < 6 ∧ (0 ≤ N 6 i0 6 ∧ (N 6 i0 6).toNat < 6 ∧ (C_X1_value G ((N 6 i0 6).toNat) a1 i2 a3 N (fun x1 N1 => K (max 0 ((wI (min 1000 ((wI x1)))))) N1))))) : C_X6_chance G i0 a1 i2 a3 N K := by
  refine Ctr.ofAW RX6 false rfl (by decide +kernel) (fun q => by cases q) (Nat.le_of_ble_eq_true rfl) (Nat.le_refl _) ?_
  refine A_aload_n dX6_chance_0 rfl rfl ?_
  obtain ⟨q1, q1b, h⟩ := h
  refine A_getR (c2 := 1) (i2 := (N 6 i0 6).toNat) dX6_chance_1 fX6_40 rfl (okK6 (by omega)) (if_neg (by omega)) ?_
  refine A_ifnonnull (tgt := 11) dX6_chance_4 (by decide) ?_
  refine A_iconst (v := 0) dX6_chance_11 rfl ?_
  refine A_sipush (v := 1000) dX6_chance_12 (by decide +kernel) ?_
  refine A_aload_n dX6_chance_15 rfl rfl ?_
  obtain ⟨q16, q16b, h⟩ := h
  refine A_getR (c2 := 1) (i2 := (N 6 i0 6).toNat) dX6_chance_16 fX6_40 rfl (okK6 (by omega)) (if_neg (by omega)) ?_
  refine A_iload_n dX6_chance_19 rfl rfl ?_
  refine A_aload_n dX6_chance_20 rfl rfl ?_
  refine A_iload_n dX6_chance_21 rfl rfl ?_
  refine B_callV_I (av := [vI a1, vR 2 i2, vI a3]) rfl dX6_chance_22 vX6_141 mX1_value ⟨rfl, rfl, by decide⟩ (okK1 (by omega)) rfl (Nat.le_of_ble_eq_true rfl) (by decide) (by decide) rfl (BC_monoI h (fun x1 N1 h => ?_))
  refine B_minI dX6_chance_25 mmX6_146 (wlitI (by decide) (by decide)) rfl (Nat.le_of_ble_eq_true rfl) rfl ⟨rfl, rfl⟩ ?_
  refine B_maxI dX6_chance_28 mmX6_148 (wlitI (by decide) (by decide)) rfl (Nat.le_of_ble_eq_true rfl) rfl ⟨rfl, rfl⟩ ?_
  exact A_iret dX6_chance_31 ⟨rfl, _, rfl, h⟩
set_option maxRecDepth 100000 in
set_option maxHeartbeats 4000000 in
theorem vc_X6_lot {G : GT} {i0 : Nat} {a1 : Int} {a2 : Int} {N : NN} {K : Int → NN → Prop} (h_i0 : i0 < 2) (h : K (((wL (((wL (((((wI (N 6 i0 2))) + (7919 * ((wI a1)))) + (104729 * ((wI a2)))) * 48271))).tmod 2147483647))).tmod 1000) N) : C_X6_lot G i0 a1 a2 N K := by
  refine Ctr.ofAW RX6 false rfl (by decide +kernel) (fun q => by cases q) (Nat.le_of_ble_eq_true rfl) (Nat.le_refl _) ?_
  refine A_aload_n dX6_lot_0 rfl rfl ?_
  refine A_getI dX6_lot_1 fX6_29 rfl (okK6 (by omega)) ?_
  refine B_i2l dX6_lot_4 rfl ?_
  refine A_ldc2 (x := 7919) dX6_lot_5 kX6_151 (by decide +kernel) ?_
  refine A_iload_n dX6_lot_8 rfl rfl ?_
  refine B_i2l dX6_lot_9 rfl ?_
  refine A_lmul dX6_lot_10 ?_
  refine A_ladd dX6_lot_11 ?_
  refine A_ldc2 (x := 104729) dX6_lot_12 kX6_153 (by decide +kernel) ?_
  refine A_iload_n dX6_lot_15 rfl rfl ?_
  refine B_i2l dX6_lot_16 rfl ?_
  refine A_lmul dX6_lot_17 ?_
  refine A_ladd dX6_lot_18 ?_
  refine A_lstore_n (ls' := [(3, _), (0, _), (1, _), (2, _)]) dX6_lot_19 rfl (by decide) rfl ?_
  refine A_lload_n dX6_lot_20 rfl rfl ?_
  refine A_ldc2 (x := 48271) dX6_lot_21 kX6_155 (by decide +kernel) ?_
  refine A_lmul dX6_lot_24 ?_
  refine A_ldc2 (x := 2147483647) dX6_lot_25 kX6_157 (by decide +kernel) ?_
  refine B_lrem dX6_lot_28 rfl (wlitL (by decide) (by decide)) (by decide) ?_
  refine A_ldc2 (x := 1000) dX6_lot_29 kX6_159 (by decide +kernel) ?_
  refine B_lrem dX6_lot_32 rfl (wlitL (by decide) (by decide)) (by decide) ?_
  refine A_l2i dX6_lot_33 ?_
  exact A_iret dX6_lot_34 ⟨rfl, _, rfl, h⟩
set_option maxRecDepth 100000 in
set_option maxHeartbeats 4000000 in
theorem vc_X6_fallLate {G : GT} {i0 : Nat} {i1 : Nat} {a2 : Int} {i3 : Nat} {N : NN} {K : NN → Prop} (h_i0 : i0 < 2) (h_i1 : i1 < 24) (h_i3 : i3 < 62) (h : (C_X2_interest G i1 N (fun x1 N1 => (∀ M2 : NN, M2 = up3 N1 2 i1 4 ((N1 2 i1 4) + x1) → (∀ M3 : NN, M3 = up3 M2 2 i1 5 1 → (C_X2_isLast G i1 a2 M3 (fun x4 N4 => (((wI x4) = 0 → (((wI (N4 6 i0 4)) = 0 → K N4) ∧ (¬ ((wI (N4 6 i0 4)) = 0) → (∀ M5 : NN, M5 = up3 N4 3 i3 3 ((N4 3 i3 3) + x1) → K M5)))) ∧ (¬ ((wI x4) = 0) → (∀ M6 : NN, M6 = up3 N4 2 i1 3 ((N4 2 i1 3) + 1) → (((wI (M6 6 i0 4)) = 0 → K M6) ∧ (¬ ((wI (M6 6 i0 4)) = 0) → (∀ M7 : NN, M7 = up3 M6 3 i3 3 ((M6 3 i3 3) + x1) → K M7))))))))))))) : C_X6_fallLate G i0 i1 a2 i3 N K := by
  refine Ctr.ofAW RX6 false rfl (by decide +kernel) (fun q => by cases q) (Nat.le_of_ble_eq_true rfl) (Nat.le_refl _) ?_
  refine A_aload_n dX6_fallLate_0 rfl rfl ?_
  refine B_callV_L (av := []) rfl dX6_fallLate_1 vX6_132 mX2_interest ⟨rfl, rfl, by decide⟩ (okK2 (by omega)) rfl (Nat.le_of_ble_eq_true rfl) (by decide) (by decide) rfl (BC_monoL h (fun x1 N1 h => ?_))
  refine A_lstore (ls' := [(4, _), (0, _), (1, _), (2, _), (3, _)]) dX6_fallLate_4 (by decide) rfl ?_
  refine A_aload_n dX6_fallLate_6 rfl rfl ?_
  refine A_dup dX6_fallLate_7 rfl ?_
  refine A_getL dX6_fallLate_8 fX6_122 rfl (okK2 (by omega)) ?_
  refine A_lload dX6_fallLate_11 rfl ?_
  refine A_ladd dX6_fallLate_13 ?_
  refine B_putL dX6_fallLate_14 fX6_122 (by decide) (okK2 (by omega)) (fun M2 eM2 => ?_)
  replace h := h M2 eM2
  refine A_aload_n dX6_fallLate_17 rfl rfl ?_
  refine A_iconst (v := 1) dX6_fallLate_18 rfl ?_
  refine B_putI dX6_fallLate_19 fX6_51 (by decide) (okK2 (by omega)) (fun M3 eM3 => ?_)
  replace h := h M3 eM3
  refine A_aload_n dX6_fallLate_22 rfl rfl ?_
  refine A_iload_n dX6_fallLate_23 rfl rfl ?_
  refine B_callV_I (av := [vI a2]) rfl dX6_fallLate_24 vX6_135 mX2_isLast ⟨rfl, rfl, by decide⟩ (okK2 (by omega)) rfl (Nat.le_of_ble_eq_true rfl) (by decide) (by decide) rfl (BC_monoI h (fun x4 N4 h => ?_))
  refine B_if_eq (tgt := 40) dX6_fallLate_27 (by decide) rfl ⟨fun q => ?_, fun q => ?_⟩
  · replace h := h.1 q
    refine A_aload_n dX6_fallLate_40 rfl rfl ?_
    refine A_getI dX6_fallLate_41 fX6_32 rfl (okK6 (by omega)) ?_
    refine B_if_eq (tgt := 58) dX6_fallLate_44 (by decide) rfl ⟨fun q => ?_, fun q => ?_⟩
    · replace h := h.1 q
      exact A_vret dX6_fallLate_58 ⟨rfl, rfl, h⟩
    · replace h := h.2 q
      refine A_aload_n dX6_fallLate_47 rfl rfl ?_
      refine A_dup dX6_fallLate_48 rfl ?_
      refine A_getL dX6_fallLate_49 fX6_89 rfl (okK3 (by omega)) ?_
      refine A_lload dX6_fallLate_52 rfl ?_
      refine A_ladd dX6_fallLate_54 ?_
      refine B_putL dX6_fallLate_55 fX6_89 (by decide) (okK3 (by omega)) (fun M5 eM5 => ?_)
      replace h := h M5 eM5
      exact A_vret dX6_fallLate_58 ⟨rfl, rfl, h⟩
  · replace h := h.2 q
    refine A_aload_n dX6_fallLate_30 rfl rfl ?_
    refine A_dup dX6_fallLate_31 rfl ?_
    refine A_getI dX6_fallLate_32 fX6_161 rfl (okK2 (by omega)) ?_
    refine A_iconst (v := 1) dX6_fallLate_35 rfl ?_
    refine A_iadd dX6_fallLate_36 ?_
    refine B_putI dX6_fallLate_37 fX6_161 (by decide) (okK2 (by omega)) (fun M6 eM6 => ?_)
    replace h := h M6 eM6
    refine A_aload_n dX6_fallLate_40 rfl rfl ?_
    refine A_getI dX6_fallLate_41 fX6_32 rfl (okK6 (by omega)) ?_
    refine B_if_eq (tgt := 58) dX6_fallLate_44 (by decide) rfl ⟨fun q => ?_, fun q => ?_⟩
    · replace h := h.1 q
      exact A_vret dX6_fallLate_58 ⟨rfl, rfl, h⟩
    · replace h := h.2 q
      refine A_aload_n dX6_fallLate_47 rfl rfl ?_
      refine A_dup dX6_fallLate_48 rfl ?_
      refine A_getL dX6_fallLate_49 fX6_89 rfl (okK3 (by omega)) ?_
      refine A_lload dX6_fallLate_52 rfl ?_
      refine A_ladd dX6_fallLate_54 ?_
      refine B_putL dX6_fallLate_55 fX6_89 (by decide) (okK3 (by omega)) (fun M7 eM7 => ?_)
      replace h := h M7 eM7
      exact A_vret dX6_fallLate_58 ⟨rfl, rfl, h⟩
set_option maxRecDepth 100000 in
set_option maxHeartbeats 4000000 in
theorem vc_X6_payMonth {G : GT} {i0 : Nat} {a1 : Int} {i2 : Nat} {N : NN} {K : NN → Prop} (h_i0 : i0 < 24) (h_i2 : i2 < 62) (h : (C_X2_interest G i0 N (fun x1 N1 => (∀ M2 : NN, M2 = up3 N1 3 i2 0 ((N1 3 i2 0) + (N1 2 i0 4)) → (∀ M3 : NN, M3 = up3 M2 2 i0 4 0 → (C_X2_isLast G i0 a1 M3 (fun x4 N4 => (((wI x4) = 0 → (∀ M5 : NN, M5 = up3 N4 2 i0 5 0 → (C_X2_rests G i0 a1 M5 (fun x6 N6 => (((wI x6) = 0 → (C_X2_principal G i0 a1 N6 (fun x7 N7 => (∀ M8 : NN, M8 = up3 N7 3 i2 0 ((N7 3 i2 0) + x1) → (∀ M9 : NN, M9 = up3 M8 3 i2 1 ((M8 3 i2 1) + x7) → (∀ M10 : NN, M10 = up3 M9 2 i0 1 ((M9 2 i0 1) - x7) → K M10)))))) ∧ (¬ ((wI x6) = 0) → (∀ M11 : NN, M11 = up3 N6 2 i0 1 ((N6 2 i0 1) + x1) → K M11))))))) ∧ (¬ ((wI x4) = 0) → (∀ M12 : NN, M12 = up3 N4 2 i0 5 5 → (C_X2_rests G i0 a1 M12 (fun x13 N13 => (((wI x13) = 0 → (C_X2_principal G i0 a1 N13 (fun x14 N14 => (∀ M15 : NN, M15 = up3 N14 3 i2 0 ((N14 3 i2 0) + x1) → (∀ M16 : NN, M16 = up3 M15 3 i2 1 ((M15 3 i2 1) + x14) → (∀ M17 : NN, M17 = up3 M16 2 i0 1 ((M16 2 i0 1) - x14) → K M17)))))) ∧ (¬ ((wI x13) = 0) → (∀ M18 : NN, M18 = up3 N13 2 i0 1 ((N13 2 i0 1) + x1) → K M18))))))))))))))) : C_X6_payMonth G i0 a1 i2 N K := by
  refine Ctr.ofAW RX6 false rfl (by decide +kernel) (fun q => by cases q) (Nat.le_of_ble_eq_true rfl) (Nat.le_refl _) ?_
  refine A_aload_n dX6_payMonth_0 rfl rfl ?_
  refine B_callV_L (av := []) rfl dX6_payMonth_1 vX6_132 mX2_interest ⟨rfl, rfl, by decide⟩ (okK2 (by omega)) rfl (Nat.le_of_ble_eq_true rfl) (by decide) (by decide) rfl (BC_monoL h (fun x1 N1 h => ?_))
  refine A_lstore_n (ls' := [(3, _), (0, _), (1, _), (2, _)]) dX6_payMonth_4 rfl (by decide) rfl ?_
  refine A_aload_n dX6_payMonth_5 rfl rfl ?_
  refine A_dup dX6_payMonth_6 rfl ?_
  refine A_getL dX6_payMonth_7 fX6_90 rfl (okK3 (by omega)) ?_
  refine A_aload_n dX6_payMonth_10 rfl rfl ?_
  refine A_getL dX6_payMonth_11 fX6_122 rfl (okK2 (by omega)) ?_
  refine A_ladd dX6_payMonth_14 ?_
  refine B_putL dX6_payMonth_15 fX6_90 (by decide) (okK3 (by omega)) (fun M2 eM2 => ?_)
  replace h := h M2 eM2
  refine A_aload_n dX6_payMonth_18 rfl rfl ?_
  refine A_lconst (v := 0) dX6_payMonth_19 (by decide +kernel) ?_
  refine B_putL dX6_payMonth_20 fX6_122 (by decide) (okK2 (by omega)) (fun M3 eM3 => ?_)
  replace h := h M3 eM3
  refine A_aload_n dX6_payMonth_23 rfl rfl ?_
  refine A_aload_n dX6_payMonth_24 rfl rfl ?_
  refine A_iload_n dX6_payMonth_25 rfl rfl ?_
  refine B_callV_I (av := [vI a1]) rfl dX6_payMonth_26 vX6_135 mX2_isLast ⟨rfl, rfl, by decide⟩ (okK2 (by omega)) rfl (Nat.le_of_ble_eq_true rfl) (by decide) (by decide) rfl (BC_monoI h (fun x4 N4 h => ?_))
  refine B_if_eq (tgt := 36) dX6_payMonth_29 (by decide) rfl ⟨fun q => ?_, fun q => ?_⟩
  · replace h := h.1 q
    refine A_iconst (v := 0) dX6_payMonth_36 rfl ?_
    refine B_putI dX6_payMonth_37 fX6_51 (by decide) (okK2 (by omega)) (fun M5 eM5 => ?_)
    replace h := h M5 eM5
    refine A_aload_n dX6_payMonth_40 rfl rfl ?_
    refine A_iload_n dX6_payMonth_41 rfl rfl ?_
    refine B_callV_I (av := [vI a1]) rfl dX6_payMonth_42 vX6_125 mX2_rests ⟨rfl, rfl, by decide⟩ (okK2 (by omega)) rfl (Nat.le_of_ble_eq_true rfl) (by decide) (by decide) rfl (BC_monoI h (fun x6 N6 h => ?_))
    refine B_if_eq (tgt := 59) dX6_payMonth_45 (by decide) rfl ⟨fun q => ?_, fun q => ?_⟩
    · replace h := h.1 q
      refine A_aload_n dX6_payMonth_59 rfl rfl ?_
      refine A_iload_n dX6_payMonth_60 rfl rfl ?_
      refine B_callV_L (av := [vI a1]) rfl dX6_payMonth_61 vX6_164 mX2_principal ⟨rfl, rfl, by decide⟩ (okK2 (by omega)) rfl (Nat.le_of_ble_eq_true rfl) (by decide) (by decide) rfl (BC_monoL h (fun x7 N7 h => ?_))
      refine A_lstore (ls' := [(5, _), (3, _), (0, _), (1, _), (2, _)]) dX6_payMonth_64 (by decide) rfl ?_
      refine A_aload_n dX6_payMonth_66 rfl rfl ?_
      refine A_dup dX6_payMonth_67 rfl ?_
      refine A_getL dX6_payMonth_68 fX6_90 rfl (okK3 (by omega)) ?_
      refine A_lload_n dX6_payMonth_71 rfl rfl ?_
      refine A_ladd dX6_payMonth_72 ?_
      refine B_putL dX6_payMonth_73 fX6_90 (by decide) (okK3 (by omega)) (fun M8 eM8 => ?_)
      replace h := h M8 eM8
      refine A_aload_n dX6_payMonth_76 rfl rfl ?_
      refine A_dup dX6_payMonth_77 rfl ?_
      refine A_getL dX6_payMonth_78 fX6_168 rfl (okK3 (by omega)) ?_
      refine A_lload dX6_payMonth_81 rfl ?_
      refine A_ladd dX6_payMonth_83 ?_
      refine B_putL dX6_payMonth_84 fX6_168 (by decide) (okK3 (by omega)) (fun M9 eM9 => ?_)
      replace h := h M9 eM9
      refine A_aload_n dX6_payMonth_87 rfl rfl ?_
      refine A_dup dX6_payMonth_88 rfl ?_
      refine A_getL dX6_payMonth_89 fX6_48 rfl (okK2 (by omega)) ?_
      refine A_lload dX6_payMonth_92 rfl ?_
      refine A_lsub dX6_payMonth_94 ?_
      refine B_putL dX6_payMonth_95 fX6_48 (by decide) (okK2 (by omega)) (fun M10 eM10 => ?_)
      replace h := h M10 eM10
      exact A_vret dX6_payMonth_98 ⟨rfl, rfl, h⟩
    · replace h := h.2 q
      refine A_aload_n dX6_payMonth_48 rfl rfl ?_
      refine A_dup dX6_payMonth_49 rfl ?_
      refine A_getL dX6_payMonth_50 fX6_48 rfl (okK2 (by omega)) ?_
      refine A_lload_n dX6_payMonth_53 rfl rfl ?_
      refine A_ladd dX6_payMonth_54 ?_
      refine B_putL dX6_payMonth_55 fX6_48 (by decide) (okK2 (by omega)) (fun M11 eM11 => ?_)
      replace h := h M11 eM11
      exact A_vret dX6_payMonth_58 ⟨rfl, rfl, h⟩
  · replace h := h.2 q
    refine A_iconst (v := 5) dX6_payMonth_32 rfl ?_
    refine A_goto (tgt := 37) dX6_payMonth_33 (by decide) ?_
    refine B_putI dX6_payMonth_37 fX6_51 (by decide) (okK2 (by omega)) (fun M12 eM12 => ?_)
    replace h := h M12 eM12
    refine A_aload_n dX6_payMonth_40 rfl rfl ?_
    refine A_iload_n dX6_payMonth_41 rfl rfl ?_
    refine B_callV_I (av := [vI a1]) rfl dX6_payMonth_42 vX6_125 mX2_rests ⟨rfl, rfl, by decide⟩ (okK2 (by omega)) rfl (Nat.le_of_ble_eq_true rfl) (by decide) (by decide) rfl (BC_monoI h (fun x13 N13 h => ?_))
    refine B_if_eq (tgt := 59) dX6_payMonth_45 (by decide) rfl ⟨fun q => ?_, fun q => ?_⟩
    · replace h := h.1 q
      refine A_aload_n dX6_payMonth_59 rfl rfl ?_
      refine A_iload_n dX6_payMonth_60 rfl rfl ?_
      refine B_callV_L (av := [vI a1]) rfl dX6_payMonth_61 vX6_164 mX2_principal ⟨rfl, rfl, by decide⟩ (okK2 (by omega)) rfl (Nat.le_of_ble_eq_true rfl) (by decide) (by decide) rfl (BC_monoL h (fun x14 N14 h => ?_))
      refine A_lstore (ls' := [(5, _), (3, _), (0, _), (1, _), (2, _)]) dX6_payMonth_64 (by decide) rfl ?_
      refine A_aload_n dX6_payMonth_66 rfl rfl ?_
      refine A_dup dX6_payMonth_67 rfl ?_
      refine A_getL dX6_payMonth_68 fX6_90 rfl (okK3 (by omega)) ?_
      refine A_lload_n dX6_payMonth_71 rfl rfl ?_
      refine A_ladd dX6_payMonth_72 ?_
      refine B_putL dX6_payMonth_73 fX6_90 (by decide) (okK3 (by omega)) (fun M15 eM15 => ?_)
      replace h := h M15 eM15
      refine A_aload_n dX6_payMonth_76 rfl rfl ?_
      refine A_dup dX6_payMonth_77 rfl ?_
      refine A_getL dX6_payMonth_78 fX6_168 rfl (okK3 (by omega)) ?_
      refine A_lload dX6_payMonth_81 rfl ?_
      refine A_ladd dX6_payMonth_83 ?_
      refine B_putL dX6_payMonth_84 fX6_168 (by decide) (okK3 (by omega)) (fun M16 eM16 => ?_)
      replace h := h M16 eM16
      refine A_aload_n dX6_payMonth_87 rfl rfl ?_
      refine A_dup dX6_payMonth_88 rfl ?_
      refine A_getL dX6_payMonth_89 fX6_48 rfl (okK2 (by omega)) ?_
      refine A_lload dX6_payMonth_92 rfl ?_
      refine A_lsub dX6_payMonth_94 ?_
      refine B_putL dX6_payMonth_95 fX6_48 (by decide) (okK2 (by omega)) (fun M17 eM17 => ?_)
      replace h := h M17 eM17
      exact A_vret dX6_payMonth_98 ⟨rfl, rfl, h⟩
    · replace h := h.2 q
      refine A_aload_n dX6_payMonth_48 rfl rfl ?_
      refine A_dup dX6_payMonth_49 rfl ?_
      refine A_getL dX6_payMonth_50 fX6_48 rfl (okK2 (by omega)) ?_
      refine A_lload_n dX6_payMonth_53 rfl rfl ?_
      refine A_ladd dX6_payMonth_54 ?_
      refine B_putL dX6_payMonth_55 fX6_48 (by decide) (okK2 (by omega)) (fun M18 eM18 => ?_)
      replace h := h M18 eM18
      exact A_vret dX6_payMonth_58 ⟨rfl, rfl, h⟩
set_option maxRecDepth 100000 in
set_option maxHeartbeats 4000000 in
theorem vc_X6_payAll {G : GT} {i0 : Nat} {i1 : Nat} {a2 : Int} {a3 : Int} {N : NN} {K : NN → Prop} (h_i0 : i0 < 24) (h_i1 : i1 < 62) (h : (∀ M1 : NN, M1 = up3 N 3 i1 0 ((N 3 i1 0) + (a2 + (N 2 i0 4))) → (∀ M2 : NN, M2 = up3 M1 3 i1 1 ((M1 3 i1 1) + (M1 2 i0 1)) → (∀ M3 : NN, M3 = up3 M2 2 i0 4 0 → (∀ M4 : NN, M4 = up3 M3 2 i0 1 0 → (∀ M5 : NN, M5 = up3 M4 2 i0 5 a3 → K M5)))))) : C_X6_payAll G i0 i1 a2 a3 N K := by
  refine Ctr.ofAW RX6 false rfl (by decide +kernel) (fun q => by cases q) (Nat.le_of_ble_eq_true rfl) (Nat.le_refl _) ?_
  refine A_aload_n dX6_payAll_0 rfl rfl ?_
  refine A_dup dX6_payAll_1 rfl ?_
  refine A_getL dX6_payAll_2 fX6_90 rfl (okK3 (by omega)) ?_
  refine A_lload_n dX6_payAll_5 rfl rfl ?_
  refine A_aload_n dX6_payAll_6 rfl rfl ?_
  refine A_getL dX6_payAll_7 fX6_122 rfl (okK2 (by omega)) ?_
  refine A_ladd dX6_payAll_10 ?_
  refine A_ladd dX6_payAll_11 ?_
  refine B_putL dX6_payAll_12 fX6_90 (by decide) (okK3 (by omega)) (fun M1 eM1 => ?_)
  replace h := h M1 eM1
  refine A_aload_n dX6_payAll_15 rfl rfl ?_
  refine A_dup dX6_payAll_16 rfl ?_
  refine A_getL dX6_payAll_17 fX6_168 rfl (okK3 (by omega)) ?_
  refine A_aload_n dX6_payAll_20 rfl rfl ?_
  refine A_getL dX6_payAll_21 fX6_48 rfl (okK2 (by omega)) ?_
  refine A_ladd dX6_payAll_24 ?_
  refine B_putL dX6_payAll_25 fX6_168 (by decide) (okK3 (by omega)) (fun M2 eM2 => ?_)
  replace h := h M2 eM2
  refine A_aload_n dX6_payAll_28 rfl rfl ?_
  refine A_lconst (v := 0) dX6_payAll_29 (by decide +kernel) ?_
  refine B_putL dX6_payAll_30 fX6_122 (by decide) (okK2 (by omega)) (fun M3 eM3 => ?_)
  replace h := h M3 eM3
  refine A_aload_n dX6_payAll_33 rfl rfl ?_
  refine A_lconst (v := 0) dX6_payAll_34 (by decide +kernel) ?_
  refine B_putL dX6_payAll_35 fX6_48 (by decide) (okK2 (by omega)) (fun M4 eM4 => ?_)
  replace h := h M4 eM4
  refine A_aload_n dX6_payAll_38 rfl rfl ?_
  refine A_iload dX6_payAll_39 rfl ?_
  refine B_putI dX6_payAll_41 fX6_51 (by decide) (okK2 (by omega)) (fun M5 eM5 => ?_)
  replace h := h M5 eM5
  exact A_vret dX6_payAll_44 ⟨rfl, rfl, h⟩
set_option maxRecDepth 100000 in
set_option maxHeartbeats 4000000 in
theorem vc_X6_sell {G : GT} {i0 : Nat} {i1 : Nat} {i2 : Nat} {N : NN} {K : NN → Prop} (h_i0 : i0 < 2) (h_i1 : i1 < 24) (h_i2 : i2 < 62) (h : (∀ M1 : NN, M1 = up3 N 3 i2 2 ((N 3 i2 2) + (((wL ((N 2 i1 1) * ((wI (N 6 i0 3)))))).tdiv 100)) → (∀ M2 : NN, M2 = up3 M1 3 i2 8 ((M1 3 i2 8) + ((M1 2 i1 1) - (((wL ((N 2 i1 1) * ((wI (N 6 i0 3)))))).tdiv 100))) → (∀ M3 : NN, M3 = up3 M2 2 i1 1 0 → (∀ M4 : NN, M4 = up3 M3 2 i1 5 4 → K M4))))) : C_X6_sell G i0 i1 i2 N K := by
  refine Ctr.ofAW RX6 false rfl (by decide +kernel) (fun q => by cases q) (Nat.le_of_ble_eq_true rfl) (Nat.le_refl _) ?_
  refine A_aload_n dX6_sell_0 rfl rfl ?_
  refine A_getL dX6_sell_1 fX6_48 rfl (okK2 (by omega)) ?_
  refine A_aload_n dX6_sell_4 rfl rfl ?_
  refine A_getI dX6_sell_5 fX6_17 rfl (okK6 (by omega)) ?_
  refine B_i2l dX6_sell_8 rfl ?_
  refine A_lmul dX6_sell_9 ?_
  refine A_ldc2 (x := 100) dX6_sell_10 kX6_171 (by decide +kernel) ?_
  refine B_ldiv dX6_sell_13 rfl (wlitL (by decide) (by decide)) (by decide) ?_
  refine A_lstore_n (ls' := [(3, _), (0, _), (1, _), (2, _)]) dX6_sell_14 rfl (by decide) rfl ?_
  refine A_aload_n dX6_sell_15 rfl rfl ?_
  refine A_dup dX6_sell_16 rfl ?_
  refine A_getL dX6_sell_17 fX6_173 rfl (okK3 (by omega)) ?_
  refine A_lload_n dX6_sell_20 rfl rfl ?_
  refine A_ladd dX6_sell_21 ?_
  refine B_putL dX6_sell_22 fX6_173 (by decide) (okK3 (by omega)) (fun M1 eM1 => ?_)
  replace h := h M1 eM1
  refine A_aload_n dX6_sell_25 rfl rfl ?_
  refine A_dup dX6_sell_26 rfl ?_
  refine A_getL dX6_sell_27 fX6_176 rfl (okK3 (by omega)) ?_
  refine A_aload_n dX6_sell_30 rfl rfl ?_
  refine A_getL dX6_sell_31 fX6_48 rfl (okK2 (by omega)) ?_
  refine A_lload_n dX6_sell_34 rfl rfl ?_
  refine A_lsub dX6_sell_35 ?_
  refine A_ladd dX6_sell_36 ?_
  refine B_putL dX6_sell_37 fX6_176 (by decide) (okK3 (by omega)) (fun M2 eM2 => ?_)
  replace h := h M2 eM2
  refine A_aload_n dX6_sell_40 rfl rfl ?_
  refine A_lconst (v := 0) dX6_sell_41 (by decide +kernel) ?_
  refine B_putL dX6_sell_42 fX6_48 (by decide) (okK2 (by omega)) (fun M3 eM3 => ?_)
  replace h := h M3 eM3
  refine A_aload_n dX6_sell_45 rfl rfl ?_
  refine A_iconst (v := 4) dX6_sell_46 rfl ?_
  refine B_putI dX6_sell_47 fX6_51 (by decide) (okK2 (by omega)) (fun M4 eM4 => ?_)
  replace h := h M4 eM4
  exact A_vret dX6_sell_50 ⟨rfl, rfl, h⟩
