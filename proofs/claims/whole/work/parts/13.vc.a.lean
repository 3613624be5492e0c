set_option maxRecDepth 100000 in
set_option maxHeartbeats 4000000 in
theorem vc_X2_open {G : GT} {i0 : Nat} {a1 : Int} {a2 : Int} {a3 : Int} {a4 : Int} {N : NN} {K : NN → Prop} (h_i0 : i0 < 24) (h : (∀ M1 : NN, M1 = up3 N 2 i0 0 a1 → (∀ M2 : NN, M2 = up3 M1 2 i0 1 ((wI a2)) → (∀ M3 : NN, M3 = up3 M2 2 i0 2 a3 → (∀ M4 : NN, M4 = up3 M3 2 i0 3 a4 → K M4))))) : C_X2_open G i0 a1 a2 a3 a4 N K := by
  refine Ctr.ofAW RX2 false rfl (by decide +kernel) (fun q => by cases q) (Nat.le_of_ble_eq_true rfl) (Nat.le_refl _) ?_
  refine A_aload_n dX2_open_0 rfl rfl ?_
  refine A_iload_n dX2_open_1 rfl rfl ?_
  refine B_putI dX2_open_2 fX2_9 (by decide) (okK2 (by omega)) (fun M1 eM1 => ?_)
  replace h := h M1 eM1
  refine A_aload_n dX2_open_5 rfl rfl ?_
  refine A_iload_n dX2_open_6 rfl rfl ?_
  refine B_i2l dX2_open_7 rfl ?_
  refine B_putL dX2_open_8 fX2_15 (by decide) (okK2 (by omega)) (fun M2 eM2 => ?_)
  replace h := h M2 eM2
  refine A_aload_n dX2_open_11 rfl rfl ?_
  refine A_iload_n dX2_open_12 rfl rfl ?_
  refine B_putI dX2_open_13 fX2_19 (by decide) (okK2 (by omega)) (fun M3 eM3 => ?_)
  replace h := h M3 eM3
  refine A_aload_n dX2_open_16 rfl rfl ?_
  refine A_iload dX2_open_17 rfl ?_
  refine B_putI dX2_open_19 fX2_22 (by decide) (okK2 (by omega)) (fun M4 eM4 => ?_)
  replace h := h M4 eM4
  exact A_vret dX2_open_22 ⟨rfl, rfl, h⟩
set_option maxRecDepth 100000 in
set_option maxHeartbeats 4000000 in
theorem vc_X2_copy {G : GT} {i0 : Nat} {i1 : Nat} {N : NN} {K : NN → Prop} (h_i0 : i0 < 24) (h_i1 : i1 < 24) (h : (∀ M1 : NN, M1 = up3 N 2 i0 0 (N 2 i1 0) → (∀ M2 : NN, M2 = up3 M1 2 i0 1 (M1 2 i1 1) → (∀ M3 : NN, M3 = up3 M2 2 i0 2 (M2 2 i1 2) → (∀ M4 : NN, M4 = up3 M3 2 i0 3 (M3 2 i1 3) → (∀ M5 : NN, M5 = up3 M4 2 i0 4 (M4 2 i1 4) → (∀ M6 : NN, M6 = up3 M5 2 i0 5 (M5 2 i1 5) → (∀ M7 : NN, M7 = up3 M6 2 i0 6 (M6 2 i1 6) → (∀ M8 : NN, M8 = up3 M7 2 i0 7 (M7 2 i1 7) → K M8))))))))) : C_X2_copy G i0 i1 N K := by
  refine Ctr.ofAW RX2 false rfl (by decide +kernel) (fun q => by cases q) (Nat.le_of_ble_eq_true rfl) (Nat.le_refl _) ?_
  refine A_aload_n dX2_copy_0 rfl rfl ?_
  refine A_aload_n dX2_copy_1 rfl rfl ?_
  refine A_getI dX2_copy_2 fX2_9 rfl (okK2 (by omega)) ?_
  refine B_putI dX2_copy_5 fX2_9 (by decide) (okK2 (by omega)) (fun M1 eM1 => ?_)
  replace h := h M1 eM1
  refine A_aload_n dX2_copy_8 rfl rfl ?_
  refine A_aload_n dX2_copy_9 rfl rfl ?_
  refine A_getL dX2_copy_10 fX2_15 rfl (okK2 (by omega)) ?_
  refine B_putL dX2_copy_13 fX2_15 (by decide) (okK2 (by omega)) (fun M2 eM2 => ?_)
  replace h := h M2 eM2
  refine A_aload_n dX2_copy_16 rfl rfl ?_
  refine A_aload_n dX2_copy_17 rfl rfl ?_
  refine A_getI dX2_copy_18 fX2_19 rfl (okK2 (by omega)) ?_
  refine B_putI dX2_copy_21 fX2_19 (by decide) (okK2 (by omega)) (fun M3 eM3 => ?_)
  replace h := h M3 eM3
  refine A_aload_n dX2_copy_24 rfl rfl ?_
  refine A_aload_n dX2_copy_25 rfl rfl ?_
  refine A_getI dX2_copy_26 fX2_22 rfl (okK2 (by omega)) ?_
  refine B_putI dX2_copy_29 fX2_22 (by decide) (okK2 (by omega)) (fun M4 eM4 => ?_)
  replace h := h M4 eM4
  refine A_aload_n dX2_copy_32 rfl rfl ?_
  refine A_aload_n dX2_copy_33 rfl rfl ?_
  refine A_getL dX2_copy_34 fX2_25 rfl (okK2 (by omega)) ?_
  refine B_putL dX2_copy_37 fX2_25 (by decide) (okK2 (by omega)) (fun M5 eM5 => ?_)
  replace h := h M5 eM5
  refine A_aload_n dX2_copy_40 rfl rfl ?_
  refine A_aload_n dX2_copy_41 rfl rfl ?_
  refine A_getI dX2_copy_42 fX2_28 rfl (okK2 (by omega)) ?_
  refine B_putI dX2_copy_45 fX2_28 (by decide) (okK2 (by omega)) (fun M6 eM6 => ?_)
  replace h := h M6 eM6
  refine A_aload_n dX2_copy_48 rfl rfl ?_
  refine A_aload_n dX2_copy_49 rfl rfl ?_
  refine A_getL dX2_copy_50 fX2_31 rfl (okK2 (by omega)) ?_
  refine B_putL dX2_copy_53 fX2_31 (by decide) (okK2 (by omega)) (fun M7 eM7 => ?_)
  replace h := h M7 eM7
  refine A_aload_n dX2_copy_56 rfl rfl ?_
  refine A_aload_n dX2_copy_57 rfl rfl ?_
  refine A_getI dX2_copy_58 fX2_34 rfl (okK2 (by omega)) ?_
  refine B_putI dX2_copy_61 fX2_34 (by decide) (okK2 (by omega)) (fun M8 eM8 => ?_)
  replace h := h M8 eM8
  exact A_vret dX2_copy_64 ⟨rfl, rfl, h⟩
set_option maxRecDepth 100000 in
set_option maxHeartbeats 4000000 in
theorem vc_X2_isKind {G : GT} {i0 : Nat} {a1 : Int} {N : NN} {K : Int → NN → Prop} (h_i0 : i0 < 24) (h : W_X2_isKind G K 7 [(1, vI a1), (2, vI (N 2 i0 0)), (3, vI 0)] [] N) : C_X2_isKind G i0 a1 N K := by
  refine Ctr.ofAW RX2 false rfl (by decide +kernel) (fun q => by cases q) (Nat.le_of_ble_eq_true rfl) (Nat.le_refl _) ?_
  refine A_aload_n dX2_isKind_0 rfl rfl ?_
  refine A_getI dX2_isKind_1 fX2_9 rfl (okK2 (by omega)) ?_
  refine A_istore_n (ls' := [(2, _), (0, _), (1, _)]) dX2_isKind_4 rfl (by decide) rfl ?_
  refine A_iconst (v := 0) dX2_isKind_5 rfl ?_
  refine A_istore_n (ls' := [(3, _), (2, _), (0, _), (1, _)]) dX2_isKind_6 rfl (by decide) rfl ?_
  exact A_pick [3, 1, 0] rfl h
set_option maxRecDepth 100000 in
set_option maxHeartbeats 4000000 in
theorem vc_X2_isKind_7 {G : GT} {l1 : Int} {l2 : Int} {l3 : Int} {N : NN} {K : Int → NN → Prop}  (h : ((6 ≤ (wI l3) → K 0 N) ∧ (¬ (6 ≤ (wI l3)) → (((wI l2) < 0 → K 0 N) ∧ (¬ ((wI l2) < 0) → ((6 ≤ (wI l2) → K 0 N) ∧ (¬ (6 ≤ (wI l2)) → (((wI l2) ≠ (wI l1) → (∃ j1 : Nat, (wI l2) = (j1 : Int) ∧ j1 < 6 ∧ W_X2_isKind G K 7 [(1, vI l1), (2, vI (above j1)), (3, vI (l3 + 1))] [] N)) ∧ (¬ ((wI l2) ≠ (wI l1)) → K 1 N))))))))) : W_X2_isKind G K 7 [(1, vI l1), (2, vI l2), (3, vI l3)] [] N := by
  refine A_iload_n dX2_isKind_7 rfl rfl ?_
  refine A_bipush (v := 6) dX2_isKind_8 (by decide +kernel) ?_
  refine B_icmp_ge (tgt := 42) dX2_isKind_10 (by decide) rfl (wlitI (by decide) (by decide)) ⟨fun q => ?_, fun q => ?_⟩
  · replace h := h.1 q
    refine A_iconst (v := 0) dX2_isKind_42 rfl ?_
    exact A_zret dX2_isKind_43 (by decide) ⟨rfl, _, rfl, h⟩
  · replace h := h.2 q
    refine A_iload_n dX2_isKind_13 rfl rfl ?_
    refine B_if_lt (tgt := 42) dX2_isKind_14 (by decide) rfl ⟨fun q => ?_, fun q => ?_⟩
    · replace h := h.1 q
      refine A_iconst (v := 0) dX2_isKind_42 rfl ?_
      exact A_zret dX2_isKind_43 (by decide) ⟨rfl, _, rfl, h⟩
    · replace h := h.2 q
      refine A_iload_n dX2_isKind_17 rfl rfl ?_
      refine A_bipush (v := 6) dX2_isKind_18 (by decide +kernel) ?_
      refine B_icmp_ge (tgt := 42) dX2_isKind_20 (by decide) rfl (wlitI (by decide) (by decide)) ⟨fun q => ?_, fun q => ?_⟩
      · replace h := h.1 q
        refine A_iconst (v := 0) dX2_isKind_42 rfl ?_
        exact A_zret dX2_isKind_43 (by decide) ⟨rfl, _, rfl, h⟩
      · replace h := h.2 q
        refine A_iload_n dX2_isKind_23 rfl rfl ?_
        refine A_iload_n dX2_isKind_24 rfl rfl ?_
        refine B_icmp_ne (tgt := 30) dX2_isKind_25 (by decide) rfl rfl ⟨fun q => ?_, fun q => ?_⟩
        · replace h := h.1 q
          refine A_above dX2_isKind_30 rfl ?_
          refine A_iload_n dX2_isKind_33 rfl rfl ?_
          obtain ⟨j1, qj1, bj1, h⟩ := h
          refine A_aboveld (j := j1) dX2_isKind_34 qj1 bj1 ?_
          refine A_istore_n (ls' := [(2, _), (1, _), (3, _)]) dX2_isKind_35 rfl (by decide) rfl ?_
          refine A_iinc (ls' := [(3, _), (2, _), (1, _)]) dX2_isKind_36 (by decide) rfl rfl rfl ?_
          refine A_goto (tgt := 7) dX2_isKind_39 (by decide) ?_
          exact A_pick [2, 1, 0] rfl h
        · replace h := h.2 q
          refine A_iconst (v := 1) dX2_isKind_28 rfl ?_
          exact A_zret dX2_isKind_29 (by decide) ⟨rfl, _, rfl, h⟩
set_option maxRecDepth 100000 in
set_option maxHeartbeats 4000000 in
theorem vc_X2_goesOn {G : GT} {i0 : Nat} {N : NN} {K : Int → NN → Prop} (h_i0 : i0 < 24) (h : (((wI (N 2 i0 5)) = 0 → K 1 N) ∧ (¬ ((wI (N 2 i0 5)) = 0) → (((wI (N 2 i0 5)) ≠ 1 → K 0 N) ∧ (¬ ((wI (N 2 i0 5)) ≠ 1) → K 1 N))))) : C_X2_goesOn G i0 N K := by
  refine Ctr.ofAW RX2 false rfl (by decide +kernel) (fun q => by cases q) (Nat.le_of_ble_eq_true rfl) (Nat.le_refl _) ?_
  refine A_aload_n dX2_goesOn_0 rfl rfl ?_
  refine A_getI dX2_goesOn_1 fX2_28 rfl (okK2 (by omega)) ?_
  refine B_if_eq (tgt := 15) dX2_goesOn_4 (by decide) rfl ⟨fun q => ?_, fun q => ?_⟩
  · replace h := h.1 q
    refine A_iconst (v := 1) dX2_goesOn_15 rfl ?_
    refine A_goto (tgt := 20) dX2_goesOn_16 (by decide) ?_
    exact A_zret dX2_goesOn_20 (by decide) ⟨rfl, _, rfl, h⟩
  · replace h := h.2 q
    refine A_aload_n dX2_goesOn_7 rfl rfl ?_
    refine A_getI dX2_goesOn_8 fX2_28 rfl (okK2 (by omega)) ?_
    refine A_iconst (v := 1) dX2_goesOn_11 rfl ?_
    refine B_icmp_ne (tgt := 19) dX2_goesOn_12 (by decide) rfl (wlitI (by decide) (by decide)) ⟨fun q => ?_, fun q => ?_⟩
    · replace h := h.1 q
      refine A_iconst (v := 0) dX2_goesOn_19 rfl ?_
      exact A_zret dX2_goesOn_20 (by decide) ⟨rfl, _, rfl, h⟩
    · replace h := h.2 q
      refine A_iconst (v := 1) dX2_goesOn_15 rfl ?_
      refine A_goto (tgt := 20) dX2_goesOn_16 (by decide) ?_
      exact A_zret dX2_goesOn_20 (by decide) ⟨rfl, _, rfl, h⟩
set_option maxRecDepth 100000 in
set_option maxHeartbeats 4000000 in
theorem vc_X2_isPooled {G : GT} {i0 : Nat} {N : NN} {K : Int → NN → Prop} (h_i0 : i0 < 24) (h : (C_X2_goesOn G i0 N (fun x1 N1 => (((wI x1) ≠ 0 → K 1 N1) ∧ (¬ ((wI x1) ≠ 0) → (((wI (N1 2 i0 5)) ≠ 3 → K 0 N1) ∧ (¬ ((wI (N1 2 i0 5)) ≠ 3) → K 1 N1))))))) : C_X2_isPooled G i0 N K := by
  refine Ctr.ofAW RX2 false rfl (by decide +kernel) (fun q => by cases q) (Nat.le_of_ble_eq_true rfl) (Nat.le_refl _) ?_
  refine A_aload_n dX2_isPooled_0 rfl rfl ?_
  refine B_callV_I (av := []) rfl dX2_isPooled_1 vX2_41 mX2_goesOn ⟨rfl, rfl, by decide⟩ (okK2 (by omega)) rfl (Nat.le_of_ble_eq_true rfl) (by decide) (by decide) rfl (BC_monoI h (fun x1 N1 h => ?_))
  refine B_if_ne (tgt := 15) dX2_isPooled_4 (by decide) rfl ⟨fun q => ?_, fun q => ?_⟩
  · replace h := h.1 q
    refine A_iconst (v := 1) dX2_isPooled_15 rfl ?_
    refine A_goto (tgt := 20) dX2_isPooled_16 (by decide) ?_
    exact A_zret dX2_isPooled_20 (by decide) ⟨rfl, _, rfl, h⟩
  · replace h := h.2 q
    refine A_aload_n dX2_isPooled_7 rfl rfl ?_
    refine A_getI dX2_isPooled_8 fX2_28 rfl (okK2 (by omega)) ?_
    refine A_iconst (v := 3) dX2_isPooled_11 rfl ?_
    refine B_icmp_ne (tgt := 19) dX2_isPooled_12 (by decide) rfl (wlitI (by decide) (by decide)) ⟨fun q => ?_, fun q => ?_⟩
    · replace h := h.1 q
      refine A_iconst (v := 0) dX2_isPooled_19 rfl ?_
      exact A_zret dX2_isPooled_20 (by decide) ⟨rfl, _, rfl, h⟩
    · replace h := h.2 q
      refine A_iconst (v := 1) dX2_isPooled_15 rfl ?_
      refine A_goto (tgt := 20) dX2_isPooled_16 (by decide) ?_
      exact A_zret dX2_isPooled_20 (by decide) ⟨rfl, _, rfl, h⟩
set_option maxRecDepth 100000 in
set_option maxHeartbeats 4000000 in
theorem vc_X2_isSoldIn {G : GT} {i0 : Nat} {a1 : Int} {N : NN} {K : Int → NN → Prop} (h_i0 : i0 < 24) (h : (((wI (N 2 i0 5)) ≠ 3 → K 0 N) ∧ (¬ ((wI (N 2 i0 5)) ≠ 3) → (((wI a1) < (wI ((N 2 i0 7) + 3)) → K 0 N) ∧ (¬ ((wI a1) < (wI ((N 2 i0 7) + 3))) → K 1 N))))) : C_X2_isSoldIn G i0 a1 N K := by
  refine Ctr.ofAW RX2 false rfl (by decide +kernel) (fun q => by cases q) (Nat.le_of_ble_eq_true rfl) (Nat.le_refl _) ?_
  refine A_aload_n dX2_isSoldIn_0 rfl rfl ?_
  refine A_getI dX2_isSoldIn_1 fX2_28 rfl (okK2 (by omega)) ?_
  refine A_iconst (v := 3) dX2_isSoldIn_4 rfl ?_
  refine B_icmp_ne (tgt := 22) dX2_isSoldIn_5 (by decide) rfl (wlitI (by decide) (by decide)) ⟨fun q => ?_, fun q => ?_⟩
  · replace h := h.1 q
    refine A_iconst (v := 0) dX2_isSoldIn_22 rfl ?_
    exact A_zret dX2_isSoldIn_23 (by decide) ⟨rfl, _, rfl, h⟩
  · replace h := h.2 q
    refine A_iload_n dX2_isSoldIn_8 rfl rfl ?_
    refine A_aload_n dX2_isSoldIn_9 rfl rfl ?_
    refine A_getI dX2_isSoldIn_10 fX2_34 rfl (okK2 (by omega)) ?_
    refine A_iconst (v := 3) dX2_isSoldIn_13 rfl ?_
    refine A_iadd dX2_isSoldIn_14 ?_
    refine B_icmp_lt (tgt := 22) dX2_isSoldIn_15 (by decide) rfl rfl ⟨fun q => ?_, fun q => ?_⟩
    · replace h := h.1 q
      refine A_iconst (v := 0) dX2_isSoldIn_22 rfl ?_
      exact A_zret dX2_isSoldIn_23 (by decide) ⟨rfl, _, rfl, h⟩
    · replace h := h.2 q
      refine A_iconst (v := 1) dX2_isSoldIn_18 rfl ?_
      refine A_goto (tgt := 23) dX2_isSoldIn_19 (by decide) ?_
      exact A_zret dX2_isSoldIn_23 (by decide) ⟨rfl, _, rfl, h⟩
set_option maxRecDepth 100000 in
set_option maxHeartbeats 4000000 in
theorem vc_X2_left {G : GT} {i0 : Nat} {a1 : Int} {N : NN} {K : Int → NN → Prop} (h_i0 : i0 < 24) (h : K (((N 2 i0 3) + 1) - a1) N) : C_X2_left G i0 a1 N K := by
  refine Ctr.ofAW RX2 false rfl (by decide +kernel) (fun q => by cases q) (Nat.le_of_ble_eq_true rfl) (Nat.le_refl _) ?_
  refine A_aload_n dX2_left_0 rfl rfl ?_
  refine A_getI dX2_left_1 fX2_22 rfl (okK2 (by omega)) ?_
  refine A_iconst (v := 1) dX2_left_4 rfl ?_
  refine A_iadd dX2_left_5 ?_
  refine A_iload_n dX2_left_6 rfl rfl ?_
  refine A_isub dX2_left_7 ?_
  exact A_iret dX2_left_8 ⟨rfl, _, rfl, h⟩
set_option maxRecDepth 100000 in
set_option maxHeartbeats 4000000 in
theorem vc_X2_isLast {G : GT} {i0 : Nat} {a1 : Int} {N : NN} {K : Int → NN → Prop} (h_i0 : i0 < 24) (h : (((wI a1) < (wI (N 2 i0 3)) → K 0 N) ∧ (¬ ((wI a1) < (wI (N 2 i0 3))) → K 1 N))) : C_X2_isLast G i0 a1 N K := by
  refine Ctr.ofAW RX2 false rfl (by decide +kernel) (fun q => by cases q) (Nat.le_of_ble_eq_true rfl) (Nat.le_refl _) ?_
  refine A_iload_n dX2_isLast_0 rfl rfl ?_
  refine A_aload_n dX2_isLast_1 rfl rfl ?_
  refine A_getI dX2_isLast_2 fX2_22 rfl (okK2 (by omega)) ?_
  refine B_icmp_lt (tgt := 12) dX2_isLast_5 (by decide) rfl rfl ⟨fun q => ?_, fun q => ?_⟩
  · replace h := h.1 q
    refine A_iconst (v := 0) dX2_isLast_12 rfl ?_
    exact A_zret dX2_isLast_13 (by decide) ⟨rfl, _, rfl, h⟩
  · replace h := h.2 q
    refine A_iconst (v := 1) dX2_isLast_8 rfl ?_
    refine A_goto (tgt := 13) dX2_isLast_9 (by decide) ?_
    exact A_zret dX2_isLast_13 (by decide) ⟨rfl, _, rfl, h⟩
set_option maxRecDepth 100000 in
set_option maxHeartbeats 4000000 in
theorem vc_X2_rests {G : GT} {i0 : Nat} {a1 : Int} {N : NN} {K : Int → NN → Prop} (h_i0 : i0 < 24) (h : (((wI (N 2 i0 0)) ≠ 4 → K 0 N) ∧ (¬ ((wI (N 2 i0 0)) ≠ 4) → (((wI (((wI a1)).tmod 6)) ≠ 0 → K 0 N) ∧ (¬ ((wI (((wI a1)).tmod 6)) ≠ 0) → (C_X2_isLast G i0 a1 N (fun x1 N1 => (((wI x1) ≠ 0 → K 0 N1) ∧ (¬ ((wI x1) ≠ 0) → K 1 N1))))))))) : C_X2_rests G i0 a1 N K := by
  refine Ctr.ofAW RX2 false rfl (by decide +kernel) (fun q => by cases q) (Nat.le_of_ble_eq_true rfl) (Nat.le_refl _) ?_
  refine A_aload_n dX2_rests_0 rfl rfl ?_
  refine A_getI dX2_rests_1 fX2_9 rfl (okK2 (by omega)) ?_
  refine A_iconst (v := 4) dX2_rests_4 rfl ?_
  refine B_icmp_ne (tgt := 27) dX2_rests_5 (by decide) rfl (wlitI (by decide) (by decide)) ⟨fun q => ?_, fun q => ?_⟩
  · replace h := h.1 q
    refine A_iconst (v := 0) dX2_rests_27 rfl ?_
    exact A_zret dX2_rests_28 (by decide) ⟨rfl, _, rfl, h⟩
  · replace h := h.2 q
    refine A_iload_n dX2_rests_8 rfl rfl ?_
    refine A_bipush (v := 6) dX2_rests_9 (by decide +kernel) ?_
    refine B_irem dX2_rests_11 rfl (wlitI (by decide) (by decide)) (by decide) ?_
    refine B_if_ne (tgt := 27) dX2_rests_12 (by decide) rfl ⟨fun q => ?_, fun q => ?_⟩
    · replace h := h.1 q
      refine A_iconst (v := 0) dX2_rests_27 rfl ?_
      exact A_zret dX2_rests_28 (by decide) ⟨rfl, _, rfl, h⟩
    · replace h := h.2 q
      refine A_aload_n dX2_rests_15 rfl rfl ?_
      refine A_iload_n dX2_rests_16 rfl rfl ?_
      refine B_callV_I (av := [vI a1]) rfl dX2_rests_17 vX2_45 mX2_isLast ⟨rfl, rfl, by decide⟩ (okK2 (by omega)) rfl (Nat.le_of_ble_eq_true rfl) (by decide) (by decide) rfl (BC_monoI h (fun x1 N1 h => ?_))
      refine B_if_ne (tgt := 27) dX2_rests_20 (by decide) rfl ⟨fun q => ?_, fun q => ?_⟩
      · replace h := h.1 q
        refine A_iconst (v := 0) dX2_rests_27 rfl ?_
        exact A_zret dX2_rests_28 (by decide) ⟨rfl, _, rfl, h⟩
      · replace h := h.2 q
        refine A_iconst (v := 1) dX2_rests_23 rfl ?_
        refine A_goto (tgt := 28) dX2_rests_24 (by decide) ?_
        exact A_zret dX2_rests_28 (by decide) ⟨rfl, _, rfl, h⟩
set_option maxRecDepth 100000 in
set_option maxHeartbeats 4000000 in
theorem vc_X2_interest {G : GT} {i0 : Nat} {N : NN} {K : Int → NN → Prop} (h_i0 : i0 < 24) (h : K (((wL ((N 2 i0 1) * ((wI (N 2 i0 2)))))).tdiv 10000) N) : C_X2_interest G i0 N K := by
  refine Ctr.ofAW RX2 false rfl (by decide +kernel) (fun q => by cases q) (Nat.le_of_ble_eq_true rfl) (Nat.le_refl _) ?_
  refine A_aload_n dX2_interest_0 rfl rfl ?_
  refine A_getL dX2_interest_1 fX2_15 rfl (okK2 (by omega)) ?_
  refine A_aload_n dX2_interest_4 rfl rfl ?_
  refine A_getI dX2_interest_5 fX2_19 rfl (okK2 (by omega)) ?_
  refine B_i2l dX2_interest_8 rfl ?_
  refine A_lmul dX2_interest_9 ?_
  refine A_ldc2 (x := 10000) dX2_interest_10 kX2_49 (by decide +kernel) ?_
  refine B_ldiv dX2_interest_13 rfl (wlitL (by decide) (by decide)) (by decide) ?_
  exact A_lret dX2_interest_14 ⟨rfl, _, rfl, h⟩
set_option maxRecDepth 100000 in
set_option maxHeartbeats 4000000 in
theorem vc_X2_principal {G : GT} {i0 : Nat} {a1 : Int} {N : NN} {K : Int → NN → Prop} (h_i0 : i0 < 24) (h : (C_X2_isLast G i0 a1 N (fun x1 N1 => (((wI x1) = 0 → (C_X2_isKind G i0 1 N1 (fun x2 N2 => (((wI x2) = 0 → (((wI (N2 2 i0 0)) = 0 → (C_X2_left G i0 a1 N2 (fun x3 N3 => (((wI x3) ≤ 0 → K 0 N3) ∧ (¬ ((wI x3) ≤ 0) → ((wL ((wI x3))) ≠ 0 ∧ K (((wL (((N3 2 i0 1) + ((wI x3))) - 1))).tdiv ((wL ((wI x3))))) N3)))))) ∧ (¬ ((wI (N2 2 i0 0)) = 0) → (((wI (N2 2 i0 0)) ≠ 5 → (C_X2_left G i0 a1 N2 (fun x4 N4 => K 0 N4))) ∧ (¬ ((wI (N2 2 i0 0)) ≠ 5) → (((wI (3 * a1)) ≤ (wI (2 * (N2 2 i0 3))) → (C_X2_left G i0 a1 N2 (fun x5 N5 => K 0 N5))) ∧ (¬ ((wI (3 * a1)) ≤ (wI (2 * (N2 2 i0 3)))) → (C_X2_left G i0 a1 N2 (fun x6 N6 => (((wI x6) ≤ 0 → K 0 N6) ∧ (¬ ((wI x6) ≤ 0) → ((wL ((wI x6))) ≠ 0 ∧ K (((wL (((N6 2 i0 1) + ((wI x6))) - 1))).tdiv ((wL ((wI x6))))) N6)))))))))))) ∧ (¬ ((wI x2) = 0) → (C_X2_interest G i0 N2 (fun x7 N7 => K (min ((wL (N2 2 i0 1))) ((wL (max 0 ((wL ((N2 2 i0 6) - x7))))))) N7))))))) ∧ (¬ ((wI x1) = 0) → K (N1 2 i0 1) N1))))) : C_X2_principal G i0 a1 N K := by
  refine Ctr.ofAW RX2 false rfl (by decide +kernel) (fun q => by cases q) (Nat.le_of_ble_eq_true rfl) (Nat.le_refl _) ?_
  refine A_aload_n dX2_principal_0 rfl rfl ?_
  refine A_iload_n dX2_principal_1 rfl rfl ?_
  refine B_callV_I (av := [vI a1]) rfl dX2_principal_2 vX2_45 mX2_isLast ⟨rfl, rfl, by decide⟩ (okK2 (by omega)) rfl (Nat.le_of_ble_eq_true rfl) (by decide) (by decide) rfl (BC_monoI h (fun x1 N1 h => ?_))
  refine B_if_eq (tgt := 13) dX2_principal_5 (by decide) rfl ⟨fun q => ?_, fun q => ?_⟩
  · replace h := h.1 q
    refine A_aload_n dX2_principal_13 rfl rfl ?_
    refine A_iconst (v := 1) dX2_principal_14 rfl ?_
    refine B_callV_I (av := [vI 1]) rfl dX2_principal_15 vX2_51 mX2_isKind ⟨rfl, rfl, by decide⟩ (okK2 (by omega)) rfl (Nat.le_of_ble_eq_true rfl) (by decide) (by decide) rfl (BC_monoI h (fun x2 N2 h => ?_))
    refine B_if_eq (tgt := 42) dX2_principal_18 (by decide) rfl ⟨fun q => ?_, fun q => ?_⟩
    · replace h := h.1 q
      refine A_aload_n dX2_principal_42 rfl rfl ?_
      refine A_getI dX2_principal_43 fX2_9 rfl (okK2 (by omega)) ?_
      refine B_if_eq (tgt := 69) dX2_principal_46 (by decide) rfl ⟨fun q => ?_, fun q => ?_⟩
      · replace h := h.1 q
        refine A_iconst (v := 1) dX2_principal_69 rfl ?_
        refine A_goto (tgt := 74) dX2_principal_70 (by decide) ?_
        refine A_istore_n (ls' := [(2, _), (0, _), (1, _)]) dX2_principal_74 rfl (by decide) rfl ?_
        refine A_aload_n dX2_principal_75 rfl rfl ?_
        refine A_iload_n dX2_principal_76 rfl rfl ?_
        refine B_callV_I (av := [vI a1]) rfl dX2_principal_77 vX2_67 mX2_left ⟨rfl, rfl, by decide⟩ (okK2 (by omega)) rfl (Nat.le_of_ble_eq_true rfl) (by decide) (by decide) rfl (BC_monoI h (fun x3 N3 h => ?_))
        refine A_istore_n (ls' := [(3, _), (2, _), (0, _), (1, _)]) dX2_principal_80 rfl (by decide) rfl ?_
        refine A_iload_n dX2_principal_81 rfl rfl ?_
        refine B_if_eq (tgt := 104) dX2_principal_82 (by decide) (wlitI (by decide) (by decide)) ⟨fun q => absurd q (by decide), fun q => ?_⟩
        refine A_iload_n dX2_principal_85 rfl rfl ?_
        refine B_if_le (tgt := 104) dX2_principal_86 (by decide) rfl ⟨fun q => ?_, fun q => ?_⟩
        · replace h := h.1 q
          refine A_lconst (v := 0) dX2_principal_104 (by decide +kernel) ?_
          exact A_lret dX2_principal_105 ⟨rfl, _, rfl, h⟩
        · replace h := h.2 q
          refine A_aload_n dX2_principal_89 rfl rfl ?_
          refine A_getL dX2_principal_90 fX2_15 rfl (okK2 (by omega)) ?_
          refine A_iload_n dX2_principal_93 rfl rfl ?_
          refine B_i2l dX2_principal_94 rfl ?_
          refine A_ladd dX2_principal_95 ?_
          refine A_lconst (v := 1) dX2_principal_96 (by decide +kernel) ?_
          refine A_lsub dX2_principal_97 ?_
          refine A_iload_n dX2_principal_98 rfl rfl ?_
          refine B_i2l dX2_principal_99 rfl ?_
          refine B_ldiv dX2_principal_100 rfl rfl h.1 ?_
          replace h := h.2
          refine A_goto (tgt := 105) dX2_principal_101 (by decide) ?_
          exact A_lret dX2_principal_105 ⟨rfl, _, rfl, h⟩
      · replace h := h.2 q
        refine A_aload_n dX2_principal_49 rfl rfl ?_
        refine A_getI dX2_principal_50 fX2_9 rfl (okK2 (by omega)) ?_
        refine A_iconst (v := 5) dX2_principal_53 rfl ?_
        refine B_icmp_ne (tgt := 73) dX2_principal_54 (by decide) rfl (wlitI (by decide) (by decide)) ⟨fun q => ?_, fun q => ?_⟩
        · replace h := h.1 q
          refine A_iconst (v := 0) dX2_principal_73 rfl ?_
          refine A_istore_n (ls' := [(2, _), (0, _), (1, _)]) dX2_principal_74 rfl (by decide) rfl ?_
          refine A_aload_n dX2_principal_75 rfl rfl ?_
          refine A_iload_n dX2_principal_76 rfl rfl ?_
          refine B_callV_I (av := [vI a1]) rfl dX2_principal_77 vX2_67 mX2_left ⟨rfl, rfl, by decide⟩ (okK2 (by omega)) rfl (Nat.le_of_ble_eq_true rfl) (by decide) (by decide) rfl (BC_monoI h (fun x4 N4 h => ?_))
          refine A_istore_n (ls' := [(3, _), (2, _), (0, _), (1, _)]) dX2_principal_80 rfl (by decide) rfl ?_
          refine A_iload_n dX2_principal_81 rfl rfl ?_
          refine B_if_eq (tgt := 104) dX2_principal_82 (by decide) (wlitI (by decide) (by decide)) ⟨fun q => ?_, fun q => absurd (by decide) q⟩
          refine A_lconst (v := 0) dX2_principal_104 (by decide +kernel) ?_
          exact A_lret dX2_principal_105 ⟨rfl, _, rfl, h⟩
        · replace h := h.2 q
          refine A_iconst (v := 3) dX2_principal_57 rfl ?_
          refine A_iload_n dX2_principal_58 rfl rfl ?_
          refine A_imul dX2_principal_59 ?_
          refine A_iconst (v := 2) dX2_principal_60 rfl ?_
          refine A_aload_n dX2_principal_61 rfl rfl ?_
          refine A_getI dX2_principal_62 fX2_22 rfl (okK2 (by omega)) ?_
          refine A_imul dX2_principal_65 ?_
          refine B_icmp_le (tgt := 73) dX2_principal_66 (by decide) rfl rfl ⟨fun q => ?_, fun q => ?_⟩
          · replace h := h.1 q
            refine A_iconst (v := 0) dX2_principal_73 rfl ?_
            refine A_istore_n (ls' := [(2, _), (0, _), (1, _)]) dX2_principal_74 rfl (by decide) rfl ?_
            refine A_aload_n dX2_principal_75 rfl rfl ?_
            refine A_iload_n dX2_principal_76 rfl rfl ?_
            refine B_callV_I (av := [vI a1]) rfl dX2_principal_77 vX2_67 mX2_left ⟨rfl, rfl, by decide⟩ (okK2 (by omega)) rfl (Nat.le_of_ble_eq_true rfl) (by decide) (by decide) rfl (BC_monoI h (fun x5 N5 h => ?_))
            refine A_istore_n (ls' := [(3, _), (2, _), (0, _), (1, _)]) dX2_principal_80 rfl (by decide) rfl ?_
            refine A_iload_n dX2_principal_81 rfl rfl ?_
            refine B_if_eq (tgt := 104) dX2_principal_82 (by decide) (wlitI (by decide) (by decide)) ⟨fun q => ?_, fun q => absurd (by decide) q⟩
            refine A_lconst (v := 0) dX2_principal_104 (by decide +kernel) ?_
            exact A_lret dX2_principal_105 ⟨rfl, _, rfl, h⟩
          · replace h := h.2 q
            refine A_iconst (v := 1) dX2_principal_69 rfl ?_
            refine A_goto (tgt := 74) dX2_principal_70 (by decide) ?_
            refine A_istore_n (ls' := [(2, _), (0, _), (1, _)]) dX2_principal_74 rfl (by decide) rfl ?_
            refine A_aload_n dX2_principal_75 rfl rfl ?_
            refine A_iload_n dX2_principal_76 rfl rfl ?_
            refine B_callV_I (av := [vI a1]) rfl dX2_principal_77 vX2_67 mX2_left ⟨rfl, rfl, by decide⟩ (okK2 (by omega)) rfl (Nat.le_of_ble_eq_true rfl) (by decide) (by decide) rfl (BC_monoI h (fun x6 N6 h => ?_))
            refine A_istore_n (ls' := [(3, _), (2, _), (0, _), (1, _)]) dX2_principal_80 rfl (by decide) rfl ?_
            refine A_iload_n dX2_principal_81 rfl rfl ?_
            refine B_if_eq (tgt := 104) dX2_principal_82 (by decide) (wlitI (by decide) (by decide)) ⟨fun q => absurd q (by decide), fun q => ?_⟩
            refine A_iload_n dX2_principal_85 rfl rfl ?_
            refine B_if_le (tgt := 104) dX2_principal_86 (by decide) rfl ⟨fun q => ?_, fun q => ?_⟩
            · replace h := h.1 q
              refine A_lconst (v := 0) dX2_principal_104 (by decide +kernel) ?_
              exact A_lret dX2_principal_105 ⟨rfl, _, rfl, h⟩
            · replace h := h.2 q
              refine A_aload_n dX2_principal_89 rfl rfl ?_
              refine A_getL dX2_principal_90 fX2_15 rfl (okK2 (by omega)) ?_
              refine A_iload_n dX2_principal_93 rfl rfl ?_
              refine B_i2l dX2_principal_94 rfl ?_
              refine A_ladd dX2_principal_95 ?_
              refine A_lconst (v := 1) dX2_principal_96 (by decide +kernel) ?_
              refine A_lsub dX2_principal_97 ?_
              refine A_iload_n dX2_principal_98 rfl rfl ?_
              refine B_i2l dX2_principal_99 rfl ?_
              refine B_ldiv dX2_principal_100 rfl rfl h.1 ?_
              replace h := h.2
              refine A_goto (tgt := 105) dX2_principal_101 (by decide) ?_
              exact A_lret dX2_principal_105 ⟨rfl, _, rfl, h⟩
    · replace h := h.2 q
      refine A_aload_n dX2_principal_21 rfl rfl ?_
      refine A_getL dX2_principal_22 fX2_15 rfl (okK2 (by omega)) ?_
      refine A_lconst (v := 0) dX2_principal_25 (by decide +kernel) ?_
      refine A_aload_n dX2_principal_26 rfl rfl ?_
      refine A_getL dX2_principal_27 fX2_31 rfl (okK2 (by omega)) ?_
      refine A_aload_n dX2_principal_30 rfl rfl ?_
      refine B_callV_L (av := []) rfl dX2_principal_31 vX2_54 mX2_interest ⟨rfl, rfl, by decide⟩ (okK2 (by omega)) rfl (Nat.le_of_ble_eq_true rfl) (by decide) (by decide) rfl (BC_monoL h (fun x7 N7 h => ?_))
      refine A_lsub dX2_principal_34 ?_
      refine B_maxL dX2_principal_35 mmX2_58 (wlitL (by decide) (by decide)) rfl (Nat.le_of_ble_eq_true rfl) rfl ⟨rfl, rfl⟩ ?_
      refine B_minL dX2_principal_38 mmX2_64 rfl rfl (Nat.le_of_ble_eq_true rfl) rfl ⟨rfl, rfl⟩ ?_
      exact A_lret dX2_principal_41 ⟨rfl, _, rfl, h⟩
  · replace h := h.2 q
    refine A_aload_n dX2_principal_8 rfl rfl ?_
    refine A_getL dX2_principal_9 fX2_15 rfl (okK2 (by omega)) ?_
    exact A_lret dX2_principal_12 ⟨rfl, _, rfl, h⟩
set_option maxRecDepth 100000 in
set_option maxHeartbeats 4000000 in
theorem vc_X2_begin {G : GT} {i0 : Nat} {a1 : Int} {N : NN} {K : NN → Prop} (h_i0 : i0 < 24) (h : (((wI a1) ≠ 1 → (((wI a1) ≠ 13 → K N) ∧ (¬ ((wI a1) ≠ 13) → (C_X2_isKind G i0 2 N (fun x1 N1 => (((wI x1) = 0 → K N1) ∧ (¬ ((wI x1) = 0) → (C_X2_goesOn G i0 N1 (fun x2 N2 => (((wI x2) = 0 → K N2) ∧ (¬ ((wI x2) = 0) → (∀ M3 : NN, M3 = up3 N2 2 i0 2 (min 200 ((wI (2 * (N2 2 i0 2))))) → (C_X2_findPay G i0 a1 M3 (fun N4 => K N4)))))))))))))) ∧ (¬ ((wI a1) ≠ 1) → (C_X2_isKind G i0 1 N (fun x5 N5 => (((wI x5) = 0 → (((wI a1) ≠ 13 → K N5) ∧ (¬ ((wI a1) ≠ 13) → (C_X2_isKind G i0 2 N5 (fun x6 N6 => (((wI x6) = 0 → K N6) ∧ (¬ ((wI x6) = 0) → (C_X2_goesOn G i0 N6 (fun x7 N7 => (((wI x7) = 0 → K N7) ∧ (¬ ((wI x7) = 0) → (∀ M8 : NN, M8 = up3 N7 2 i0 2 (min 200 ((wI (2 * (N7 2 i0 2))))) → (C_X2_findPay G i0 a1 M8 (fun N9 => K N9)))))))))))))) ∧ (¬ ((wI x5) = 0) → (C_X2_findPay G i0 a1 N5 (fun N10 => (((wI a1) ≠ 13 → K N10) ∧ (¬ ((wI a1) ≠ 13) → (C_X2_isKind G i0 2 N10 (fun x11 N11 => (((wI x11) = 0 → K N11) ∧ (¬ ((wI x11) = 0) → (C_X2_goesOn G i0 N11 (fun x12 N12 => (((wI x12) = 0 → K N12) ∧ (¬ ((wI x12) = 0) → (∀ M13 : NN, M13 = up3 N12 2 i0 2 (min 200 ((wI (2 * (N12 2 i0 2))))) → (C_X2_findPay G i0 a1 M13 (fun N14 => K N14)))))))))))))))))))))) : C_X2_begin G i0 a1 N K := by
  refine Ctr.ofAW RX2 false rfl (by decide +kernel) (fun q => by cases q) (Nat.le_of_ble_eq_true rfl) (Nat.le_refl _) ?_
  refine A_iload_n dX2_begin_0 rfl rfl ?_
  refine A_iconst (v := 1) dX2_begin_1 rfl ?_
  refine B_icmp_ne (tgt := 18) dX2_begin_2 (by decide) rfl (wlitI (by decide) (by decide)) ⟨fun q => ?_, fun q => ?_⟩
  · replace h := h.1 q
    refine A_iload_n dX2_begin_18 rfl rfl ?_
    refine A_bipush (v := 13) dX2_begin_19 (by decide +kernel) ?_
    refine B_icmp_ne (tgt := 60) dX2_begin_21 (by decide) rfl (wlitI (by decide) (by decide)) ⟨fun q => ?_, fun q => ?_⟩
    · replace h := h.1 q
      exact A_vret dX2_begin_60 ⟨rfl, rfl, h⟩
    · replace h := h.2 q
      refine A_aload_n dX2_begin_24 rfl rfl ?_
      refine A_iconst (v := 2) dX2_begin_25 rfl ?_
      refine B_callV_I (av := [vI 2]) rfl dX2_begin_26 vX2_51 mX2_isKind ⟨rfl, rfl, by decide⟩ (okK2 (by omega)) rfl (Nat.le_of_ble_eq_true rfl) (by decide) (by decide) rfl (BC_monoI h (fun x1 N1 h => ?_))
      refine B_if_eq (tgt := 60) dX2_begin_29 (by decide) rfl ⟨fun q => ?_, fun q => ?_⟩
      · replace h := h.1 q
        exact A_vret dX2_begin_60 ⟨rfl, rfl, h⟩
      · replace h := h.2 q
        refine A_aload_n dX2_begin_32 rfl rfl ?_
        refine B_callV_I (av := []) rfl dX2_begin_33 vX2_41 mX2_goesOn ⟨rfl, rfl, by decide⟩ (okK2 (by omega)) rfl (Nat.le_of_ble_eq_true rfl) (by decide) (by decide) rfl (BC_monoI h (fun x2 N2 h => ?_))
        refine B_if_eq (tgt := 60) dX2_begin_36 (by decide) rfl ⟨fun q => ?_, fun q => ?_⟩
        · replace h := h.1 q
          exact A_vret dX2_begin_60 ⟨rfl, rfl, h⟩
        · replace h := h.2 q
          refine A_aload_n dX2_begin_39 rfl rfl ?_
          refine A_sipush (v := 200) dX2_begin_40 (by decide +kernel) ?_
          refine A_iconst (v := 2) dX2_begin_43 rfl ?_
          refine A_aload_n dX2_begin_44 rfl rfl ?_
          refine A_getI dX2_begin_45 fX2_19 rfl (okK2 (by omega)) ?_
          refine A_imul dX2_begin_48 ?_
          refine B_minI dX2_begin_49 mmX2_75 (wlitI (by decide) (by decide)) rfl (Nat.le_of_ble_eq_true rfl) rfl ⟨rfl, rfl⟩ ?_
          refine B_putI dX2_begin_52 fX2_19 (by decide) (okK2 (by omega)) (fun M3 eM3 => ?_)
          replace h := h M3 eM3
          refine A_aload_n dX2_begin_55 rfl rfl ?_
          refine A_iload_n dX2_begin_56 rfl rfl ?_
          refine B_callV_V (av := [vI a1]) rfl dX2_begin_57 vX2_71 mX2_findPay ⟨rfl, rfl, by decide⟩ (okK2 (by omega)) rfl (Nat.le_of_ble_eq_true rfl) (by decide) (by decide) rfl (BC_monoV h (fun N4 h => ?_))
          exact A_vret dX2_begin_60 ⟨rfl, rfl, h⟩
  · replace h := h.2 q
    refine A_aload_n dX2_begin_5 rfl rfl ?_
    refine A_iconst (v := 1) dX2_begin_6 rfl ?_
    refine B_callV_I (av := [vI 1]) rfl dX2_begin_7 vX2_51 mX2_isKind ⟨rfl, rfl, by decide⟩ (okK2 (by omega)) rfl (Nat.le_of_ble_eq_true rfl) (by decide) (by decide) rfl (BC_monoI h (fun x5 N5 h => ?_))
    refine B_if_eq (tgt := 18) dX2_begin_10 (by decide) rfl ⟨fun q => ?_, fun q => ?_⟩
    · replace h := h.1 q
      refine A_iload_n dX2_begin_18 rfl rfl ?_
      refine A_bipush (v := 13) dX2_begin_19 (by decide +kernel) ?_
      refine B_icmp_ne (tgt := 60) dX2_begin_21 (by decide) rfl (wlitI (by decide) (by decide)) ⟨fun q => ?_, fun q => ?_⟩
      · replace h := h.1 q
        exact A_vret dX2_begin_60 ⟨rfl, rfl, h⟩
      · replace h := h.2 q
        refine A_aload_n dX2_begin_24 rfl rfl ?_
        refine A_iconst (v := 2) dX2_begin_25 rfl ?_
        refine B_callV_I (av := [vI 2]) rfl dX2_begin_26 vX2_51 mX2_isKind ⟨rfl, rfl, by decide⟩ (okK2 (by omega)) rfl (Nat.le_of_ble_eq_true rfl) (by decide) (by decide) rfl (BC_monoI h (fun x6 N6 h => ?_))
        refine B_if_eq (tgt := 60) dX2_begin_29 (by decide) rfl ⟨fun q => ?_, fun q => ?_⟩
        · replace h := h.1 q
          exact A_vret dX2_begin_60 ⟨rfl, rfl, h⟩
        · replace h := h.2 q
          refine A_aload_n dX2_begin_32 rfl rfl ?_
          refine B_callV_I (av := []) rfl dX2_begin_33 vX2_41 mX2_goesOn ⟨rfl, rfl, by decide⟩ (okK2 (by omega)) rfl (Nat.le_of_ble_eq_true rfl) (by decide) (by decide) rfl (BC_monoI h (fun x7 N7 h => ?_))
          refine B_if_eq (tgt := 60) dX2_begin_36 (by decide) rfl ⟨fun q => ?_, fun q => ?_⟩
          · replace h := h.1 q
            exact A_vret dX2_begin_60 ⟨rfl, rfl, h⟩
          · replace h := h.2 q
            refine A_aload_n dX2_begin_39 rfl rfl ?_
            refine A_sipush (v := 200) dX2_begin_40 (by decide +kernel) ?_
            refine A_iconst (v := 2) dX2_begin_43 rfl ?_
            refine A_aload_n dX2_begin_44 rfl rfl ?_
            refine A_getI dX2_begin_45 fX2_19 rfl (okK2 (by omega)) ?_
            refine A_imul dX2_begin_48 ?_
            refine B_minI dX2_begin_49 mmX2_75 (wlitI (by decide) (by decide)) rfl (Nat.le_of_ble_eq_true rfl) rfl ⟨rfl, rfl⟩ ?_
            refine B_putI dX2_begin_52 fX2_19 (by decide) (okK2 (by omega)) (fun M8 eM8 => ?_)
            replace h := h M8 eM8
            refine A_aload_n dX2_begin_55 rfl rfl ?_
            refine A_iload_n dX2_begin_56 rfl rfl ?_
            refine B_callV_V (av := [vI a1]) rfl dX2_begin_57 vX2_71 mX2_findPay ⟨rfl, rfl, by decide⟩ (okK2 (by omega)) rfl (Nat.le_of_ble_eq_true rfl) (by decide) (by decide) rfl (BC_monoV h (fun N9 h => ?_))
            exact A_vret dX2_begin_60 ⟨rfl, rfl, h⟩
    · replace h := h.2 q
      refine A_aload_n dX2_begin_13 rfl rfl ?_
      refine A_iload_n dX2_begin_14 rfl rfl ?_
      refine B_callV_V (av := [vI a1]) rfl dX2_begin_15 vX2_71 mX2_findPay ⟨rfl, rfl, by decide⟩ (okK2 (by omega)) rfl (Nat.le_of_ble_eq_true rfl) (by decide) (by decide) rfl (BC_monoV h (fun N10 h => ?_))
      refine A_iload_n dX2_begin_18 rfl rfl ?_
      refine A_bipush (v := 13) dX2_begin_19 (by decide +kernel) ?_
      refine B_icmp_ne (tgt := 60) dX2_begin_21 (by decide) rfl (wlitI (by decide) (by decide)) ⟨fun q => ?_, fun q => ?_⟩
      · replace h := h.1 q
        exact A_vret dX2_begin_60 ⟨rfl, rfl, h⟩
      · replace h := h.2 q
        refine A_aload_n dX2_begin_24 rfl rfl ?_
        refine A_iconst (v := 2) dX2_begin_25 rfl ?_
        refine B_callV_I (av := [vI 2]) rfl dX2_begin_26 vX2_51 mX2_isKind ⟨rfl, rfl, by decide⟩ (okK2 (by omega)) rfl (Nat.le_of_ble_eq_true rfl) (by decide) (by decide) rfl (BC_monoI h (fun x11 N11 h => ?_))
        refine B_if_eq (tgt := 60) dX2_begin_29 (by decide) rfl ⟨fun q => ?_, fun q => ?_⟩
        · replace h := h.1 q
          exact A_vret dX2_begin_60 ⟨rfl, rfl, h⟩
        · replace h := h.2 q
          refine A_aload_n dX2_begin_32 rfl rfl ?_
          refine B_callV_I (av := []) rfl dX2_begin_33 vX2_41 mX2_goesOn ⟨rfl, rfl, by decide⟩ (okK2 (by omega)) rfl (Nat.le_of_ble_eq_true rfl) (by decide) (by decide) rfl (BC_monoI h (fun x12 N12 h => ?_))
          refine B_if_eq (tgt := 60) dX2_begin_36 (by decide) rfl ⟨fun q => ?_, fun q => ?_⟩
          · replace h := h.1 q
            exact A_vret dX2_begin_60 ⟨rfl, rfl, h⟩
          · replace h := h.2 q
            refine A_aload_n dX2_begin_39 rfl rfl ?_
            refine A_sipush (v := 200) dX2_begin_40 (by decide +kernel) ?_
            refine A_iconst (v := 2) dX2_begin_43 rfl ?_
            refine A_aload_n dX2_begin_44 rfl rfl ?_
            refine A_getI dX2_begin_45 fX2_19 rfl (okK2 (by omega)) ?_
            refine A_imul dX2_begin_48 ?_
            refine B_minI dX2_begin_49 mmX2_75 (wlitI (by decide) (by decide)) rfl (Nat.le_of_ble_eq_true rfl) rfl ⟨rfl, rfl⟩ ?_
            refine B_putI dX2_begin_52 fX2_19 (by decide) (okK2 (by omega)) (fun M13 eM13 => ?_)
            replace h := h M13 eM13
            refine A_aload_n dX2_begin_55 rfl rfl ?_
            refine A_iload_n dX2_begin_56 rfl rfl ?_
            refine B_callV_V (av := [vI a1]) rfl dX2_begin_57 vX2_71 mX2_findPay ⟨rfl, rfl, by decide⟩ (okK2 (by omega)) rfl (Nat.le_of_ble_eq_true rfl) (by decide) (by decide) rfl (BC_monoV h (fun N14 h => ?_))
            exact A_vret dX2_begin_60 ⟨rfl, rfl, h⟩
set_option maxRecDepth 100000 in
set_option maxHeartbeats 4000000 in
theorem vc_X2_findPay {G : GT} {i0 : Nat} {a1 : Int} {N : NN} {K : NN → Prop} (h_i0 : i0 < 24) (h : (C_X2_interest G i0 N (fun x1 N1 => W_X2_findPay G K 16 [(0, vR 2 i0), (1, vI a1), (2, vL 0), (4, vL ((N 2 i0 1) + x1)), (6, vI 0)] [] N1))) : C_X2_findPay G i0 a1 N K := by
  refine Ctr.ofAW RX2 false rfl (by decide +kernel) (fun q => by cases q) (Nat.le_of_ble_eq_true rfl) (Nat.le_refl _) ?_
  refine A_lconst (v := 0) dX2_findPay_0 (by decide +kernel) ?_
  refine A_lstore_n (ls' := [(2, _), (0, _), (1, _)]) dX2_findPay_1 rfl (by decide) rfl ?_
  refine A_aload_n dX2_findPay_2 rfl rfl ?_
  refine A_getL dX2_findPay_3 fX2_15 rfl (okK2 (by omega)) ?_
  refine A_aload_n dX2_findPay_6 rfl rfl ?_
  refine B_callV_L (av := []) rfl dX2_findPay_7 vX2_54 mX2_interest ⟨rfl, rfl, by decide⟩ (okK2 (by omega)) rfl (Nat.le_of_ble_eq_true rfl) (by decide) (by decide) rfl (BC_monoL h (fun x1 N1 h => ?_))
  refine A_ladd dX2_findPay_10 ?_
  refine A_lstore (ls' := [(4, _), (2, _), (0, _), (1, _)]) dX2_findPay_11 (by decide) rfl ?_
  refine A_iconst (v := 0) dX2_findPay_13 rfl ?_
  refine A_istore (ls' := [(6, _), (4, _), (2, _), (0, _), (1, _)]) dX2_findPay_14 (by decide) rfl ?_
  exact A_pick [3, 4, 2, 1, 0] rfl h
set_option maxRecDepth 100000 in
set_option maxHeartbeats 4000000 in
theorem vc_X2_findPay_16 {G : GT} {i0 : Nat} {l1 : Int} {l2 : Int} {l4 : Int} {l6 : Int} {N : NN} {K : NN → Prop} (h_i0 : i0 < 24) (h : ((64 ≤ (wI l6) → (∀ M1 : NN, M1 = up3 N 2 i0 6 l4 → K M1)) ∧ (¬ (64 ≤ (wI l6)) → (((wL l4) ≤ (wL l2) → (∀ M2 : NN, M2 = up3 N 2 i0 6 l4 → K M2)) ∧ (¬ ((wL l4) ≤ (wL l2)) → (C_X2_left G i0 l1 N (fun x3 N3 => (C_X2_wouldEnd G i0 (((wL (l2 + l4))).tdiv 2) x3 N3 (fun x4 N4 => (((wI x4) = 0 → W_X2_findPay G K 16 [(0, vR 2 i0), (1, vI l1), (2, vL ((((wL (l2 + l4))).tdiv 2) + 1)), (4, vL l4), (6, vI (l6 + 1))] [] N4) ∧ (¬ ((wI x4) = 0) → W_X2_findPay G K 16 [(0, vR 2 i0), (1, vI l1), (2, vL l2), (4, vL (((wL (l2 + l4))).tdiv 2)), (6, vI (l6 + 1))] [] N4))))))))))) : W_X2_findPay G K 16 [(0, vR 2 i0), (1, vI l1), (2, vL l2), (4, vL l4), (6, vI l6)] [] N := by
  refine A_iload dX2_findPay_16 rfl ?_
  refine A_bipush (v := 64) dX2_findPay_18 (by decide +kernel) ?_
  refine B_icmp_ge (tgt := 72) dX2_findPay_20 (by decide) rfl (wlitI (by decide) (by decide)) ⟨fun q => ?_, fun q => ?_⟩
  · replace h := h.1 q
    refine A_aload_n dX2_findPay_72 rfl rfl ?_
    refine A_lload dX2_findPay_73 rfl ?_
    refine B_putL dX2_findPay_75 fX2_31 (by decide) (okK2 (by omega)) (fun M1 eM1 => ?_)
    replace h := h M1 eM1
    exact A_vret dX2_findPay_78 ⟨rfl, rfl, h⟩
  · replace h := h.2 q
    refine A_lload_n dX2_findPay_23 rfl rfl ?_
    refine A_lload dX2_findPay_24 rfl ?_
    refine B_lcmp_ge (tgt := 72) dX2_findPay_26 rfl dX2_findPay_27 (by decide) rfl rfl ⟨fun q => ?_, fun q => ?_⟩
    · replace h := h.1 q
      refine A_aload_n dX2_findPay_72 rfl rfl ?_
      refine A_lload dX2_findPay_73 rfl ?_
      refine B_putL dX2_findPay_75 fX2_31 (by decide) (okK2 (by omega)) (fun M2 eM2 => ?_)
      replace h := h M2 eM2
      exact A_vret dX2_findPay_78 ⟨rfl, rfl, h⟩
    · replace h := h.2 q
      refine A_lload_n dX2_findPay_30 rfl rfl ?_
      refine A_lload dX2_findPay_31 rfl ?_
      refine A_ladd dX2_findPay_33 ?_
      refine A_ldc2 (x := 2) dX2_findPay_34 kX2_78 (by decide +kernel) ?_
      refine B_ldiv dX2_findPay_37 rfl (wlitL (by decide) (by decide)) (by decide) ?_
      refine A_lstore (ls' := [(7, _), (0, _), (1, _), (2, _), (4, _), (6, _)]) dX2_findPay_38 (by decide) rfl ?_
      refine A_aload_n dX2_findPay_40 rfl rfl ?_
      refine A_lload dX2_findPay_41 rfl ?_
      refine A_aload_n dX2_findPay_43 rfl rfl ?_
      refine A_iload_n dX2_findPay_44 rfl rfl ?_
      refine B_callV_I (av := [vI l1]) rfl dX2_findPay_45 vX2_67 mX2_left ⟨rfl, rfl, by decide⟩ (okK2 (by omega)) rfl (Nat.le_of_ble_eq_true rfl) (by decide) (by decide) rfl (BC_monoI h (fun x3 N3 h => ?_))
      refine B_callV_I (av := [vL (((wL (l2 + l4))).tdiv 2), vI x3]) rfl dX2_findPay_48 vX2_80 mX2_wouldEnd ⟨rfl, rfl, by decide⟩ (okK2 (by omega)) rfl (Nat.le_of_ble_eq_true rfl) (by decide) (by decide) rfl (BC_monoI h (fun x4 N4 h => ?_))
      refine B_if_eq (tgt := 61) dX2_findPay_51 (by decide) rfl ⟨fun q => ?_, fun q => ?_⟩
      · replace h := h.1 q
        refine A_lload dX2_findPay_61 rfl ?_
        refine A_lconst (v := 1) dX2_findPay_63 (by decide +kernel) ?_
        refine A_ladd dX2_findPay_64 ?_
        refine A_lstore_n (ls' := [(2, _), (7, _), (0, _), (1, _), (4, _), (6, _)]) dX2_findPay_65 rfl (by decide) rfl ?_
        refine A_iinc (ls' := [(6, _), (2, _), (7, _), (0, _), (1, _), (4, _)]) dX2_findPay_66 (by decide) rfl rfl rfl ?_
        refine A_goto (tgt := 16) dX2_findPay_69 (by decide) ?_
        exact A_pick [3, 4, 1, 5, 0] rfl h
      · replace h := h.2 q
        refine A_lload dX2_findPay_54 rfl ?_
        refine A_lstore (ls' := [(4, _), (7, _), (0, _), (1, _), (2, _), (6, _)]) dX2_findPay_56 (by decide) rfl ?_
        refine A_goto (tgt := 66) dX2_findPay_58 (by decide) ?_
        refine A_iinc (ls' := [(6, _), (4, _), (7, _), (0, _), (1, _), (2, _)]) dX2_findPay_66 (by decide) rfl rfl rfl ?_
        refine A_goto (tgt := 16) dX2_findPay_69 (by decide) ?_
        exact A_pick [3, 4, 5, 1, 0] rfl h
set_option maxRecDepth 100000 in
set_option maxHeartbeats 4000000 in
theorem vc_X2_wouldEnd {G : GT} {i0 : Nat} {a1 : Int} {a2 : Int} {N : NN} {K : Int → NN → Prop} (h_i0 : i0 < 24) (h : W_X2_wouldEnd G K 9 [(0, vR 2 i0), (1, vL a1), (3, vI a2), (4, vL (N 2 i0 1)), (6, vI 0)] [] N) : C_X2_wouldEnd G i0 a1 a2 N K := by
  refine Ctr.ofAW RX2 false rfl (by decide +kernel) (fun q => by cases q) (Nat.le_of_ble_eq_true rfl) (Nat.le_refl _) ?_
  refine A_aload_n dX2_wouldEnd_0 rfl rfl ?_
  refine A_getL dX2_wouldEnd_1 fX2_15 rfl (okK2 (by omega)) ?_
  refine A_lstore (ls' := [(4, _), (0, _), (1, _), (3, _)]) dX2_wouldEnd_4 (by decide) rfl ?_
  refine A_iconst (v := 0) dX2_wouldEnd_6 rfl ?_
  refine A_istore (ls' := [(6, _), (4, _), (0, _), (1, _), (3, _)]) dX2_wouldEnd_7 (by decide) rfl ?_
  exact A_pick [2, 3, 4, 1, 0] rfl h
set_option maxRecDepth 100000 in
set_option maxHeartbeats 4000000 in
theorem vc_X2_wouldEnd_9 {G : GT} {i0 : Nat} {l1 : Int} {l3 : Int} {l4 : Int} {l6 : Int} {N : NN} {K : Int → NN → Prop} (h_i0 : i0 < 24) (h : (((wI l3) ≤ (wI l6) → (((wL l4) ≠ 0 → K 0 N) ∧ (¬ ((wL l4) ≠ 0) → K 1 N))) ∧ (¬ ((wI l3) ≤ (wI l6)) → W_X2_wouldEnd G K 9 [(0, vR 2 i0), (1, vL l1), (3, vI l3), (4, vL (l4 - (min ((wL l4)) ((wL (max 0 ((wL (l1 - (((wL (l4 * ((wI (N 2 i0 2)))))).tdiv 10000)))))))))), (6, vI (l6 + 1))] [] N))) : W_X2_wouldEnd G K 9 [(0, vR 2 i0), (1, vL l1), (3, vI l3), (4, vL l4), (6, vI l6)] [] N := by
  refine A_iload dX2_wouldEnd_9 rfl ?_
  refine A_iload_n dX2_wouldEnd_11 rfl rfl ?_
  refine B_icmp_ge (tgt := 49) dX2_wouldEnd_12 (by decide) rfl rfl ⟨fun q => ?_, fun q => ?_⟩
  · replace h := h.1 q
    refine A_lload dX2_wouldEnd_49 rfl ?_
    refine A_lconst (v := 0) dX2_wouldEnd_51 (by decide +kernel) ?_
    refine B_lcmp_ne (tgt := 60) dX2_wouldEnd_52 rfl dX2_wouldEnd_53 (by decide) rfl (wlitL (by decide) (by decide)) ⟨fun q => ?_, fun q => ?_⟩
    · replace h := h.1 q
      refine A_iconst (v := 0) dX2_wouldEnd_60 rfl ?_
      exact A_zret dX2_wouldEnd_61 (by decide) ⟨rfl, _, rfl, h⟩
    · replace h := h.2 q
      refine A_iconst (v := 1) dX2_wouldEnd_56 rfl ?_
      refine A_goto (tgt := 61) dX2_wouldEnd_57 (by decide) ?_
      exact A_zret dX2_wouldEnd_61 (by decide) ⟨rfl, _, rfl, h⟩
  · replace h := h.2 q
    refine A_lload dX2_wouldEnd_15 rfl ?_
    refine A_lload dX2_wouldEnd_17 rfl ?_
    refine A_lconst (v := 0) dX2_wouldEnd_19 (by decide +kernel) ?_
    refine A_lload_n dX2_wouldEnd_20 rfl rfl ?_
    refine A_lload dX2_wouldEnd_21 rfl ?_
    refine A_aload_n dX2_wouldEnd_23 rfl rfl ?_
    refine A_getI dX2_wouldEnd_24 fX2_19 rfl (okK2 (by omega)) ?_
    refine B_i2l dX2_wouldEnd_27 rfl ?_
    refine A_lmul dX2_wouldEnd_28 ?_
    refine A_ldc2 (x := 10000) dX2_wouldEnd_29 kX2_49 (by decide +kernel) ?_
    refine B_ldiv dX2_wouldEnd_32 rfl (wlitL (by decide) (by decide)) (by decide) ?_
    refine A_lsub dX2_wouldEnd_33 ?_
    refine B_maxL dX2_wouldEnd_34 mmX2_58 (wlitL (by decide) (by decide)) rfl (Nat.le_of_ble_eq_true rfl) rfl ⟨rfl, rfl⟩ ?_
    refine B_minL dX2_wouldEnd_37 mmX2_64 rfl rfl (Nat.le_of_ble_eq_true rfl) rfl ⟨rfl, rfl⟩ ?_
    refine A_lsub dX2_wouldEnd_40 ?_
    refine A_lstore (ls' := [(4, _), (0, _), (1, _), (3, _), (6, _)]) dX2_wouldEnd_41 (by decide) rfl ?_
    refine A_iinc (ls' := [(6, _), (4, _), (0, _), (1, _), (3, _)]) dX2_wouldEnd_43 (by decide) rfl rfl rfl ?_
    refine A_goto (tgt := 9) dX2_wouldEnd_46 (by decide) ?_
    exact A_pick [2, 3, 4, 1, 0] rfl h
set_option maxRecDepth 100000 in
set_option maxHeartbeats 4000000 in
theorem vc_X3_clear {G : GT} {i0 : Nat} {N : NN} {K : NN → Prop} (h_i0 : i0 < 62) (h : (∀ M1 : NN, M1 = up3 N 3 i0 0 0 → (∀ M2 : NN, M2 = up3 M1 3 i0 1 0 → (∀ M3 : NN, M3 = up3 M2 3 i0 2 0 → (∀ M4 : NN, M4 = up3 M3 3 i0 3 0 → (∀ M5 : NN, M5 = up3 M4 3 i0 4 0 → (∀ M6 : NN, M6 = up3 M5 3 i0 8 0 → K M6))))))) : C_X3_clear G i0 N K := by
  refine Ctr.ofAW RX3 false rfl (by decide +kernel) (fun q => by cases q) (Nat.le_of_ble_eq_true rfl) (Nat.le_refl _) ?_
  refine A_aload_n dX3_clear_0 rfl rfl ?_
  refine A_lconst (v := 0) dX3_clear_1 (by decide +kernel) ?_
  refine B_putL dX3_clear_2 fX3_15 (by decide) (okK3 (by omega)) (fun M1 eM1 => ?_)
  replace h := h M1 eM1
  refine A_aload_n dX3_clear_5 rfl rfl ?_
  refine A_lconst (v := 0) dX3_clear_6 (by decide +kernel) ?_
  refine B_putL dX3_clear_7 fX3_19 (by decide) (okK3 (by omega)) (fun M2 eM2 => ?_)
  replace h := h M2 eM2
  refine A_aload_n dX3_clear_10 rfl rfl ?_
  refine A_lconst (v := 0) dX3_clear_11 (by decide +kernel) ?_
  refine B_putL dX3_clear_12 fX3_22 (by decide) (okK3 (by omega)) (fun M3 eM3 => ?_)
  replace h := h M3 eM3
  refine A_aload_n dX3_clear_15 rfl rfl ?_
  refine A_lconst (v := 0) dX3_clear_16 (by decide +kernel) ?_
  refine B_putL dX3_clear_17 fX3_25 (by decide) (okK3 (by omega)) (fun M4 eM4 => ?_)
  replace h := h M4 eM4
  refine A_aload_n dX3_clear_20 rfl rfl ?_
  refine A_lconst (v := 0) dX3_clear_21 (by decide +kernel) ?_
  refine B_putL dX3_clear_22 fX3_28 (by decide) (okK3 (by omega)) (fun M5 eM5 => ?_)
  replace h := h M5 eM5
  refine A_aload_n dX3_clear_25 rfl rfl ?_
  refine A_lconst (v := 0) dX3_clear_26 (by decide +kernel) ?_
  refine B_putL dX3_clear_27 fX3_31 (by decide) (okK3 (by omega)) (fun M6 eM6 => ?_)
  replace h := h M6 eM6
  exact A_vret dX3_clear_30 ⟨rfl, rfl, h⟩
set_option maxRecDepth 100000 in
set_option maxHeartbeats 4000000 in
theorem vc_X3_collected {G : GT} {i0 : Nat} {N : NN} {K : Int → NN → Prop} (h_i0 : i0 < 62) (h : K (((((N 3 i0 0) + (N 3 i0 1)) + (N 3 i0 2)) + (N 3 i0 3)) - (N 3 i0 4)) N) : C_X3_collected G i0 N K := by
  refine Ctr.ofAW RX3 false rfl (by decide +kernel) (fun q => by cases q) (Nat.le_of_ble_eq_true rfl) (Nat.le_refl _) ?_
  refine A_aload_n dX3_collected_0 rfl rfl ?_
  refine A_getL dX3_collected_1 fX3_15 rfl (okK3 (by omega)) ?_
  refine A_aload_n dX3_collected_4 rfl rfl ?_
  refine A_getL dX3_collected_5 fX3_19 rfl (okK3 (by omega)) ?_
  refine A_ladd dX3_collected_8 ?_
  refine A_aload_n dX3_collected_9 rfl rfl ?_
  refine A_getL dX3_collected_10 fX3_22 rfl (okK3 (by omega)) ?_
  refine A_ladd dX3_collected_13 ?_
  refine A_aload_n dX3_collected_14 rfl rfl ?_
  refine A_getL dX3_collected_15 fX3_25 rfl (okK3 (by omega)) ?_
  refine A_ladd dX3_collected_18 ?_
  refine A_aload_n dX3_collected_19 rfl rfl ?_
  refine A_getL dX3_collected_20 fX3_28 rfl (okK3 (by omega)) ?_
  refine A_lsub dX3_collected_23 ?_
  exact A_lret dX3_collected_24 ⟨rfl, _, rfl, h⟩
set_option maxRecDepth 100000 in
set_option maxHeartbeats 4000000 in
theorem vc_X3_fact {G : GT} {i0 : Nat} {a1 : Int} {N : NN} {K : Int → NN → Prop} (h_i0 : i0 < 62) (h : (((wI a1) = 0 → K (N 3 i0 0) N) ∧ (((wI a1) = 1 → K (N 3 i0 1) N) ∧ (((wI a1) = 2 → K (N 3 i0 2) N) ∧ (((wI a1) = 3 → K (N 3 i0 3) N) ∧ (((wI a1) = 4 → K (N 3 i0 4) N) ∧ (((wI a1) = 5 → K (N 3 i0 5) N) ∧ (((wI a1) = 6 → K (N 3 i0 7) N) ∧ (((wI a1) = 7 → K (N 3 i0 8) N) ∧ (((wI a1) = 8 → K (N 3 i0 9) N) ∧ (((wI a1) = 9 → K (N 3 i0 10) N) ∧ (((wI a1) = 10 → (((wI (N 3 i0 11)) = 0 → K 0 N) ∧ (¬ ((wI (N 3 i0 11)) = 0) → K 1 N))) ∧ ((wI a1) < 0 ∨ 10 < (wI a1) → K ((-2)) N))))))))))))) : C_X3_fact G i0 a1 N K := by
  refine Ctr.ofAW RX3 false rfl (by decide +kernel) (fun q => by cases q) (Nat.le_of_ble_eq_true rfl) (Nat.le_refl _) ?_
  refine A_iload_n dX3_fact_0 rfl rfl ?_
  by_cases q1_0 : wI a1 = 0
  · replace h := h.1 q1_0
    refine A_tableIn (tgt := 60) dX3_fact_1 q1_0 (by decide) rfl (by decide) ?_
    refine A_aload_n dX3_fact_60 rfl rfl ?_
    refine A_getL dX3_fact_61 fX3_15 rfl (okK3 (by omega)) ?_
    refine A_l2i dX3_fact_64 ?_
    exact A_iret dX3_fact_65 ⟨rfl, _, rfl, h⟩
  replace h := h.2
  by_cases q1_1 : wI a1 = 1
  · replace h := h.1 q1_1
    refine A_tableIn (tgt := 66) dX3_fact_1 q1_1 (by decide) rfl (by decide) ?_
    refine A_aload_n dX3_fact_66 rfl rfl ?_
    refine A_getL dX3_fact_67 fX3_19 rfl (okK3 (by omega)) ?_
    refine A_l2i dX3_fact_70 ?_
    exact A_iret dX3_fact_71 ⟨rfl, _, rfl, h⟩
  replace h := h.2
  by_cases q1_2 : wI a1 = 2
  · replace h := h.1 q1_2
    refine A_tableIn (tgt := 72) dX3_fact_1 q1_2 (by decide) rfl (by decide) ?_
    refine A_aload_n dX3_fact_72 rfl rfl ?_
    refine A_getL dX3_fact_73 fX3_22 rfl (okK3 (by omega)) ?_
    refine A_l2i dX3_fact_76 ?_
    exact A_iret dX3_fact_77 ⟨rfl, _, rfl, h⟩
  replace h := h.2
  by_cases q1_3 : wI a1 = 3
  · replace h := h.1 q1_3
    refine A_tableIn (tgt := 78) dX3_fact_1 q1_3 (by decide) rfl (by decide) ?_
    refine A_aload_n dX3_fact_78 rfl rfl ?_
    refine A_getL dX3_fact_79 fX3_25 rfl (okK3 (by omega)) ?_
    refine A_l2i dX3_fact_82 ?_
    exact A_iret dX3_fact_83 ⟨rfl, _, rfl, h⟩
  replace h := h.2
  by_cases q1_4 : wI a1 = 4
  · replace h := h.1 q1_4
    refine A_tableIn (tgt := 84) dX3_fact_1 q1_4 (by decide) rfl (by decide) ?_
    refine A_aload_n dX3_fact_84 rfl rfl ?_
    refine A_getL dX3_fact_85 fX3_28 rfl (okK3 (by omega)) ?_
    refine A_l2i dX3_fact_88 ?_
    exact A_iret dX3_fact_89 ⟨rfl, _, rfl, h⟩
  replace h := h.2
  by_cases q1_5 : wI a1 = 5
  · replace h := h.1 q1_5
    refine A_tableIn (tgt := 90) dX3_fact_1 q1_5 (by decide) rfl (by decide) ?_
    refine A_aload_n dX3_fact_90 rfl rfl ?_
    refine A_getL dX3_fact_91 fX3_34 rfl (okK3 (by omega)) ?_
    refine A_l2i dX3_fact_94 ?_
    exact A_iret dX3_fact_95 ⟨rfl, _, rfl, h⟩
  replace h := h.2
  by_cases q1_6 : wI a1 = 6
  · replace h := h.1 q1_6
    refine A_tableIn (tgt := 96) dX3_fact_1 q1_6 (by decide) rfl (by decide) ?_
    refine A_aload_n dX3_fact_96 rfl rfl ?_
    refine A_getL dX3_fact_97 fX3_37 rfl (okK3 (by omega)) ?_
    refine A_l2i dX3_fact_100 ?_
    exact A_iret dX3_fact_101 ⟨rfl, _, rfl, h⟩
  replace h := h.2
  by_cases q1_7 : wI a1 = 7
  · replace h := h.1 q1_7
    refine A_tableIn (tgt := 102) dX3_fact_1 q1_7 (by decide) rfl (by decide) ?_
    refine A_aload_n dX3_fact_102 rfl rfl ?_
    refine A_getL dX3_fact_103 fX3_31 rfl (okK3 (by omega)) ?_
    refine A_l2i dX3_fact_106 ?_
    exact A_iret dX3_fact_107 ⟨rfl, _, rfl, h⟩
  replace h := h.2
  by_cases q1_8 : wI a1 = 8
  · replace h := h.1 q1_8
    refine A_tableIn (tgt := 108) dX3_fact_1 q1_8 (by decide) rfl (by decide) ?_
    refine A_aload_n dX3_fact_108 rfl rfl ?_
    refine A_getI dX3_fact_109 fX3_40 rfl (okK3 (by omega)) ?_
    exact A_iret dX3_fact_112 ⟨rfl, _, rfl, h⟩
  replace h := h.2
  by_cases q1_9 : wI a1 = 9
  · replace h := h.1 q1_9
    refine A_tableIn (tgt := 113) dX3_fact_1 q1_9 (by decide) rfl (by decide) ?_
    refine A_aload_n dX3_fact_113 rfl rfl ?_
    refine A_getL dX3_fact_114 fX3_44 rfl (okK3 (by omega)) ?_
    refine A_l2i dX3_fact_117 ?_
    exact A_iret dX3_fact_118 ⟨rfl, _, rfl, h⟩
  replace h := h.2
  by_cases q1_10 : wI a1 = 10
  · replace h := h.1 q1_10
    refine A_tableIn (tgt := 119) dX3_fact_1 q1_10 (by decide) rfl (by decide) ?_
    refine A_aload_n dX3_fact_119 rfl rfl ?_
    refine A_getI dX3_fact_120 fX3_47 rfl (okK3 (by omega)) ?_
    refine B_if_eq (tgt := 130) dX3_fact_123 (by decide) rfl ⟨fun q => ?_, fun q => ?_⟩
    · replace h := h.1 q
      refine A_iconst (v := 0) dX3_fact_130 rfl ?_
      exact A_iret dX3_fact_131 ⟨rfl, _, rfl, h⟩
    · replace h := h.2 q
      refine A_iconst (v := 1) dX3_fact_126 rfl ?_
      refine A_goto (tgt := 131) dX3_fact_127 (by decide) ?_
      exact A_iret dX3_fact_131 ⟨rfl, _, rfl, h⟩
  replace h := h.2
  replace h := h (by omega)
  refine A_tableOut (tgt := 132) dX3_fact_1 (by omega) (by decide) ?_
  refine A_bipush (v := (-2)) dX3_fact_132 (by decide +kernel) ?_
  exact A_iret dX3_fact_134 ⟨rfl, _, rfl, h⟩
set_option maxRecDepth 100000 in
set_option maxHeartbeats 4000000 in
theorem vc_X5_open {G : GT} {i0 : Nat} {a1 : Int} {a2 : Int} {N : NN} {K : NN → Prop} (h_i0 : i0 < 10) (h : (∀ M1 : NN, M1 = up3 N 5 i0 0 a2 → (∀ M2 : NN, M2 = up3 M1 5 i0 1 ((wI a1)) → (C_X5_restart G i0 M2 (fun N3 => K N3))))) : C_X5_open G i0 a1 a2 N K := by
  refine Ctr.ofAW RX5 false rfl (by decide +kernel) (fun q => by cases q) (Nat.le_of_ble_eq_true rfl) (Nat.le_refl _) ?_
  refine A_aload_n dX5_open_0 rfl rfl ?_
  refine A_iload_n dX5_open_1 rfl rfl ?_
  refine B_putI dX5_open_2 fX5_7 (by decide) (okK5 (by omega)) (fun M1 eM1 => ?_)
  replace h := h M1 eM1
  refine A_aload_n dX5_open_5 rfl rfl ?_
  refine A_iload_n dX5_open_6 rfl rfl ?_
  refine B_i2l dX5_open_7 rfl ?_
  refine B_putL dX5_open_8 fX5_13 (by decide) (okK5 (by omega)) (fun M2 eM2 => ?_)
  replace h := h M2 eM2
  refine A_aload_n dX5_open_11 rfl rfl ?_
  refine B_callV_V (av := []) rfl dX5_open_12 vX5_17 mX5_restart ⟨rfl, rfl, by decide⟩ (okK5 (by omega)) rfl (Nat.le_of_ble_eq_true rfl) (by decide) (by decide) rfl (BC_monoV h (fun N3 h => ?_))
  exact A_vret dX5_open_15 ⟨rfl, rfl, h⟩
set_option maxRecDepth 100000 in
set_option maxHeartbeats 4000000 in
theorem vc_X5_restart {G : GT} {i0 : Nat} {N : NN} {K : NN → Prop} (h_i0 : i0 < 10) (h : (∀ M1 : NN, M1 = up3 N 5 i0 2 (N 5 i0 1) → (∀ M2 : NN, M2 = up3 M1 5 i0 3 0 → (∀ M3 : NN, M3 = up3 M2 5 i0 4 0 → (∀ M4 : NN, M4 = up3 M3 5 i0 5 0 → (∀ M5 : NN, M5 = up3 M4 5 i0 6 0 → (∀ M6 : NN, M6 = up3 M5 5 i0 7 0 → (∀ M7 : NN, M7 = up3 M6 5 i0 8 0 → K M7)))))))) : C_X5_restart G i0 N K := by
  refine Ctr.ofAW RX5 false rfl (by decide +kernel) (fun q => by cases q) (Nat.le_of_ble_eq_true rfl) (Nat.le_refl _) ?_
  refine A_aload_n dX5_restart_0 rfl rfl ?_
  refine A_aload_n dX5_restart_1 rfl rfl ?_
  refine A_getL dX5_restart_2 fX5_13 rfl (okK5 (by omega)) ?_
  refine B_putL dX5_restart_5 fX5_20 (by decide) (okK5 (by omega)) (fun M1 eM1 => ?_)
  replace h := h M1 eM1
  refine A_aload_n dX5_restart_8 rfl rfl ?_
  refine A_lconst (v := 0) dX5_restart_9 (by decide +kernel) ?_
  refine B_putL dX5_restart_10 fX5_23 (by decide) (okK5 (by omega)) (fun M2 eM2 => ?_)
  replace h := h M2 eM2
  refine A_aload_n dX5_restart_13 rfl rfl ?_
  refine A_lconst (v := 0) dX5_restart_14 (by decide +kernel) ?_
  refine B_putL dX5_restart_15 fX5_26 (by decide) (okK5 (by omega)) (fun M3 eM3 => ?_)
  replace h := h M3 eM3
  refine A_aload_n dX5_restart_18 rfl rfl ?_
  refine A_lconst (v := 0) dX5_restart_19 (by decide +kernel) ?_
  refine B_putL dX5_restart_20 fX5_29 (by decide) (okK5 (by omega)) (fun M4 eM4 => ?_)
  replace h := h M4 eM4
  refine A_aload_n dX5_restart_23 rfl rfl ?_
  refine A_lconst (v := 0) dX5_restart_24 (by decide +kernel) ?_
  refine B_putL dX5_restart_25 fX5_32 (by decide) (okK5 (by omega)) (fun M5 eM5 => ?_)
  replace h := h M5 eM5
  refine A_aload_n dX5_restart_28 rfl rfl ?_
  refine A_lconst (v := 0) dX5_restart_29 (by decide +kernel) ?_
  refine B_putL dX5_restart_30 fX5_35 (by decide) (okK5 (by omega)) (fun M6 eM6 => ?_)
  replace h := h M6 eM6
  refine A_aload_n dX5_restart_33 rfl rfl ?_
  refine A_lconst (v := 0) dX5_restart_34 (by decide +kernel) ?_
  refine B_putL dX5_restart_35 fX5_38 (by decide) (okK5 (by omega)) (fun M7 eM7 => ?_)
  replace h := h M7 eM7
  exact A_vret dX5_restart_38 ⟨rfl, rfl, h⟩
set_option maxRecDepth 100000 in
set_option maxHeartbeats 4000000 in
theorem vc_X5_copy {G : GT} {i0 : Nat} {i1 : Nat} {N : NN} {K : NN → Prop} (h_i0 : i0 < 10) (h_i1 : i1 < 10) (h : (∀ M1 : NN, M1 = up3 N 5 i0 0 (N 5 i1 0) → (∀ M2 : NN, M2 = up3 M1 5 i0 1 (M1 5 i1 1) → (∀ M3 : NN, M3 = up3 M2 5 i0 2 (M2 5 i1 2) → (∀ M4 : NN, M4 = up3 M3 5 i0 3 (M3 5 i1 3) → (∀ M5 : NN, M5 = up3 M4 5 i0 4 (M4 5 i1 4) → (∀ M6 : NN, M6 = up3 M5 5 i0 5 (M5 5 i1 5) → (∀ M7 : NN, M7 = up3 M6 5 i0 6 (M6 5 i1 6) → (∀ M8 : NN, M8 = up3 M7 5 i0 7 (M7 5 i1 7) → (∀ M9 : NN, M9 = up3 M8 5 i0 8 (M8 5 i1 8) → K M9)))))))))) : C_X5_copy G i0 i1 N K := by
  refine Ctr.ofAW RX5 false rfl (by decide +kernel) (fun q => by cases q) (Nat.le_of_ble_eq_true rfl) (Nat.le_refl _) ?_
  refine A_aload_n dX5_copy_0 rfl rfl ?_
  refine A_aload_n dX5_copy_1 rfl rfl ?_
  refine A_getI dX5_copy_2 fX5_7 rfl (okK5 (by omega)) ?_
  refine B_putI dX5_copy_5 fX5_7 (by decide) (okK5 (by omega)) (fun M1 eM1 => ?_)
  replace h := h M1 eM1
  refine A_aload_n dX5_copy_8 rfl rfl ?_
  refine A_aload_n dX5_copy_9 rfl rfl ?_
  refine A_getL dX5_copy_10 fX5_13 rfl (okK5 (by omega)) ?_
  refine B_putL dX5_copy_13 fX5_13 (by decide) (okK5 (by omega)) (fun M2 eM2 => ?_)
  replace h := h M2 eM2
  refine A_aload_n dX5_copy_16 rfl rfl ?_
  refine A_aload_n dX5_copy_17 rfl rfl ?_
  refine A_getL dX5_copy_18 fX5_20 rfl (okK5 (by omega)) ?_
  refine B_putL dX5_copy_21 fX5_20 (by decide) (okK5 (by omega)) (fun M3 eM3 => ?_)
  replace h := h M3 eM3
  refine A_aload_n dX5_copy_24 rfl rfl ?_
  refine A_aload_n dX5_copy_25 rfl rfl ?_
  refine A_getL dX5_copy_26 fX5_23 rfl (okK5 (by omega)) ?_
  refine B_putL dX5_copy_29 fX5_23 (by decide) (okK5 (by omega)) (fun M4 eM4 => ?_)
  replace h := h M4 eM4
  refine A_aload_n dX5_copy_32 rfl rfl ?_
  refine A_aload_n dX5_copy_33 rfl rfl ?_
  refine A_getL dX5_copy_34 fX5_26 rfl (okK5 (by omega)) ?_
  refine B_putL dX5_copy_37 fX5_26 (by decide) (okK5 (by omega)) (fun M5 eM5 => ?_)
  replace h := h M5 eM5
  refine A_aload_n dX5_copy_40 rfl rfl ?_
  refine A_aload_n dX5_copy_41 rfl rfl ?_
  refine A_getL dX5_copy_42 fX5_29 rfl (okK5 (by omega)) ?_
  refine B_putL dX5_copy_45 fX5_29 (by decide) (okK5 (by omega)) (fun M6 eM6 => ?_)
  replace h := h M6 eM6
  refine A_aload_n dX5_copy_48 rfl rfl ?_
  refine A_aload_n dX5_copy_49 rfl rfl ?_
  refine A_getL dX5_copy_50 fX5_32 rfl (okK5 (by omega)) ?_
  refine B_putL dX5_copy_53 fX5_32 (by decide) (okK5 (by omega)) (fun M7 eM7 => ?_)
  replace h := h M7 eM7
  refine A_aload_n dX5_copy_56 rfl rfl ?_
  refine A_aload_n dX5_copy_57 rfl rfl ?_
  refine A_getL dX5_copy_58 fX5_35 rfl (okK5 (by omega)) ?_
  refine B_putL dX5_copy_61 fX5_35 (by decide) (okK5 (by omega)) (fun M8 eM8 => ?_)
  replace h := h M8 eM8
  refine A_aload_n dX5_copy_64 rfl rfl ?_
  refine A_aload_n dX5_copy_65 rfl rfl ?_
  refine A_getL dX5_copy_66 fX5_38 rfl (okK5 (by omega)) ?_
  refine B_putL dX5_copy_69 fX5_38 (by decide) (okK5 (by omega)) (fun M9 eM9 => ?_)
  replace h := h M9 eM9
  exact A_vret dX5_copy_72 ⟨rfl, rfl, h⟩
set_option maxRecDepth 100000 in
set_option maxHeartbeats 4000000 in
theorem vc_X5_got {G : GT} {i0 : Nat} {N : NN} {K : Int → NN → Prop} (h_i0 : i0 < 10) (h : K ((N 5 i0 4) + (N 5 i0 5)) N) : C_X5_got G i0 N K := by
  refine Ctr.ofAW RX5 false rfl (by decide +kernel) (fun q => by cases q) (Nat.le_of_ble_eq_true rfl) (Nat.le_refl _) ?_
  refine A_aload_n dX5_got_0 rfl rfl ?_
  refine A_getL dX5_got_1 fX5_26 rfl (okK5 (by omega)) ?_
  refine A_aload_n dX5_got_4 rfl rfl ?_
  refine A_getL dX5_got_5 fX5_29 rfl (okK5 (by omega)) ?_
  refine A_ladd dX5_got_8 ?_
  exact A_lret dX5_got_9 ⟨rfl, _, rfl, h⟩
set_option maxRecDepth 100000 in
set_option maxHeartbeats 4000000 in
theorem vc_X5_begin {G : GT} {i0 : Nat} {N : NN} {K : NN → Prop} (h_i0 : i0 < 10) (h : (∀ M1 : NN, M1 = up3 N 5 i0 8 ((((wL ((N 5 i0 2) * ((wI (N 5 i0 0)))))).tdiv 10000) + (N 5 i0 3)) → K M1)) : C_X5_begin G i0 N K := by
  refine Ctr.ofAW RX5 false rfl (by decide +kernel) (fun q => by cases q) (Nat.le_of_ble_eq_true rfl) (Nat.le_refl _) ?_
  refine A_aload_n dX5_begin_0 rfl rfl ?_
  refine A_aload_n dX5_begin_1 rfl rfl ?_
  refine A_getL dX5_begin_2 fX5_20 rfl (okK5 (by omega)) ?_
  refine A_aload_n dX5_begin_5 rfl rfl ?_
  refine A_getI dX5_begin_6 fX5_7 rfl (okK5 (by omega)) ?_
  refine B_i2l dX5_begin_9 rfl ?_
  refine A_lmul dX5_begin_10 ?_
  refine A_ldc2 (x := 10000) dX5_begin_11 kX5_41 (by decide +kernel) ?_
  refine B_ldiv dX5_begin_14 rfl (wlitL (by decide) (by decide)) (by decide) ?_
  refine A_aload_n dX5_begin_15 rfl rfl ?_
  refine A_getL dX5_begin_16 fX5_23 rfl (okK5 (by omega)) ?_
  refine A_ladd dX5_begin_19 ?_
  refine B_putL dX5_begin_20 fX5_38 (by decide) (okK5 (by omega)) (fun M1 eM1 => ?_)
  replace h := h M1 eM1
  exact A_vret dX5_begin_23 ⟨rfl, rfl, h⟩
set_option maxRecDepth 100000 in
set_option maxHeartbeats 4000000 in
theorem vc_X5_end {G : GT} {i0 : Nat} {N : NN} {K : NN → Prop} (h_i0 : i0 < 10) (h : (∀ M1 : NN, M1 = up3 N 5 i0 3 (N 5 i0 8) → K M1)) : C_X5_end G i0 N K := by
  refine Ctr.ofAW RX5 false rfl (by decide +kernel) (fun q => by cases q) (Nat.le_of_ble_eq_true rfl) (Nat.le_refl _) ?_
  refine A_aload_n dX5_end_0 rfl rfl ?_
  refine A_aload_n dX5_end_1 rfl rfl ?_
  refine A_getL dX5_end_2 fX5_38 rfl (okK5 (by omega)) ?_
  refine B_putL dX5_end_5 fX5_23 (by decide) (okK5 (by omega)) (fun M1 eM1 => ?_)
  replace h := h M1 eM1
  exact A_vret dX5_end_8 ⟨rfl, rfl, h⟩
set_option maxRecDepth 100000 in
set_option maxHeartbeats 4000000 in
theorem vc_X5_payInterest {G : GT} {i0 : Nat} {a1 : Int} {N : NN} {K : NN → Prop} (h_i0 : i0 < 10) (h : (∀ M1 : NN, M1 = up3 N 5 i0 8 ((N 5 i0 8) - a1) → (∀ M2 : NN, M2 = up3 M1 5 i0 4 ((M1 5 i0 4) + a1) → K M2))) : C_X5_payInterest G i0 a1 N K := by
  refine Ctr.ofAW RX5 false rfl (by decide +kernel) (fun q => by cases q) (Nat.le_of_ble_eq_true rfl) (Nat.le_refl _) ?_
  refine A_aload_n dX5_payInterest_0 rfl rfl ?_
  refine A_dup dX5_payInterest_1 rfl ?_
  refine A_getL dX5_payInterest_2 fX5_38 rfl (okK5 (by omega)) ?_
  refine A_lload_n dX5_payInterest_5 rfl rfl ?_
  refine A_lsub dX5_payInterest_6 ?_
  refine B_putL dX5_payInterest_7 fX5_38 (by decide) (okK5 (by omega)) (fun M1 eM1 => ?_)
  replace h := h M1 eM1
  refine A_aload_n dX5_payInterest_10 rfl rfl ?_
  refine A_dup dX5_payInterest_11 rfl ?_
  refine A_getL dX5_payInterest_12 fX5_26 rfl (okK5 (by omega)) ?_
  refine A_lload_n dX5_payInterest_15 rfl rfl ?_
  refine A_ladd dX5_payInterest_16 ?_
  refine B_putL dX5_payInterest_17 fX5_26 (by decide) (okK5 (by omega)) (fun M2 eM2 => ?_)
  replace h := h M2 eM2
  exact A_vret dX5_payInterest_20 ⟨rfl, rfl, h⟩
set_option maxRecDepth 100000 in
set_option maxHeartbeats 4000000 in
theorem vc_X5_payPrincipal {G : GT} {i0 : Nat} {a1 : Int} {a2 : Int} {N : NN} {K : NN → Prop} (h_i0 : i0 < 10) (h : (∀ M1 : NN, M1 = up3 N 5 i0 2 ((N 5 i0 2) - a1) → (∀ M2 : NN, M2 = up3 M1 5 i0 5 ((M1 5 i0 5) + a1) → (∀ M3 : NN, M3 = up3 M2 5 i0 7 ((M2 5 i0 7) + (a1 * ((wI a2)))) → K M3)))) : C_X5_payPrincipal G i0 a1 a2 N K := by
  refine Ctr.ofAW RX5 false rfl (by decide +kernel) (fun q => by cases q) (Nat.le_of_ble_eq_true rfl) (Nat.le_refl _) ?_
  refine A_aload_n dX5_payPrincipal_0 rfl rfl ?_
  refine A_dup dX5_payPrincipal_1 rfl ?_
  refine A_getL dX5_payPrincipal_2 fX5_20 rfl (okK5 (by omega)) ?_
  refine A_lload_n dX5_payPrincipal_5 rfl rfl ?_
  refine A_lsub dX5_payPrincipal_6 ?_
  refine B_putL dX5_payPrincipal_7 fX5_20 (by decide) (okK5 (by omega)) (fun M1 eM1 => ?_)
  replace h := h M1 eM1
  refine A_aload_n dX5_payPrincipal_10 rfl rfl ?_
  refine A_dup dX5_payPrincipal_11 rfl ?_
  refine A_getL dX5_payPrincipal_12 fX5_29 rfl (okK5 (by omega)) ?_
  refine A_lload_n dX5_payPrincipal_15 rfl rfl ?_
  refine A_ladd dX5_payPrincipal_16 ?_
  refine B_putL dX5_payPrincipal_17 fX5_29 (by decide) (okK5 (by omega)) (fun M2 eM2 => ?_)
  replace h := h M2 eM2
  refine A_aload_n dX5_payPrincipal_20 rfl rfl ?_
  refine A_dup dX5_payPrincipal_21 rfl ?_
  refine A_getL dX5_payPrincipal_22 fX5_35 rfl (okK5 (by omega)) ?_
  refine A_lload_n dX5_payPrincipal_25 rfl rfl ?_
  refine A_iload_n dX5_payPrincipal_26 rfl rfl ?_
  refine B_i2l dX5_payPrincipal_27 rfl ?_
  refine A_lmul dX5_payPrincipal_28 ?_
  refine A_ladd dX5_payPrincipal_29 ?_
  refine B_putL dX5_payPrincipal_30 fX5_35 (by decide) (okK5 (by omega)) (fun M3 eM3 => ?_)
  replace h := h M3 eM3
  exact A_vret dX5_payPrincipal_33 ⟨rfl, rfl, h⟩
set_option maxRecDepth 100000 in
set_option maxHeartbeats 4000000 in
theorem vc_X5_writeDown {G : GT} {i0 : Nat} {a1 : Int} {N : NN} {K : NN → Prop} (h_i0 : i0 < 10) (h : (∀ M1 : NN, M1 = up3 N 5 i0 2 ((N 5 i0 2) - a1) → (∀ M2 : NN, M2 = up3 M1 5 i0 6 ((M1 5 i0 6) + a1) → K M2))) : C_X5_writeDown G i0 a1 N K := by
  refine Ctr.ofAW RX5 false rfl (by decide +kernel) (fun q => by cases q) (Nat.le_of_ble_eq_true rfl) (Nat.le_refl _) ?_
  refine A_aload_n dX5_writeDown_0 rfl rfl ?_
  refine A_dup dX5_writeDown_1 rfl ?_
  refine A_getL dX5_writeDown_2 fX5_20 rfl (okK5 (by omega)) ?_
  refine A_lload_n dX5_writeDown_5 rfl rfl ?_
  refine A_lsub dX5_writeDown_6 ?_
  refine B_putL dX5_writeDown_7 fX5_20 (by decide) (okK5 (by omega)) (fun M1 eM1 => ?_)
  replace h := h M1 eM1
  refine A_aload_n dX5_writeDown_10 rfl rfl ?_
  refine A_dup dX5_writeDown_11 rfl ?_
  refine A_getL dX5_writeDown_12 fX5_32 rfl (okK5 (by omega)) ?_
  refine A_lload_n dX5_writeDown_15 rfl rfl ?_
  refine A_ladd dX5_writeDown_16 ?_
  refine B_putL dX5_writeDown_17 fX5_32 (by decide) (okK5 (by omega)) (fun M2 eM2 => ?_)
  replace h := h M2 eM2
  exact A_vret dX5_writeDown_20 ⟨rfl, rfl, h⟩
set_option maxRecDepth 100000 in
set_option maxHeartbeats 4000000 in
theorem vc_X7_lay {G : GT} {i0 : Nat} {a1 : Int} {a2 : Int} {N : NN} {K : NN → Prop} (h_i0 : i0 < 4) (h : (∀ M1 : NN, M1 = up3 N 7 i0 1 a1 → (∀ M2 : NN, M2 = up3 M1 7 i0 2 a2 → W_X7_lay G K 12 [(0, vR 7 i0), (3, vI 0)] [] M2))) : C_X7_lay G i0 a1 a2 N K := by
  refine Ctr.ofAW RX7 false rfl (by decide +kernel) (fun q => by cases q) (Nat.le_of_ble_eq_true rfl) (Nat.le_refl _) ?_
  refine A_aload_n dX7_lay_0 rfl rfl ?_
  refine A_iload_n dX7_lay_1 rfl rfl ?_
  refine B_putI dX7_lay_2 fX7_15 (by decide) (okK7 (by omega)) (fun M1 eM1 => ?_)
  replace h := h M1 eM1
  refine A_aload_n dX7_lay_5 rfl rfl ?_
  refine A_iload_n dX7_lay_6 rfl rfl ?_
  refine B_putI dX7_lay_7 fX7_19 (by decide) (okK7 (by omega)) (fun M2 eM2 => ?_)
  replace h := h M2 eM2
  refine A_iconst (v := 0) dX7_lay_10 rfl ?_
  refine A_istore_n (ls' := [(3, _), (0, _), (1, _), (2, _)]) dX7_lay_11 rfl (by decide) rfl ?_
  exact A_pick [1, 0] rfl h
set_option maxRecDepth 100000 in
set_option maxHeartbeats 4000000 in
theorem vc_X7_lay_12 {G : GT} {i0 : Nat} {l3 : Int} {N : NN} {K : NN → Prop} (h_i0 : i0 < 4) (h : ((40 ≤ (wI l3) → K N) ∧ (¬ (40 ≤ (wI l3)) → (∃ j1 : Nat, (wI l3) = (j1 : Int) ∧ j1 < 40 ∧ (∀ M2 : NN, M2 = up3 N 34 i0 j1 0 → W_X7_lay G K 12 [(0, vR 7 i0), (3, vI (l3 + 1))] [] M2))))) : W_X7_lay G K 12 [(0, vR 7 i0), (3, vI l3)] [] N := by
  refine A_iload_n dX7_lay_12 rfl rfl ?_
  refine A_aload_n dX7_lay_13 rfl rfl ?_
  refine A_getR (c2 := 34) (i2 := i0) dX7_lay_14 fX7_9 rfl (okK7 (by omega)) rfl ?_
  refine A_alen (v := 40) dX7_lay_17 (by decide) (okK34 (by omega)) (by decide) ?_
  refine B_icmp_ge (tgt := 34) dX7_lay_18 (by decide) rfl (wlitI (by decide) (by decide)) ⟨fun q => ?_, fun q => ?_⟩
  · replace h := h.1 q
    exact A_vret dX7_lay_34 ⟨rfl, rfl, h⟩
  · replace h := h.2 q
    refine A_aload_n dX7_lay_21 rfl rfl ?_
    refine A_getR (c2 := 34) (i2 := i0) dX7_lay_22 fX7_9 rfl (okK7 (by omega)) rfl ?_
    refine A_iload_n dX7_lay_25 rfl rfl ?_
    refine A_iconst (v := 0) dX7_lay_26 rfl ?_
    obtain ⟨j1, qj1, bj1, h⟩ := h
    refine B_iast (j := j1) dX7_lay_27 (by decide) rfl (okK34 (by omega)) qj1 bj1 (fun M2 eM2 => ?_)
    replace h := h M2 eM2
    refine A_iinc (ls' := [(3, _), (0, _)]) dX7_lay_28 (by decide) rfl rfl rfl ?_
    refine A_goto (tgt := 12) dX7_lay_31 (by decide) ?_
    exact A_pick [1, 0] rfl h
set_option maxRecDepth 100000 in
set_option maxHeartbeats 4000000 in
theorem vc_X7_holds {G : GT} {i0 : Nat} {a1 : Int} {N : NN} {K : Int → NN → Prop} (h_i0 : i0 < 4) (h : (((wL a1) < 0 → K 0 N) ∧ (¬ ((wL a1) < 0) → (((wL ((wI (N 7 i0 2)))) ≤ (wL a1) → K 0 N) ∧ (¬ ((wL ((wI (N 7 i0 2)))) ≤ (wL a1)) → ((40 ≤ (wL a1) → K 0 N) ∧ (¬ (40 ≤ (wL a1)) → K 1 N))))))) : C_X7_holds G i0 a1 N K := by
  refine Ctr.ofAW RX7 false rfl (by decide +kernel) (fun q => by cases q) (Nat.le_of_ble_eq_true rfl) (Nat.le_refl _) ?_
  refine A_lload_n dX7_holds_0 rfl rfl ?_
  refine A_lconst (v := 0) dX7_holds_1 (by decide +kernel) ?_
  refine B_lcmp_lt (tgt := 31) dX7_holds_2 rfl dX7_holds_3 (by decide) rfl (wlitL (by decide) (by decide)) ⟨fun q => ?_, fun q => ?_⟩
  · replace h := h.1 q
    refine A_iconst (v := 0) dX7_holds_31 rfl ?_
    exact A_zret dX7_holds_32 (by decide) ⟨rfl, _, rfl, h⟩
  · replace h := h.2 q
    refine A_lload_n dX7_holds_6 rfl rfl ?_
    refine A_aload_n dX7_holds_7 rfl rfl ?_
    refine A_getI dX7_holds_8 fX7_19 rfl (okK7 (by omega)) ?_
    refine B_i2l dX7_holds_11 rfl ?_
    refine B_lcmp_ge (tgt := 31) dX7_holds_12 rfl dX7_holds_13 (by decide) rfl rfl ⟨fun q => ?_, fun q => ?_⟩
    · replace h := h.1 q
      refine A_iconst (v := 0) dX7_holds_31 rfl ?_
      exact A_zret dX7_holds_32 (by decide) ⟨rfl, _, rfl, h⟩
    · replace h := h.2 q
      refine A_lload_n dX7_holds_16 rfl rfl ?_
      refine A_aload_n dX7_holds_17 rfl rfl ?_
      refine A_getR (c2 := 34) (i2 := i0) dX7_holds_18 fX7_9 rfl (okK7 (by omega)) rfl ?_
      refine A_alen (v := 40) dX7_holds_21 (by decide) (okK34 (by omega)) (by decide) ?_
      refine B_i2l dX7_holds_22 (wlitI (by decide) (by decide)) ?_
      refine B_lcmp_ge (tgt := 31) dX7_holds_23 rfl dX7_holds_24 (by decide) rfl (wlitL (by decide) (by decide)) ⟨fun q => ?_, fun q => ?_⟩
      · replace h := h.1 q
        refine A_iconst (v := 0) dX7_holds_31 rfl ?_
        exact A_zret dX7_holds_32 (by decide) ⟨rfl, _, rfl, h⟩
      · replace h := h.2 q
        refine A_iconst (v := 1) dX7_holds_27 rfl ?_
        refine A_goto (tgt := 32) dX7_holds_28 (by decide) ?_
        exact A_zret dX7_holds_32 (by decide) ⟨rfl, _, rfl, h⟩
