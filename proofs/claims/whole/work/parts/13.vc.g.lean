set_option maxRecDepth 100000 in
set_option maxHeartbeats 4000000 in
theorem vc_X10_text {G : GT} {N : NN} {K : Int → NN → Prop}  (h : (((wI (N 10 0 26)) ≠ 6 → W_X10_text G K 14 [(0, vR 10 0), (1, vI 0)] [] N) ∧ (¬ ((wI (N 10 0 26)) ≠ 6) → K ((-4)) N))) : C_X10_text G N K := by
  refine Ctr.ofAW RX10 false rfl (by decide +kernel) (fun q => by cases q) (Nat.le_of_ble_eq_true rfl) (Nat.le_refl _) ?_
  refine A_aload_n dX10_text_0 rfl rfl ?_
  refine A_getI dX10_text_1 fX10_175 rfl (okK10 (by omega)) ?_
  refine A_bipush (v := 6) dX10_text_4 (by decide +kernel) ?_
  refine B_icmp_ne (tgt := 12) dX10_text_6 (by decide) rfl (wlitI (by decide) (by decide)) ⟨fun q => ?_, fun q => ?_⟩
  · replace h := h.1 q
    refine A_iconst (v := 0) dX10_text_12 rfl ?_
    refine A_istore_n (ls' := [(1, _), (0, _)]) dX10_text_13 rfl (by decide) rfl ?_
    exact A_pick [1, 0] rfl h
  · replace h := h.2 q
    refine A_bipush (v := (-4)) dX10_text_9 (by decide +kernel) ?_
    exact A_iret dX10_text_11 ⟨rfl, _, rfl, h⟩
set_option maxRecDepth 100000 in
set_option maxHeartbeats 4000000 in
theorem vc_X10_text_14 {G : GT} {l1 : Int} {N : NN} {K : Int → NN → Prop}  (h : (((wI (N 10 0 29)) ≤ (wI l1) → (∃ j1 : Nat, (wI (N 10 0 26)) = (j1 : Int) ∧ j1 < 7 ∧ (∀ M2 : NN, M2 = up3 N 58 0 j1 (N 10 0 29) → (∀ M3 : NN, M3 = up3 M2 10 0 29 0 → (C_X10_read G (M3 10 0 26) 0 M3 (fun x4 N4 => (((wI (N4 10 0 37)) = 0 → (∀ M5 : NN, M5 = up3 N4 10 0 26 ((N4 10 0 26) + 1) → K ((M5 10 0 26) - 1) M5)) ∧ (¬ ((wI (N4 10 0 37)) = 0) → K (((-100)) - (N4 10 0 38)) N4)))))))) ∧ (¬ ((wI (N 10 0 29)) ≤ (wI l1)) → (∃ j6 : Nat, (wI l1) = (j6 : Int) ∧ j6 < 160 ∧ (∃ j7 : Nat, (wI ((160 * (N 10 0 26)) + l1)) = (j7 : Int) ∧ j7 < 1120 ∧ (∀ M8 : NN, M8 = up3 N 57 0 j7 (N 59 0 j6) → W_X10_text G K 14 [(0, vR 10 0), (1, vI (l1 + 1))] [] M8)))))) : W_X10_text G K 14 [(0, vR 10 0), (1, vI l1)] [] N := by
  refine A_iload_n dX10_text_14 rfl rfl ?_
  refine A_aload_n dX10_text_15 rfl rfl ?_
  refine A_getI dX10_text_16 fX10_267 rfl (okK10 (by omega)) ?_
  refine B_icmp_ge (tgt := 49) dX10_text_19 (by decide) rfl rfl ⟨fun q => ?_, fun q => ?_⟩
  · replace h := h.1 q
    refine A_aload_n dX10_text_49 rfl rfl ?_
    refine A_getR (c2 := 58) (i2 := 0) dX10_text_50 fX10_72 rfl (okK10 (by omega)) rfl ?_
    refine A_aload_n dX10_text_53 rfl rfl ?_
    refine A_getI dX10_text_54 fX10_175 rfl (okK10 (by omega)) ?_
    refine A_aload_n dX10_text_57 rfl rfl ?_
    refine A_getI dX10_text_58 fX10_267 rfl (okK10 (by omega)) ?_
    obtain ⟨j1, qj1, bj1, h⟩ := h
    refine B_iast (j := j1) dX10_text_61 (by decide) rfl (okK58 (by omega)) qj1 bj1 (fun M2 eM2 => ?_)
    replace h := h M2 eM2
    refine A_aload_n dX10_text_62 rfl rfl ?_
    refine A_iconst (v := 0) dX10_text_63 rfl ?_
    refine B_putI dX10_text_64 fX10_267 (by decide) (okK10 (by omega)) (fun M3 eM3 => ?_)
    replace h := h M3 eM3
    refine A_aload_n dX10_text_67 rfl rfl ?_
    refine A_aload_n dX10_text_68 rfl rfl ?_
    refine A_getI dX10_text_69 fX10_175 rfl (okK10 (by omega)) ?_
    refine A_iconst (v := 0) dX10_text_72 rfl ?_
    refine B_callV_I (av := [vI (M3 10 0 26), vI 0]) rfl dX10_text_73 vX10_403 mX10_read ⟨rfl, rfl, by decide⟩ (okK10 (by omega)) rfl (Nat.le_of_ble_eq_true rfl) (by decide) (by decide) rfl (BC_monoI h (fun x4 N4 h => ?_))
    refine A_istore_n (ls' := [(1, _), (0, _)]) dX10_text_76 rfl (by decide) rfl ?_
    refine A_aload_n dX10_text_77 rfl rfl ?_
    refine A_getI dX10_text_78 fX10_302 rfl (okK10 (by omega)) ?_
    refine B_if_eq (tgt := 92) dX10_text_81 (by decide) rfl ⟨fun q => ?_, fun q => ?_⟩
    · replace h := h.1 q
      refine A_aload_n dX10_text_92 rfl rfl ?_
      refine A_dup dX10_text_93 rfl ?_
      refine A_getI dX10_text_94 fX10_175 rfl (okK10 (by omega)) ?_
      refine A_iconst (v := 1) dX10_text_97 rfl ?_
      refine A_iadd dX10_text_98 ?_
      refine B_putI dX10_text_99 fX10_175 (by decide) (okK10 (by omega)) (fun M5 eM5 => ?_)
      replace h := h M5 eM5
      refine A_aload_n dX10_text_102 rfl rfl ?_
      refine A_getI dX10_text_103 fX10_175 rfl (okK10 (by omega)) ?_
      refine A_iconst (v := 1) dX10_text_106 rfl ?_
      refine A_isub dX10_text_107 ?_
      exact A_iret dX10_text_108 ⟨rfl, _, rfl, h⟩
    · replace h := h.2 q
      refine A_bipush (v := (-100)) dX10_text_84 (by decide +kernel) ?_
      refine A_aload_n dX10_text_86 rfl rfl ?_
      refine A_getI dX10_text_87 fX10_306 rfl (okK10 (by omega)) ?_
      refine A_isub dX10_text_90 ?_
      exact A_iret dX10_text_91 ⟨rfl, _, rfl, h⟩
  · replace h := h.2 q
    refine A_aload_n dX10_text_22 rfl rfl ?_
    refine A_getR (c2 := 57) (i2 := 0) dX10_text_23 fX10_69 rfl (okK10 (by omega)) rfl ?_
    refine A_sipush (v := 160) dX10_text_26 (by decide +kernel) ?_
    refine A_aload_n dX10_text_29 rfl rfl ?_
    refine A_getI dX10_text_30 fX10_175 rfl (okK10 (by omega)) ?_
    refine A_imul dX10_text_33 ?_
    refine A_iload_n dX10_text_34 rfl rfl ?_
    refine A_iadd dX10_text_35 ?_
    refine A_aload_n dX10_text_36 rfl rfl ?_
    refine A_getR (c2 := 59) (i2 := 0) dX10_text_37 fX10_75 rfl (okK10 (by omega)) rfl ?_
    refine A_iload_n dX10_text_40 rfl rfl ?_
    obtain ⟨j6, qj6, bj6, h⟩ := h
    refine A_iald (j := j6) dX10_text_41 (by decide) rfl (okK59 (by omega)) qj6 bj6 ?_
    obtain ⟨j7, qj7, bj7, h⟩ := h
    refine B_iast (j := j7) dX10_text_42 (by decide) rfl (okK57 (by omega)) qj7 bj7 (fun M8 eM8 => ?_)
    replace h := h M8 eM8
    refine A_iinc (ls' := [(1, _), (0, _)]) dX10_text_43 (by decide) rfl rfl rfl ?_
    refine A_goto (tgt := 14) dX10_text_46 (by decide) ?_
    exact A_pick [1, 0] rfl h
set_option maxRecDepth 100000 in
set_option maxHeartbeats 4000000 in
theorem vc_X10_force {G : GT} {a1 : Int} {N : NN} {K : Int → NN → Prop}  (h : (C_X10_in G a1 0 ((N 10 0 26) - 1) N (fun x1 N1 => (((wI x1) ≠ 0 → (∀ M2 : NN, M2 = up3 N1 10 0 27 a1 → K (N1 10 0 27) M2)) ∧ (¬ ((wI x1) ≠ 0) → K ((-2)) N1))))) : C_X10_force G a1 N K := by
  refine Ctr.ofAW RX10 false rfl (by decide +kernel) (fun q => by cases q) (Nat.le_of_ble_eq_true rfl) (Nat.le_refl _) ?_
  refine A_iload_n dX10_force_0 rfl rfl ?_
  refine A_iconst (v := 0) dX10_force_1 rfl ?_
  refine A_aload_n dX10_force_2 rfl rfl ?_
  refine A_getI dX10_force_3 fX10_175 rfl (okK10 (by omega)) ?_
  refine A_iconst (v := 1) dX10_force_6 rfl ?_
  refine A_isub dX10_force_7 ?_
  refine B_callS_I (av := [vI a1, vI 0, vI ((N 10 0 26) - 1)]) rfl dX10_force_8 vX10_186 mX10_in rfl (Nat.le_of_ble_eq_true rfl) (by decide) (by decide) rfl (BC_monoI h (fun x1 N1 h => ?_))
  refine B_if_ne (tgt := 17) dX10_force_11 (by decide) rfl ⟨fun q => ?_, fun q => ?_⟩
  · replace h := h.1 q
    refine A_aload_n dX10_force_17 rfl rfl ?_
    refine A_getI dX10_force_18 fX10_400 rfl (okK10 (by omega)) ?_
    refine A_istore_n (ls' := [(2, _), (0, _), (1, _)]) dX10_force_21 rfl (by decide) rfl ?_
    refine A_aload_n dX10_force_22 rfl rfl ?_
    refine A_iload_n dX10_force_23 rfl rfl ?_
    refine B_putI dX10_force_24 fX10_400 (by decide) (okK10 (by omega)) (fun M2 eM2 => ?_)
    replace h := h M2 eM2
    refine A_iload_n dX10_force_27 rfl rfl ?_
    exact A_iret dX10_force_28 ⟨rfl, _, rfl, h⟩
  · replace h := h.2 q
    refine A_bipush (v := (-2)) dX10_force_14 (by decide +kernel) ?_
    exact A_iret dX10_force_16 ⟨rfl, _, rfl, h⟩
set_option maxRecDepth 100000 in
set_option maxHeartbeats 4000000 in
theorem vc_X10_says {G : GT} {a1 : Int} {a2 : Int} {N : NN} {K : Int → NN → Prop}  (h : (C_X10_isLoan G a1 N (fun x1 N1 => (((wI x1) = 0 → K ((-4611686018427387904)) N1) ∧ (¬ ((wI x1) = 0) → (C_X10_in G a2 0 2 N1 (fun x2 N2 => (((wI x2) = 0 → K ((-4611686018427387904)) N2) ∧ (¬ ((wI x2) = 0) → ((60 ≤ (wI (N2 10 0 1)) → K ((-4611686018427387904)) N2) ∧ (¬ (60 ≤ (wI (N2 10 0 1))) → (C_X10_saysOf G a1 ((N2 10 0 1) + 1) a2 N2 (fun x3 N3 => K ((wI x3)) N3))))))))))))) : C_X10_says G a1 a2 N K := by
  refine Ctr.ofAW RX10 false rfl (by decide +kernel) (fun q => by cases q) (Nat.le_of_ble_eq_true rfl) (Nat.le_refl _) ?_
  refine A_aload_n dX10_says_0 rfl rfl ?_
  refine A_iload_n dX10_says_1 rfl rfl ?_
  refine B_callV_I (av := [vI a1]) rfl dX10_says_2 vX10_198 mX10_isLoan ⟨rfl, rfl, by decide⟩ (okK10 (by omega)) rfl (Nat.le_of_ble_eq_true rfl) (by decide) (by decide) rfl (BC_monoI h (fun x1 N1 h => ?_))
  refine B_if_eq (tgt := 42) dX10_says_5 (by decide) rfl ⟨fun q => ?_, fun q => ?_⟩
  · replace h := h.1 q
    refine A_ldc2 (x := (-4611686018427387904)) dX10_says_42 kX10_406 (by decide +kernel) ?_
    exact A_lret dX10_says_45 ⟨rfl, _, rfl, h⟩
  · replace h := h.2 q
    refine A_iload_n dX10_says_8 rfl rfl ?_
    refine A_iconst (v := 0) dX10_says_9 rfl ?_
    refine A_iconst (v := 2) dX10_says_10 rfl ?_
    refine B_callS_I (av := [vI a2, vI 0, vI 2]) rfl dX10_says_11 vX10_186 mX10_in rfl (Nat.le_of_ble_eq_true rfl) (by decide) (by decide) rfl (BC_monoI h (fun x2 N2 h => ?_))
    refine B_if_eq (tgt := 42) dX10_says_14 (by decide) rfl ⟨fun q => ?_, fun q => ?_⟩
    · replace h := h.1 q
      refine A_ldc2 (x := (-4611686018427387904)) dX10_says_42 kX10_406 (by decide +kernel) ?_
      exact A_lret dX10_says_45 ⟨rfl, _, rfl, h⟩
    · replace h := h.2 q
      refine A_aload_n dX10_says_17 rfl rfl ?_
      refine A_getI dX10_says_18 fX10_195 rfl (okK10 (by omega)) ?_
      refine A_bipush (v := 60) dX10_says_21 (by decide +kernel) ?_
      refine B_icmp_ge (tgt := 42) dX10_says_23 (by decide) rfl (wlitI (by decide) (by decide)) ⟨fun q => ?_, fun q => ?_⟩
      · replace h := h.1 q
        refine A_ldc2 (x := (-4611686018427387904)) dX10_says_42 kX10_406 (by decide +kernel) ?_
        exact A_lret dX10_says_45 ⟨rfl, _, rfl, h⟩
      · replace h := h.2 q
        refine A_aload_n dX10_says_26 rfl rfl ?_
        refine A_iload_n dX10_says_27 rfl rfl ?_
        refine A_aload_n dX10_says_28 rfl rfl ?_
        refine A_getI dX10_says_29 fX10_195 rfl (okK10 (by omega)) ?_
        refine A_iconst (v := 1) dX10_says_32 rfl ?_
        refine A_iadd dX10_says_33 ?_
        refine A_iload_n dX10_says_34 rfl rfl ?_
        refine B_callV_I (av := [vI a1, vI ((N2 10 0 1) + 1), vI a2]) rfl dX10_says_35 vX10_230 mX10_saysOf ⟨rfl, rfl, by decide⟩ (okK10 (by omega)) rfl (Nat.le_of_ble_eq_true rfl) (by decide) (by decide) rfl (BC_monoI h (fun x3 N3 h => ?_))
        refine B_i2l dX10_says_38 rfl ?_
        refine A_goto (tgt := 45) dX10_says_39 (by decide) ?_
        exact A_lret dX10_says_45 ⟨rfl, _, rfl, h⟩
set_option maxRecDepth 100000 in
set_option maxHeartbeats 4000000 in
theorem vc_X10_numberHere {G : GT} {N : NN} {K : Int → NN → Prop}  (h : (((wI (N 10 0 37)) ≠ 0 → (C_X10_fail G  N (fun N1 => K ((-1)) N1))) ∧ (¬ ((wI (N 10 0 37)) ≠ 0) → (((wI (N 10 0 32)) = 2 → (C_X10_next G  N (fun N2 => K (N 10 0 34) N2))) ∧ (¬ ((wI (N 10 0 32)) = 2) → (C_X10_fail G  N (fun N3 => K ((-1)) N3))))))) : C_X10_numberHere G N K := by
  refine Ctr.ofAW RX10 false rfl (by decide +kernel) (fun q => by cases q) (Nat.le_of_ble_eq_true rfl) (Nat.le_refl _) ?_
  refine A_aload_n dX10_numberHere_0 rfl rfl ?_
  refine A_getI dX10_numberHere_1 fX10_302 rfl (okK10 (by omega)) ?_
  refine B_if_ne (tgt := 15) dX10_numberHere_4 (by decide) rfl ⟨fun q => ?_, fun q => ?_⟩
  · replace h := h.1 q
    refine A_aload_n dX10_numberHere_15 rfl rfl ?_
    refine B_callV_V (av := []) rfl dX10_numberHere_16 vX10_312 mX10_fail ⟨rfl, rfl, by decide⟩ (okK10 (by omega)) rfl (Nat.le_of_ble_eq_true rfl) (by decide) (by decide) rfl (BC_monoV h (fun N1 h => ?_))
    refine A_iconst (v := (-1)) dX10_numberHere_19 rfl ?_
    exact A_iret dX10_numberHere_20 ⟨rfl, _, rfl, h⟩
  · replace h := h.2 q
    refine A_aload_n dX10_numberHere_7 rfl rfl ?_
    refine A_getI dX10_numberHere_8 fX10_285 rfl (okK10 (by omega)) ?_
    refine A_iconst (v := 2) dX10_numberHere_11 rfl ?_
    refine B_icmp_eq (tgt := 21) dX10_numberHere_12 (by decide) rfl (wlitI (by decide) (by decide)) ⟨fun q => ?_, fun q => ?_⟩
    · replace h := h.1 q
      refine A_aload_n dX10_numberHere_21 rfl rfl ?_
      refine A_getL dX10_numberHere_22 fX10_288 rfl (okK10 (by omega)) ?_
      refine A_l2i dX10_numberHere_25 ?_
      refine A_istore_n (ls' := [(1, _), (0, _)]) dX10_numberHere_26 rfl (by decide) rfl ?_
      refine A_aload_n dX10_numberHere_27 rfl rfl ?_
      refine B_callV_V (av := []) rfl dX10_numberHere_28 vX10_315 mX10_next ⟨rfl, rfl, by decide⟩ (okK10 (by omega)) rfl (Nat.le_of_ble_eq_true rfl) (by decide) (by decide) rfl (BC_monoV h (fun N2 h => ?_))
      refine A_iload_n dX10_numberHere_31 rfl rfl ?_
      exact A_iret dX10_numberHere_32 ⟨rfl, _, rfl, h⟩
    · replace h := h.2 q
      refine A_aload_n dX10_numberHere_15 rfl rfl ?_
      refine B_callV_V (av := []) rfl dX10_numberHere_16 vX10_312 mX10_fail ⟨rfl, rfl, by decide⟩ (okK10 (by omega)) rfl (Nat.le_of_ble_eq_true rfl) (by decide) (by decide) rfl (BC_monoV h (fun N3 h => ?_))
      refine A_iconst (v := (-1)) dX10_numberHere_19 rfl ?_
      exact A_iret dX10_numberHere_20 ⟨rfl, _, rfl, h⟩
set_option maxRecDepth 100000 in
set_option maxHeartbeats 4000000 in
theorem vc_X10_paperHere {G : GT} {N : NN} {K : Int → NN → Prop}  (h : (((wI (N 10 0 37)) ≠ 0 → (C_X10_fail G  N (fun N1 => K ((-1)) N1))) ∧ (¬ ((wI (N 10 0 37)) ≠ 0) → (((wI (N 10 0 32)) ≠ 1 → (C_X10_fail G  N (fun N2 => K ((-1)) N2))) ∧ (¬ ((wI (N 10 0 32)) ≠ 1) → (((wL (N 10 0 34)) < 1 → (C_X10_fail G  N (fun N3 => K ((-1)) N3))) ∧ (¬ ((wL (N 10 0 34)) < 1) → (((wL (N 10 0 34)) ≤ 5 → (C_X10_next G  N (fun N4 => K ((N 10 0 34) - 1) N4))) ∧ (¬ ((wL (N 10 0 34)) ≤ 5) → (C_X10_fail G  N (fun N5 => K ((-1)) N5))))))))))) : C_X10_paperHere G N K := by
  refine Ctr.ofAW RX10 false rfl (by decide +kernel) (fun q => by cases q) (Nat.le_of_ble_eq_true rfl) (Nat.le_refl _) ?_
  refine A_aload_n dX10_paperHere_0 rfl rfl ?_
  refine A_getI dX10_paperHere_1 fX10_302 rfl (okK10 (by omega)) ?_
  refine B_if_ne (tgt := 35) dX10_paperHere_4 (by decide) rfl ⟨fun q => ?_, fun q => ?_⟩
  · replace h := h.1 q
    refine A_aload_n dX10_paperHere_35 rfl rfl ?_
    refine B_callV_V (av := []) rfl dX10_paperHere_36 vX10_312 mX10_fail ⟨rfl, rfl, by decide⟩ (okK10 (by omega)) rfl (Nat.le_of_ble_eq_true rfl) (by decide) (by decide) rfl (BC_monoV h (fun N1 h => ?_))
    refine A_iconst (v := (-1)) dX10_paperHere_39 rfl ?_
    exact A_iret dX10_paperHere_40 ⟨rfl, _, rfl, h⟩
  · replace h := h.2 q
    refine A_aload_n dX10_paperHere_7 rfl rfl ?_
    refine A_getI dX10_paperHere_8 fX10_285 rfl (okK10 (by omega)) ?_
    refine A_iconst (v := 1) dX10_paperHere_11 rfl ?_
    refine B_icmp_ne (tgt := 35) dX10_paperHere_12 (by decide) rfl (wlitI (by decide) (by decide)) ⟨fun q => ?_, fun q => ?_⟩
    · replace h := h.1 q
      refine A_aload_n dX10_paperHere_35 rfl rfl ?_
      refine B_callV_V (av := []) rfl dX10_paperHere_36 vX10_312 mX10_fail ⟨rfl, rfl, by decide⟩ (okK10 (by omega)) rfl (Nat.le_of_ble_eq_true rfl) (by decide) (by decide) rfl (BC_monoV h (fun N2 h => ?_))
      refine A_iconst (v := (-1)) dX10_paperHere_39 rfl ?_
      exact A_iret dX10_paperHere_40 ⟨rfl, _, rfl, h⟩
    · replace h := h.2 q
      refine A_aload_n dX10_paperHere_15 rfl rfl ?_
      refine A_getL dX10_paperHere_16 fX10_288 rfl (okK10 (by omega)) ?_
      refine A_lconst (v := 1) dX10_paperHere_19 (by decide +kernel) ?_
      refine B_lcmp_lt (tgt := 35) dX10_paperHere_20 rfl dX10_paperHere_21 (by decide) rfl (wlitL (by decide) (by decide)) ⟨fun q => ?_, fun q => ?_⟩
      · replace h := h.1 q
        refine A_aload_n dX10_paperHere_35 rfl rfl ?_
        refine B_callV_V (av := []) rfl dX10_paperHere_36 vX10_312 mX10_fail ⟨rfl, rfl, by decide⟩ (okK10 (by omega)) rfl (Nat.le_of_ble_eq_true rfl) (by decide) (by decide) rfl (BC_monoV h (fun N3 h => ?_))
        refine A_iconst (v := (-1)) dX10_paperHere_39 rfl ?_
        exact A_iret dX10_paperHere_40 ⟨rfl, _, rfl, h⟩
      · replace h := h.2 q
        refine A_aload_n dX10_paperHere_24 rfl rfl ?_
        refine A_getL dX10_paperHere_25 fX10_288 rfl (okK10 (by omega)) ?_
        refine A_ldc2 (x := 5) dX10_paperHere_28 kX10_408 (by decide +kernel) ?_
        refine B_lcmp_le (tgt := 41) dX10_paperHere_31 rfl dX10_paperHere_32 (by decide) rfl (wlitL (by decide) (by decide)) ⟨fun q => ?_, fun q => ?_⟩
        · replace h := h.1 q
          refine A_aload_n dX10_paperHere_41 rfl rfl ?_
          refine A_getL dX10_paperHere_42 fX10_288 rfl (okK10 (by omega)) ?_
          refine A_l2i dX10_paperHere_45 ?_
          refine A_iconst (v := 1) dX10_paperHere_46 rfl ?_
          refine A_isub dX10_paperHere_47 ?_
          refine A_istore_n (ls' := [(1, _), (0, _)]) dX10_paperHere_48 rfl (by decide) rfl ?_
          refine A_aload_n dX10_paperHere_49 rfl rfl ?_
          refine B_callV_V (av := []) rfl dX10_paperHere_50 vX10_315 mX10_next ⟨rfl, rfl, by decide⟩ (okK10 (by omega)) rfl (Nat.le_of_ble_eq_true rfl) (by decide) (by decide) rfl (BC_monoV h (fun N4 h => ?_))
          refine A_iload_n dX10_paperHere_53 rfl rfl ?_
          exact A_iret dX10_paperHere_54 ⟨rfl, _, rfl, h⟩
        · replace h := h.2 q
          refine A_aload_n dX10_paperHere_35 rfl rfl ?_
          refine B_callV_V (av := []) rfl dX10_paperHere_36 vX10_312 mX10_fail ⟨rfl, rfl, by decide⟩ (okK10 (by omega)) rfl (Nat.le_of_ble_eq_true rfl) (by decide) (by decide) rfl (BC_monoV h (fun N5 h => ?_))
          refine A_iconst (v := (-1)) dX10_paperHere_39 rfl ?_
          exact A_iret dX10_paperHere_40 ⟨rfl, _, rfl, h⟩
set_option maxRecDepth 100000 in
set_option maxHeartbeats 4000000 in
theorem vc_X10_fieldHere {G : GT} {N : NN} {K : Int → NN → Prop}  (h : (C_X10_isWord G 7214732 N (fun x1 N1 => (((wI x1) = 0 → (C_X10_isWord G 237470 N1 (fun x2 N2 => (((wI x2) = 0 → (C_X10_isWord G 247664 N2 (fun x3 N3 => (((wI x3) = 0 → (C_X10_isWord G 1905759 N3 (fun x4 N4 => (((wI x4) = 0 → (C_X10_isWord G 407041 N4 (fun x5 N5 => (((wI x5) = 0 → (C_X10_fail G  N5 (fun N6 => K ((-1)) N6))) ∧ (¬ ((wI x5) = 0) → (C_X10_next G  N5 (fun N7 => K 4 N7))))))) ∧ (¬ ((wI x4) = 0) → (C_X10_next G  N4 (fun N8 => K 3 N8))))))) ∧ (¬ ((wI x3) = 0) → (C_X10_next G  N3 (fun N9 => K 2 N9))))))) ∧ (¬ ((wI x2) = 0) → (C_X10_next G  N2 (fun N10 => K 1 N10))))))) ∧ (¬ ((wI x1) = 0) → (C_X10_next G  N1 (fun N11 => K 0 N11))))))) : C_X10_fieldHere G N K := by
  refine Ctr.ofAW RX10 false rfl (by decide +kernel) (fun q => by cases q) (Nat.le_of_ble_eq_true rfl) (Nat.le_refl _) ?_
  refine A_aload_n dX10_fieldHere_0 rfl rfl ?_
  refine A_ldc2 (x := 7214732) dX10_fieldHere_1 kX10_318 (by decide +kernel) ?_
  refine B_callV_I (av := [vL 7214732]) rfl dX10_fieldHere_4 vX10_320 mX10_isWord ⟨rfl, rfl, by decide⟩ (okK10 (by omega)) rfl (Nat.le_of_ble_eq_true rfl) (by decide) (by decide) rfl (BC_monoI h (fun x1 N1 h => ?_))
  refine B_if_eq (tgt := 14) dX10_fieldHere_7 (by decide) rfl ⟨fun q => ?_, fun q => ?_⟩
  · replace h := h.1 q
    refine A_aload_n dX10_fieldHere_14 rfl rfl ?_
    refine A_ldc2 (x := 237470) dX10_fieldHere_15 kX10_396 (by decide +kernel) ?_
    refine B_callV_I (av := [vL 237470]) rfl dX10_fieldHere_18 vX10_320 mX10_isWord ⟨rfl, rfl, by decide⟩ (okK10 (by omega)) rfl (Nat.le_of_ble_eq_true rfl) (by decide) (by decide) rfl (BC_monoI h (fun x2 N2 h => ?_))
    refine B_if_eq (tgt := 28) dX10_fieldHere_21 (by decide) rfl ⟨fun q => ?_, fun q => ?_⟩
    · replace h := h.1 q
      refine A_aload_n dX10_fieldHere_28 rfl rfl ?_
      refine A_ldc2 (x := 247664) dX10_fieldHere_29 kX10_410 (by decide +kernel) ?_
      refine B_callV_I (av := [vL 247664]) rfl dX10_fieldHere_32 vX10_320 mX10_isWord ⟨rfl, rfl, by decide⟩ (okK10 (by omega)) rfl (Nat.le_of_ble_eq_true rfl) (by decide) (by decide) rfl (BC_monoI h (fun x3 N3 h => ?_))
      refine B_if_eq (tgt := 42) dX10_fieldHere_35 (by decide) rfl ⟨fun q => ?_, fun q => ?_⟩
      · replace h := h.1 q
        refine A_aload_n dX10_fieldHere_42 rfl rfl ?_
        refine A_ldc2 (x := 1905759) dX10_fieldHere_43 kX10_412 (by decide +kernel) ?_
        refine B_callV_I (av := [vL 1905759]) rfl dX10_fieldHere_46 vX10_320 mX10_isWord ⟨rfl, rfl, by decide⟩ (okK10 (by omega)) rfl (Nat.le_of_ble_eq_true rfl) (by decide) (by decide) rfl (BC_monoI h (fun x4 N4 h => ?_))
        refine B_if_eq (tgt := 56) dX10_fieldHere_49 (by decide) rfl ⟨fun q => ?_, fun q => ?_⟩
        · replace h := h.1 q
          refine A_aload_n dX10_fieldHere_56 rfl rfl ?_
          refine A_ldc2 (x := 407041) dX10_fieldHere_57 kX10_414 (by decide +kernel) ?_
          refine B_callV_I (av := [vL 407041]) rfl dX10_fieldHere_60 vX10_320 mX10_isWord ⟨rfl, rfl, by decide⟩ (okK10 (by omega)) rfl (Nat.le_of_ble_eq_true rfl) (by decide) (by decide) rfl (BC_monoI h (fun x5 N5 h => ?_))
          refine B_if_eq (tgt := 70) dX10_fieldHere_63 (by decide) rfl ⟨fun q => ?_, fun q => ?_⟩
          · replace h := h.1 q
            refine A_iconst (v := (-1)) dX10_fieldHere_70 rfl ?_
            refine A_istore_n (ls' := [(1, _), (0, _)]) dX10_fieldHere_71 rfl (by decide) rfl ?_
            refine A_iload_n dX10_fieldHere_72 rfl rfl ?_
            refine A_iconst (v := (-1)) dX10_fieldHere_73 rfl ?_
            refine B_icmp_ne (tgt := 84) dX10_fieldHere_74 (by decide) (wlitI (by decide) (by decide)) (wlitI (by decide) (by decide)) ⟨fun q => absurd q (by decide), fun q => ?_⟩
            refine A_aload_n dX10_fieldHere_77 rfl rfl ?_
            refine B_callV_V (av := []) rfl dX10_fieldHere_78 vX10_312 mX10_fail ⟨rfl, rfl, by decide⟩ (okK10 (by omega)) rfl (Nat.le_of_ble_eq_true rfl) (by decide) (by decide) rfl (BC_monoV h (fun N6 h => ?_))
            refine A_goto (tgt := 88) dX10_fieldHere_81 (by decide) ?_
            refine A_iload_n dX10_fieldHere_88 rfl rfl ?_
            exact A_iret dX10_fieldHere_89 ⟨rfl, _, rfl, h⟩
          · replace h := h.2 q
            refine A_iconst (v := 4) dX10_fieldHere_66 rfl ?_
            refine A_goto (tgt := 71) dX10_fieldHere_67 (by decide) ?_
            refine A_istore_n (ls' := [(1, _), (0, _)]) dX10_fieldHere_71 rfl (by decide) rfl ?_
            refine A_iload_n dX10_fieldHere_72 rfl rfl ?_
            refine A_iconst (v := (-1)) dX10_fieldHere_73 rfl ?_
            refine B_icmp_ne (tgt := 84) dX10_fieldHere_74 (by decide) (wlitI (by decide) (by decide)) (wlitI (by decide) (by decide)) ⟨fun q => ?_, fun q => absurd (by decide) q⟩
            refine A_aload_n dX10_fieldHere_84 rfl rfl ?_
            refine B_callV_V (av := []) rfl dX10_fieldHere_85 vX10_315 mX10_next ⟨rfl, rfl, by decide⟩ (okK10 (by omega)) rfl (Nat.le_of_ble_eq_true rfl) (by decide) (by decide) rfl (BC_monoV h (fun N7 h => ?_))
            refine A_iload_n dX10_fieldHere_88 rfl rfl ?_
            exact A_iret dX10_fieldHere_89 ⟨rfl, _, rfl, h⟩
        · replace h := h.2 q
          refine A_iconst (v := 3) dX10_fieldHere_52 rfl ?_
          refine A_goto (tgt := 71) dX10_fieldHere_53 (by decide) ?_
          refine A_istore_n (ls' := [(1, _), (0, _)]) dX10_fieldHere_71 rfl (by decide) rfl ?_
          refine A_iload_n dX10_fieldHere_72 rfl rfl ?_
          refine A_iconst (v := (-1)) dX10_fieldHere_73 rfl ?_
          refine B_icmp_ne (tgt := 84) dX10_fieldHere_74 (by decide) (wlitI (by decide) (by decide)) (wlitI (by decide) (by decide)) ⟨fun q => ?_, fun q => absurd (by decide) q⟩
          refine A_aload_n dX10_fieldHere_84 rfl rfl ?_
          refine B_callV_V (av := []) rfl dX10_fieldHere_85 vX10_315 mX10_next ⟨rfl, rfl, by decide⟩ (okK10 (by omega)) rfl (Nat.le_of_ble_eq_true rfl) (by decide) (by decide) rfl (BC_monoV h (fun N8 h => ?_))
          refine A_iload_n dX10_fieldHere_88 rfl rfl ?_
          exact A_iret dX10_fieldHere_89 ⟨rfl, _, rfl, h⟩
      · replace h := h.2 q
        refine A_iconst (v := 2) dX10_fieldHere_38 rfl ?_
        refine A_goto (tgt := 71) dX10_fieldHere_39 (by decide) ?_
        refine A_istore_n (ls' := [(1, _), (0, _)]) dX10_fieldHere_71 rfl (by decide) rfl ?_
        refine A_iload_n dX10_fieldHere_72 rfl rfl ?_
        refine A_iconst (v := (-1)) dX10_fieldHere_73 rfl ?_
        refine B_icmp_ne (tgt := 84) dX10_fieldHere_74 (by decide) (wlitI (by decide) (by decide)) (wlitI (by decide) (by decide)) ⟨fun q => ?_, fun q => absurd (by decide) q⟩
        refine A_aload_n dX10_fieldHere_84 rfl rfl ?_
        refine B_callV_V (av := []) rfl dX10_fieldHere_85 vX10_315 mX10_next ⟨rfl, rfl, by decide⟩ (okK10 (by omega)) rfl (Nat.le_of_ble_eq_true rfl) (by decide) (by decide) rfl (BC_monoV h (fun N9 h => ?_))
        refine A_iload_n dX10_fieldHere_88 rfl rfl ?_
        exact A_iret dX10_fieldHere_89 ⟨rfl, _, rfl, h⟩
    · replace h := h.2 q
      refine A_iconst (v := 1) dX10_fieldHere_24 rfl ?_
      refine A_goto (tgt := 71) dX10_fieldHere_25 (by decide) ?_
      refine A_istore_n (ls' := [(1, _), (0, _)]) dX10_fieldHere_71 rfl (by decide) rfl ?_
      refine A_iload_n dX10_fieldHere_72 rfl rfl ?_
      refine A_iconst (v := (-1)) dX10_fieldHere_73 rfl ?_
      refine B_icmp_ne (tgt := 84) dX10_fieldHere_74 (by decide) (wlitI (by decide) (by decide)) (wlitI (by decide) (by decide)) ⟨fun q => ?_, fun q => absurd (by decide) q⟩
      refine A_aload_n dX10_fieldHere_84 rfl rfl ?_
      refine B_callV_V (av := []) rfl dX10_fieldHere_85 vX10_315 mX10_next ⟨rfl, rfl, by decide⟩ (okK10 (by omega)) rfl (Nat.le_of_ble_eq_true rfl) (by decide) (by decide) rfl (BC_monoV h (fun N10 h => ?_))
      refine A_iload_n dX10_fieldHere_88 rfl rfl ?_
      exact A_iret dX10_fieldHere_89 ⟨rfl, _, rfl, h⟩
  · replace h := h.2 q
    refine A_iconst (v := 0) dX10_fieldHere_10 rfl ?_
    refine A_goto (tgt := 71) dX10_fieldHere_11 (by decide) ?_
    refine A_istore_n (ls' := [(1, _), (0, _)]) dX10_fieldHere_71 rfl (by decide) rfl ?_
    refine A_iload_n dX10_fieldHere_72 rfl rfl ?_
    refine A_iconst (v := (-1)) dX10_fieldHere_73 rfl ?_
    refine B_icmp_ne (tgt := 84) dX10_fieldHere_74 (by decide) (wlitI (by decide) (by decide)) (wlitI (by decide) (by decide)) ⟨fun q => ?_, fun q => absurd (by decide) q⟩
    refine A_aload_n dX10_fieldHere_84 rfl rfl ?_
    refine B_callV_V (av := []) rfl dX10_fieldHere_85 vX10_315 mX10_next ⟨rfl, rfl, by decide⟩ (okK10 (by omega)) rfl (Nat.le_of_ble_eq_true rfl) (by decide) (by decide) rfl (BC_monoV h (fun N11 h => ?_))
    refine A_iload_n dX10_fieldHere_88 rfl rfl ?_
    exact A_iret dX10_fieldHere_89 ⟨rfl, _, rfl, h⟩
set_option maxRecDepth 100000 in
set_option maxHeartbeats 4000000 in
theorem vc_X10_readStep {G : GT} {a1 : Int} {N : NN} {K : NN → Prop}  (h : (C_X10_isWord G 4514 N (fun x1 N1 => (((wI x1) = 0 → (C_X10_isWord G 11716 N1 (fun x2 N2 => (((wI x2) = 0 → (C_X10_isWord G 11570 N2 (fun x3 N3 => (((wI x3) = 0 → (C_X10_isWord G 316163 N3 (fun x4 N4 => (((wI x4) = 0 → (C_X10_isWord G 220309 N4 (fun x5 N5 => (((wI x5) = 0 → W_X10_readStep G K 71 [(0, vR 10 0), (1, vI a1)] [vI ((-1))] N5) ∧ (¬ ((wI x5) = 0) → W_X10_readStep G K 71 [(0, vR 10 0), (1, vI a1)] [vI 4] N5))))) ∧ (¬ ((wI x4) = 0) → W_X10_readStep G K 71 [(0, vR 10 0), (1, vI a1)] [vI 3] N4))))) ∧ (¬ ((wI x3) = 0) → W_X10_readStep G K 71 [(0, vR 10 0), (1, vI a1)] [vI 2] N3))))) ∧ (¬ ((wI x2) = 0) → W_X10_readStep G K 71 [(0, vR 10 0), (1, vI a1)] [vI 1] N2))))) ∧ (¬ ((wI x1) = 0) → W_X10_readStep G K 71 [(0, vR 10 0), (1, vI a1)] [vI 0] N1))))) : C_X10_readStep G a1 N K := by
  refine Ctr.ofAW RX10 false rfl (by decide +kernel) (fun q => by cases q) (Nat.le_of_ble_eq_true rfl) (Nat.le_refl _) ?_
  refine A_aload_n dX10_readStep_0 rfl rfl ?_
  refine A_ldc2 (x := 4514) dX10_readStep_1 kX10_416 (by decide +kernel) ?_
  refine B_callV_I (av := [vL 4514]) rfl dX10_readStep_4 vX10_320 mX10_isWord ⟨rfl, rfl, by decide⟩ (okK10 (by omega)) rfl (Nat.le_of_ble_eq_true rfl) (by decide) (by decide) rfl (BC_monoI h (fun x1 N1 h => ?_))
  refine B_if_eq (tgt := 14) dX10_readStep_7 (by decide) rfl ⟨fun q => ?_, fun q => ?_⟩
  · replace h := h.1 q
    refine A_aload_n dX10_readStep_14 rfl rfl ?_
    refine A_ldc2 (x := 11716) dX10_readStep_15 kX10_418 (by decide +kernel) ?_
    refine B_callV_I (av := [vL 11716]) rfl dX10_readStep_18 vX10_320 mX10_isWord ⟨rfl, rfl, by decide⟩ (okK10 (by omega)) rfl (Nat.le_of_ble_eq_true rfl) (by decide) (by decide) rfl (BC_monoI h (fun x2 N2 h => ?_))
    refine B_if_eq (tgt := 28) dX10_readStep_21 (by decide) rfl ⟨fun q => ?_, fun q => ?_⟩
    · replace h := h.1 q
      refine A_aload_n dX10_readStep_28 rfl rfl ?_
      refine A_ldc2 (x := 11570) dX10_readStep_29 kX10_420 (by decide +kernel) ?_
      refine B_callV_I (av := [vL 11570]) rfl dX10_readStep_32 vX10_320 mX10_isWord ⟨rfl, rfl, by decide⟩ (okK10 (by omega)) rfl (Nat.le_of_ble_eq_true rfl) (by decide) (by decide) rfl (BC_monoI h (fun x3 N3 h => ?_))
      refine B_if_eq (tgt := 42) dX10_readStep_35 (by decide) rfl ⟨fun q => ?_, fun q => ?_⟩
      · replace h := h.1 q
        refine A_aload_n dX10_readStep_42 rfl rfl ?_
        refine A_ldc2 (x := 316163) dX10_readStep_43 kX10_422 (by decide +kernel) ?_
        refine B_callV_I (av := [vL 316163]) rfl dX10_readStep_46 vX10_320 mX10_isWord ⟨rfl, rfl, by decide⟩ (okK10 (by omega)) rfl (Nat.le_of_ble_eq_true rfl) (by decide) (by decide) rfl (BC_monoI h (fun x4 N4 h => ?_))
        refine B_if_eq (tgt := 56) dX10_readStep_49 (by decide) rfl ⟨fun q => ?_, fun q => ?_⟩
        · replace h := h.1 q
          refine A_aload_n dX10_readStep_56 rfl rfl ?_
          refine A_ldc2 (x := 220309) dX10_readStep_57 kX10_424 (by decide +kernel) ?_
          refine B_callV_I (av := [vL 220309]) rfl dX10_readStep_60 vX10_320 mX10_isWord ⟨rfl, rfl, by decide⟩ (okK10 (by omega)) rfl (Nat.le_of_ble_eq_true rfl) (by decide) (by decide) rfl (BC_monoI h (fun x5 N5 h => ?_))
          refine B_if_eq (tgt := 70) dX10_readStep_63 (by decide) rfl ⟨fun q => ?_, fun q => ?_⟩
          · replace h := h.1 q
            refine A_iconst (v := (-1)) dX10_readStep_70 rfl ?_
            exact A_pick [0, 1] rfl h
          · replace h := h.2 q
            refine A_iconst (v := 4) dX10_readStep_66 rfl ?_
            refine A_goto (tgt := 71) dX10_readStep_67 (by decide) ?_
            exact A_pick [0, 1] rfl h
        · replace h := h.2 q
          refine A_iconst (v := 3) dX10_readStep_52 rfl ?_
          refine A_goto (tgt := 71) dX10_readStep_53 (by decide) ?_
          exact A_pick [0, 1] rfl h
      · replace h := h.2 q
        refine A_iconst (v := 2) dX10_readStep_38 rfl ?_
        refine A_goto (tgt := 71) dX10_readStep_39 (by decide) ?_
        exact A_pick [0, 1] rfl h
    · replace h := h.2 q
      refine A_iconst (v := 1) dX10_readStep_24 rfl ?_
      refine A_goto (tgt := 71) dX10_readStep_25 (by decide) ?_
      exact A_pick [0, 1] rfl h
  · replace h := h.2 q
    refine A_iconst (v := 0) dX10_readStep_10 rfl ?_
    refine A_goto (tgt := 71) dX10_readStep_11 (by decide) ?_
    exact A_pick [0, 1] rfl h
set_option maxRecDepth 100000 in
set_option maxHeartbeats 4000000 in
theorem vc_X10_readStep_71 {G : GT} {l1 : Int} {s0 : Int} {N : NN} {K : NN → Prop}  (h : (((wI s0) ≠ (-1) → (C_X10_next G  N (fun N1 => (∃ j2 : Nat, (wI l1) = (j2 : Int) ∧ j2 < 60 ∧ (∀ M3 : NN, M3 = up3 N1 61 0 j2 s0 → (((wI s0) = 0 → W_X10_readStep G K 107 [(0, vR 10 0), (1, vI l1), (2, vI s0)] [vI l1, vR 62 0] M3) ∧ (¬ ((wI s0) = 0) → (((wI s0) ≠ 4 → (C_X10_paperHere G  M3 (fun x4 N4 => W_X10_readStep G K 115 [(0, vR 10 0), (1, vI l1), (2, vI s0)] [vI x4, vI l1, vR 62 0] N4))) ∧ (¬ ((wI s0) ≠ 4) → W_X10_readStep G K 107 [(0, vR 10 0), (1, vI l1), (2, vI s0)] [vI l1, vR 62 0] M3))))))))) ∧ (¬ ((wI s0) ≠ (-1)) → (C_X10_fail G  N (fun N5 => K N5))))) : W_X10_readStep G K 71 [(0, vR 10 0), (1, vI l1)] [vI s0] N := by
  refine A_istore_n (ls' := [(2, _), (0, _), (1, _)]) dX10_readStep_71 rfl (by decide) rfl ?_
  refine A_iload_n dX10_readStep_72 rfl rfl ?_
  refine A_iconst (v := (-1)) dX10_readStep_73 rfl ?_
  refine B_icmp_ne (tgt := 82) dX10_readStep_74 (by decide) rfl (wlitI (by decide) (by decide)) ⟨fun q => ?_, fun q => ?_⟩
  · replace h := h.1 q
    refine A_aload_n dX10_readStep_82 rfl rfl ?_
    refine B_callV_V (av := []) rfl dX10_readStep_83 vX10_315 mX10_next ⟨rfl, rfl, by decide⟩ (okK10 (by omega)) rfl (Nat.le_of_ble_eq_true rfl) (by decide) (by decide) rfl (BC_monoV h (fun N1 h => ?_))
    refine A_aload_n dX10_readStep_86 rfl rfl ?_
    refine A_getR (c2 := 61) (i2 := 0) dX10_readStep_87 fX10_81 rfl (okK10 (by omega)) rfl ?_
    refine A_iload_n dX10_readStep_90 rfl rfl ?_
    refine A_iload_n dX10_readStep_91 rfl rfl ?_
    obtain ⟨j2, qj2, bj2, h⟩ := h
    refine B_iast (j := j2) dX10_readStep_92 (by decide) rfl (okK61 (by omega)) qj2 bj2 (fun M3 eM3 => ?_)
    replace h := h M3 eM3
    refine A_aload_n dX10_readStep_93 rfl rfl ?_
    refine A_getR (c2 := 62) (i2 := 0) dX10_readStep_94 fX10_84 rfl (okK10 (by omega)) rfl ?_
    refine A_iload_n dX10_readStep_97 rfl rfl ?_
    refine A_iload_n dX10_readStep_98 rfl rfl ?_
    refine B_if_eq (tgt := 107) dX10_readStep_99 (by decide) rfl ⟨fun q => ?_, fun q => ?_⟩
    · replace h := h.1 q
      exact A_pick [1, 2, 0] rfl h
    · replace h := h.2 q
      refine A_iload_n dX10_readStep_102 rfl rfl ?_
      refine A_iconst (v := 4) dX10_readStep_103 rfl ?_
      refine B_icmp_ne (tgt := 111) dX10_readStep_104 (by decide) rfl (wlitI (by decide) (by decide)) ⟨fun q => ?_, fun q => ?_⟩
      · replace h := h.1 q
        refine A_aload_n dX10_readStep_111 rfl rfl ?_
        refine B_callV_I (av := []) rfl dX10_readStep_112 vX10_426 mX10_paperHere ⟨rfl, rfl, by decide⟩ (okK10 (by omega)) rfl (Nat.le_of_ble_eq_true rfl) (by decide) (by decide) rfl (BC_monoI h (fun x4 N4 h => ?_))
        exact A_pick [1, 2, 0] rfl h
      · replace h := h.2 q
        exact A_pick [1, 2, 0] rfl h
  · replace h := h.2 q
    refine A_aload_n dX10_readStep_77 rfl rfl ?_
    refine B_callV_V (av := []) rfl dX10_readStep_78 vX10_312 mX10_fail ⟨rfl, rfl, by decide⟩ (okK10 (by omega)) rfl (Nat.le_of_ble_eq_true rfl) (by decide) (by decide) rfl (BC_monoV h (fun N5 h => ?_))
    exact A_vret dX10_readStep_81 ⟨rfl, rfl, h⟩
set_option maxRecDepth 100000 in
set_option maxHeartbeats 4000000 in
theorem vc_X10_readStep_107 {G : GT} {l1 : Int} {l2 : Int} {s0 : Int} {N : NN} {K : NN → Prop}  (h : W_X10_readStep G K 115 [(0, vR 10 0), (1, vI l1), (2, vI l2)] [vI ((-1)), vI s0, vR 62 0] N) : W_X10_readStep G K 107 [(0, vR 10 0), (1, vI l1), (2, vI l2)] [vI s0, vR 62 0] N := by
  refine A_iconst (v := (-1)) dX10_readStep_107 rfl ?_
  refine A_goto (tgt := 115) dX10_readStep_108 (by decide) ?_
  exact A_pick [0, 1, 2] rfl h
set_option maxRecDepth 100000 in
set_option maxHeartbeats 4000000 in
theorem vc_X10_readStep_115 {G : GT} {l1 : Int} {l2 : Int} {s0 : Int} {s1 : Int} {N : NN} {K : NN → Prop}  (h : (∃ j1 : Nat, (wI s1) = (j1 : Int) ∧ j1 < 60 ∧ (∀ M2 : NN, M2 = up3 N 62 0 j1 s0 → (((wI l2) = 1 → W_X10_readStep G K 131 [(0, vR 10 0), (1, vI l1)] [vI l1, vR 63 0] M2) ∧ (¬ ((wI l2) = 1) → (((wI l2) ≠ 2 → (C_X10_numberHere G  M2 (fun x3 N3 => (∃ j4 : Nat, (wI l1) = (j4 : Int) ∧ j4 < 60 ∧ (∀ M5 : NN, M5 = up3 N3 63 0 j4 x3 → (∃ j6 : Nat, (wI l1) = (j6 : Int) ∧ j6 < 60 ∧ (∀ M7 : NN, M7 = up3 M5 64 0 j6 0 → (∃ j8 : Nat, (wI l1) = (j8 : Int) ∧ j8 < 60 ∧ (∀ M9 : NN, M9 = up3 M7 65 0 j8 ((-1)) → (∃ j10 : Nat, (wI l1) = (j10 : Int) ∧ j10 < 60 ∧ (∀ M11 : NN, M11 = up3 M9 66 0 j10 ((-1)) → (C_X10_isWord G 249 M11 (fun x12 N12 => (((wI x12) ≠ 0 → (C_X10_next G  N12 (fun N13 => (C_X10_isWord G 10631 N13 (fun x14 N14 => (((wI x14) = 0 → (C_X10_fieldHere G  N14 (fun x15 N15 => (∃ j16 : Nat, (wI l1) = (j16 : Int) ∧ j16 < 60 ∧ (∀ M17 : NN, M17 = up3 N15 65 0 j16 x15 → (C_X10_isSign G 60 M17 (fun x18 N18 => (((wI x18) ≠ 0 → W_X10_readStep G K 228 [(0, vR 10 0), (1, vI l1), (3, vI x14), (4, vI x18)] [] N18) ∧ (¬ ((wI x18) ≠ 0) → (C_X10_isSign G 61 N18 (fun x19 N19 => (((wI x19) ≠ 0 → W_X10_readStep G K 228 [(0, vR 10 0), (1, vI l1), (3, vI x14), (4, vI x18)] [] N19) ∧ (¬ ((wI x19) ≠ 0) → (C_X10_fail G  N19 (fun N20 => W_X10_readStep G K 228 [(0, vR 10 0), (1, vI l1), (3, vI x14), (4, vI x18)] [] N20))))))))))))))) ∧ (¬ ((wI x14) = 0) → (C_X10_next G  N14 (fun N21 => (C_X10_fieldHere G  N21 (fun x22 N22 => (∃ j23 : Nat, (wI l1) = (j23 : Int) ∧ j23 < 60 ∧ (∀ M24 : NN, M24 = up3 N22 65 0 j23 x22 → (C_X10_isSign G 60 M24 (fun x25 N25 => (((wI x25) ≠ 0 → W_X10_readStep G K 228 [(0, vR 10 0), (1, vI l1), (3, vI x14), (4, vI x25)] [] N25) ∧ (¬ ((wI x25) ≠ 0) → (C_X10_isSign G 61 N25 (fun x26 N26 => (((wI x26) ≠ 0 → W_X10_readStep G K 228 [(0, vR 10 0), (1, vI l1), (3, vI x14), (4, vI x25)] [] N26) ∧ (¬ ((wI x26) ≠ 0) → (C_X10_fail G  N26 (fun N27 => W_X10_readStep G K 228 [(0, vR 10 0), (1, vI l1), (3, vI x14), (4, vI x25)] [] N27))))))))))))))))))))))) ∧ (¬ ((wI x12) ≠ 0) → K N12))))))))))))))) ∧ (¬ ((wI l2) ≠ 2) → W_X10_readStep G K 131 [(0, vR 10 0), (1, vI l1)] [vI l1, vR 63 0] M2))))))) : W_X10_readStep G K 115 [(0, vR 10 0), (1, vI l1), (2, vI l2)] [vI s0, vI s1, vR 62 0] N := by
  obtain ⟨j1, qj1, bj1, h⟩ := h
  refine B_iast (j := j1) dX10_readStep_115 (by decide) rfl (okK62 (by omega)) qj1 bj1 (fun M2 eM2 => ?_)
  replace h := h M2 eM2
  refine A_aload_n dX10_readStep_116 rfl rfl ?_
  refine A_getR (c2 := 63) (i2 := 0) dX10_readStep_117 fX10_87 rfl (okK10 (by omega)) rfl ?_
  refine A_iload_n dX10_readStep_120 rfl rfl ?_
  refine A_iload_n dX10_readStep_121 rfl rfl ?_
  refine A_iconst (v := 1) dX10_readStep_122 rfl ?_
  refine B_icmp_eq (tgt := 131) dX10_readStep_123 (by decide) rfl (wlitI (by decide) (by decide)) ⟨fun q => ?_, fun q => ?_⟩
  · replace h := h.1 q
    exact A_pick [0, 1] rfl h
  · replace h := h.2 q
    refine A_iload_n dX10_readStep_126 rfl rfl ?_
    refine A_iconst (v := 2) dX10_readStep_127 rfl ?_
    refine B_icmp_ne (tgt := 135) dX10_readStep_128 (by decide) rfl (wlitI (by decide) (by decide)) ⟨fun q => ?_, fun q => ?_⟩
    · replace h := h.1 q
      refine A_aload_n dX10_readStep_135 rfl rfl ?_
      refine B_callV_I (av := []) rfl dX10_readStep_136 vX10_429 mX10_numberHere ⟨rfl, rfl, by decide⟩ (okK10 (by omega)) rfl (Nat.le_of_ble_eq_true rfl) (by decide) (by decide) rfl (BC_monoI h (fun x3 N3 h => ?_))
      obtain ⟨j4, qj4, bj4, h⟩ := h
      refine B_iast (j := j4) dX10_readStep_139 (by decide) rfl (okK63 (by omega)) qj4 bj4 (fun M5 eM5 => ?_)
      replace h := h M5 eM5
      refine A_aload_n dX10_readStep_140 rfl rfl ?_
      refine A_getR (c2 := 64) (i2 := 0) dX10_readStep_141 fX10_90 rfl (okK10 (by omega)) rfl ?_
      refine A_iload_n dX10_readStep_144 rfl rfl ?_
      refine A_iconst (v := 0) dX10_readStep_145 rfl ?_
      obtain ⟨j6, qj6, bj6, h⟩ := h
      refine B_iast (j := j6) dX10_readStep_146 (by decide) rfl (okK64 (by omega)) qj6 bj6 (fun M7 eM7 => ?_)
      replace h := h M7 eM7
      refine A_aload_n dX10_readStep_147 rfl rfl ?_
      refine A_getR (c2 := 65) (i2 := 0) dX10_readStep_148 fX10_93 rfl (okK10 (by omega)) rfl ?_
      refine A_iload_n dX10_readStep_151 rfl rfl ?_
      refine A_iconst (v := (-1)) dX10_readStep_152 rfl ?_
      obtain ⟨j8, qj8, bj8, h⟩ := h
      refine B_iast (j := j8) dX10_readStep_153 (by decide) rfl (okK65 (by omega)) qj8 bj8 (fun M9 eM9 => ?_)
      replace h := h M9 eM9
      refine A_aload_n dX10_readStep_154 rfl rfl ?_
      refine A_getR (c2 := 66) (i2 := 0) dX10_readStep_155 fX10_96 rfl (okK10 (by omega)) rfl ?_
      refine A_iload_n dX10_readStep_158 rfl rfl ?_
      refine A_iconst (v := (-1)) dX10_readStep_159 rfl ?_
      obtain ⟨j10, qj10, bj10, h⟩ := h
      refine B_iast (j := j10) dX10_readStep_160 (by decide) rfl (okK66 (by omega)) qj10 bj10 (fun M11 eM11 => ?_)
      replace h := h M11 eM11
      refine A_aload_n dX10_readStep_161 rfl rfl ?_
      refine A_ldc2 (x := 249) dX10_readStep_162 kX10_432 (by decide +kernel) ?_
      refine B_callV_I (av := [vL 249]) rfl dX10_readStep_165 vX10_320 mX10_isWord ⟨rfl, rfl, by decide⟩ (okK10 (by omega)) rfl (Nat.le_of_ble_eq_true rfl) (by decide) (by decide) rfl (BC_monoI h (fun x12 N12 h => ?_))
      refine B_if_ne (tgt := 172) dX10_readStep_168 (by decide) rfl ⟨fun q => ?_, fun q => ?_⟩
      · replace h := h.1 q
        refine A_aload_n dX10_readStep_172 rfl rfl ?_
        refine B_callV_V (av := []) rfl dX10_readStep_173 vX10_315 mX10_next ⟨rfl, rfl, by decide⟩ (okK10 (by omega)) rfl (Nat.le_of_ble_eq_true rfl) (by decide) (by decide) rfl (BC_monoV h (fun N13 h => ?_))
        refine A_aload_n dX10_readStep_176 rfl rfl ?_
        refine A_ldc2 (x := 10631) dX10_readStep_177 kX10_373 (by decide +kernel) ?_
        refine B_callV_I (av := [vL 10631]) rfl dX10_readStep_180 vX10_320 mX10_isWord ⟨rfl, rfl, by decide⟩ (okK10 (by omega)) rfl (Nat.le_of_ble_eq_true rfl) (by decide) (by decide) rfl (BC_monoI h (fun x14 N14 h => ?_))
        refine A_istore_n (ls' := [(3, _), (0, _), (1, _), (2, _)]) dX10_readStep_183 rfl (by decide) rfl ?_
        refine A_iload_n dX10_readStep_184 rfl rfl ?_
        refine B_if_eq (tgt := 192) dX10_readStep_185 (by decide) rfl ⟨fun q => ?_, fun q => ?_⟩
        · replace h := h.1 q
          refine A_aload_n dX10_readStep_192 rfl rfl ?_
          refine A_getR (c2 := 65) (i2 := 0) dX10_readStep_193 fX10_93 rfl (okK10 (by omega)) rfl ?_
          refine A_iload_n dX10_readStep_196 rfl rfl ?_
          refine A_aload_n dX10_readStep_197 rfl rfl ?_
          refine B_callV_I (av := []) rfl dX10_readStep_198 vX10_434 mX10_fieldHere ⟨rfl, rfl, by decide⟩ (okK10 (by omega)) rfl (Nat.le_of_ble_eq_true rfl) (by decide) (by decide) rfl (BC_monoI h (fun x15 N15 h => ?_))
          obtain ⟨j16, qj16, bj16, h⟩ := h
          refine B_iast (j := j16) dX10_readStep_201 (by decide) rfl (okK65 (by omega)) qj16 bj16 (fun M17 eM17 => ?_)
          replace h := h M17 eM17
          refine A_aload_n dX10_readStep_202 rfl rfl ?_
          refine A_bipush (v := 60) dX10_readStep_203 (by decide +kernel) ?_
          refine B_callV_I (av := [vI 60]) rfl dX10_readStep_205 vX10_352 mX10_isSign ⟨rfl, rfl, by decide⟩ (okK10 (by omega)) rfl (Nat.le_of_ble_eq_true rfl) (by decide) (by decide) rfl (BC_monoI h (fun x18 N18 h => ?_))
          refine A_istore (ls' := [(4, _), (3, _), (0, _), (1, _), (2, _)]) dX10_readStep_208 (by decide) rfl ?_
          refine A_iload dX10_readStep_210 rfl ?_
          refine B_if_ne (tgt := 228) dX10_readStep_212 (by decide) rfl ⟨fun q => ?_, fun q => ?_⟩
          · replace h := h.1 q
            exact A_pick [2, 3, 1, 0] rfl h
          · replace h := h.2 q
            refine A_aload_n dX10_readStep_215 rfl rfl ?_
            refine A_bipush (v := 61) dX10_readStep_216 (by decide +kernel) ?_
            refine B_callV_I (av := [vI 61]) rfl dX10_readStep_218 vX10_352 mX10_isSign ⟨rfl, rfl, by decide⟩ (okK10 (by omega)) rfl (Nat.le_of_ble_eq_true rfl) (by decide) (by decide) rfl (BC_monoI h (fun x19 N19 h => ?_))
            refine B_if_ne (tgt := 228) dX10_readStep_221 (by decide) rfl ⟨fun q => ?_, fun q => ?_⟩
            · replace h := h.1 q
              exact A_pick [2, 3, 1, 0] rfl h
            · replace h := h.2 q
              refine A_aload_n dX10_readStep_224 rfl rfl ?_
              refine B_callV_V (av := []) rfl dX10_readStep_225 vX10_312 mX10_fail ⟨rfl, rfl, by decide⟩ (okK10 (by omega)) rfl (Nat.le_of_ble_eq_true rfl) (by decide) (by decide) rfl (BC_monoV h (fun N20 h => ?_))
              exact A_pick [2, 3, 1, 0] rfl h
        · replace h := h.2 q
          refine A_aload_n dX10_readStep_188 rfl rfl ?_
          refine B_callV_V (av := []) rfl dX10_readStep_189 vX10_315 mX10_next ⟨rfl, rfl, by decide⟩ (okK10 (by omega)) rfl (Nat.le_of_ble_eq_true rfl) (by decide) (by decide) rfl (BC_monoV h (fun N21 h => ?_))
          refine A_aload_n dX10_readStep_192 rfl rfl ?_
          refine A_getR (c2 := 65) (i2 := 0) dX10_readStep_193 fX10_93 rfl (okK10 (by omega)) rfl ?_
          refine A_iload_n dX10_readStep_196 rfl rfl ?_
          refine A_aload_n dX10_readStep_197 rfl rfl ?_
          refine B_callV_I (av := []) rfl dX10_readStep_198 vX10_434 mX10_fieldHere ⟨rfl, rfl, by decide⟩ (okK10 (by omega)) rfl (Nat.le_of_ble_eq_true rfl) (by decide) (by decide) rfl (BC_monoI h (fun x22 N22 h => ?_))
          obtain ⟨j23, qj23, bj23, h⟩ := h
          refine B_iast (j := j23) dX10_readStep_201 (by decide) rfl (okK65 (by omega)) qj23 bj23 (fun M24 eM24 => ?_)
          replace h := h M24 eM24
          refine A_aload_n dX10_readStep_202 rfl rfl ?_
          refine A_bipush (v := 60) dX10_readStep_203 (by decide +kernel) ?_
          refine B_callV_I (av := [vI 60]) rfl dX10_readStep_205 vX10_352 mX10_isSign ⟨rfl, rfl, by decide⟩ (okK10 (by omega)) rfl (Nat.le_of_ble_eq_true rfl) (by decide) (by decide) rfl (BC_monoI h (fun x25 N25 h => ?_))
          refine A_istore (ls' := [(4, _), (3, _), (0, _), (1, _), (2, _)]) dX10_readStep_208 (by decide) rfl ?_
          refine A_iload dX10_readStep_210 rfl ?_
          refine B_if_ne (tgt := 228) dX10_readStep_212 (by decide) rfl ⟨fun q => ?_, fun q => ?_⟩
          · replace h := h.1 q
            exact A_pick [2, 3, 1, 0] rfl h
          · replace h := h.2 q
            refine A_aload_n dX10_readStep_215 rfl rfl ?_
            refine A_bipush (v := 61) dX10_readStep_216 (by decide +kernel) ?_
            refine B_callV_I (av := [vI 61]) rfl dX10_readStep_218 vX10_352 mX10_isSign ⟨rfl, rfl, by decide⟩ (okK10 (by omega)) rfl (Nat.le_of_ble_eq_true rfl) (by decide) (by decide) rfl (BC_monoI h (fun x26 N26 h => ?_))
            refine B_if_ne (tgt := 228) dX10_readStep_221 (by decide) rfl ⟨fun q => ?_, fun q => ?_⟩
            · replace h := h.1 q
              exact A_pick [2, 3, 1, 0] rfl h
            · replace h := h.2 q
              refine A_aload_n dX10_readStep_224 rfl rfl ?_
              refine B_callV_V (av := []) rfl dX10_readStep_225 vX10_312 mX10_fail ⟨rfl, rfl, by decide⟩ (okK10 (by omega)) rfl (Nat.le_of_ble_eq_true rfl) (by decide) (by decide) rfl (BC_monoV h (fun N27 h => ?_))
              exact A_pick [2, 3, 1, 0] rfl h
      · replace h := h.2 q
        exact A_vret dX10_readStep_171 ⟨rfl, rfl, h⟩
    · replace h := h.2 q
      exact A_pick [0, 1] rfl h
set_option maxRecDepth 100000 in
set_option maxHeartbeats 4000000 in
theorem vc_X10_readStep_131 {G : GT} {l1 : Int} {s0 : Int} {N : NN} {K : NN → Prop}  (h : (∃ j1 : Nat, (wI s0) = (j1 : Int) ∧ j1 < 60 ∧ (∀ M2 : NN, M2 = up3 N 63 0 j1 ((-1)) → (∃ j3 : Nat, (wI l1) = (j3 : Int) ∧ j3 < 60 ∧ (∀ M4 : NN, M4 = up3 M2 64 0 j3 0 → (∃ j5 : Nat, (wI l1) = (j5 : Int) ∧ j5 < 60 ∧ (∀ M6 : NN, M6 = up3 M4 65 0 j5 ((-1)) → (∃ j7 : Nat, (wI l1) = (j7 : Int) ∧ j7 < 60 ∧ (∀ M8 : NN, M8 = up3 M6 66 0 j7 ((-1)) → (C_X10_isWord G 249 M8 (fun x9 N9 => (((wI x9) ≠ 0 → (C_X10_next G  N9 (fun N10 => (C_X10_isWord G 10631 N10 (fun x11 N11 => (((wI x11) = 0 → (C_X10_fieldHere G  N11 (fun x12 N12 => (∃ j13 : Nat, (wI l1) = (j13 : Int) ∧ j13 < 60 ∧ (∀ M14 : NN, M14 = up3 N12 65 0 j13 x12 → (C_X10_isSign G 60 M14 (fun x15 N15 => (((wI x15) ≠ 0 → W_X10_readStep G K 228 [(0, vR 10 0), (1, vI l1), (3, vI x11), (4, vI x15)] [] N15) ∧ (¬ ((wI x15) ≠ 0) → (C_X10_isSign G 61 N15 (fun x16 N16 => (((wI x16) ≠ 0 → W_X10_readStep G K 228 [(0, vR 10 0), (1, vI l1), (3, vI x11), (4, vI x15)] [] N16) ∧ (¬ ((wI x16) ≠ 0) → (C_X10_fail G  N16 (fun N17 => W_X10_readStep G K 228 [(0, vR 10 0), (1, vI l1), (3, vI x11), (4, vI x15)] [] N17))))))))))))))) ∧ (¬ ((wI x11) = 0) → (C_X10_next G  N11 (fun N18 => (C_X10_fieldHere G  N18 (fun x19 N19 => (∃ j20 : Nat, (wI l1) = (j20 : Int) ∧ j20 < 60 ∧ (∀ M21 : NN, M21 = up3 N19 65 0 j20 x19 → (C_X10_isSign G 60 M21 (fun x22 N22 => (((wI x22) ≠ 0 → W_X10_readStep G K 228 [(0, vR 10 0), (1, vI l1), (3, vI x11), (4, vI x22)] [] N22) ∧ (¬ ((wI x22) ≠ 0) → (C_X10_isSign G 61 N22 (fun x23 N23 => (((wI x23) ≠ 0 → W_X10_readStep G K 228 [(0, vR 10 0), (1, vI l1), (3, vI x11), (4, vI x22)] [] N23) ∧ (¬ ((wI x23) ≠ 0) → (C_X10_fail G  N23 (fun N24 => W_X10_readStep G K 228 [(0, vR 10 0), (1, vI l1), (3, vI x11), (4, vI x22)] [] N24))))))))))))))))))))))) ∧ (¬ ((wI x9) ≠ 0) → K N9))))))))))))) : W_X10_readStep G K 131 [(0, vR 10 0), (1, vI l1)] [vI s0, vR 63 0] N := by
  refine A_iconst (v := (-1)) dX10_readStep_131 rfl ?_
  refine A_goto (tgt := 139) dX10_readStep_132 (by decide) ?_
  obtain ⟨j1, qj1, bj1, h⟩ := h
  refine B_iast (j := j1) dX10_readStep_139 (by decide) rfl (okK63 (by omega)) qj1 bj1 (fun M2 eM2 => ?_)
  replace h := h M2 eM2
  refine A_aload_n dX10_readStep_140 rfl rfl ?_
  refine A_getR (c2 := 64) (i2 := 0) dX10_readStep_141 fX10_90 rfl (okK10 (by omega)) rfl ?_
  refine A_iload_n dX10_readStep_144 rfl rfl ?_
  refine A_iconst (v := 0) dX10_readStep_145 rfl ?_
  obtain ⟨j3, qj3, bj3, h⟩ := h
  refine B_iast (j := j3) dX10_readStep_146 (by decide) rfl (okK64 (by omega)) qj3 bj3 (fun M4 eM4 => ?_)
  replace h := h M4 eM4
  refine A_aload_n dX10_readStep_147 rfl rfl ?_
  refine A_getR (c2 := 65) (i2 := 0) dX10_readStep_148 fX10_93 rfl (okK10 (by omega)) rfl ?_
  refine A_iload_n dX10_readStep_151 rfl rfl ?_
  refine A_iconst (v := (-1)) dX10_readStep_152 rfl ?_
  obtain ⟨j5, qj5, bj5, h⟩ := h
  refine B_iast (j := j5) dX10_readStep_153 (by decide) rfl (okK65 (by omega)) qj5 bj5 (fun M6 eM6 => ?_)
  replace h := h M6 eM6
  refine A_aload_n dX10_readStep_154 rfl rfl ?_
  refine A_getR (c2 := 66) (i2 := 0) dX10_readStep_155 fX10_96 rfl (okK10 (by omega)) rfl ?_
  refine A_iload_n dX10_readStep_158 rfl rfl ?_
  refine A_iconst (v := (-1)) dX10_readStep_159 rfl ?_
  obtain ⟨j7, qj7, bj7, h⟩ := h
  refine B_iast (j := j7) dX10_readStep_160 (by decide) rfl (okK66 (by omega)) qj7 bj7 (fun M8 eM8 => ?_)
  replace h := h M8 eM8
  refine A_aload_n dX10_readStep_161 rfl rfl ?_
  refine A_ldc2 (x := 249) dX10_readStep_162 kX10_432 (by decide +kernel) ?_
  refine B_callV_I (av := [vL 249]) rfl dX10_readStep_165 vX10_320 mX10_isWord ⟨rfl, rfl, by decide⟩ (okK10 (by omega)) rfl (Nat.le_of_ble_eq_true rfl) (by decide) (by decide) rfl (BC_monoI h (fun x9 N9 h => ?_))
  refine B_if_ne (tgt := 172) dX10_readStep_168 (by decide) rfl ⟨fun q => ?_, fun q => ?_⟩
  · replace h := h.1 q
    refine A_aload_n dX10_readStep_172 rfl rfl ?_
    refine B_callV_V (av := []) rfl dX10_readStep_173 vX10_315 mX10_next ⟨rfl, rfl, by decide⟩ (okK10 (by omega)) rfl (Nat.le_of_ble_eq_true rfl) (by decide) (by decide) rfl (BC_monoV h (fun N10 h => ?_))
    refine A_aload_n dX10_readStep_176 rfl rfl ?_
    refine A_ldc2 (x := 10631) dX10_readStep_177 kX10_373 (by decide +kernel) ?_
    refine B_callV_I (av := [vL 10631]) rfl dX10_readStep_180 vX10_320 mX10_isWord ⟨rfl, rfl, by decide⟩ (okK10 (by omega)) rfl (Nat.le_of_ble_eq_true rfl) (by decide) (by decide) rfl (BC_monoI h (fun x11 N11 h => ?_))
    refine A_istore_n (ls' := [(3, _), (0, _), (1, _)]) dX10_readStep_183 rfl (by decide) rfl ?_
    refine A_iload_n dX10_readStep_184 rfl rfl ?_
    refine B_if_eq (tgt := 192) dX10_readStep_185 (by decide) rfl ⟨fun q => ?_, fun q => ?_⟩
    · replace h := h.1 q
      refine A_aload_n dX10_readStep_192 rfl rfl ?_
      refine A_getR (c2 := 65) (i2 := 0) dX10_readStep_193 fX10_93 rfl (okK10 (by omega)) rfl ?_
      refine A_iload_n dX10_readStep_196 rfl rfl ?_
      refine A_aload_n dX10_readStep_197 rfl rfl ?_
      refine B_callV_I (av := []) rfl dX10_readStep_198 vX10_434 mX10_fieldHere ⟨rfl, rfl, by decide⟩ (okK10 (by omega)) rfl (Nat.le_of_ble_eq_true rfl) (by decide) (by decide) rfl (BC_monoI h (fun x12 N12 h => ?_))
      obtain ⟨j13, qj13, bj13, h⟩ := h
      refine B_iast (j := j13) dX10_readStep_201 (by decide) rfl (okK65 (by omega)) qj13 bj13 (fun M14 eM14 => ?_)
      replace h := h M14 eM14
      refine A_aload_n dX10_readStep_202 rfl rfl ?_
      refine A_bipush (v := 60) dX10_readStep_203 (by decide +kernel) ?_
      refine B_callV_I (av := [vI 60]) rfl dX10_readStep_205 vX10_352 mX10_isSign ⟨rfl, rfl, by decide⟩ (okK10 (by omega)) rfl (Nat.le_of_ble_eq_true rfl) (by decide) (by decide) rfl (BC_monoI h (fun x15 N15 h => ?_))
      refine A_istore (ls' := [(4, _), (3, _), (0, _), (1, _)]) dX10_readStep_208 (by decide) rfl ?_
      refine A_iload dX10_readStep_210 rfl ?_
      refine B_if_ne (tgt := 228) dX10_readStep_212 (by decide) rfl ⟨fun q => ?_, fun q => ?_⟩
      · replace h := h.1 q
        exact A_pick [2, 3, 1, 0] rfl h
      · replace h := h.2 q
        refine A_aload_n dX10_readStep_215 rfl rfl ?_
        refine A_bipush (v := 61) dX10_readStep_216 (by decide +kernel) ?_
        refine B_callV_I (av := [vI 61]) rfl dX10_readStep_218 vX10_352 mX10_isSign ⟨rfl, rfl, by decide⟩ (okK10 (by omega)) rfl (Nat.le_of_ble_eq_true rfl) (by decide) (by decide) rfl (BC_monoI h (fun x16 N16 h => ?_))
        refine B_if_ne (tgt := 228) dX10_readStep_221 (by decide) rfl ⟨fun q => ?_, fun q => ?_⟩
        · replace h := h.1 q
          exact A_pick [2, 3, 1, 0] rfl h
        · replace h := h.2 q
          refine A_aload_n dX10_readStep_224 rfl rfl ?_
          refine B_callV_V (av := []) rfl dX10_readStep_225 vX10_312 mX10_fail ⟨rfl, rfl, by decide⟩ (okK10 (by omega)) rfl (Nat.le_of_ble_eq_true rfl) (by decide) (by decide) rfl (BC_monoV h (fun N17 h => ?_))
          exact A_pick [2, 3, 1, 0] rfl h
    · replace h := h.2 q
      refine A_aload_n dX10_readStep_188 rfl rfl ?_
      refine B_callV_V (av := []) rfl dX10_readStep_189 vX10_315 mX10_next ⟨rfl, rfl, by decide⟩ (okK10 (by omega)) rfl (Nat.le_of_ble_eq_true rfl) (by decide) (by decide) rfl (BC_monoV h (fun N18 h => ?_))
      refine A_aload_n dX10_readStep_192 rfl rfl ?_
      refine A_getR (c2 := 65) (i2 := 0) dX10_readStep_193 fX10_93 rfl (okK10 (by omega)) rfl ?_
      refine A_iload_n dX10_readStep_196 rfl rfl ?_
      refine A_aload_n dX10_readStep_197 rfl rfl ?_
      refine B_callV_I (av := []) rfl dX10_readStep_198 vX10_434 mX10_fieldHere ⟨rfl, rfl, by decide⟩ (okK10 (by omega)) rfl (Nat.le_of_ble_eq_true rfl) (by decide) (by decide) rfl (BC_monoI h (fun x19 N19 h => ?_))
      obtain ⟨j20, qj20, bj20, h⟩ := h
      refine B_iast (j := j20) dX10_readStep_201 (by decide) rfl (okK65 (by omega)) qj20 bj20 (fun M21 eM21 => ?_)
      replace h := h M21 eM21
      refine A_aload_n dX10_readStep_202 rfl rfl ?_
      refine A_bipush (v := 60) dX10_readStep_203 (by decide +kernel) ?_
      refine B_callV_I (av := [vI 60]) rfl dX10_readStep_205 vX10_352 mX10_isSign ⟨rfl, rfl, by decide⟩ (okK10 (by omega)) rfl (Nat.le_of_ble_eq_true rfl) (by decide) (by decide) rfl (BC_monoI h (fun x22 N22 h => ?_))
      refine A_istore (ls' := [(4, _), (3, _), (0, _), (1, _)]) dX10_readStep_208 (by decide) rfl ?_
      refine A_iload dX10_readStep_210 rfl ?_
      refine B_if_ne (tgt := 228) dX10_readStep_212 (by decide) rfl ⟨fun q => ?_, fun q => ?_⟩
      · replace h := h.1 q
        exact A_pick [2, 3, 1, 0] rfl h
      · replace h := h.2 q
        refine A_aload_n dX10_readStep_215 rfl rfl ?_
        refine A_bipush (v := 61) dX10_readStep_216 (by decide +kernel) ?_
        refine B_callV_I (av := [vI 61]) rfl dX10_readStep_218 vX10_352 mX10_isSign ⟨rfl, rfl, by decide⟩ (okK10 (by omega)) rfl (Nat.le_of_ble_eq_true rfl) (by decide) (by decide) rfl (BC_monoI h (fun x23 N23 h => ?_))
        refine B_if_ne (tgt := 228) dX10_readStep_221 (by decide) rfl ⟨fun q => ?_, fun q => ?_⟩
        · replace h := h.1 q
          exact A_pick [2, 3, 1, 0] rfl h
        · replace h := h.2 q
          refine A_aload_n dX10_readStep_224 rfl rfl ?_
          refine B_callV_V (av := []) rfl dX10_readStep_225 vX10_312 mX10_fail ⟨rfl, rfl, by decide⟩ (okK10 (by omega)) rfl (Nat.le_of_ble_eq_true rfl) (by decide) (by decide) rfl (BC_monoV h (fun N24 h => ?_))
          exact A_pick [2, 3, 1, 0] rfl h
  · replace h := h.2 q
    exact A_vret dX10_readStep_171 ⟨rfl, rfl, h⟩
set_option maxRecDepth 100000 in
set_option maxHeartbeats 4000000 in
theorem vc_X10_readStep_228 {G : GT} {l1 : Int} {l3 : Int} {l4 : Int} {N : NN} {K : NN → Prop}  (h : (((wI (N 10 0 37)) ≠ 0 → (C_X10_numberHere G  N (fun x1 N1 => (∃ j2 : Nat, (wI l1) = (j2 : Int) ∧ j2 < 60 ∧ (∀ M3 : NN, M3 = up3 N1 66 0 j2 x1 → (((wI l4) = 0 → (((wI l3) = 0 → (∃ j4 : Nat, (wI l1) = (j4 : Int) ∧ j4 < 60 ∧ (∀ M5 : NN, M5 = up3 M3 64 0 j4 (2 + 0) → K M5))) ∧ (¬ ((wI l3) = 0) → (∃ j6 : Nat, (wI l1) = (j6 : Int) ∧ j6 < 60 ∧ (∀ M7 : NN, M7 = up3 M3 64 0 j6 (2 + 2) → K M7))))) ∧ (¬ ((wI l4) = 0) → (((wI l3) = 0 → (∃ j8 : Nat, (wI l1) = (j8 : Int) ∧ j8 < 60 ∧ (∀ M9 : NN, M9 = up3 M3 64 0 j8 (1 + 0) → K M9))) ∧ (¬ ((wI l3) = 0) → (∃ j10 : Nat, (wI l1) = (j10 : Int) ∧ j10 < 60 ∧ (∀ M11 : NN, M11 = up3 M3 64 0 j10 (1 + 2) → K M11))))))))))) ∧ (¬ ((wI (N 10 0 37)) ≠ 0) → (C_X10_next G  N (fun N12 => (C_X10_numberHere G  N12 (fun x13 N13 => (∃ j14 : Nat, (wI l1) = (j14 : Int) ∧ j14 < 60 ∧ (∀ M15 : NN, M15 = up3 N13 66 0 j14 x13 → (((wI l4) = 0 → (((wI l3) = 0 → (∃ j16 : Nat, (wI l1) = (j16 : Int) ∧ j16 < 60 ∧ (∀ M17 : NN, M17 = up3 M15 64 0 j16 (2 + 0) → K M17))) ∧ (¬ ((wI l3) = 0) → (∃ j18 : Nat, (wI l1) = (j18 : Int) ∧ j18 < 60 ∧ (∀ M19 : NN, M19 = up3 M15 64 0 j18 (2 + 2) → K M19))))) ∧ (¬ ((wI l4) = 0) → (((wI l3) = 0 → (∃ j20 : Nat, (wI l1) = (j20 : Int) ∧ j20 < 60 ∧ (∀ M21 : NN, M21 = up3 M15 64 0 j20 (1 + 0) → K M21))) ∧ (¬ ((wI l3) = 0) → (∃ j22 : Nat, (wI l1) = (j22 : Int) ∧ j22 < 60 ∧ (∀ M23 : NN, M23 = up3 M15 64 0 j22 (1 + 2) → K M23))))))))))))))) : W_X10_readStep G K 228 [(0, vR 10 0), (1, vI l1), (3, vI l3), (4, vI l4)] [] N := by
  refine A_aload_n dX10_readStep_228 rfl rfl ?_
  refine A_getI dX10_readStep_229 fX10_302 rfl (okK10 (by omega)) ?_
  refine B_if_ne (tgt := 239) dX10_readStep_232 (by decide) rfl ⟨fun q => ?_, fun q => ?_⟩
  · replace h := h.1 q
    refine A_aload_n dX10_readStep_239 rfl rfl ?_
    refine A_getR (c2 := 66) (i2 := 0) dX10_readStep_240 fX10_96 rfl (okK10 (by omega)) rfl ?_
    refine A_iload_n dX10_readStep_243 rfl rfl ?_
    refine A_aload_n dX10_readStep_244 rfl rfl ?_
    refine B_callV_I (av := []) rfl dX10_readStep_245 vX10_429 mX10_numberHere ⟨rfl, rfl, by decide⟩ (okK10 (by omega)) rfl (Nat.le_of_ble_eq_true rfl) (by decide) (by decide) rfl (BC_monoI h (fun x1 N1 h => ?_))
    obtain ⟨j2, qj2, bj2, h⟩ := h
    refine B_iast (j := j2) dX10_readStep_248 (by decide) rfl (okK66 (by omega)) qj2 bj2 (fun M3 eM3 => ?_)
    replace h := h M3 eM3
    refine A_aload_n dX10_readStep_249 rfl rfl ?_
    refine A_getR (c2 := 64) (i2 := 0) dX10_readStep_250 fX10_90 rfl (okK10 (by omega)) rfl ?_
    refine A_iload_n dX10_readStep_253 rfl rfl ?_
    refine A_iload dX10_readStep_254 rfl ?_
    refine B_if_eq (tgt := 263) dX10_readStep_256 (by decide) rfl ⟨fun q => ?_, fun q => ?_⟩
    · replace h := h.1 q
      refine A_iconst (v := 2) dX10_readStep_263 rfl ?_
      refine A_iload_n dX10_readStep_264 rfl rfl ?_
      refine B_if_eq (tgt := 272) dX10_readStep_265 (by decide) rfl ⟨fun q => ?_, fun q => ?_⟩
      · replace h := h.1 q
        refine A_iconst (v := 0) dX10_readStep_272 rfl ?_
        refine A_iadd dX10_readStep_273 ?_
        obtain ⟨j4, qj4, bj4, h⟩ := h
        refine B_iast (j := j4) dX10_readStep_274 (by decide) rfl (okK64 (by omega)) qj4 bj4 (fun M5 eM5 => ?_)
        replace h := h M5 eM5
        exact A_vret dX10_readStep_275 ⟨rfl, rfl, h⟩
      · replace h := h.2 q
        refine A_iconst (v := 2) dX10_readStep_268 rfl ?_
        refine A_goto (tgt := 273) dX10_readStep_269 (by decide) ?_
        refine A_iadd dX10_readStep_273 ?_
        obtain ⟨j6, qj6, bj6, h⟩ := h
        refine B_iast (j := j6) dX10_readStep_274 (by decide) rfl (okK64 (by omega)) qj6 bj6 (fun M7 eM7 => ?_)
        replace h := h M7 eM7
        exact A_vret dX10_readStep_275 ⟨rfl, rfl, h⟩
    · replace h := h.2 q
      refine A_iconst (v := 1) dX10_readStep_259 rfl ?_
      refine A_goto (tgt := 264) dX10_readStep_260 (by decide) ?_
      refine A_iload_n dX10_readStep_264 rfl rfl ?_
      refine B_if_eq (tgt := 272) dX10_readStep_265 (by decide) rfl ⟨fun q => ?_, fun q => ?_⟩
      · replace h := h.1 q
        refine A_iconst (v := 0) dX10_readStep_272 rfl ?_
        refine A_iadd dX10_readStep_273 ?_
        obtain ⟨j8, qj8, bj8, h⟩ := h
        refine B_iast (j := j8) dX10_readStep_274 (by decide) rfl (okK64 (by omega)) qj8 bj8 (fun M9 eM9 => ?_)
        replace h := h M9 eM9
        exact A_vret dX10_readStep_275 ⟨rfl, rfl, h⟩
      · replace h := h.2 q
        refine A_iconst (v := 2) dX10_readStep_268 rfl ?_
        refine A_goto (tgt := 273) dX10_readStep_269 (by decide) ?_
        refine A_iadd dX10_readStep_273 ?_
        obtain ⟨j10, qj10, bj10, h⟩ := h
        refine B_iast (j := j10) dX10_readStep_274 (by decide) rfl (okK64 (by omega)) qj10 bj10 (fun M11 eM11 => ?_)
        replace h := h M11 eM11
        exact A_vret dX10_readStep_275 ⟨rfl, rfl, h⟩
  · replace h := h.2 q
    refine A_aload_n dX10_readStep_235 rfl rfl ?_
    refine B_callV_V (av := []) rfl dX10_readStep_236 vX10_315 mX10_next ⟨rfl, rfl, by decide⟩ (okK10 (by omega)) rfl (Nat.le_of_ble_eq_true rfl) (by decide) (by decide) rfl (BC_monoV h (fun N12 h => ?_))
    refine A_aload_n dX10_readStep_239 rfl rfl ?_
    refine A_getR (c2 := 66) (i2 := 0) dX10_readStep_240 fX10_96 rfl (okK10 (by omega)) rfl ?_
    refine A_iload_n dX10_readStep_243 rfl rfl ?_
    refine A_aload_n dX10_readStep_244 rfl rfl ?_
    refine B_callV_I (av := []) rfl dX10_readStep_245 vX10_429 mX10_numberHere ⟨rfl, rfl, by decide⟩ (okK10 (by omega)) rfl (Nat.le_of_ble_eq_true rfl) (by decide) (by decide) rfl (BC_monoI h (fun x13 N13 h => ?_))
    obtain ⟨j14, qj14, bj14, h⟩ := h
    refine B_iast (j := j14) dX10_readStep_248 (by decide) rfl (okK66 (by omega)) qj14 bj14 (fun M15 eM15 => ?_)
    replace h := h M15 eM15
    refine A_aload_n dX10_readStep_249 rfl rfl ?_
    refine A_getR (c2 := 64) (i2 := 0) dX10_readStep_250 fX10_90 rfl (okK10 (by omega)) rfl ?_
    refine A_iload_n dX10_readStep_253 rfl rfl ?_
    refine A_iload dX10_readStep_254 rfl ?_
    refine B_if_eq (tgt := 263) dX10_readStep_256 (by decide) rfl ⟨fun q => ?_, fun q => ?_⟩
    · replace h := h.1 q
      refine A_iconst (v := 2) dX10_readStep_263 rfl ?_
      refine A_iload_n dX10_readStep_264 rfl rfl ?_
      refine B_if_eq (tgt := 272) dX10_readStep_265 (by decide) rfl ⟨fun q => ?_, fun q => ?_⟩
      · replace h := h.1 q
        refine A_iconst (v := 0) dX10_readStep_272 rfl ?_
        refine A_iadd dX10_readStep_273 ?_
        obtain ⟨j16, qj16, bj16, h⟩ := h
        refine B_iast (j := j16) dX10_readStep_274 (by decide) rfl (okK64 (by omega)) qj16 bj16 (fun M17 eM17 => ?_)
        replace h := h M17 eM17
        exact A_vret dX10_readStep_275 ⟨rfl, rfl, h⟩
      · replace h := h.2 q
        refine A_iconst (v := 2) dX10_readStep_268 rfl ?_
        refine A_goto (tgt := 273) dX10_readStep_269 (by decide) ?_
        refine A_iadd dX10_readStep_273 ?_
        obtain ⟨j18, qj18, bj18, h⟩ := h
        refine B_iast (j := j18) dX10_readStep_274 (by decide) rfl (okK64 (by omega)) qj18 bj18 (fun M19 eM19 => ?_)
        replace h := h M19 eM19
        exact A_vret dX10_readStep_275 ⟨rfl, rfl, h⟩
    · replace h := h.2 q
      refine A_iconst (v := 1) dX10_readStep_259 rfl ?_
      refine A_goto (tgt := 264) dX10_readStep_260 (by decide) ?_
      refine A_iload_n dX10_readStep_264 rfl rfl ?_
      refine B_if_eq (tgt := 272) dX10_readStep_265 (by decide) rfl ⟨fun q => ?_, fun q => ?_⟩
      · replace h := h.1 q
        refine A_iconst (v := 0) dX10_readStep_272 rfl ?_
        refine A_iadd dX10_readStep_273 ?_
        obtain ⟨j20, qj20, bj20, h⟩ := h
        refine B_iast (j := j20) dX10_readStep_274 (by decide) rfl (okK64 (by omega)) qj20 bj20 (fun M21 eM21 => ?_)
        replace h := h M21 eM21
        exact A_vret dX10_readStep_275 ⟨rfl, rfl, h⟩
      · replace h := h.2 q
        refine A_iconst (v := 2) dX10_readStep_268 rfl ?_
        refine A_goto (tgt := 273) dX10_readStep_269 (by decide) ?_
        refine A_iadd dX10_readStep_273 ?_
        obtain ⟨j22, qj22, bj22, h⟩ := h
        refine B_iast (j := j22) dX10_readStep_274 (by decide) rfl (okK64 (by omega)) qj22 bj22 (fun M23 eM23 => ?_)
        replace h := h M23 eM23
        exact A_vret dX10_readStep_275 ⟨rfl, rfl, h⟩
set_option maxRecDepth 100000 in
set_option maxHeartbeats 4000000 in
theorem vc_X10_order {G : GT} {N : NN} {K : Int → NN → Prop}  (h : (((wI (N 10 0 45)) ≠ 6 → W_X10_order G K 14 [(0, vR 10 0), (1, vI 0)] [] N) ∧ (¬ ((wI (N 10 0 45)) ≠ 6) → K ((-4)) N))) : C_X10_order G N K := by
  refine Ctr.ofAW RX10 false rfl (by decide +kernel) (fun q => by cases q) (Nat.le_of_ble_eq_true rfl) (Nat.le_refl _) ?_
  refine A_aload_n dX10_order_0 rfl rfl ?_
  refine A_getI dX10_order_1 fX10_178 rfl (okK10 (by omega)) ?_
  refine A_bipush (v := 6) dX10_order_4 (by decide +kernel) ?_
  refine B_icmp_ne (tgt := 12) dX10_order_6 (by decide) rfl (wlitI (by decide) (by decide)) ⟨fun q => ?_, fun q => ?_⟩
  · replace h := h.1 q
    refine A_iconst (v := 0) dX10_order_12 rfl ?_
    refine A_istore_n (ls' := [(1, _), (0, _)]) dX10_order_13 rfl (by decide) rfl ?_
    exact A_pick [1, 0] rfl h
  · replace h := h.2 q
    refine A_bipush (v := (-4)) dX10_order_9 (by decide +kernel) ?_
    exact A_iret dX10_order_11 ⟨rfl, _, rfl, h⟩
set_option maxRecDepth 100000 in
set_option maxHeartbeats 4000000 in
theorem vc_X10_order_14 {G : GT} {l1 : Int} {N : NN} {K : Int → NN → Prop}  (h : (((wI (N 10 0 29)) ≤ (wI l1) → (∀ M1 : NN, M1 = up3 N 10 0 30 960 → (∀ M2 : NN, M2 = up3 M1 10 0 31 (M1 10 0 29) → (∀ M3 : NN, M3 = up3 M2 10 0 29 0 → (∀ M4 : NN, M4 = up3 M3 10 0 35 0 → (∀ M5 : NN, M5 = up3 M4 10 0 37 0 → (C_X10_next G  M5 (fun N6 => W_X10_order G K 88 [(0, vR 10 0), (1, vI (10 * (N6 10 0 45))), (2, vI 0)] [] N6)))))))) ∧ (¬ ((wI (N 10 0 29)) ≤ (wI l1)) → (∃ j7 : Nat, (wI l1) = (j7 : Int) ∧ j7 < 160 ∧ (∃ j8 : Nat, (wI (960 + l1)) = (j8 : Int) ∧ j8 < 1120 ∧ (∀ M9 : NN, M9 = up3 N 57 0 j8 (N 59 0 j7) → W_X10_order G K 14 [(0, vR 10 0), (1, vI (l1 + 1))] [] M9)))))) : W_X10_order G K 14 [(0, vR 10 0), (1, vI l1)] [] N := by
  refine A_iload_n dX10_order_14 rfl rfl ?_
  refine A_aload_n dX10_order_15 rfl rfl ?_
  refine A_getI dX10_order_16 fX10_267 rfl (okK10 (by omega)) ?_
  refine B_icmp_ge (tgt := 44) dX10_order_19 (by decide) rfl rfl ⟨fun q => ?_, fun q => ?_⟩
  · replace h := h.1 q
    refine A_aload_n dX10_order_44 rfl rfl ?_
    refine A_sipush (v := 960) dX10_order_45 (by decide +kernel) ?_
    refine B_putI dX10_order_48 fX10_273 (by decide) (okK10 (by omega)) (fun M1 eM1 => ?_)
    replace h := h M1 eM1
    refine A_aload_n dX10_order_51 rfl rfl ?_
    refine A_aload_n dX10_order_52 rfl rfl ?_
    refine A_getI dX10_order_53 fX10_267 rfl (okK10 (by omega)) ?_
    refine B_putI dX10_order_56 fX10_270 (by decide) (okK10 (by omega)) (fun M2 eM2 => ?_)
    replace h := h M2 eM2
    refine A_aload_n dX10_order_59 rfl rfl ?_
    refine A_iconst (v := 0) dX10_order_60 rfl ?_
    refine B_putI dX10_order_61 fX10_267 (by decide) (okK10 (by omega)) (fun M3 eM3 => ?_)
    replace h := h M3 eM3
    refine A_aload_n dX10_order_64 rfl rfl ?_
    refine A_iconst (v := 0) dX10_order_65 rfl ?_
    refine B_putI dX10_order_66 fX10_276 (by decide) (okK10 (by omega)) (fun M4 eM4 => ?_)
    replace h := h M4 eM4
    refine A_aload_n dX10_order_69 rfl rfl ?_
    refine A_iconst (v := 0) dX10_order_70 rfl ?_
    refine B_putZ dX10_order_71 fX10_302 (by decide) (okK10 (by omega)) (by decide) (fun M5 eM5 => ?_)
    replace h := h M5 eM5
    refine A_aload_n dX10_order_74 rfl rfl ?_
    refine B_callV_V (av := []) rfl dX10_order_75 vX10_315 mX10_next ⟨rfl, rfl, by decide⟩ (okK10 (by omega)) rfl (Nat.le_of_ble_eq_true rfl) (by decide) (by decide) rfl (BC_monoV h (fun N6 h => ?_))
    refine A_bipush (v := 10) dX10_order_78 (by decide +kernel) ?_
    refine A_aload_n dX10_order_80 rfl rfl ?_
    refine A_getI dX10_order_81 fX10_178 rfl (okK10 (by omega)) ?_
    refine A_imul dX10_order_84 ?_
    refine A_istore_n (ls' := [(1, _), (0, _)]) dX10_order_85 rfl (by decide) rfl ?_
    refine A_iconst (v := 0) dX10_order_86 rfl ?_
    refine A_istore_n (ls' := [(2, _), (1, _), (0, _)]) dX10_order_87 rfl (by decide) rfl ?_
    exact A_pick [2, 1, 0] rfl h
  · replace h := h.2 q
    refine A_aload_n dX10_order_22 rfl rfl ?_
    refine A_getR (c2 := 57) (i2 := 0) dX10_order_23 fX10_69 rfl (okK10 (by omega)) rfl ?_
    refine A_sipush (v := 960) dX10_order_26 (by decide +kernel) ?_
    refine A_iload_n dX10_order_29 rfl rfl ?_
    refine A_iadd dX10_order_30 ?_
    refine A_aload_n dX10_order_31 rfl rfl ?_
    refine A_getR (c2 := 59) (i2 := 0) dX10_order_32 fX10_75 rfl (okK10 (by omega)) rfl ?_
    refine A_iload_n dX10_order_35 rfl rfl ?_
    obtain ⟨j7, qj7, bj7, h⟩ := h
    refine A_iald (j := j7) dX10_order_36 (by decide) rfl (okK59 (by omega)) qj7 bj7 ?_
    obtain ⟨j8, qj8, bj8, h⟩ := h
    refine B_iast (j := j8) dX10_order_37 (by decide) rfl (okK57 (by omega)) qj8 bj8 (fun M9 eM9 => ?_)
    replace h := h M9 eM9
    refine A_iinc (ls' := [(1, _), (0, _)]) dX10_order_38 (by decide) rfl rfl rfl ?_
    refine A_goto (tgt := 14) dX10_order_41 (by decide) ?_
    exact A_pick [1, 0] rfl h
set_option maxRecDepth 100000 in
set_option maxHeartbeats 4000000 in
theorem vc_X10_order_88 {G : GT} {l1 : Int} {l2 : Int} {N : NN} {K : Int → NN → Prop}  (h : (((wI (N 10 0 37)) ≠ 0 → W_X10_order G K 155 [(0, vR 10 0), (1, vI l1), (2, vI l2)] [] N) ∧ (¬ ((wI (N 10 0 37)) ≠ 0) → (C_X10_isWord G 358472 N (fun x1 N1 => (((wI x1) ≠ 0 → W_X10_order G K 155 [(0, vR 10 0), (1, vI l1), (2, vI l2)] [] N1) ∧ (¬ ((wI x1) ≠ 0) → (((wI l2) ≠ 9 → (C_X10_readStep G (l1 + l2) N1 (fun N2 => (C_X10_isSign G 59 N2 (fun x3 N3 => (((wI x3) ≠ 0 → (((wI (N3 10 0 37)) ≠ 0 → W_X10_order G K 88 [(0, vR 10 0), (1, vI l1), (2, vI (l2 + 1))] [] N3) ∧ (¬ ((wI (N3 10 0 37)) ≠ 0) → (C_X10_next G  N3 (fun N4 => W_X10_order G K 88 [(0, vR 10 0), (1, vI l1), (2, vI (l2 + 1))] [] N4))))) ∧ (¬ ((wI x3) ≠ 0) → (C_X10_fail G  N3 (fun N5 => (((wI (N5 10 0 37)) ≠ 0 → W_X10_order G K 88 [(0, vR 10 0), (1, vI l1), (2, vI (l2 + 1))] [] N5) ∧ (¬ ((wI (N5 10 0 37)) ≠ 0) → (C_X10_next G  N5 (fun N6 => W_X10_order G K 88 [(0, vR 10 0), (1, vI l1), (2, vI (l2 + 1))] [] N6))))))))))))) ∧ (¬ ((wI l2) ≠ 9) → (C_X10_fail G  N1 (fun N7 => (C_X10_isSign G 59 N7 (fun x8 N8 => (((wI x8) ≠ 0 → (((wI (N8 10 0 37)) ≠ 0 → W_X10_order G K 88 [(0, vR 10 0), (1, vI l1), (2, vI (l2 + 1))] [] N8) ∧ (¬ ((wI (N8 10 0 37)) ≠ 0) → (C_X10_next G  N8 (fun N9 => W_X10_order G K 88 [(0, vR 10 0), (1, vI l1), (2, vI (l2 + 1))] [] N9))))) ∧ (¬ ((wI x8) ≠ 0) → (C_X10_fail G  N8 (fun N10 => (((wI (N10 10 0 37)) ≠ 0 → W_X10_order G K 88 [(0, vR 10 0), (1, vI l1), (2, vI (l2 + 1))] [] N10) ∧ (¬ ((wI (N10 10 0 37)) ≠ 0) → (C_X10_next G  N10 (fun N11 => W_X10_order G K 88 [(0, vR 10 0), (1, vI l1), (2, vI (l2 + 1))] [] N11))))))))))))))))))))) : W_X10_order G K 88 [(0, vR 10 0), (1, vI l1), (2, vI l2)] [] N := by
  refine A_aload_n dX10_order_88 rfl rfl ?_
  refine A_getI dX10_order_89 fX10_302 rfl (okK10 (by omega)) ?_
  refine B_if_ne (tgt := 155) dX10_order_92 (by decide) rfl ⟨fun q => ?_, fun q => ?_⟩
  · replace h := h.1 q
    exact A_pick [0, 1, 2] rfl h
  · replace h := h.2 q
    refine A_aload_n dX10_order_95 rfl rfl ?_
    refine A_ldc2 (x := 358472) dX10_order_96 kX10_437 (by decide +kernel) ?_
    refine B_callV_I (av := [vL 358472]) rfl dX10_order_99 vX10_320 mX10_isWord ⟨rfl, rfl, by decide⟩ (okK10 (by omega)) rfl (Nat.le_of_ble_eq_true rfl) (by decide) (by decide) rfl (BC_monoI h (fun x1 N1 h => ?_))
    refine B_if_ne (tgt := 155) dX10_order_102 (by decide) rfl ⟨fun q => ?_, fun q => ?_⟩
    · replace h := h.1 q
      exact A_pick [0, 1, 2] rfl h
    · replace h := h.2 q
      refine A_iload_n dX10_order_105 rfl rfl ?_
      refine A_bipush (v := 9) dX10_order_106 (by decide +kernel) ?_
      refine B_icmp_ne (tgt := 118) dX10_order_108 (by decide) rfl (wlitI (by decide) (by decide)) ⟨fun q => ?_, fun q => ?_⟩
      · replace h := h.1 q
        refine A_aload_n dX10_order_118 rfl rfl ?_
        refine A_iload_n dX10_order_119 rfl rfl ?_
        refine A_iload_n dX10_order_120 rfl rfl ?_
        refine A_iadd dX10_order_121 ?_
        refine B_callV_V (av := [vI (l1 + l2)]) rfl dX10_order_122 vX10_439 mX10_readStep ⟨rfl, rfl, by decide⟩ (okK10 (by omega)) rfl (Nat.le_of_ble_eq_true rfl) (by decide) (by decide) rfl (BC_monoV h (fun N2 h => ?_))
        refine A_aload_n dX10_order_125 rfl rfl ?_
        refine A_bipush (v := 59) dX10_order_126 (by decide +kernel) ?_
        refine B_callV_I (av := [vI 59]) rfl dX10_order_128 vX10_352 mX10_isSign ⟨rfl, rfl, by decide⟩ (okK10 (by omega)) rfl (Nat.le_of_ble_eq_true rfl) (by decide) (by decide) rfl (BC_monoI h (fun x3 N3 h => ?_))
        refine B_if_ne (tgt := 138) dX10_order_131 (by decide) rfl ⟨fun q => ?_, fun q => ?_⟩
        · replace h := h.1 q
          refine A_aload_n dX10_order_138 rfl rfl ?_
          refine A_getI dX10_order_139 fX10_302 rfl (okK10 (by omega)) ?_
          refine B_if_ne (tgt := 149) dX10_order_142 (by decide) rfl ⟨fun q => ?_, fun q => ?_⟩
          · replace h := h.1 q
            refine A_iinc (ls' := [(2, _), (0, _), (1, _)]) dX10_order_149 (by decide) rfl rfl rfl ?_
            refine A_goto (tgt := 88) dX10_order_152 (by decide) ?_
            exact A_pick [1, 2, 0] rfl h
          · replace h := h.2 q
            refine A_aload_n dX10_order_145 rfl rfl ?_
            refine B_callV_V (av := []) rfl dX10_order_146 vX10_315 mX10_next ⟨rfl, rfl, by decide⟩ (okK10 (by omega)) rfl (Nat.le_of_ble_eq_true rfl) (by decide) (by decide) rfl (BC_monoV h (fun N4 h => ?_))
            refine A_iinc (ls' := [(2, _), (0, _), (1, _)]) dX10_order_149 (by decide) rfl rfl rfl ?_
            refine A_goto (tgt := 88) dX10_order_152 (by decide) ?_
            exact A_pick [1, 2, 0] rfl h
        · replace h := h.2 q
          refine A_aload_n dX10_order_134 rfl rfl ?_
          refine B_callV_V (av := []) rfl dX10_order_135 vX10_312 mX10_fail ⟨rfl, rfl, by decide⟩ (okK10 (by omega)) rfl (Nat.le_of_ble_eq_true rfl) (by decide) (by decide) rfl (BC_monoV h (fun N5 h => ?_))
          refine A_aload_n dX10_order_138 rfl rfl ?_
          refine A_getI dX10_order_139 fX10_302 rfl (okK10 (by omega)) ?_
          refine B_if_ne (tgt := 149) dX10_order_142 (by decide) rfl ⟨fun q => ?_, fun q => ?_⟩
          · replace h := h.1 q
            refine A_iinc (ls' := [(2, _), (0, _), (1, _)]) dX10_order_149 (by decide) rfl rfl rfl ?_
            refine A_goto (tgt := 88) dX10_order_152 (by decide) ?_
            exact A_pick [1, 2, 0] rfl h
          · replace h := h.2 q
            refine A_aload_n dX10_order_145 rfl rfl ?_
            refine B_callV_V (av := []) rfl dX10_order_146 vX10_315 mX10_next ⟨rfl, rfl, by decide⟩ (okK10 (by omega)) rfl (Nat.le_of_ble_eq_true rfl) (by decide) (by decide) rfl (BC_monoV h (fun N6 h => ?_))
            refine A_iinc (ls' := [(2, _), (0, _), (1, _)]) dX10_order_149 (by decide) rfl rfl rfl ?_
            refine A_goto (tgt := 88) dX10_order_152 (by decide) ?_
            exact A_pick [1, 2, 0] rfl h
      · replace h := h.2 q
        refine A_aload_n dX10_order_111 rfl rfl ?_
        refine B_callV_V (av := []) rfl dX10_order_112 vX10_312 mX10_fail ⟨rfl, rfl, by decide⟩ (okK10 (by omega)) rfl (Nat.le_of_ble_eq_true rfl) (by decide) (by decide) rfl (BC_monoV h (fun N7 h => ?_))
        refine A_goto (tgt := 125) dX10_order_115 (by decide) ?_
        refine A_aload_n dX10_order_125 rfl rfl ?_
        refine A_bipush (v := 59) dX10_order_126 (by decide +kernel) ?_
        refine B_callV_I (av := [vI 59]) rfl dX10_order_128 vX10_352 mX10_isSign ⟨rfl, rfl, by decide⟩ (okK10 (by omega)) rfl (Nat.le_of_ble_eq_true rfl) (by decide) (by decide) rfl (BC_monoI h (fun x8 N8 h => ?_))
        refine B_if_ne (tgt := 138) dX10_order_131 (by decide) rfl ⟨fun q => ?_, fun q => ?_⟩
        · replace h := h.1 q
          refine A_aload_n dX10_order_138 rfl rfl ?_
          refine A_getI dX10_order_139 fX10_302 rfl (okK10 (by omega)) ?_
          refine B_if_ne (tgt := 149) dX10_order_142 (by decide) rfl ⟨fun q => ?_, fun q => ?_⟩
          · replace h := h.1 q
            refine A_iinc (ls' := [(2, _), (0, _), (1, _)]) dX10_order_149 (by decide) rfl rfl rfl ?_
            refine A_goto (tgt := 88) dX10_order_152 (by decide) ?_
            exact A_pick [1, 2, 0] rfl h
          · replace h := h.2 q
            refine A_aload_n dX10_order_145 rfl rfl ?_
            refine B_callV_V (av := []) rfl dX10_order_146 vX10_315 mX10_next ⟨rfl, rfl, by decide⟩ (okK10 (by omega)) rfl (Nat.le_of_ble_eq_true rfl) (by decide) (by decide) rfl (BC_monoV h (fun N9 h => ?_))
            refine A_iinc (ls' := [(2, _), (0, _), (1, _)]) dX10_order_149 (by decide) rfl rfl rfl ?_
            refine A_goto (tgt := 88) dX10_order_152 (by decide) ?_
            exact A_pick [1, 2, 0] rfl h
        · replace h := h.2 q
          refine A_aload_n dX10_order_134 rfl rfl ?_
          refine B_callV_V (av := []) rfl dX10_order_135 vX10_312 mX10_fail ⟨rfl, rfl, by decide⟩ (okK10 (by omega)) rfl (Nat.le_of_ble_eq_true rfl) (by decide) (by decide) rfl (BC_monoV h (fun N10 h => ?_))
          refine A_aload_n dX10_order_138 rfl rfl ?_
          refine A_getI dX10_order_139 fX10_302 rfl (okK10 (by omega)) ?_
          refine B_if_ne (tgt := 149) dX10_order_142 (by decide) rfl ⟨fun q => ?_, fun q => ?_⟩
          · replace h := h.1 q
            refine A_iinc (ls' := [(2, _), (0, _), (1, _)]) dX10_order_149 (by decide) rfl rfl rfl ?_
            refine A_goto (tgt := 88) dX10_order_152 (by decide) ?_
            exact A_pick [1, 2, 0] rfl h
          · replace h := h.2 q
            refine A_aload_n dX10_order_145 rfl rfl ?_
            refine B_callV_V (av := []) rfl dX10_order_146 vX10_315 mX10_next ⟨rfl, rfl, by decide⟩ (okK10 (by omega)) rfl (Nat.le_of_ble_eq_true rfl) (by decide) (by decide) rfl (BC_monoV h (fun N11 h => ?_))
            refine A_iinc (ls' := [(2, _), (0, _), (1, _)]) dX10_order_149 (by decide) rfl rfl rfl ?_
            refine A_goto (tgt := 88) dX10_order_152 (by decide) ?_
            exact A_pick [1, 2, 0] rfl h
set_option maxRecDepth 100000 in
set_option maxHeartbeats 4000000 in
theorem vc_X10_order_155 {G : GT} {l1 : Int} {l2 : Int} {N : NN} {K : Int → NN → Prop}  (h : (((wI (N 10 0 37)) ≠ 0 → (((wI (N 10 0 37)) ≠ 0 → (((wI (N 10 0 37)) = 0 → (∃ j1 : Nat, (wI (l1 + l2)) = (j1 : Int) ∧ j1 < 60 ∧ (∀ M2 : NN, M2 = up3 N 61 0 j1 5 → (∃ j3 : Nat, (wI (l1 + l2)) = (j3 : Int) ∧ j3 < 60 ∧ (∀ M4 : NN, M4 = up3 M2 62 0 j3 ((-1)) → (∃ j5 : Nat, (wI (l1 + l2)) = (j5 : Int) ∧ j5 < 60 ∧ (∀ M6 : NN, M6 = up3 M4 63 0 j5 ((-1)) → (∃ j7 : Nat, (wI (l1 + l2)) = (j7 : Int) ∧ j7 < 60 ∧ (∀ M8 : NN, M8 = up3 M6 64 0 j7 0 → (∃ j9 : Nat, (wI (l1 + l2)) = (j9 : Int) ∧ j9 < 60 ∧ (∀ M10 : NN, M10 = up3 M8 65 0 j9 ((-1)) → (∃ j11 : Nat, (wI (l1 + l2)) = (j11 : Int) ∧ j11 < 60 ∧ (∀ M12 : NN, M12 = up3 M10 66 0 j11 ((-1)) → (∃ j13 : Nat, (wI (M12 10 0 45)) = (j13 : Int) ∧ j13 < 6 ∧ (∀ M14 : NN, M14 = up3 M12 60 0 j13 (l2 + 1) → (∀ M15 : NN, M15 = up3 M14 10 0 45 ((M14 10 0 45) + 1) → K ((M15 10 0 45) - 1) M15)))))))))))))))) ∧ (¬ ((wI (N 10 0 37)) = 0) → K (((-100)) - (N 10 0 38)) N))) ∧ (¬ ((wI (N 10 0 37)) ≠ 0) → (((wI (N 10 0 32)) = 0 → (((wI (N 10 0 37)) = 0 → (∃ j16 : Nat, (wI (l1 + l2)) = (j16 : Int) ∧ j16 < 60 ∧ (∀ M17 : NN, M17 = up3 N 61 0 j16 5 → (∃ j18 : Nat, (wI (l1 + l2)) = (j18 : Int) ∧ j18 < 60 ∧ (∀ M19 : NN, M19 = up3 M17 62 0 j18 ((-1)) → (∃ j20 : Nat, (wI (l1 + l2)) = (j20 : Int) ∧ j20 < 60 ∧ (∀ M21 : NN, M21 = up3 M19 63 0 j20 ((-1)) → (∃ j22 : Nat, (wI (l1 + l2)) = (j22 : Int) ∧ j22 < 60 ∧ (∀ M23 : NN, M23 = up3 M21 64 0 j22 0 → (∃ j24 : Nat, (wI (l1 + l2)) = (j24 : Int) ∧ j24 < 60 ∧ (∀ M25 : NN, M25 = up3 M23 65 0 j24 ((-1)) → (∃ j26 : Nat, (wI (l1 + l2)) = (j26 : Int) ∧ j26 < 60 ∧ (∀ M27 : NN, M27 = up3 M25 66 0 j26 ((-1)) → (∃ j28 : Nat, (wI (M27 10 0 45)) = (j28 : Int) ∧ j28 < 6 ∧ (∀ M29 : NN, M29 = up3 M27 60 0 j28 (l2 + 1) → (∀ M30 : NN, M30 = up3 M29 10 0 45 ((M29 10 0 45) + 1) → K ((M30 10 0 45) - 1) M30)))))))))))))))) ∧ (¬ ((wI (N 10 0 37)) = 0) → K (((-100)) - (N 10 0 38)) N))) ∧ (¬ ((wI (N 10 0 32)) = 0) → (C_X10_fail G  N (fun N31 => (((wI (N31 10 0 37)) = 0 → (∃ j32 : Nat, (wI (l1 + l2)) = (j32 : Int) ∧ j32 < 60 ∧ (∀ M33 : NN, M33 = up3 N31 61 0 j32 5 → (∃ j34 : Nat, (wI (l1 + l2)) = (j34 : Int) ∧ j34 < 60 ∧ (∀ M35 : NN, M35 = up3 M33 62 0 j34 ((-1)) → (∃ j36 : Nat, (wI (l1 + l2)) = (j36 : Int) ∧ j36 < 60 ∧ (∀ M37 : NN, M37 = up3 M35 63 0 j36 ((-1)) → (∃ j38 : Nat, (wI (l1 + l2)) = (j38 : Int) ∧ j38 < 60 ∧ (∀ M39 : NN, M39 = up3 M37 64 0 j38 0 → (∃ j40 : Nat, (wI (l1 + l2)) = (j40 : Int) ∧ j40 < 60 ∧ (∀ M41 : NN, M41 = up3 M39 65 0 j40 ((-1)) → (∃ j42 : Nat, (wI (l1 + l2)) = (j42 : Int) ∧ j42 < 60 ∧ (∀ M43 : NN, M43 = up3 M41 66 0 j42 ((-1)) → (∃ j44 : Nat, (wI (M43 10 0 45)) = (j44 : Int) ∧ j44 < 6 ∧ (∀ M45 : NN, M45 = up3 M43 60 0 j44 (l2 + 1) → (∀ M46 : NN, M46 = up3 M45 10 0 45 ((M45 10 0 45) + 1) → K ((M46 10 0 45) - 1) M46)))))))))))))))) ∧ (¬ ((wI (N31 10 0 37)) = 0) → K (((-100)) - (N31 10 0 38)) N31))))))))) ∧ (¬ ((wI (N 10 0 37)) ≠ 0) → (C_X10_next G  N (fun N47 => (((wI (N47 10 0 37)) ≠ 0 → (((wI (N47 10 0 37)) = 0 → (∃ j48 : Nat, (wI (l1 + l2)) = (j48 : Int) ∧ j48 < 60 ∧ (∀ M49 : NN, M49 = up3 N47 61 0 j48 5 → (∃ j50 : Nat, (wI (l1 + l2)) = (j50 : Int) ∧ j50 < 60 ∧ (∀ M51 : NN, M51 = up3 M49 62 0 j50 ((-1)) → (∃ j52 : Nat, (wI (l1 + l2)) = (j52 : Int) ∧ j52 < 60 ∧ (∀ M53 : NN, M53 = up3 M51 63 0 j52 ((-1)) → (∃ j54 : Nat, (wI (l1 + l2)) = (j54 : Int) ∧ j54 < 60 ∧ (∀ M55 : NN, M55 = up3 M53 64 0 j54 0 → (∃ j56 : Nat, (wI (l1 + l2)) = (j56 : Int) ∧ j56 < 60 ∧ (∀ M57 : NN, M57 = up3 M55 65 0 j56 ((-1)) → (∃ j58 : Nat, (wI (l1 + l2)) = (j58 : Int) ∧ j58 < 60 ∧ (∀ M59 : NN, M59 = up3 M57 66 0 j58 ((-1)) → (∃ j60 : Nat, (wI (M59 10 0 45)) = (j60 : Int) ∧ j60 < 6 ∧ (∀ M61 : NN, M61 = up3 M59 60 0 j60 (l2 + 1) → (∀ M62 : NN, M62 = up3 M61 10 0 45 ((M61 10 0 45) + 1) → K ((M62 10 0 45) - 1) M62)))))))))))))))) ∧ (¬ ((wI (N47 10 0 37)) = 0) → K (((-100)) - (N47 10 0 38)) N47))) ∧ (¬ ((wI (N47 10 0 37)) ≠ 0) → (((wI (N47 10 0 32)) = 0 → (((wI (N47 10 0 37)) = 0 → (∃ j63 : Nat, (wI (l1 + l2)) = (j63 : Int) ∧ j63 < 60 ∧ (∀ M64 : NN, M64 = up3 N47 61 0 j63 5 → (∃ j65 : Nat, (wI (l1 + l2)) = (j65 : Int) ∧ j65 < 60 ∧ (∀ M66 : NN, M66 = up3 M64 62 0 j65 ((-1)) → (∃ j67 : Nat, (wI (l1 + l2)) = (j67 : Int) ∧ j67 < 60 ∧ (∀ M68 : NN, M68 = up3 M66 63 0 j67 ((-1)) → (∃ j69 : Nat, (wI (l1 + l2)) = (j69 : Int) ∧ j69 < 60 ∧ (∀ M70 : NN, M70 = up3 M68 64 0 j69 0 → (∃ j71 : Nat, (wI (l1 + l2)) = (j71 : Int) ∧ j71 < 60 ∧ (∀ M72 : NN, M72 = up3 M70 65 0 j71 ((-1)) → (∃ j73 : Nat, (wI (l1 + l2)) = (j73 : Int) ∧ j73 < 60 ∧ (∀ M74 : NN, M74 = up3 M72 66 0 j73 ((-1)) → (∃ j75 : Nat, (wI (M74 10 0 45)) = (j75 : Int) ∧ j75 < 6 ∧ (∀ M76 : NN, M76 = up3 M74 60 0 j75 (l2 + 1) → (∀ M77 : NN, M77 = up3 M76 10 0 45 ((M76 10 0 45) + 1) → K ((M77 10 0 45) - 1) M77)))))))))))))))) ∧ (¬ ((wI (N47 10 0 37)) = 0) → K (((-100)) - (N47 10 0 38)) N47))) ∧ (¬ ((wI (N47 10 0 32)) = 0) → (C_X10_fail G  N47 (fun N78 => (((wI (N78 10 0 37)) = 0 → (∃ j79 : Nat, (wI (l1 + l2)) = (j79 : Int) ∧ j79 < 60 ∧ (∀ M80 : NN, M80 = up3 N78 61 0 j79 5 → (∃ j81 : Nat, (wI (l1 + l2)) = (j81 : Int) ∧ j81 < 60 ∧ (∀ M82 : NN, M82 = up3 M80 62 0 j81 ((-1)) → (∃ j83 : Nat, (wI (l1 + l2)) = (j83 : Int) ∧ j83 < 60 ∧ (∀ M84 : NN, M84 = up3 M82 63 0 j83 ((-1)) → (∃ j85 : Nat, (wI (l1 + l2)) = (j85 : Int) ∧ j85 < 60 ∧ (∀ M86 : NN, M86 = up3 M84 64 0 j85 0 → (∃ j87 : Nat, (wI (l1 + l2)) = (j87 : Int) ∧ j87 < 60 ∧ (∀ M88 : NN, M88 = up3 M86 65 0 j87 ((-1)) → (∃ j89 : Nat, (wI (l1 + l2)) = (j89 : Int) ∧ j89 < 60 ∧ (∀ M90 : NN, M90 = up3 M88 66 0 j89 ((-1)) → (∃ j91 : Nat, (wI (M90 10 0 45)) = (j91 : Int) ∧ j91 < 6 ∧ (∀ M92 : NN, M92 = up3 M90 60 0 j91 (l2 + 1) → (∀ M93 : NN, M93 = up3 M92 10 0 45 ((M92 10 0 45) + 1) → K ((M93 10 0 45) - 1) M93)))))))))))))))) ∧ (¬ ((wI (N78 10 0 37)) = 0) → K (((-100)) - (N78 10 0 38)) N78))))))))))))) : W_X10_order G K 155 [(0, vR 10 0), (1, vI l1), (2, vI l2)] [] N := by
  refine A_aload_n dX10_order_155 rfl rfl ?_
  refine A_getI dX10_order_156 fX10_302 rfl (okK10 (by omega)) ?_
  refine B_if_ne (tgt := 166) dX10_order_159 (by decide) rfl ⟨fun q => ?_, fun q => ?_⟩
  · replace h := h.1 q
    refine A_aload_n dX10_order_166 rfl rfl ?_
    refine A_getI dX10_order_167 fX10_302 rfl (okK10 (by omega)) ?_
    refine B_if_ne (tgt := 184) dX10_order_170 (by decide) rfl ⟨fun q => ?_, fun q => ?_⟩
    · replace h := h.1 q
      refine A_aload_n dX10_order_184 rfl rfl ?_
      refine A_getI dX10_order_185 fX10_302 rfl (okK10 (by omega)) ?_
      refine B_if_eq (tgt := 199) dX10_order_188 (by decide) rfl ⟨fun q => ?_, fun q => ?_⟩
      · replace h := h.1 q
        refine A_aload_n dX10_order_199 rfl rfl ?_
        refine A_getR (c2 := 61) (i2 := 0) dX10_order_200 fX10_81 rfl (okK10 (by omega)) rfl ?_
        refine A_iload_n dX10_order_203 rfl rfl ?_
        refine A_iload_n dX10_order_204 rfl rfl ?_
        refine A_iadd dX10_order_205 ?_
        refine A_iconst (v := 5) dX10_order_206 rfl ?_
        obtain ⟨j1, qj1, bj1, h⟩ := h
        refine B_iast (j := j1) dX10_order_207 (by decide) rfl (okK61 (by omega)) qj1 bj1 (fun M2 eM2 => ?_)
        replace h := h M2 eM2
        refine A_aload_n dX10_order_208 rfl rfl ?_
        refine A_getR (c2 := 62) (i2 := 0) dX10_order_209 fX10_84 rfl (okK10 (by omega)) rfl ?_
        refine A_iload_n dX10_order_212 rfl rfl ?_
        refine A_iload_n dX10_order_213 rfl rfl ?_
        refine A_iadd dX10_order_214 ?_
        refine A_iconst (v := (-1)) dX10_order_215 rfl ?_
        obtain ⟨j3, qj3, bj3, h⟩ := h
        refine B_iast (j := j3) dX10_order_216 (by decide) rfl (okK62 (by omega)) qj3 bj3 (fun M4 eM4 => ?_)
        replace h := h M4 eM4
        refine A_aload_n dX10_order_217 rfl rfl ?_
        refine A_getR (c2 := 63) (i2 := 0) dX10_order_218 fX10_87 rfl (okK10 (by omega)) rfl ?_
        refine A_iload_n dX10_order_221 rfl rfl ?_
        refine A_iload_n dX10_order_222 rfl rfl ?_
        refine A_iadd dX10_order_223 ?_
        refine A_iconst (v := (-1)) dX10_order_224 rfl ?_
        obtain ⟨j5, qj5, bj5, h⟩ := h
        refine B_iast (j := j5) dX10_order_225 (by decide) rfl (okK63 (by omega)) qj5 bj5 (fun M6 eM6 => ?_)
        replace h := h M6 eM6
        refine A_aload_n dX10_order_226 rfl rfl ?_
        refine A_getR (c2 := 64) (i2 := 0) dX10_order_227 fX10_90 rfl (okK10 (by omega)) rfl ?_
        refine A_iload_n dX10_order_230 rfl rfl ?_
        refine A_iload_n dX10_order_231 rfl rfl ?_
        refine A_iadd dX10_order_232 ?_
        refine A_iconst (v := 0) dX10_order_233 rfl ?_
        obtain ⟨j7, qj7, bj7, h⟩ := h
        refine B_iast (j := j7) dX10_order_234 (by decide) rfl (okK64 (by omega)) qj7 bj7 (fun M8 eM8 => ?_)
        replace h := h M8 eM8
        refine A_aload_n dX10_order_235 rfl rfl ?_
        refine A_getR (c2 := 65) (i2 := 0) dX10_order_236 fX10_93 rfl (okK10 (by omega)) rfl ?_
        refine A_iload_n dX10_order_239 rfl rfl ?_
        refine A_iload_n dX10_order_240 rfl rfl ?_
        refine A_iadd dX10_order_241 ?_
        refine A_iconst (v := (-1)) dX10_order_242 rfl ?_
        obtain ⟨j9, qj9, bj9, h⟩ := h
        refine B_iast (j := j9) dX10_order_243 (by decide) rfl (okK65 (by omega)) qj9 bj9 (fun M10 eM10 => ?_)
        replace h := h M10 eM10
        refine A_aload_n dX10_order_244 rfl rfl ?_
        refine A_getR (c2 := 66) (i2 := 0) dX10_order_245 fX10_96 rfl (okK10 (by omega)) rfl ?_
        refine A_iload_n dX10_order_248 rfl rfl ?_
        refine A_iload_n dX10_order_249 rfl rfl ?_
        refine A_iadd dX10_order_250 ?_
        refine A_iconst (v := (-1)) dX10_order_251 rfl ?_
        obtain ⟨j11, qj11, bj11, h⟩ := h
        refine B_iast (j := j11) dX10_order_252 (by decide) rfl (okK66 (by omega)) qj11 bj11 (fun M12 eM12 => ?_)
        replace h := h M12 eM12
        refine A_aload_n dX10_order_253 rfl rfl ?_
        refine A_getR (c2 := 60) (i2 := 0) dX10_order_254 fX10_78 rfl (okK10 (by omega)) rfl ?_
        refine A_aload_n dX10_order_257 rfl rfl ?_
        refine A_getI dX10_order_258 fX10_178 rfl (okK10 (by omega)) ?_
        refine A_iload_n dX10_order_261 rfl rfl ?_
        refine A_iconst (v := 1) dX10_order_262 rfl ?_
        refine A_iadd dX10_order_263 ?_
        obtain ⟨j13, qj13, bj13, h⟩ := h
        refine B_iast (j := j13) dX10_order_264 (by decide) rfl (okK60 (by omega)) qj13 bj13 (fun M14 eM14 => ?_)
        replace h := h M14 eM14
        refine A_aload_n dX10_order_265 rfl rfl ?_
        refine A_dup dX10_order_266 rfl ?_
        refine A_getI dX10_order_267 fX10_178 rfl (okK10 (by omega)) ?_
        refine A_iconst (v := 1) dX10_order_270 rfl ?_
        refine A_iadd dX10_order_271 ?_
        refine B_putI dX10_order_272 fX10_178 (by decide) (okK10 (by omega)) (fun M15 eM15 => ?_)
        replace h := h M15 eM15
        refine A_aload_n dX10_order_275 rfl rfl ?_
        refine A_getI dX10_order_276 fX10_178 rfl (okK10 (by omega)) ?_
        refine A_iconst (v := 1) dX10_order_279 rfl ?_
        refine A_isub dX10_order_280 ?_
        exact A_iret dX10_order_281 ⟨rfl, _, rfl, h⟩
      · replace h := h.2 q
        refine A_bipush (v := (-100)) dX10_order_191 (by decide +kernel) ?_
        refine A_aload_n dX10_order_193 rfl rfl ?_
        refine A_getI dX10_order_194 fX10_306 rfl (okK10 (by omega)) ?_
        refine A_isub dX10_order_197 ?_
        exact A_iret dX10_order_198 ⟨rfl, _, rfl, h⟩
    · replace h := h.2 q
      refine A_aload_n dX10_order_173 rfl rfl ?_
      refine A_getI dX10_order_174 fX10_285 rfl (okK10 (by omega)) ?_
      refine B_if_eq (tgt := 184) dX10_order_177 (by decide) rfl ⟨fun q => ?_, fun q => ?_⟩
      · replace h := h.1 q
        refine A_aload_n dX10_order_184 rfl rfl ?_
        refine A_getI dX10_order_185 fX10_302 rfl (okK10 (by omega)) ?_
        refine B_if_eq (tgt := 199) dX10_order_188 (by decide) rfl ⟨fun q => ?_, fun q => ?_⟩
        · replace h := h.1 q
          refine A_aload_n dX10_order_199 rfl rfl ?_
          refine A_getR (c2 := 61) (i2 := 0) dX10_order_200 fX10_81 rfl (okK10 (by omega)) rfl ?_
          refine A_iload_n dX10_order_203 rfl rfl ?_
          refine A_iload_n dX10_order_204 rfl rfl ?_
          refine A_iadd dX10_order_205 ?_
          refine A_iconst (v := 5) dX10_order_206 rfl ?_
          obtain ⟨j16, qj16, bj16, h⟩ := h
          refine B_iast (j := j16) dX10_order_207 (by decide) rfl (okK61 (by omega)) qj16 bj16 (fun M17 eM17 => ?_)
          replace h := h M17 eM17
          refine A_aload_n dX10_order_208 rfl rfl ?_
          refine A_getR (c2 := 62) (i2 := 0) dX10_order_209 fX10_84 rfl (okK10 (by omega)) rfl ?_
          refine A_iload_n dX10_order_212 rfl rfl ?_
          refine A_iload_n dX10_order_213 rfl rfl ?_
          refine A_iadd dX10_order_214 ?_
          refine A_iconst (v := (-1)) dX10_order_215 rfl ?_
          obtain ⟨j18, qj18, bj18, h⟩ := h
          refine B_iast (j := j18) dX10_order_216 (by decide) rfl (okK62 (by omega)) qj18 bj18 (fun M19 eM19 => ?_)
          replace h := h M19 eM19
          refine A_aload_n dX10_order_217 rfl rfl ?_
          refine A_getR (c2 := 63) (i2 := 0) dX10_order_218 fX10_87 rfl (okK10 (by omega)) rfl ?_
          refine A_iload_n dX10_order_221 rfl rfl ?_
          refine A_iload_n dX10_order_222 rfl rfl ?_
          refine A_iadd dX10_order_223 ?_
          refine A_iconst (v := (-1)) dX10_order_224 rfl ?_
          obtain ⟨j20, qj20, bj20, h⟩ := h
          refine B_iast (j := j20) dX10_order_225 (by decide) rfl (okK63 (by omega)) qj20 bj20 (fun M21 eM21 => ?_)
          replace h := h M21 eM21
          refine A_aload_n dX10_order_226 rfl rfl ?_
          refine A_getR (c2 := 64) (i2 := 0) dX10_order_227 fX10_90 rfl (okK10 (by omega)) rfl ?_
          refine A_iload_n dX10_order_230 rfl rfl ?_
          refine A_iload_n dX10_order_231 rfl rfl ?_
          refine A_iadd dX10_order_232 ?_
          refine A_iconst (v := 0) dX10_order_233 rfl ?_
          obtain ⟨j22, qj22, bj22, h⟩ := h
          refine B_iast (j := j22) dX10_order_234 (by decide) rfl (okK64 (by omega)) qj22 bj22 (fun M23 eM23 => ?_)
          replace h := h M23 eM23
          refine A_aload_n dX10_order_235 rfl rfl ?_
          refine A_getR (c2 := 65) (i2 := 0) dX10_order_236 fX10_93 rfl (okK10 (by omega)) rfl ?_
          refine A_iload_n dX10_order_239 rfl rfl ?_
          refine A_iload_n dX10_order_240 rfl rfl ?_
          refine A_iadd dX10_order_241 ?_
          refine A_iconst (v := (-1)) dX10_order_242 rfl ?_
          obtain ⟨j24, qj24, bj24, h⟩ := h
          refine B_iast (j := j24) dX10_order_243 (by decide) rfl (okK65 (by omega)) qj24 bj24 (fun M25 eM25 => ?_)
          replace h := h M25 eM25
          refine A_aload_n dX10_order_244 rfl rfl ?_
          refine A_getR (c2 := 66) (i2 := 0) dX10_order_245 fX10_96 rfl (okK10 (by omega)) rfl ?_
          refine A_iload_n dX10_order_248 rfl rfl ?_
          refine A_iload_n dX10_order_249 rfl rfl ?_
          refine A_iadd dX10_order_250 ?_
          refine A_iconst (v := (-1)) dX10_order_251 rfl ?_
          obtain ⟨j26, qj26, bj26, h⟩ := h
          refine B_iast (j := j26) dX10_order_252 (by decide) rfl (okK66 (by omega)) qj26 bj26 (fun M27 eM27 => ?_)
          replace h := h M27 eM27
          refine A_aload_n dX10_order_253 rfl rfl ?_
          refine A_getR (c2 := 60) (i2 := 0) dX10_order_254 fX10_78 rfl (okK10 (by omega)) rfl ?_
          refine A_aload_n dX10_order_257 rfl rfl ?_
          refine A_getI dX10_order_258 fX10_178 rfl (okK10 (by omega)) ?_
          refine A_iload_n dX10_order_261 rfl rfl ?_
          refine A_iconst (v := 1) dX10_order_262 rfl ?_
          refine A_iadd dX10_order_263 ?_
          obtain ⟨j28, qj28, bj28, h⟩ := h
          refine B_iast (j := j28) dX10_order_264 (by decide) rfl (okK60 (by omega)) qj28 bj28 (fun M29 eM29 => ?_)
          replace h := h M29 eM29
          refine A_aload_n dX10_order_265 rfl rfl ?_
          refine A_dup dX10_order_266 rfl ?_
          refine A_getI dX10_order_267 fX10_178 rfl (okK10 (by omega)) ?_
          refine A_iconst (v := 1) dX10_order_270 rfl ?_
          refine A_iadd dX10_order_271 ?_
          refine B_putI dX10_order_272 fX10_178 (by decide) (okK10 (by omega)) (fun M30 eM30 => ?_)
          replace h := h M30 eM30
          refine A_aload_n dX10_order_275 rfl rfl ?_
          refine A_getI dX10_order_276 fX10_178 rfl (okK10 (by omega)) ?_
          refine A_iconst (v := 1) dX10_order_279 rfl ?_
          refine A_isub dX10_order_280 ?_
          exact A_iret dX10_order_281 ⟨rfl, _, rfl, h⟩
        · replace h := h.2 q
          refine A_bipush (v := (-100)) dX10_order_191 (by decide +kernel) ?_
          refine A_aload_n dX10_order_193 rfl rfl ?_
          refine A_getI dX10_order_194 fX10_306 rfl (okK10 (by omega)) ?_
          refine A_isub dX10_order_197 ?_
          exact A_iret dX10_order_198 ⟨rfl, _, rfl, h⟩
      · replace h := h.2 q
        refine A_aload_n dX10_order_180 rfl rfl ?_
        refine B_callV_V (av := []) rfl dX10_order_181 vX10_312 mX10_fail ⟨rfl, rfl, by decide⟩ (okK10 (by omega)) rfl (Nat.le_of_ble_eq_true rfl) (by decide) (by decide) rfl (BC_monoV h (fun N31 h => ?_))
        refine A_aload_n dX10_order_184 rfl rfl ?_
        refine A_getI dX10_order_185 fX10_302 rfl (okK10 (by omega)) ?_
        refine B_if_eq (tgt := 199) dX10_order_188 (by decide) rfl ⟨fun q => ?_, fun q => ?_⟩
        · replace h := h.1 q
          refine A_aload_n dX10_order_199 rfl rfl ?_
          refine A_getR (c2 := 61) (i2 := 0) dX10_order_200 fX10_81 rfl (okK10 (by omega)) rfl ?_
          refine A_iload_n dX10_order_203 rfl rfl ?_
          refine A_iload_n dX10_order_204 rfl rfl ?_
          refine A_iadd dX10_order_205 ?_
          refine A_iconst (v := 5) dX10_order_206 rfl ?_
          obtain ⟨j32, qj32, bj32, h⟩ := h
          refine B_iast (j := j32) dX10_order_207 (by decide) rfl (okK61 (by omega)) qj32 bj32 (fun M33 eM33 => ?_)
          replace h := h M33 eM33
          refine A_aload_n dX10_order_208 rfl rfl ?_
          refine A_getR (c2 := 62) (i2 := 0) dX10_order_209 fX10_84 rfl (okK10 (by omega)) rfl ?_
          refine A_iload_n dX10_order_212 rfl rfl ?_
          refine A_iload_n dX10_order_213 rfl rfl ?_
          refine A_iadd dX10_order_214 ?_
          refine A_iconst (v := (-1)) dX10_order_215 rfl ?_
          obtain ⟨j34, qj34, bj34, h⟩ := h
          refine B_iast (j := j34) dX10_order_216 (by decide) rfl (okK62 (by omega)) qj34 bj34 (fun M35 eM35 => ?_)
          replace h := h M35 eM35
          refine A_aload_n dX10_order_217 rfl rfl ?_
          refine A_getR (c2 := 63) (i2 := 0) dX10_order_218 fX10_87 rfl (okK10 (by omega)) rfl ?_
          refine A_iload_n dX10_order_221 rfl rfl ?_
          refine A_iload_n dX10_order_222 rfl rfl ?_
          refine A_iadd dX10_order_223 ?_
          refine A_iconst (v := (-1)) dX10_order_224 rfl ?_
          obtain ⟨j36, qj36, bj36, h⟩ := h
          refine B_iast (j := j36) dX10_order_225 (by decide) rfl (okK63 (by omega)) qj36 bj36 (fun M37 eM37 => ?_)
          replace h := h M37 eM37
          refine A_aload_n dX10_order_226 rfl rfl ?_
          refine A_getR (c2 := 64) (i2 := 0) dX10_order_227 fX10_90 rfl (okK10 (by omega)) rfl ?_
          refine A_iload_n dX10_order_230 rfl rfl ?_
          refine A_iload_n dX10_order_231 rfl rfl ?_
          refine A_iadd dX10_order_232 ?_
          refine A_iconst (v := 0) dX10_order_233 rfl ?_
          obtain ⟨j38, qj38, bj38, h⟩ := h
          refine B_iast (j := j38) dX10_order_234 (by decide) rfl (okK64 (by omega)) qj38 bj38 (fun M39 eM39 => ?_)
          replace h := h M39 eM39
          refine A_aload_n dX10_order_235 rfl rfl ?_
          refine A_getR (c2 := 65) (i2 := 0) dX10_order_236 fX10_93 rfl (okK10 (by omega)) rfl ?_
          refine A_iload_n dX10_order_239 rfl rfl ?_
          refine A_iload_n dX10_order_240 rfl rfl ?_
          refine A_iadd dX10_order_241 ?_
          refine A_iconst (v := (-1)) dX10_order_242 rfl ?_
          obtain ⟨j40, qj40, bj40, h⟩ := h
          refine B_iast (j := j40) dX10_order_243 (by decide) rfl (okK65 (by omega)) qj40 bj40 (fun M41 eM41 => ?_)
          replace h := h M41 eM41
          refine A_aload_n dX10_order_244 rfl rfl ?_
          refine A_getR (c2 := 66) (i2 := 0) dX10_order_245 fX10_96 rfl (okK10 (by omega)) rfl ?_
          refine A_iload_n dX10_order_248 rfl rfl ?_
          refine A_iload_n dX10_order_249 rfl rfl ?_
          refine A_iadd dX10_order_250 ?_
          refine A_iconst (v := (-1)) dX10_order_251 rfl ?_
          obtain ⟨j42, qj42, bj42, h⟩ := h
          refine B_iast (j := j42) dX10_order_252 (by decide) rfl (okK66 (by omega)) qj42 bj42 (fun M43 eM43 => ?_)
          replace h := h M43 eM43
          refine A_aload_n dX10_order_253 rfl rfl ?_
          refine A_getR (c2 := 60) (i2 := 0) dX10_order_254 fX10_78 rfl (okK10 (by omega)) rfl ?_
          refine A_aload_n dX10_order_257 rfl rfl ?_
          refine A_getI dX10_order_258 fX10_178 rfl (okK10 (by omega)) ?_
          refine A_iload_n dX10_order_261 rfl rfl ?_
          refine A_iconst (v := 1) dX10_order_262 rfl ?_
          refine A_iadd dX10_order_263 ?_
          obtain ⟨j44, qj44, bj44, h⟩ := h
          refine B_iast (j := j44) dX10_order_264 (by decide) rfl (okK60 (by omega)) qj44 bj44 (fun M45 eM45 => ?_)
          replace h := h M45 eM45
          refine A_aload_n dX10_order_265 rfl rfl ?_
          refine A_dup dX10_order_266 rfl ?_
          refine A_getI dX10_order_267 fX10_178 rfl (okK10 (by omega)) ?_
          refine A_iconst (v := 1) dX10_order_270 rfl ?_
          refine A_iadd dX10_order_271 ?_
          refine B_putI dX10_order_272 fX10_178 (by decide) (okK10 (by omega)) (fun M46 eM46 => ?_)
          replace h := h M46 eM46
          refine A_aload_n dX10_order_275 rfl rfl ?_
          refine A_getI dX10_order_276 fX10_178 rfl (okK10 (by omega)) ?_
          refine A_iconst (v := 1) dX10_order_279 rfl ?_
          refine A_isub dX10_order_280 ?_
          exact A_iret dX10_order_281 ⟨rfl, _, rfl, h⟩
        · replace h := h.2 q
          refine A_bipush (v := (-100)) dX10_order_191 (by decide +kernel) ?_
          refine A_aload_n dX10_order_193 rfl rfl ?_
          refine A_getI dX10_order_194 fX10_306 rfl (okK10 (by omega)) ?_
          refine A_isub dX10_order_197 ?_
          exact A_iret dX10_order_198 ⟨rfl, _, rfl, h⟩
  · replace h := h.2 q
    refine A_aload_n dX10_order_162 rfl rfl ?_
    refine B_callV_V (av := []) rfl dX10_order_163 vX10_315 mX10_next ⟨rfl, rfl, by decide⟩ (okK10 (by omega)) rfl (Nat.le_of_ble_eq_true rfl) (by decide) (by decide) rfl (BC_monoV h (fun N47 h => ?_))
    refine A_aload_n dX10_order_166 rfl rfl ?_
    refine A_getI dX10_order_167 fX10_302 rfl (okK10 (by omega)) ?_
    refine B_if_ne (tgt := 184) dX10_order_170 (by decide) rfl ⟨fun q => ?_, fun q => ?_⟩
    · replace h := h.1 q
      refine A_aload_n dX10_order_184 rfl rfl ?_
      refine A_getI dX10_order_185 fX10_302 rfl (okK10 (by omega)) ?_
      refine B_if_eq (tgt := 199) dX10_order_188 (by decide) rfl ⟨fun q => ?_, fun q => ?_⟩
      · replace h := h.1 q
        refine A_aload_n dX10_order_199 rfl rfl ?_
        refine A_getR (c2 := 61) (i2 := 0) dX10_order_200 fX10_81 rfl (okK10 (by omega)) rfl ?_
        refine A_iload_n dX10_order_203 rfl rfl ?_
        refine A_iload_n dX10_order_204 rfl rfl ?_
        refine A_iadd dX10_order_205 ?_
        refine A_iconst (v := 5) dX10_order_206 rfl ?_
        obtain ⟨j48, qj48, bj48, h⟩ := h
        refine B_iast (j := j48) dX10_order_207 (by decide) rfl (okK61 (by omega)) qj48 bj48 (fun M49 eM49 => ?_)
        replace h := h M49 eM49
        refine A_aload_n dX10_order_208 rfl rfl ?_
        refine A_getR (c2 := 62) (i2 := 0) dX10_order_209 fX10_84 rfl (okK10 (by omega)) rfl ?_
        refine A_iload_n dX10_order_212 rfl rfl ?_
        refine A_iload_n dX10_order_213 rfl rfl ?_
        refine A_iadd dX10_order_214 ?_
        refine A_iconst (v := (-1)) dX10_order_215 rfl ?_
        obtain ⟨j50, qj50, bj50, h⟩ := h
        refine B_iast (j := j50) dX10_order_216 (by decide) rfl (okK62 (by omega)) qj50 bj50 (fun M51 eM51 => ?_)
        replace h := h M51 eM51
        refine A_aload_n dX10_order_217 rfl rfl ?_
        refine A_getR (c2 := 63) (i2 := 0) dX10_order_218 fX10_87 rfl (okK10 (by omega)) rfl ?_
        refine A_iload_n dX10_order_221 rfl rfl ?_
        refine A_iload_n dX10_order_222 rfl rfl ?_
        refine A_iadd dX10_order_223 ?_
        refine A_iconst (v := (-1)) dX10_order_224 rfl ?_
        obtain ⟨j52, qj52, bj52, h⟩ := h
        refine B_iast (j := j52) dX10_order_225 (by decide) rfl (okK63 (by omega)) qj52 bj52 (fun M53 eM53 => ?_)
        replace h := h M53 eM53
        refine A_aload_n dX10_order_226 rfl rfl ?_
        refine A_getR (c2 := 64) (i2 := 0) dX10_order_227 fX10_90 rfl (okK10 (by omega)) rfl ?_
        refine A_iload_n dX10_order_230 rfl rfl ?_
        refine A_iload_n dX10_order_231 rfl rfl ?_
        refine A_iadd dX10_order_232 ?_
        refine A_iconst (v := 0) dX10_order_233 rfl ?_
        obtain ⟨j54, qj54, bj54, h⟩ := h
        refine B_iast (j := j54) dX10_order_234 (by decide) rfl (okK64 (by omega)) qj54 bj54 (fun M55 eM55 => ?_)
        replace h := h M55 eM55
        refine A_aload_n dX10_order_235 rfl rfl ?_
        refine A_getR (c2 := 65) (i2 := 0) dX10_order_236 fX10_93 rfl (okK10 (by omega)) rfl ?_
        refine A_iload_n dX10_order_239 rfl rfl ?_
        refine A_iload_n dX10_order_240 rfl rfl ?_
        refine A_iadd dX10_order_241 ?_
        refine A_iconst (v := (-1)) dX10_order_242 rfl ?_
        obtain ⟨j56, qj56, bj56, h⟩ := h
        refine B_iast (j := j56) dX10_order_243 (by decide) rfl (okK65 (by omega)) qj56 bj56 (fun M57 eM57 => ?_)
        replace h := h M57 eM57
        refine A_aload_n dX10_order_244 rfl rfl ?_
        refine A_getR (c2 := 66) (i2 := 0) dX10_order_245 fX10_96 rfl (okK10 (by omega)) rfl ?_
        refine A_iload_n dX10_order_248 rfl rfl ?_
        refine A_iload_n dX10_order_249 rfl rfl ?_
        refine A_iadd dX10_order_250 ?_
        refine A_iconst (v := (-1)) dX10_order_251 rfl ?_
        obtain ⟨j58, qj58, bj58, h⟩ := h
        refine B_iast (j := j58) dX10_order_252 (by decide) rfl (okK66 (by omega)) qj58 bj58 (fun M59 eM59 => ?_)
        replace h := h M59 eM59
        refine A_aload_n dX10_order_253 rfl rfl ?_
        refine A_getR (c2 := 60) (i2 := 0) dX10_order_254 fX10_78 rfl (okK10 (by omega)) rfl ?_
        refine A_aload_n dX10_order_257 rfl rfl ?_
        refine A_getI dX10_order_258 fX10_178 rfl (okK10 (by omega)) ?_
        refine A_iload_n dX10_order_261 rfl rfl ?_
        refine A_iconst (v := 1) dX10_order_262 rfl ?_
        refine A_iadd dX10_order_263 ?_
        obtain ⟨j60, qj60, bj60, h⟩ := h
        refine B_iast (j := j60) dX10_order_264 (by decide) rfl (okK60 (by omega)) qj60 bj60 (fun M61 eM61 => ?_)
        replace h := h M61 eM61
        refine A_aload_n dX10_order_265 rfl rfl ?_
        refine A_dup dX10_order_266 rfl ?_
        refine A_getI dX10_order_267 fX10_178 rfl (okK10 (by omega)) ?_
        refine A_iconst (v := 1) dX10_order_270 rfl ?_
        refine A_iadd dX10_order_271 ?_
        refine B_putI dX10_order_272 fX10_178 (by decide) (okK10 (by omega)) (fun M62 eM62 => ?_)
        replace h := h M62 eM62
        refine A_aload_n dX10_order_275 rfl rfl ?_
        refine A_getI dX10_order_276 fX10_178 rfl (okK10 (by omega)) ?_
        refine A_iconst (v := 1) dX10_order_279 rfl ?_
        refine A_isub dX10_order_280 ?_
        exact A_iret dX10_order_281 ⟨rfl, _, rfl, h⟩
      · replace h := h.2 q
        refine A_bipush (v := (-100)) dX10_order_191 (by decide +kernel) ?_
        refine A_aload_n dX10_order_193 rfl rfl ?_
        refine A_getI dX10_order_194 fX10_306 rfl (okK10 (by omega)) ?_
        refine A_isub dX10_order_197 ?_
        exact A_iret dX10_order_198 ⟨rfl, _, rfl, h⟩
    · replace h := h.2 q
      refine A_aload_n dX10_order_173 rfl rfl ?_
      refine A_getI dX10_order_174 fX10_285 rfl (okK10 (by omega)) ?_
      refine B_if_eq (tgt := 184) dX10_order_177 (by decide) rfl ⟨fun q => ?_, fun q => ?_⟩
      · replace h := h.1 q
        refine A_aload_n dX10_order_184 rfl rfl ?_
        refine A_getI dX10_order_185 fX10_302 rfl (okK10 (by omega)) ?_
        refine B_if_eq (tgt := 199) dX10_order_188 (by decide) rfl ⟨fun q => ?_, fun q => ?_⟩
        · replace h := h.1 q
          refine A_aload_n dX10_order_199 rfl rfl ?_
          refine A_getR (c2 := 61) (i2 := 0) dX10_order_200 fX10_81 rfl (okK10 (by omega)) rfl ?_
          refine A_iload_n dX10_order_203 rfl rfl ?_
          refine A_iload_n dX10_order_204 rfl rfl ?_
          refine A_iadd dX10_order_205 ?_
          refine A_iconst (v := 5) dX10_order_206 rfl ?_
          obtain ⟨j63, qj63, bj63, h⟩ := h
          refine B_iast (j := j63) dX10_order_207 (by decide) rfl (okK61 (by omega)) qj63 bj63 (fun M64 eM64 => ?_)
          replace h := h M64 eM64
          refine A_aload_n dX10_order_208 rfl rfl ?_
          refine A_getR (c2 := 62) (i2 := 0) dX10_order_209 fX10_84 rfl (okK10 (by omega)) rfl ?_
          refine A_iload_n dX10_order_212 rfl rfl ?_
          refine A_iload_n dX10_order_213 rfl rfl ?_
          refine A_iadd dX10_order_214 ?_
          refine A_iconst (v := (-1)) dX10_order_215 rfl ?_
          obtain ⟨j65, qj65, bj65, h⟩ := h
          refine B_iast (j := j65) dX10_order_216 (by decide) rfl (okK62 (by omega)) qj65 bj65 (fun M66 eM66 => ?_)
          replace h := h M66 eM66
          refine A_aload_n dX10_order_217 rfl rfl ?_
          refine A_getR (c2 := 63) (i2 := 0) dX10_order_218 fX10_87 rfl (okK10 (by omega)) rfl ?_
          refine A_iload_n dX10_order_221 rfl rfl ?_
          refine A_iload_n dX10_order_222 rfl rfl ?_
          refine A_iadd dX10_order_223 ?_
          refine A_iconst (v := (-1)) dX10_order_224 rfl ?_
          obtain ⟨j67, qj67, bj67, h⟩ := h
          refine B_iast (j := j67) dX10_order_225 (by decide) rfl (okK63 (by omega)) qj67 bj67 (fun M68 eM68 => ?_)
          replace h := h M68 eM68
          refine A_aload_n dX10_order_226 rfl rfl ?_
          refine A_getR (c2 := 64) (i2 := 0) dX10_order_227 fX10_90 rfl (okK10 (by omega)) rfl ?_
          refine A_iload_n dX10_order_230 rfl rfl ?_
          refine A_iload_n dX10_order_231 rfl rfl ?_
          refine A_iadd dX10_order_232 ?_
          refine A_iconst (v := 0) dX10_order_233 rfl ?_
          obtain ⟨j69, qj69, bj69, h⟩ := h
          refine B_iast (j := j69) dX10_order_234 (by decide) rfl (okK64 (by omega)) qj69 bj69 (fun M70 eM70 => ?_)
          replace h := h M70 eM70
          refine A_aload_n dX10_order_235 rfl rfl ?_
          refine A_getR (c2 := 65) (i2 := 0) dX10_order_236 fX10_93 rfl (okK10 (by omega)) rfl ?_
          refine A_iload_n dX10_order_239 rfl rfl ?_
          refine A_iload_n dX10_order_240 rfl rfl ?_
          refine A_iadd dX10_order_241 ?_
          refine A_iconst (v := (-1)) dX10_order_242 rfl ?_
          obtain ⟨j71, qj71, bj71, h⟩ := h
          refine B_iast (j := j71) dX10_order_243 (by decide) rfl (okK65 (by omega)) qj71 bj71 (fun M72 eM72 => ?_)
          replace h := h M72 eM72
          refine A_aload_n dX10_order_244 rfl rfl ?_
          refine A_getR (c2 := 66) (i2 := 0) dX10_order_245 fX10_96 rfl (okK10 (by omega)) rfl ?_
          refine A_iload_n dX10_order_248 rfl rfl ?_
          refine A_iload_n dX10_order_249 rfl rfl ?_
          refine A_iadd dX10_order_250 ?_
          refine A_iconst (v := (-1)) dX10_order_251 rfl ?_
          obtain ⟨j73, qj73, bj73, h⟩ := h
          refine B_iast (j := j73) dX10_order_252 (by decide) rfl (okK66 (by omega)) qj73 bj73 (fun M74 eM74 => ?_)
          replace h := h M74 eM74
          refine A_aload_n dX10_order_253 rfl rfl ?_
          refine A_getR (c2 := 60) (i2 := 0) dX10_order_254 fX10_78 rfl (okK10 (by omega)) rfl ?_
          refine A_aload_n dX10_order_257 rfl rfl ?_
          refine A_getI dX10_order_258 fX10_178 rfl (okK10 (by omega)) ?_
          refine A_iload_n dX10_order_261 rfl rfl ?_
          refine A_iconst (v := 1) dX10_order_262 rfl ?_
          refine A_iadd dX10_order_263 ?_
          obtain ⟨j75, qj75, bj75, h⟩ := h
          refine B_iast (j := j75) dX10_order_264 (by decide) rfl (okK60 (by omega)) qj75 bj75 (fun M76 eM76 => ?_)
          replace h := h M76 eM76
          refine A_aload_n dX10_order_265 rfl rfl ?_
          refine A_dup dX10_order_266 rfl ?_
          refine A_getI dX10_order_267 fX10_178 rfl (okK10 (by omega)) ?_
          refine A_iconst (v := 1) dX10_order_270 rfl ?_
          refine A_iadd dX10_order_271 ?_
          refine B_putI dX10_order_272 fX10_178 (by decide) (okK10 (by omega)) (fun M77 eM77 => ?_)
          replace h := h M77 eM77
          refine A_aload_n dX10_order_275 rfl rfl ?_
          refine A_getI dX10_order_276 fX10_178 rfl (okK10 (by omega)) ?_
          refine A_iconst (v := 1) dX10_order_279 rfl ?_
          refine A_isub dX10_order_280 ?_
          exact A_iret dX10_order_281 ⟨rfl, _, rfl, h⟩
        · replace h := h.2 q
          refine A_bipush (v := (-100)) dX10_order_191 (by decide +kernel) ?_
          refine A_aload_n dX10_order_193 rfl rfl ?_
          refine A_getI dX10_order_194 fX10_306 rfl (okK10 (by omega)) ?_
          refine A_isub dX10_order_197 ?_
          exact A_iret dX10_order_198 ⟨rfl, _, rfl, h⟩
      · replace h := h.2 q
        refine A_aload_n dX10_order_180 rfl rfl ?_
        refine B_callV_V (av := []) rfl dX10_order_181 vX10_312 mX10_fail ⟨rfl, rfl, by decide⟩ (okK10 (by omega)) rfl (Nat.le_of_ble_eq_true rfl) (by decide) (by decide) rfl (BC_monoV h (fun N78 h => ?_))
        refine A_aload_n dX10_order_184 rfl rfl ?_
        refine A_getI dX10_order_185 fX10_302 rfl (okK10 (by omega)) ?_
        refine B_if_eq (tgt := 199) dX10_order_188 (by decide) rfl ⟨fun q => ?_, fun q => ?_⟩
        · replace h := h.1 q
          refine A_aload_n dX10_order_199 rfl rfl ?_
          refine A_getR (c2 := 61) (i2 := 0) dX10_order_200 fX10_81 rfl (okK10 (by omega)) rfl ?_
          refine A_iload_n dX10_order_203 rfl rfl ?_
          refine A_iload_n dX10_order_204 rfl rfl ?_
          refine A_iadd dX10_order_205 ?_
          refine A_iconst (v := 5) dX10_order_206 rfl ?_
          obtain ⟨j79, qj79, bj79, h⟩ := h
          refine B_iast (j := j79) dX10_order_207 (by decide) rfl (okK61 (by omega)) qj79 bj79 (fun M80 eM80 => ?_)
          replace h := h M80 eM80
          refine A_aload_n dX10_order_208 rfl rfl ?_
          refine A_getR (c2 := 62) (i2 := 0) dX10_order_209 fX10_84 rfl (okK10 (by omega)) rfl ?_
          refine A_iload_n dX10_order_212 rfl rfl ?_
          refine A_iload_n dX10_order_213 rfl rfl ?_
          refine A_iadd dX10_order_214 ?_
          refine A_iconst (v := (-1)) dX10_order_215 rfl ?_
          obtain ⟨j81, qj81, bj81, h⟩ := h
          refine B_iast (j := j81) dX10_order_216 (by decide) rfl (okK62 (by omega)) qj81 bj81 (fun M82 eM82 => ?_)
          replace h := h M82 eM82
          refine A_aload_n dX10_order_217 rfl rfl ?_
          refine A_getR (c2 := 63) (i2 := 0) dX10_order_218 fX10_87 rfl (okK10 (by omega)) rfl ?_
          refine A_iload_n dX10_order_221 rfl rfl ?_
          refine A_iload_n dX10_order_222 rfl rfl ?_
          refine A_iadd dX10_order_223 ?_
          refine A_iconst (v := (-1)) dX10_order_224 rfl ?_
          obtain ⟨j83, qj83, bj83, h⟩ := h
          refine B_iast (j := j83) dX10_order_225 (by decide) rfl (okK63 (by omega)) qj83 bj83 (fun M84 eM84 => ?_)
          replace h := h M84 eM84
          refine A_aload_n dX10_order_226 rfl rfl ?_
          refine A_getR (c2 := 64) (i2 := 0) dX10_order_227 fX10_90 rfl (okK10 (by omega)) rfl ?_
          refine A_iload_n dX10_order_230 rfl rfl ?_
          refine A_iload_n dX10_order_231 rfl rfl ?_
          refine A_iadd dX10_order_232 ?_
          refine A_iconst (v := 0) dX10_order_233 rfl ?_
          obtain ⟨j85, qj85, bj85, h⟩ := h
          refine B_iast (j := j85) dX10_order_234 (by decide) rfl (okK64 (by omega)) qj85 bj85 (fun M86 eM86 => ?_)
          replace h := h M86 eM86
          refine A_aload_n dX10_order_235 rfl rfl ?_
          refine A_getR (c2 := 65) (i2 := 0) dX10_order_236 fX10_93 rfl (okK10 (by omega)) rfl ?_
          refine A_iload_n dX10_order_239 rfl rfl ?_
          refine A_iload_n dX10_order_240 rfl rfl ?_
          refine A_iadd dX10_order_241 ?_
          refine A_iconst (v := (-1)) dX10_order_242 rfl ?_
          obtain ⟨j87, qj87, bj87, h⟩ := h
          refine B_iast (j := j87) dX10_order_243 (by decide) rfl (okK65 (by omega)) qj87 bj87 (fun M88 eM88 => ?_)
          replace h := h M88 eM88
          refine A_aload_n dX10_order_244 rfl rfl ?_
          refine A_getR (c2 := 66) (i2 := 0) dX10_order_245 fX10_96 rfl (okK10 (by omega)) rfl ?_
          refine A_iload_n dX10_order_248 rfl rfl ?_
          refine A_iload_n dX10_order_249 rfl rfl ?_
          refine A_iadd dX10_order_250 ?_
          refine A_iconst (v := (-1)) dX10_order_251 rfl ?_
          obtain ⟨j89, qj89, bj89, h⟩ := h
          refine B_iast (j := j89) dX10_order_252 (by decide) rfl (okK66 (by omega)) qj89 bj89 (fun M90 eM90 => ?_)
          replace h := h M90 eM90
          refine A_aload_n dX10_order_253 rfl rfl ?_
          refine A_getR (c2 := 60) (i2 := 0) dX10_order_254 fX10_78 rfl (okK10 (by omega)) rfl ?_
          refine A_aload_n dX10_order_257 rfl rfl ?_
          refine A_getI dX10_order_258 fX10_178 rfl (okK10 (by omega)) ?_
          refine A_iload_n dX10_order_261 rfl rfl ?_
          refine A_iconst (v := 1) dX10_order_262 rfl ?_
          refine A_iadd dX10_order_263 ?_
          obtain ⟨j91, qj91, bj91, h⟩ := h
          refine B_iast (j := j91) dX10_order_264 (by decide) rfl (okK60 (by omega)) qj91 bj91 (fun M92 eM92 => ?_)
          replace h := h M92 eM92
          refine A_aload_n dX10_order_265 rfl rfl ?_
          refine A_dup dX10_order_266 rfl ?_
          refine A_getI dX10_order_267 fX10_178 rfl (okK10 (by omega)) ?_
          refine A_iconst (v := 1) dX10_order_270 rfl ?_
          refine A_iadd dX10_order_271 ?_
          refine B_putI dX10_order_272 fX10_178 (by decide) (okK10 (by omega)) (fun M93 eM93 => ?_)
          replace h := h M93 eM93
          refine A_aload_n dX10_order_275 rfl rfl ?_
          refine A_getI dX10_order_276 fX10_178 rfl (okK10 (by omega)) ?_
          refine A_iconst (v := 1) dX10_order_279 rfl ?_
          refine A_isub dX10_order_280 ?_
          exact A_iret dX10_order_281 ⟨rfl, _, rfl, h⟩
        · replace h := h.2 q
          refine A_bipush (v := (-100)) dX10_order_191 (by decide +kernel) ?_
          refine A_aload_n dX10_order_193 rfl rfl ?_
          refine A_getI dX10_order_194 fX10_306 rfl (okK10 (by omega)) ?_
          refine A_isub dX10_order_197 ?_
          exact A_iret dX10_order_198 ⟨rfl, _, rfl, h⟩
set_option maxRecDepth 100000 in
set_option maxHeartbeats 4000000 in
theorem vc_X10_step {G : GT} {a1 : Int} {a2 : Int} {a3 : Int} {N : NN} {K : Int → NN → Prop}  (h : (C_X10_in G a1 0 ((N 10 0 45) - 1) N (fun x1 N1 => (((wI x1) = 0 → K ((-2)) N1) ∧ (¬ ((wI x1) = 0) → (∃ j2 : Nat, (wI a1) = (j2 : Int) ∧ j2 < 6 ∧ (C_X10_in G a2 ((-1)) ((N1 60 0 j2) - 1) N1 (fun x3 N3 => (((wI x3) = 0 → K ((-2)) N3) ∧ (¬ ((wI x3) = 0) → (C_X10_in G a3 0 5 N3 (fun x4 N4 => (((wI x4) ≠ 0 → ((0 ≤ (wI a2) → (((wI a3) = 0 → (∃ j5 : Nat, (wI ((10 * a1) + a2)) = (j5 : Int) ∧ j5 < 60 ∧ K (N4 61 0 j5) N4)) ∧ (((wI a3) = 1 → (∃ j6 : Nat, (wI ((10 * a1) + a2)) = (j6 : Int) ∧ j6 < 60 ∧ K (N4 62 0 j6) N4)) ∧ (((wI a3) = 2 → (∃ j7 : Nat, (wI ((10 * a1) + a2)) = (j7 : Int) ∧ j7 < 60 ∧ K (N4 63 0 j7) N4)) ∧ (((wI a3) = 3 → (∃ j8 : Nat, (wI ((10 * a1) + a2)) = (j8 : Int) ∧ j8 < 60 ∧ K (N4 64 0 j8) N4)) ∧ (((wI a3) = 4 → (∃ j9 : Nat, (wI ((10 * a1) + a2)) = (j9 : Int) ∧ j9 < 60 ∧ K (N4 65 0 j9) N4)) ∧ ((wI a3) < 0 ∨ 4 < (wI a3) → (∃ j10 : Nat, (wI ((10 * a1) + a2)) = (j10 : Int) ∧ j10 < 60 ∧ K (N4 66 0 j10) N4)))))))) ∧ (¬ (0 ≤ (wI a2)) → (∃ j11 : Nat, (wI a1) = (j11 : Int) ∧ j11 < 6 ∧ K (N4 60 0 j11) N4)))) ∧ (¬ ((wI x4) ≠ 0) → K ((-2)) N4)))))))))))))) : C_X10_step G a1 a2 a3 N K := by
  refine Ctr.ofAW RX10 false rfl (by decide +kernel) (fun q => by cases q) (Nat.le_of_ble_eq_true rfl) (Nat.le_refl _) ?_
  refine A_iload_n dX10_step_0 rfl rfl ?_
  refine A_iconst (v := 0) dX10_step_1 rfl ?_
  refine A_aload_n dX10_step_2 rfl rfl ?_
  refine A_getI dX10_step_3 fX10_178 rfl (okK10 (by omega)) ?_
  refine A_iconst (v := 1) dX10_step_6 rfl ?_
  refine A_isub dX10_step_7 ?_
  refine B_callS_I (av := [vI a1, vI 0, vI ((N 10 0 45) - 1)]) rfl dX10_step_8 vX10_186 mX10_in rfl (Nat.le_of_ble_eq_true rfl) (by decide) (by decide) rfl (BC_monoI h (fun x1 N1 h => ?_))
  refine B_if_eq (tgt := 39) dX10_step_11 (by decide) rfl ⟨fun q => ?_, fun q => ?_⟩
  · replace h := h.1 q
    refine A_bipush (v := (-2)) dX10_step_39 (by decide +kernel) ?_
    exact A_iret dX10_step_41 ⟨rfl, _, rfl, h⟩
  · replace h := h.2 q
    refine A_iload_n dX10_step_14 rfl rfl ?_
    refine A_iconst (v := (-1)) dX10_step_15 rfl ?_
    refine A_aload_n dX10_step_16 rfl rfl ?_
    refine A_getR (c2 := 60) (i2 := 0) dX10_step_17 fX10_78 rfl (okK10 (by omega)) rfl ?_
    refine A_iload_n dX10_step_20 rfl rfl ?_
    obtain ⟨j2, qj2, bj2, h⟩ := h
    refine A_iald (j := j2) dX10_step_21 (by decide) rfl (okK60 (by omega)) qj2 bj2 ?_
    refine A_iconst (v := 1) dX10_step_22 rfl ?_
    refine A_isub dX10_step_23 ?_
    refine B_callS_I (av := [vI a2, vI ((-1)), vI ((N1 60 0 j2) - 1)]) rfl dX10_step_24 vX10_186 mX10_in rfl (Nat.le_of_ble_eq_true rfl) (by decide) (by decide) rfl (BC_monoI h (fun x3 N3 h => ?_))
    refine B_if_eq (tgt := 39) dX10_step_27 (by decide) rfl ⟨fun q => ?_, fun q => ?_⟩
    · replace h := h.1 q
      refine A_bipush (v := (-2)) dX10_step_39 (by decide +kernel) ?_
      exact A_iret dX10_step_41 ⟨rfl, _, rfl, h⟩
    · replace h := h.2 q
      refine A_iload_n dX10_step_30 rfl rfl ?_
      refine A_iconst (v := 0) dX10_step_31 rfl ?_
      refine A_iconst (v := 5) dX10_step_32 rfl ?_
      refine B_callS_I (av := [vI a3, vI 0, vI 5]) rfl dX10_step_33 vX10_186 mX10_in rfl (Nat.le_of_ble_eq_true rfl) (by decide) (by decide) rfl (BC_monoI h (fun x4 N4 h => ?_))
      refine B_if_ne (tgt := 42) dX10_step_36 (by decide) rfl ⟨fun q => ?_, fun q => ?_⟩
      · replace h := h.1 q
        refine A_iload_n dX10_step_42 rfl rfl ?_
        refine B_if_ge (tgt := 53) dX10_step_43 (by decide) rfl ⟨fun q => ?_, fun q => ?_⟩
        · replace h := h.1 q
          refine A_bipush (v := 10) dX10_step_53 (by decide +kernel) ?_
          refine A_iload_n dX10_step_55 rfl rfl ?_
          refine A_imul dX10_step_56 ?_
          refine A_iload_n dX10_step_57 rfl rfl ?_
          refine A_iadd dX10_step_58 ?_
          refine A_istore (ls' := [(4, _), (0, _), (1, _), (2, _), (3, _)]) dX10_step_59 (by decide) rfl ?_
          refine A_iload_n dX10_step_61 rfl rfl ?_
          by_cases q62_0 : wI a3 = 0
          · replace h := h.1 q62_0
            refine A_tableIn (tgt := 96) dX10_step_62 q62_0 (by decide) rfl (by decide) ?_
            refine A_aload_n dX10_step_96 rfl rfl ?_
            refine A_getR (c2 := 61) (i2 := 0) dX10_step_97 fX10_81 rfl (okK10 (by omega)) rfl ?_
            refine A_iload dX10_step_100 rfl ?_
            obtain ⟨j5, qj5, bj5, h⟩ := h
            refine A_iald (j := j5) dX10_step_102 (by decide) rfl (okK61 (by omega)) qj5 bj5 ?_
            exact A_iret dX10_step_103 ⟨rfl, _, rfl, h⟩
          replace h := h.2
          by_cases q62_1 : wI a3 = 1
          · replace h := h.1 q62_1
            refine A_tableIn (tgt := 104) dX10_step_62 q62_1 (by decide) rfl (by decide) ?_
            refine A_aload_n dX10_step_104 rfl rfl ?_
            refine A_getR (c2 := 62) (i2 := 0) dX10_step_105 fX10_84 rfl (okK10 (by omega)) rfl ?_
            refine A_iload dX10_step_108 rfl ?_
            obtain ⟨j6, qj6, bj6, h⟩ := h
            refine A_iald (j := j6) dX10_step_110 (by decide) rfl (okK62 (by omega)) qj6 bj6 ?_
            exact A_iret dX10_step_111 ⟨rfl, _, rfl, h⟩
          replace h := h.2
          by_cases q62_2 : wI a3 = 2
          · replace h := h.1 q62_2
            refine A_tableIn (tgt := 112) dX10_step_62 q62_2 (by decide) rfl (by decide) ?_
            refine A_aload_n dX10_step_112 rfl rfl ?_
            refine A_getR (c2 := 63) (i2 := 0) dX10_step_113 fX10_87 rfl (okK10 (by omega)) rfl ?_
            refine A_iload dX10_step_116 rfl ?_
            obtain ⟨j7, qj7, bj7, h⟩ := h
            refine A_iald (j := j7) dX10_step_118 (by decide) rfl (okK63 (by omega)) qj7 bj7 ?_
            exact A_iret dX10_step_119 ⟨rfl, _, rfl, h⟩
          replace h := h.2
          by_cases q62_3 : wI a3 = 3
          · replace h := h.1 q62_3
            refine A_tableIn (tgt := 120) dX10_step_62 q62_3 (by decide) rfl (by decide) ?_
            refine A_aload_n dX10_step_120 rfl rfl ?_
            refine A_getR (c2 := 64) (i2 := 0) dX10_step_121 fX10_90 rfl (okK10 (by omega)) rfl ?_
            refine A_iload dX10_step_124 rfl ?_
            obtain ⟨j8, qj8, bj8, h⟩ := h
            refine A_iald (j := j8) dX10_step_126 (by decide) rfl (okK64 (by omega)) qj8 bj8 ?_
            exact A_iret dX10_step_127 ⟨rfl, _, rfl, h⟩
          replace h := h.2
          by_cases q62_4 : wI a3 = 4
          · replace h := h.1 q62_4
            refine A_tableIn (tgt := 128) dX10_step_62 q62_4 (by decide) rfl (by decide) ?_
            refine A_aload_n dX10_step_128 rfl rfl ?_
            refine A_getR (c2 := 65) (i2 := 0) dX10_step_129 fX10_93 rfl (okK10 (by omega)) rfl ?_
            refine A_iload dX10_step_132 rfl ?_
            obtain ⟨j9, qj9, bj9, h⟩ := h
            refine A_iald (j := j9) dX10_step_134 (by decide) rfl (okK65 (by omega)) qj9 bj9 ?_
            exact A_iret dX10_step_135 ⟨rfl, _, rfl, h⟩
          replace h := h.2
          replace h := h (by omega)
          refine A_tableOut (tgt := 136) dX10_step_62 (by omega) (by decide) ?_
          refine A_aload_n dX10_step_136 rfl rfl ?_
          refine A_getR (c2 := 66) (i2 := 0) dX10_step_137 fX10_96 rfl (okK10 (by omega)) rfl ?_
          refine A_iload dX10_step_140 rfl ?_
          obtain ⟨j10, qj10, bj10, h⟩ := h
          refine A_iald (j := j10) dX10_step_142 (by decide) rfl (okK66 (by omega)) qj10 bj10 ?_
          exact A_iret dX10_step_143 ⟨rfl, _, rfl, h⟩
        · replace h := h.2 q
          refine A_aload_n dX10_step_46 rfl rfl ?_
          refine A_getR (c2 := 60) (i2 := 0) dX10_step_47 fX10_78 rfl (okK10 (by omega)) rfl ?_
          refine A_iload_n dX10_step_50 rfl rfl ?_
          obtain ⟨j11, qj11, bj11, h⟩ := h
          refine A_iald (j := j11) dX10_step_51 (by decide) rfl (okK60 (by omega)) qj11 bj11 ?_
          exact A_iret dX10_step_52 ⟨rfl, _, rfl, h⟩
      · replace h := h.2 q
        refine A_bipush (v := (-2)) dX10_step_39 (by decide +kernel) ?_
        exact A_iret dX10_step_41 ⟨rfl, _, rfl, h⟩
set_option maxRecDepth 100000 in
set_option maxHeartbeats 4000000 in
theorem vc_X10_paper {G : GT} {a1 : Int} {a2 : Int} {N : NN} {K : Int → NN → Prop}  (h : (C_X10_in G a1 1 9999999 N (fun x1 N1 => (((wI x1) = 0 → K ((-2)) N1) ∧ (¬ ((wI x1) = 0) → (C_X10_in G a2 0 200 N1 (fun x2 N2 => (((wI x2) ≠ 0 → (((wI (N2 10 0 1)) ≤ 0 → (((wI (N2 10 0 53)) ≠ 5 → (∃ j3 : Nat, (wI (N2 10 0 53)) = (j3 : Int) ∧ j3 < 5 ∧ (∀ M4 : NN, M4 = up3 N2 67 0 j3 ((wI a1)) → (∃ j5 : Nat, (wI (M4 10 0 53)) = (j5 : Int) ∧ j5 < 5 ∧ (∀ M6 : NN, M6 = up3 M4 68 0 j5 a2 → (∃ j7 : Nat, (wI (M6 10 0 53)) = (j7 : Int) ∧ j7 < 5 ∧ (∀ M8 : NN, M8 = up3 M6 69 0 j7 ((wI a1)) → (∀ M9 : NN, M9 = up3 M8 10 0 53 ((M8 10 0 53) + 1) → K ((M9 10 0 53) - 1) M9)))))))) ∧ (¬ ((wI (N2 10 0 53)) ≠ 5) → K ((-4)) N2))) ∧ (¬ ((wI (N2 10 0 1)) ≤ 0) → K ((-3)) N2))) ∧ (¬ ((wI x2) ≠ 0) → K ((-2)) N2))))))))) : C_X10_paper G a1 a2 N K := by
  refine Ctr.ofAW RX10 false rfl (by decide +kernel) (fun q => by cases q) (Nat.le_of_ble_eq_true rfl) (Nat.le_refl _) ?_
  refine A_iload_n dX10_paper_0 rfl rfl ?_
  refine A_iconst (v := 1) dX10_paper_1 rfl ?_
  refine A_ldc_w (x := 9999999) dX10_paper_2 kX10_443 (by decide +kernel) ?_
  refine B_callS_I (av := [vI a1, vI 1, vI 9999999]) rfl dX10_paper_5 vX10_186 mX10_in rfl (Nat.le_of_ble_eq_true rfl) (by decide) (by decide) rfl (BC_monoI h (fun x1 N1 h => ?_))
  refine B_if_eq (tgt := 22) dX10_paper_8 (by decide) rfl ⟨fun q => ?_, fun q => ?_⟩
  · replace h := h.1 q
    refine A_bipush (v := (-2)) dX10_paper_22 (by decide +kernel) ?_
    exact A_iret dX10_paper_24 ⟨rfl, _, rfl, h⟩
  · replace h := h.2 q
    refine A_iload_n dX10_paper_11 rfl rfl ?_
    refine A_iconst (v := 0) dX10_paper_12 rfl ?_
    refine A_sipush (v := 200) dX10_paper_13 (by decide +kernel) ?_
    refine B_callS_I (av := [vI a2, vI 0, vI 200]) rfl dX10_paper_16 vX10_186 mX10_in rfl (Nat.le_of_ble_eq_true rfl) (by decide) (by decide) rfl (BC_monoI h (fun x2 N2 h => ?_))
    refine B_if_ne (tgt := 25) dX10_paper_19 (by decide) rfl ⟨fun q => ?_, fun q => ?_⟩
    · replace h := h.1 q
      refine A_aload_n dX10_paper_25 rfl rfl ?_
      refine A_getI dX10_paper_26 fX10_195 rfl (okK10 (by omega)) ?_
      refine B_if_le (tgt := 35) dX10_paper_29 (by decide) rfl ⟨fun q => ?_, fun q => ?_⟩
      · replace h := h.1 q
        refine A_aload_n dX10_paper_35 rfl rfl ?_
        refine A_getI dX10_paper_36 fX10_444 rfl (okK10 (by omega)) ?_
        refine A_iconst (v := 5) dX10_paper_39 rfl ?_
        refine B_icmp_ne (tgt := 46) dX10_paper_40 (by decide) rfl (wlitI (by decide) (by decide)) ⟨fun q => ?_, fun q => ?_⟩
        · replace h := h.1 q
          refine A_aload_n dX10_paper_46 rfl rfl ?_
          refine A_getR (c2 := 67) (i2 := 0) dX10_paper_47 fX10_99 rfl (okK10 (by omega)) rfl ?_
          refine A_aload_n dX10_paper_50 rfl rfl ?_
          refine A_getI dX10_paper_51 fX10_444 rfl (okK10 (by omega)) ?_
          refine A_iload_n dX10_paper_54 rfl rfl ?_
          refine B_i2l dX10_paper_55 rfl ?_
          obtain ⟨j3, qj3, bj3, h⟩ := h
          refine B_last (j := j3) dX10_paper_56 (by decide) rfl (okK67 (by omega)) qj3 bj3 (fun M4 eM4 => ?_)
          replace h := h M4 eM4
          refine A_aload_n dX10_paper_57 rfl rfl ?_
          refine A_getR (c2 := 68) (i2 := 0) dX10_paper_58 fX10_102 rfl (okK10 (by omega)) rfl ?_
          refine A_aload_n dX10_paper_61 rfl rfl ?_
          refine A_getI dX10_paper_62 fX10_444 rfl (okK10 (by omega)) ?_
          refine A_iload_n dX10_paper_65 rfl rfl ?_
          obtain ⟨j5, qj5, bj5, h⟩ := h
          refine B_iast (j := j5) dX10_paper_66 (by decide) rfl (okK68 (by omega)) qj5 bj5 (fun M6 eM6 => ?_)
          replace h := h M6 eM6
          refine A_aload_n dX10_paper_67 rfl rfl ?_
          refine A_getR (c2 := 69) (i2 := 0) dX10_paper_68 fX10_105 rfl (okK10 (by omega)) rfl ?_
          refine A_aload_n dX10_paper_71 rfl rfl ?_
          refine A_getI dX10_paper_72 fX10_444 rfl (okK10 (by omega)) ?_
          refine A_iload_n dX10_paper_75 rfl rfl ?_
          refine B_i2l dX10_paper_76 rfl ?_
          obtain ⟨j7, qj7, bj7, h⟩ := h
          refine B_last (j := j7) dX10_paper_77 (by decide) rfl (okK69 (by omega)) qj7 bj7 (fun M8 eM8 => ?_)
          replace h := h M8 eM8
          refine A_aload_n dX10_paper_78 rfl rfl ?_
          refine A_dup dX10_paper_79 rfl ?_
          refine A_getI dX10_paper_80 fX10_444 rfl (okK10 (by omega)) ?_
          refine A_iconst (v := 1) dX10_paper_83 rfl ?_
          refine A_iadd dX10_paper_84 ?_
          refine B_putI dX10_paper_85 fX10_444 (by decide) (okK10 (by omega)) (fun M9 eM9 => ?_)
          replace h := h M9 eM9
          refine A_aload_n dX10_paper_88 rfl rfl ?_
          refine A_getI dX10_paper_89 fX10_444 rfl (okK10 (by omega)) ?_
          refine A_iconst (v := 1) dX10_paper_92 rfl ?_
          refine A_isub dX10_paper_93 ?_
          exact A_iret dX10_paper_94 ⟨rfl, _, rfl, h⟩
        · replace h := h.2 q
          refine A_bipush (v := (-4)) dX10_paper_43 (by decide +kernel) ?_
          exact A_iret dX10_paper_45 ⟨rfl, _, rfl, h⟩
      · replace h := h.2 q
        refine A_bipush (v := (-3)) dX10_paper_32 (by decide +kernel) ?_
        exact A_iret dX10_paper_34 ⟨rfl, _, rfl, h⟩
    · replace h := h.2 q
      refine A_bipush (v := (-2)) dX10_paper_22 (by decide +kernel) ?_
      exact A_iret dX10_paper_24 ⟨rfl, _, rfl, h⟩
set_option maxRecDepth 100000 in
set_option maxHeartbeats 4000000 in
theorem vc_X10_isPaper {G : GT} {a1 : Int} {N : NN} {K : Int → NN → Prop}  (h : (C_X10_in G a1 0 ((N 10 0 53) - 1) N (fun x1 N1 => ((x1 = 0 ∨ x1 = 1) ∧ K x1 N1)))) : C_X10_isPaper G a1 N K := by
  refine Ctr.ofAW RX10 false rfl (by decide +kernel) (fun q => by cases q) (Nat.le_of_ble_eq_true rfl) (Nat.le_refl _) ?_
  refine A_iload_n dX10_isPaper_0 rfl rfl ?_
  refine A_iconst (v := 0) dX10_isPaper_1 rfl ?_
  refine A_aload_n dX10_isPaper_2 rfl rfl ?_
  refine A_getI dX10_isPaper_3 fX10_444 rfl (okK10 (by omega)) ?_
  refine A_iconst (v := 1) dX10_isPaper_6 rfl ?_
  refine A_isub dX10_isPaper_7 ?_
  refine B_callS_I (av := [vI a1, vI 0, vI ((N 10 0 53) - 1)]) rfl dX10_isPaper_8 vX10_186 mX10_in rfl (Nat.le_of_ble_eq_true rfl) (by decide) (by decide) rfl (BC_monoI h (fun x1 N1 h => ?_))
  exact A_zret dX10_isPaper_11 h.1 ⟨rfl, _, rfl, h.2⟩
set_option maxRecDepth 100000 in
set_option maxHeartbeats 4000000 in
theorem vc_X10_paperTold {G : GT} {a1 : Int} {a2 : Int} {N : NN} {K : Int → NN → Prop}  (h : (C_X10_isPaper G a1 N (fun x1 N1 => (((wI x1) ≠ 0 → (((wI a2) = 0 → (∃ j2 : Nat, (wI a1) = (j2 : Int) ∧ j2 < 5 ∧ K (N1 69 0 j2) N1)) ∧ (((wI a2) = 1 → (∃ j3 : Nat, (wI a1) = (j3 : Int) ∧ j3 < 5 ∧ K (N1 68 0 j3) N1)) ∧ (((wI a2) = 2 → (∃ j4 : Nat, (wI a1) = (j4 : Int) ∧ j4 < 5 ∧ K (N1 70 0 j4) N1)) ∧ (((wI a2) = 3 → (∃ j5 : Nat, (wI a1) = (j5 : Int) ∧ j5 < 5 ∧ K (N1 71 0 j5) N1)) ∧ (((wI a2) = 4 → (∃ j6 : Nat, (wI a1) = (j6 : Int) ∧ j6 < 5 ∧ K (N1 72 0 j6) N1)) ∧ (((wI a2) = 5 → (∃ j7 : Nat, (wI a1) = (j7 : Int) ∧ j7 < 5 ∧ K (N1 74 0 j7) N1)) ∧ ((wI a2) < 0 ∨ 5 < (wI a2) → K ((-2)) N1)))))))) ∧ (¬ ((wI x1) ≠ 0) → K ((-2)) N1))))) : C_X10_paperTold G a1 a2 N K := by
  refine Ctr.ofAW RX10 false rfl (by decide +kernel) (fun q => by cases q) (Nat.le_of_ble_eq_true rfl) (Nat.le_refl _) ?_
  refine A_aload_n dX10_paperTold_0 rfl rfl ?_
  refine A_iload_n dX10_paperTold_1 rfl rfl ?_
  refine B_callV_I (av := [vI a1]) rfl dX10_paperTold_2 vX10_447 mX10_isPaper ⟨rfl, rfl, by decide⟩ (okK10 (by omega)) rfl (Nat.le_of_ble_eq_true rfl) (by decide) (by decide) rfl (BC_monoI h (fun x1 N1 h => ?_))
  refine B_if_ne (tgt := 11) dX10_paperTold_5 (by decide) rfl ⟨fun q => ?_, fun q => ?_⟩
  · replace h := h.1 q
    refine A_iload_n dX10_paperTold_11 rfl rfl ?_
    by_cases q12_0 : wI a2 = 0
    · replace h := h.1 q12_0
      refine A_tableIn (tgt := 52) dX10_paperTold_12 q12_0 (by decide) rfl (by decide) ?_
      refine A_aload_n dX10_paperTold_52 rfl rfl ?_
      refine A_getR (c2 := 69) (i2 := 0) dX10_paperTold_53 fX10_105 rfl (okK10 (by omega)) rfl ?_
      refine A_iload_n dX10_paperTold_56 rfl rfl ?_
      obtain ⟨j2, qj2, bj2, h⟩ := h
      refine A_lald (j := j2) dX10_paperTold_57 (by decide) rfl (okK69 (by omega)) qj2 bj2 ?_
      refine A_l2i dX10_paperTold_58 ?_
      exact A_iret dX10_paperTold_59 ⟨rfl, _, rfl, h⟩
    replace h := h.2
    by_cases q12_1 : wI a2 = 1
    · replace h := h.1 q12_1
      refine A_tableIn (tgt := 60) dX10_paperTold_12 q12_1 (by decide) rfl (by decide) ?_
      refine A_aload_n dX10_paperTold_60 rfl rfl ?_
      refine A_getR (c2 := 68) (i2 := 0) dX10_paperTold_61 fX10_102 rfl (okK10 (by omega)) rfl ?_
      refine A_iload_n dX10_paperTold_64 rfl rfl ?_
      obtain ⟨j3, qj3, bj3, h⟩ := h
      refine A_iald (j := j3) dX10_paperTold_65 (by decide) rfl (okK68 (by omega)) qj3 bj3 ?_
      exact A_iret dX10_paperTold_66 ⟨rfl, _, rfl, h⟩
    replace h := h.2
    by_cases q12_2 : wI a2 = 2
    · replace h := h.1 q12_2
      refine A_tableIn (tgt := 67) dX10_paperTold_12 q12_2 (by decide) rfl (by decide) ?_
      refine A_aload_n dX10_paperTold_67 rfl rfl ?_
      refine A_getR (c2 := 70) (i2 := 0) dX10_paperTold_68 fX10_108 rfl (okK10 (by omega)) rfl ?_
      refine A_iload_n dX10_paperTold_71 rfl rfl ?_
      obtain ⟨j4, qj4, bj4, h⟩ := h
      refine A_lald (j := j4) dX10_paperTold_72 (by decide) rfl (okK70 (by omega)) qj4 bj4 ?_
      refine A_l2i dX10_paperTold_73 ?_
      exact A_iret dX10_paperTold_74 ⟨rfl, _, rfl, h⟩
    replace h := h.2
    by_cases q12_3 : wI a2 = 3
    · replace h := h.1 q12_3
      refine A_tableIn (tgt := 75) dX10_paperTold_12 q12_3 (by decide) rfl (by decide) ?_
      refine A_aload_n dX10_paperTold_75 rfl rfl ?_
      refine A_getR (c2 := 71) (i2 := 0) dX10_paperTold_76 fX10_111 rfl (okK10 (by omega)) rfl ?_
      refine A_iload_n dX10_paperTold_79 rfl rfl ?_
      obtain ⟨j5, qj5, bj5, h⟩ := h
      refine A_lald (j := j5) dX10_paperTold_80 (by decide) rfl (okK71 (by omega)) qj5 bj5 ?_
      refine A_l2i dX10_paperTold_81 ?_
      exact A_iret dX10_paperTold_82 ⟨rfl, _, rfl, h⟩
    replace h := h.2
    by_cases q12_4 : wI a2 = 4
    · replace h := h.1 q12_4
      refine A_tableIn (tgt := 83) dX10_paperTold_12 q12_4 (by decide) rfl (by decide) ?_
      refine A_aload_n dX10_paperTold_83 rfl rfl ?_
      refine A_getR (c2 := 72) (i2 := 0) dX10_paperTold_84 fX10_114 rfl (okK10 (by omega)) rfl ?_
      refine A_iload_n dX10_paperTold_87 rfl rfl ?_
      obtain ⟨j6, qj6, bj6, h⟩ := h
      refine A_lald (j := j6) dX10_paperTold_88 (by decide) rfl (okK72 (by omega)) qj6 bj6 ?_
      refine A_l2i dX10_paperTold_89 ?_
      exact A_iret dX10_paperTold_90 ⟨rfl, _, rfl, h⟩
    replace h := h.2
    by_cases q12_5 : wI a2 = 5
    · replace h := h.1 q12_5
      refine A_tableIn (tgt := 91) dX10_paperTold_12 q12_5 (by decide) rfl (by decide) ?_
      refine A_aload_n dX10_paperTold_91 rfl rfl ?_
      refine A_getR (c2 := 74) (i2 := 0) dX10_paperTold_92 fX10_120 rfl (okK10 (by omega)) rfl ?_
      refine A_iload_n dX10_paperTold_95 rfl rfl ?_
      obtain ⟨j7, qj7, bj7, h⟩ := h
      refine A_lald (j := j7) dX10_paperTold_96 (by decide) rfl (okK74 (by omega)) qj7 bj7 ?_
      refine A_l2i dX10_paperTold_97 ?_
      exact A_iret dX10_paperTold_98 ⟨rfl, _, rfl, h⟩
    replace h := h.2
    replace h := h (by omega)
    refine A_tableOut (tgt := 99) dX10_paperTold_12 (by omega) (by decide) ?_
    refine A_bipush (v := (-2)) dX10_paperTold_99 (by decide +kernel) ?_
    exact A_iret dX10_paperTold_101 ⟨rfl, _, rfl, h⟩
  · replace h := h.2 q
    refine A_bipush (v := (-2)) dX10_paperTold_8 (by decide +kernel) ?_
    exact A_iret dX10_paperTold_10 ⟨rfl, _, rfl, h⟩
set_option maxRecDepth 100000 in
set_option maxHeartbeats 4000000 in
theorem vc_X10_divisor {G : GT} {a0 : Int} {a1 : Int} {N : NN} {K : Int → NN → Prop}  (h : W_X10_divisor G K 6 [(4, vL a0), (6, vL a1)] [] N) : C_X10_divisor G a0 a1 N K := by
  refine Ctr.ofAW RX10 false rfl (by decide +kernel) (fun q => by cases q) (Nat.le_of_ble_eq_true rfl) (Nat.le_refl _) ?_
  refine A_lload_n dX10_divisor_0 rfl rfl ?_
  refine A_lstore (ls' := [(4, _), (0, _), (2, _)]) dX10_divisor_1 (by decide) rfl ?_
  refine A_lload_n dX10_divisor_3 rfl rfl ?_
  refine A_lstore (ls' := [(6, _), (4, _), (0, _), (2, _)]) dX10_divisor_4 (by decide) rfl ?_
  exact A_pick [1, 0] rfl h
set_option maxRecDepth 100000 in
set_option maxHeartbeats 4000000 in
theorem vc_X10_divisor_6 {G : GT} {l4 : Int} {l6 : Int} {N : NN} {K : Int → NN → Prop}  (h : (((wL l6) = 0 → K l4 N) ∧ (¬ ((wL l6) = 0) → ((wL l6) ≠ 0 ∧ W_X10_divisor G K 6 [(4, vL l6), (6, vL (((wL l4)).tmod ((wL l6))))] [] N)))) : W_X10_divisor G K 6 [(4, vL l4), (6, vL l6)] [] N := by
  refine A_lload dX10_divisor_6 rfl ?_
  refine A_lconst (v := 0) dX10_divisor_8 (by decide +kernel) ?_
  refine B_lcmp_eq (tgt := 31) dX10_divisor_9 rfl dX10_divisor_10 (by decide) rfl (wlitL (by decide) (by decide)) ⟨fun q => ?_, fun q => ?_⟩
  · replace h := h.1 q
    refine A_lload dX10_divisor_31 rfl ?_
    exact A_lret dX10_divisor_33 ⟨rfl, _, rfl, h⟩
  · replace h := h.2 q
    refine A_lload dX10_divisor_13 rfl ?_
    refine A_lload dX10_divisor_15 rfl ?_
    refine B_lrem dX10_divisor_17 rfl rfl h.1 ?_
    replace h := h.2
    refine A_lstore (ls' := [(8, _), (4, _), (6, _)]) dX10_divisor_18 (by decide) rfl ?_
    refine A_lload dX10_divisor_20 rfl ?_
    refine A_lstore (ls' := [(4, _), (8, _), (6, _)]) dX10_divisor_22 (by decide) rfl ?_
    refine A_lload dX10_divisor_24 rfl ?_
    refine A_lstore (ls' := [(6, _), (4, _), (8, _)]) dX10_divisor_26 (by decide) rfl ?_
    refine A_goto (tgt := 6) dX10_divisor_28 (by decide) ?_
    exact A_pick [1, 0] rfl h
set_option maxRecDepth 100000 in
set_option maxHeartbeats 4000000 in
theorem vc_X10_life {G : GT} {a1 : Int} {a2 : Int} {N : NN} {K : Int → NN → Prop}  (h : (C_X10_isPaper G a1 N (fun x1 N1 => (((wI x1) = 0 → K ((-4611686018427387904)) N1) ∧ (¬ ((wI x1) = 0) → (C_X10_in G a2 0 1 N1 (fun x2 N2 => (((wI x2) ≠ 0 → (∃ j3 : Nat, (wI a1) = (j3 : Int) ∧ j3 < 5 ∧ (((wL (N2 72 0 j3)) ≠ 0 → (∃ j4 : Nat, (wI a1) = (j4 : Int) ∧ j4 < 5 ∧ (∃ j5 : Nat, (wI a1) = (j5 : Int) ∧ j5 < 5 ∧ (C_X10_divisor G (N2 73 0 j4) (N2 72 0 j5) N2 (fun x6 N6 => (((wI a2) ≠ 0 → (∃ j7 : Nat, (wI a1) = (j7 : Int) ∧ j7 < 5 ∧ ((wL x6) ≠ 0 ∧ K (((wL (N6 72 0 j7))).tdiv ((wL x6))) N6))) ∧ (¬ ((wI a2) ≠ 0) → (∃ j8 : Nat, (wI a1) = (j8 : Int) ∧ j8 < 5 ∧ ((wL x6) ≠ 0 ∧ K (((wL (N6 73 0 j8))).tdiv ((wL x6))) N6))))))))) ∧ (¬ ((wL (N2 72 0 j3)) ≠ 0) → K ((wI a2)) N2)))) ∧ (¬ ((wI x2) ≠ 0) → K ((-4611686018427387904)) N2))))))))) : C_X10_life G a1 a2 N K := by
  refine Ctr.ofAW RX10 false rfl (by decide +kernel) (fun q => by cases q) (Nat.le_of_ble_eq_true rfl) (Nat.le_refl _) ?_
  refine A_aload_n dX10_life_0 rfl rfl ?_
  refine A_iload_n dX10_life_1 rfl rfl ?_
  refine B_callV_I (av := [vI a1]) rfl dX10_life_2 vX10_447 mX10_isPaper ⟨rfl, rfl, by decide⟩ (okK10 (by omega)) rfl (Nat.le_of_ble_eq_true rfl) (by decide) (by decide) rfl (BC_monoI h (fun x1 N1 h => ?_))
  refine B_if_eq (tgt := 17) dX10_life_5 (by decide) rfl ⟨fun q => ?_, fun q => ?_⟩
  · replace h := h.1 q
    refine A_ldc2 (x := (-4611686018427387904)) dX10_life_17 kX10_406 (by decide +kernel) ?_
    exact A_lret dX10_life_20 ⟨rfl, _, rfl, h⟩
  · replace h := h.2 q
    refine A_iload_n dX10_life_8 rfl rfl ?_
    refine A_iconst (v := 0) dX10_life_9 rfl ?_
    refine A_iconst (v := 1) dX10_life_10 rfl ?_
    refine B_callS_I (av := [vI a2, vI 0, vI 1]) rfl dX10_life_11 vX10_186 mX10_in rfl (Nat.le_of_ble_eq_true rfl) (by decide) (by decide) rfl (BC_monoI h (fun x2 N2 h => ?_))
    refine B_if_ne (tgt := 21) dX10_life_14 (by decide) rfl ⟨fun q => ?_, fun q => ?_⟩
    · replace h := h.1 q
      refine A_aload_n dX10_life_21 rfl rfl ?_
      refine A_getR (c2 := 72) (i2 := 0) dX10_life_22 fX10_114 rfl (okK10 (by omega)) rfl ?_
      refine A_iload_n dX10_life_25 rfl rfl ?_
      obtain ⟨j3, qj3, bj3, h⟩ := h
      refine A_lald (j := j3) dX10_life_26 (by decide) rfl (okK72 (by omega)) qj3 bj3 ?_
      refine A_lconst (v := 0) dX10_life_27 (by decide +kernel) ?_
      refine B_lcmp_ne (tgt := 35) dX10_life_28 rfl dX10_life_29 (by decide) rfl (wlitL (by decide) (by decide)) ⟨fun q => ?_, fun q => ?_⟩
      · replace h := h.1 q
        refine A_aload_n dX10_life_35 rfl rfl ?_
        refine A_getR (c2 := 73) (i2 := 0) dX10_life_36 fX10_117 rfl (okK10 (by omega)) rfl ?_
        refine A_iload_n dX10_life_39 rfl rfl ?_
        obtain ⟨j4, qj4, bj4, h⟩ := h
        refine A_lald (j := j4) dX10_life_40 (by decide) rfl (okK73 (by omega)) qj4 bj4 ?_
        refine A_aload_n dX10_life_41 rfl rfl ?_
        refine A_getR (c2 := 72) (i2 := 0) dX10_life_42 fX10_114 rfl (okK10 (by omega)) rfl ?_
        refine A_iload_n dX10_life_45 rfl rfl ?_
        obtain ⟨j5, qj5, bj5, h⟩ := h
        refine A_lald (j := j5) dX10_life_46 (by decide) rfl (okK72 (by omega)) qj5 bj5 ?_
        refine B_callS_L (av := [vL (N2 73 0 j4), vL (N2 72 0 j5)]) rfl dX10_life_47 vX10_450 mX10_divisor rfl (Nat.le_of_ble_eq_true rfl) (by decide) (by decide) rfl (BC_monoL h (fun x6 N6 h => ?_))
        refine A_lstore_n (ls' := [(3, _), (0, _), (1, _), (2, _)]) dX10_life_50 rfl (by decide) rfl ?_
        refine A_iload_n dX10_life_51 rfl rfl ?_
        refine B_if_ne (tgt := 66) dX10_life_52 (by decide) rfl ⟨fun q => ?_, fun q => ?_⟩
        · replace h := h.1 q
          refine A_aload_n dX10_life_66 rfl rfl ?_
          refine A_getR (c2 := 72) (i2 := 0) dX10_life_67 fX10_114 rfl (okK10 (by omega)) rfl ?_
          refine A_iload_n dX10_life_70 rfl rfl ?_
          obtain ⟨j7, qj7, bj7, h⟩ := h
          refine A_lald (j := j7) dX10_life_71 (by decide) rfl (okK72 (by omega)) qj7 bj7 ?_
          refine A_lload_n dX10_life_72 rfl rfl ?_
          refine B_ldiv dX10_life_73 rfl rfl h.1 ?_
          replace h := h.2
          exact A_lret dX10_life_74 ⟨rfl, _, rfl, h⟩
        · replace h := h.2 q
          refine A_aload_n dX10_life_55 rfl rfl ?_
          refine A_getR (c2 := 73) (i2 := 0) dX10_life_56 fX10_117 rfl (okK10 (by omega)) rfl ?_
          refine A_iload_n dX10_life_59 rfl rfl ?_
          obtain ⟨j8, qj8, bj8, h⟩ := h
          refine A_lald (j := j8) dX10_life_60 (by decide) rfl (okK73 (by omega)) qj8 bj8 ?_
          refine A_lload_n dX10_life_61 rfl rfl ?_
          refine B_ldiv dX10_life_62 rfl rfl h.1 ?_
          replace h := h.2
          refine A_goto (tgt := 74) dX10_life_63 (by decide) ?_
          exact A_lret dX10_life_74 ⟨rfl, _, rfl, h⟩
      · replace h := h.2 q
        refine A_iload_n dX10_life_32 rfl rfl ?_
        refine B_i2l dX10_life_33 rfl ?_
        exact A_lret dX10_life_34 ⟨rfl, _, rfl, h⟩
    · replace h := h.2 q
      refine A_ldc2 (x := (-4611686018427387904)) dX10_life_17 kX10_406 (by decide +kernel) ?_
      exact A_lret dX10_life_20 ⟨rfl, _, rfl, h⟩
set_option maxRecDepth 100000 in
set_option maxHeartbeats 4000000 in
theorem vc_X10_trip {G : GT} {a1 : Int} {a2 : Int} {N : NN} {K : Int → NN → Prop}  (h : (C_X10_in G a1 0 1000 N (fun x1 N1 => (((wI x1) = 0 → K ((-2)) N1) ∧ (¬ ((wI x1) = 0) → (C_X10_in G a2 1 12 N1 (fun x2 N2 => (((wI x2) ≠ 0 → (∀ M3 : NN, M3 = up3 N2 10 0 69 a1 → (∀ M4 : NN, M4 = up3 M3 10 0 70 a2 → K 1 M4))) ∧ (¬ ((wI x2) ≠ 0) → K ((-2)) N2))))))))) : C_X10_trip G a1 a2 N K := by
  refine Ctr.ofAW RX10 false rfl (by decide +kernel) (fun q => by cases q) (Nat.le_of_ble_eq_true rfl) (Nat.le_refl _) ?_
  refine A_iload_n dX10_trip_0 rfl rfl ?_
  refine A_iconst (v := 0) dX10_trip_1 rfl ?_
  refine A_sipush (v := 1000) dX10_trip_2 (by decide +kernel) ?_
  refine B_callS_I (av := [vI a1, vI 0, vI 1000]) rfl dX10_trip_5 vX10_186 mX10_in rfl (Nat.le_of_ble_eq_true rfl) (by decide) (by decide) rfl (BC_monoI h (fun x1 N1 h => ?_))
  refine B_if_eq (tgt := 21) dX10_trip_8 (by decide) rfl ⟨fun q => ?_, fun q => ?_⟩
  · replace h := h.1 q
    refine A_bipush (v := (-2)) dX10_trip_21 (by decide +kernel) ?_
    exact A_iret dX10_trip_23 ⟨rfl, _, rfl, h⟩
  · replace h := h.2 q
    refine A_iload_n dX10_trip_11 rfl rfl ?_
    refine A_iconst (v := 1) dX10_trip_12 rfl ?_
    refine A_bipush (v := 12) dX10_trip_13 (by decide +kernel) ?_
    refine B_callS_I (av := [vI a2, vI 1, vI 12]) rfl dX10_trip_15 vX10_186 mX10_in rfl (Nat.le_of_ble_eq_true rfl) (by decide) (by decide) rfl (BC_monoI h (fun x2 N2 h => ?_))
    refine B_if_ne (tgt := 24) dX10_trip_18 (by decide) rfl ⟨fun q => ?_, fun q => ?_⟩
    · replace h := h.1 q
      refine A_aload_n dX10_trip_24 rfl rfl ?_
      refine A_iload_n dX10_trip_25 rfl rfl ?_
      refine B_putI dX10_trip_26 fX10_129 (by decide) (okK10 (by omega)) (fun M3 eM3 => ?_)
      replace h := h M3 eM3
      refine A_aload_n dX10_trip_29 rfl rfl ?_
      refine A_iload_n dX10_trip_30 rfl rfl ?_
      refine B_putI dX10_trip_31 fX10_132 (by decide) (okK10 (by omega)) (fun M4 eM4 => ?_)
      replace h := h M4 eM4
      refine A_iconst (v := 1) dX10_trip_34 rfl ?_
      exact A_iret dX10_trip_35 ⟨rfl, _, rfl, h⟩
    · replace h := h.2 q
      refine A_bipush (v := (-2)) dX10_trip_21 (by decide +kernel) ?_
      exact A_iret dX10_trip_23 ⟨rfl, _, rfl, h⟩
set_option maxRecDepth 100000 in
set_option maxHeartbeats 4000000 in
theorem vc_X10_lostNow {G : GT} {N : NN} {K : Int → NN → Prop}  (h : (((wL (N 53 0 1)) ≠ 0 → ((wL (N 53 0 1)) ≠ 0 ∧ K (((wL ((N 10 0 65) * 1000))).tdiv ((wL (N 53 0 1)))) N)) ∧ (¬ ((wL (N 53 0 1)) ≠ 0) → K 0 N))) : C_X10_lostNow G N K := by
  refine Ctr.ofAW RX10 false rfl (by decide +kernel) (fun q => by cases q) (Nat.le_of_ble_eq_true rfl) (Nat.le_refl _) ?_
  refine A_aload_n dX10_lostNow_0 rfl rfl ?_
  refine A_getR (c2 := 53) (i2 := 0) dX10_lostNow_1 fX10_57 rfl (okK10 (by omega)) rfl ?_
  refine A_iconst (v := 1) dX10_lostNow_4 rfl ?_
  refine A_lald (j := 1) dX10_lostNow_5 (by decide) rfl (okK53 (by omega)) (show wI 1 = ((1 : Nat) : Int) from wlitI (by decide) (by decide)) (by decide) ?_
  refine A_lconst (v := 0) dX10_lostNow_6 (by decide +kernel) ?_
  refine B_lcmp_ne (tgt := 15) dX10_lostNow_7 rfl dX10_lostNow_8 (by decide) rfl (wlitL (by decide) (by decide)) ⟨fun q => ?_, fun q => ?_⟩
  · replace h := h.1 q
    refine A_aload_n dX10_lostNow_15 rfl rfl ?_
    refine A_getL dX10_lostNow_16 fX10_454 rfl (okK10 (by omega)) ?_
    refine A_ldc2 (x := 1000) dX10_lostNow_19 kX10_228 (by decide +kernel) ?_
    refine A_lmul dX10_lostNow_22 ?_
    refine A_aload_n dX10_lostNow_23 rfl rfl ?_
    refine A_getR (c2 := 53) (i2 := 0) dX10_lostNow_24 fX10_57 rfl (okK10 (by omega)) rfl ?_
    refine A_iconst (v := 1) dX10_lostNow_27 rfl ?_
    refine A_lald (j := 1) dX10_lostNow_28 (by decide) rfl (okK53 (by omega)) (show wI 1 = ((1 : Nat) : Int) from wlitI (by decide) (by decide)) (by decide) ?_
    refine B_ldiv dX10_lostNow_29 rfl rfl h.1 ?_
    replace h := h.2
    exact A_lret dX10_lostNow_30 ⟨rfl, _, rfl, h⟩
  · replace h := h.2 q
    refine A_lconst (v := 0) dX10_lostNow_11 (by decide +kernel) ?_
    refine A_goto (tgt := 30) dX10_lostNow_12 (by decide) ?_
    exact A_lret dX10_lostNow_30 ⟨rfl, _, rfl, h⟩
set_option maxRecDepth 100000 in
set_option maxHeartbeats 4000000 in
theorem vc_X10_field {G : GT} {a1 : Int} {a2 : Int} {N : NN} {K : Int → NN → Prop}  (h : (((wI a1) = 0 → K ((wI a2)) N) ∧ (((wI a1) = 1 → (∃ j1 : Nat, (wI a2) = (j1 : Int) ∧ j1 < 61 ∧ K ((wI (N 56 0 j1))) N)) ∧ (((wI a1) = 2 → (C_X10_lostNow G  N (fun x2 N2 => K x2 N2))) ∧ (((wI a1) = 3 → (((wI (N 10 0 53)) = 0 → K 9999 N) ∧ (¬ ((wI (N 10 0 53)) = 0) → (((wL (N 69 0 0)) ≠ 0 → (∃ j3 : Nat, (wI a2) = (j3 : Int) ∧ j3 < 61 ∧ ((wL (N 69 0 0)) ≠ 0 ∧ (((wL (((wL (100 * (N 54 0 j3)))).tdiv ((wL (N 69 0 0))))) ≤ 9999 → K (((wL (100 * (N 54 0 j3)))).tdiv ((wL (N 69 0 0)))) N) ∧ (¬ ((wL (((wL (100 * (N 54 0 j3)))).tdiv ((wL (N 69 0 0))))) ≤ 9999) → K 9999 N))))) ∧ (¬ ((wL (N 69 0 0)) ≠ 0) → K 9999 N))))) ∧ ((wI a1) < 0 ∨ 3 < (wI a1) → (((wI (N 10 0 67)) = 0 → K 0 N) ∧ (¬ ((wI (N 10 0 67)) = 0) → K 1 N)))))))) : C_X10_field G a1 a2 N K := by
  refine Ctr.ofAW RX10 false rfl (by decide +kernel) (fun q => by cases q) (Nat.le_of_ble_eq_true rfl) (Nat.le_refl _) ?_
  refine A_iload_n dX10_field_0 rfl rfl ?_
  by_cases q1_0 : wI a1 = 0
  · replace h := h.1 q1_0
    refine A_tableIn (tgt := 32) dX10_field_1 q1_0 (by decide) rfl (by decide) ?_
    refine A_iload_n dX10_field_32 rfl rfl ?_
    refine B_i2l dX10_field_33 rfl ?_
    exact A_lret dX10_field_34 ⟨rfl, _, rfl, h⟩
  replace h := h.2
  by_cases q1_1 : wI a1 = 1
  · replace h := h.1 q1_1
    refine A_tableIn (tgt := 35) dX10_field_1 q1_1 (by decide) rfl (by decide) ?_
    refine A_aload_n dX10_field_35 rfl rfl ?_
    refine A_getR (c2 := 56) (i2 := 0) dX10_field_36 fX10_66 rfl (okK10 (by omega)) rfl ?_
    refine A_iload_n dX10_field_39 rfl rfl ?_
    obtain ⟨j1, qj1, bj1, h⟩ := h
    refine A_iald (j := j1) dX10_field_40 (by decide) rfl (okK56 (by omega)) qj1 bj1 ?_
    refine B_i2l dX10_field_41 rfl ?_
    exact A_lret dX10_field_42 ⟨rfl, _, rfl, h⟩
  replace h := h.2
  by_cases q1_2 : wI a1 = 2
  · replace h := h.1 q1_2
    refine A_tableIn (tgt := 43) dX10_field_1 q1_2 (by decide) rfl (by decide) ?_
    refine A_aload_n dX10_field_43 rfl rfl ?_
    refine B_callV_L (av := []) rfl dX10_field_44 vX10_457 mX10_lostNow ⟨rfl, rfl, by decide⟩ (okK10 (by omega)) rfl (Nat.le_of_ble_eq_true rfl) (by decide) (by decide) rfl (BC_monoL h (fun x2 N2 h => ?_))
    exact A_lret dX10_field_47 ⟨rfl, _, rfl, h⟩
  replace h := h.2
  by_cases q1_3 : wI a1 = 3
  · replace h := h.1 q1_3
    refine A_tableIn (tgt := 48) dX10_field_1 q1_3 (by decide) rfl (by decide) ?_
    refine A_aload_n dX10_field_48 rfl rfl ?_
    refine A_getI dX10_field_49 fX10_444 rfl (okK10 (by omega)) ?_
    refine B_if_eq (tgt := 66) dX10_field_52 (by decide) rfl ⟨fun q => ?_, fun q => ?_⟩
    · replace h := h.1 q
      refine A_ldc2 (x := 9999) dX10_field_66 kX10_461 (by decide +kernel) ?_
      exact A_lret dX10_field_69 ⟨rfl, _, rfl, h⟩
    · replace h := h.2 q
      refine A_aload_n dX10_field_55 rfl rfl ?_
      refine A_getR (c2 := 69) (i2 := 0) dX10_field_56 fX10_105 rfl (okK10 (by omega)) rfl ?_
      refine A_iconst (v := 0) dX10_field_59 rfl ?_
      refine A_lald (j := 0) dX10_field_60 (by decide) rfl (okK69 (by omega)) (show wI 0 = ((0 : Nat) : Int) from wlitI (by decide) (by decide)) (by decide) ?_
      refine A_lconst (v := 0) dX10_field_61 (by decide +kernel) ?_
      refine B_lcmp_ne (tgt := 70) dX10_field_62 rfl dX10_field_63 (by decide) rfl (wlitL (by decide) (by decide)) ⟨fun q => ?_, fun q => ?_⟩
      · replace h := h.1 q
        refine A_ldc2 (x := 100) dX10_field_70 kX10_262 (by decide +kernel) ?_
        refine A_aload_n dX10_field_73 rfl rfl ?_
        refine A_getR (c2 := 54) (i2 := 0) dX10_field_74 fX10_60 rfl (okK10 (by omega)) rfl ?_
        refine A_iload_n dX10_field_77 rfl rfl ?_
        obtain ⟨j3, qj3, bj3, h⟩ := h
        refine A_lald (j := j3) dX10_field_78 (by decide) rfl (okK54 (by omega)) qj3 bj3 ?_
        refine A_lmul dX10_field_79 ?_
        refine A_aload_n dX10_field_80 rfl rfl ?_
        refine A_getR (c2 := 69) (i2 := 0) dX10_field_81 fX10_105 rfl (okK10 (by omega)) rfl ?_
        refine A_iconst (v := 0) dX10_field_84 rfl ?_
        refine A_lald (j := 0) dX10_field_85 (by decide) rfl (okK69 (by omega)) (show wI 0 = ((0 : Nat) : Int) from wlitI (by decide) (by decide)) (by decide) ?_
        refine B_ldiv dX10_field_86 rfl rfl h.1 ?_
        replace h := h.2
        refine A_lstore_n (ls' := [(3, _), (0, _), (1, _), (2, _)]) dX10_field_87 rfl (by decide) rfl ?_
        refine A_lload_n dX10_field_88 rfl rfl ?_
        refine A_ldc2 (x := 9999) dX10_field_89 kX10_461 (by decide +kernel) ?_
        refine B_lcmp_le (tgt := 102) dX10_field_92 rfl dX10_field_93 (by decide) rfl (wlitL (by decide) (by decide)) ⟨fun q => ?_, fun q => ?_⟩
        · replace h := h.1 q
          refine A_lload_n dX10_field_102 rfl rfl ?_
          exact A_lret dX10_field_103 ⟨rfl, _, rfl, h⟩
        · replace h := h.2 q
          refine A_ldc2 (x := 9999) dX10_field_96 kX10_461 (by decide +kernel) ?_
          refine A_goto (tgt := 103) dX10_field_99 (by decide) ?_
          exact A_lret dX10_field_103 ⟨rfl, _, rfl, h⟩
      · replace h := h.2 q
        refine A_ldc2 (x := 9999) dX10_field_66 kX10_461 (by decide +kernel) ?_
        exact A_lret dX10_field_69 ⟨rfl, _, rfl, h⟩
  replace h := h.2
  replace h := h (by omega)
  refine A_tableOut (tgt := 104) dX10_field_1 (by omega) (by decide) ?_
  refine A_aload_n dX10_field_104 rfl rfl ?_
  refine A_getI dX10_field_105 fX10_463 rfl (okK10 (by omega)) ?_
  refine B_if_eq (tgt := 115) dX10_field_108 (by decide) rfl ⟨fun q => ?_, fun q => ?_⟩
  · replace h := h.1 q
    refine A_lconst (v := 0) dX10_field_115 (by decide +kernel) ?_
    exact A_lret dX10_field_116 ⟨rfl, _, rfl, h⟩
  · replace h := h.2 q
    refine A_lconst (v := 1) dX10_field_111 (by decide +kernel) ?_
    refine A_goto (tgt := 116) dX10_field_112 (by decide) ?_
    exact A_lret dX10_field_116 ⟨rfl, _, rfl, h⟩
set_option maxRecDepth 100000 in
set_option maxHeartbeats 4000000 in
theorem vc_X10_isSo {G : GT} {a1 : Int} {a2 : Int} {N : NN} {K : Int → NN → Prop}  (h : (∃ j1 : Nat, (wI a1) = (j1 : Int) ∧ j1 < 60 ∧ (((wI (N 64 0 j1)) ≠ 0 → (∃ j2 : Nat, (wI a1) = (j2 : Int) ∧ j2 < 60 ∧ (C_X10_field G (N 65 0 j2) a2 N (fun x3 N3 => (((wI (((wI (N 64 0 j1))).tmod 2)) ≠ 1 → (∃ j4 : Nat, (wI a1) = (j4 : Int) ∧ j4 < 60 ∧ (((wL x3) ≠ (wL ((wI (N3 66 0 j4)))) → W_X10_isSo G K 72 [(3, vI (N 64 0 j1))] [vI 0] N3) ∧ (¬ ((wL x3) ≠ (wL ((wI (N3 66 0 j4))))) → W_X10_isSo G K 72 [(3, vI (N 64 0 j1))] [vI 1] N3)))) ∧ (¬ ((wI (((wI (N 64 0 j1))).tmod 2)) ≠ 1) → (∃ j5 : Nat, (wI a1) = (j5 : Int) ∧ j5 < 60 ∧ (((wL ((wI (N3 66 0 j5)))) ≤ (wL x3) → W_X10_isSo G K 72 [(3, vI (N 64 0 j1))] [vI 0] N3) ∧ (¬ ((wL ((wI (N3 66 0 j5)))) ≤ (wL x3)) → W_X10_isSo G K 72 [(3, vI (N 64 0 j1))] [vI 1] N3))))))))) ∧ (¬ ((wI (N 64 0 j1)) ≠ 0) → K 1 N)))) : C_X10_isSo G a1 a2 N K := by
  refine Ctr.ofAW RX10 false rfl (by decide +kernel) (fun q => by cases q) (Nat.le_of_ble_eq_true rfl) (Nat.le_refl _) ?_
  refine A_aload_n dX10_isSo_0 rfl rfl ?_
  refine A_getR (c2 := 64) (i2 := 0) dX10_isSo_1 fX10_90 rfl (okK10 (by omega)) rfl ?_
  refine A_iload_n dX10_isSo_4 rfl rfl ?_
  obtain ⟨j1, qj1, bj1, h⟩ := h
  refine A_iald (j := j1) dX10_isSo_5 (by decide) rfl (okK64 (by omega)) qj1 bj1 ?_
  refine A_istore_n (ls' := [(3, _), (0, _), (1, _), (2, _)]) dX10_isSo_6 rfl (by decide) rfl ?_
  refine A_iload_n dX10_isSo_7 rfl rfl ?_
  refine B_if_ne (tgt := 13) dX10_isSo_8 (by decide) rfl ⟨fun q => ?_, fun q => ?_⟩
  · replace h := h.1 q
    refine A_aload_n dX10_isSo_13 rfl rfl ?_
    refine A_aload_n dX10_isSo_14 rfl rfl ?_
    refine A_getR (c2 := 65) (i2 := 0) dX10_isSo_15 fX10_93 rfl (okK10 (by omega)) rfl ?_
    refine A_iload_n dX10_isSo_18 rfl rfl ?_
    obtain ⟨j2, qj2, bj2, h⟩ := h
    refine A_iald (j := j2) dX10_isSo_19 (by decide) rfl (okK65 (by omega)) qj2 bj2 ?_
    refine A_iload_n dX10_isSo_20 rfl rfl ?_
    refine B_callV_L (av := [vI (N 65 0 j2), vI a2]) rfl dX10_isSo_21 vX10_466 mX10_field ⟨rfl, rfl, by decide⟩ (okK10 (by omega)) rfl (Nat.le_of_ble_eq_true rfl) (by decide) (by decide) rfl (BC_monoL h (fun x3 N3 h => ?_))
    refine A_lstore (ls' := [(4, _), (3, _), (0, _), (1, _), (2, _)]) dX10_isSo_24 (by decide) rfl ?_
    refine A_iload_n dX10_isSo_26 rfl rfl ?_
    refine A_iconst (v := 2) dX10_isSo_27 rfl ?_
    refine B_irem dX10_isSo_28 rfl (wlitI (by decide) (by decide)) (by decide) ?_
    refine A_iconst (v := 1) dX10_isSo_29 rfl ?_
    refine B_icmp_ne (tgt := 54) dX10_isSo_30 (by decide) rfl (wlitI (by decide) (by decide)) ⟨fun q => ?_, fun q => ?_⟩
    · replace h := h.1 q
      refine A_lload dX10_isSo_54 rfl ?_
      refine A_aload_n dX10_isSo_56 rfl rfl ?_
      refine A_getR (c2 := 66) (i2 := 0) dX10_isSo_57 fX10_96 rfl (okK10 (by omega)) rfl ?_
      refine A_iload_n dX10_isSo_60 rfl rfl ?_
      obtain ⟨j4, qj4, bj4, h⟩ := h
      refine A_iald (j := j4) dX10_isSo_61 (by decide) rfl (okK66 (by omega)) qj4 bj4 ?_
      refine B_i2l dX10_isSo_62 rfl ?_
      refine B_lcmp_ne (tgt := 71) dX10_isSo_63 rfl dX10_isSo_64 (by decide) rfl rfl ⟨fun q => ?_, fun q => ?_⟩
      · replace h := h.1 q
        refine A_iconst (v := 0) dX10_isSo_71 rfl ?_
        exact A_pick [1] rfl h
      · replace h := h.2 q
        refine A_iconst (v := 1) dX10_isSo_67 rfl ?_
        refine A_goto (tgt := 72) dX10_isSo_68 (by decide) ?_
        exact A_pick [1] rfl h
    · replace h := h.2 q
      refine A_lload dX10_isSo_33 rfl ?_
      refine A_aload_n dX10_isSo_35 rfl rfl ?_
      refine A_getR (c2 := 66) (i2 := 0) dX10_isSo_36 fX10_96 rfl (okK10 (by omega)) rfl ?_
      refine A_iload_n dX10_isSo_39 rfl rfl ?_
      obtain ⟨j5, qj5, bj5, h⟩ := h
      refine A_iald (j := j5) dX10_isSo_40 (by decide) rfl (okK66 (by omega)) qj5 bj5 ?_
      refine B_i2l dX10_isSo_41 rfl ?_
      refine B_lcmp_ge (tgt := 50) dX10_isSo_42 rfl dX10_isSo_43 (by decide) rfl rfl ⟨fun q => ?_, fun q => ?_⟩
      · replace h := h.1 q
        refine A_iconst (v := 0) dX10_isSo_50 rfl ?_
        refine A_goto (tgt := 72) dX10_isSo_51 (by decide) ?_
        exact A_pick [1] rfl h
      · replace h := h.2 q
        refine A_iconst (v := 1) dX10_isSo_46 rfl ?_
        refine A_goto (tgt := 72) dX10_isSo_47 (by decide) ?_
        exact A_pick [1] rfl h
  · replace h := h.2 q
    refine A_iconst (v := 1) dX10_isSo_11 rfl ?_
    exact A_zret dX10_isSo_12 (by decide) ⟨rfl, _, rfl, h⟩
set_option maxRecDepth 100000 in
set_option maxHeartbeats 4000000 in
theorem vc_X10_isSo_72 {G : GT} {l3 : Int} {s0 : Int} {N : NN} {K : Int → NN → Prop}  (h : ((3 ≤ (wI l3) → (((wI s0) ≠ 0 → K 0 N) ∧ (¬ ((wI s0) ≠ 0) → K 1 N))) ∧ (¬ (3 ≤ (wI l3)) → (((wI s0) ≠ 1 → K 0 N) ∧ (¬ ((wI s0) ≠ 1) → K 1 N))))) : W_X10_isSo G K 72 [(3, vI l3)] [vI s0] N := by
  refine A_istore (ls' := [(6, _), (3, _)]) dX10_isSo_72 (by decide) rfl ?_
  refine A_iload dX10_isSo_74 rfl ?_
  refine A_iload_n dX10_isSo_76 rfl rfl ?_
  refine A_iconst (v := 3) dX10_isSo_77 rfl ?_
  refine B_icmp_ge (tgt := 85) dX10_isSo_78 (by decide) rfl (wlitI (by decide) (by decide)) ⟨fun q => ?_, fun q => ?_⟩
  · replace h := h.1 q
    refine A_iconst (v := 0) dX10_isSo_85 rfl ?_
    refine B_icmp_ne (tgt := 93) dX10_isSo_86 (by decide) rfl (wlitI (by decide) (by decide)) ⟨fun q => ?_, fun q => ?_⟩
    · replace h := h.1 q
      refine A_iconst (v := 0) dX10_isSo_93 rfl ?_
      exact A_zret dX10_isSo_94 (by decide) ⟨rfl, _, rfl, h⟩
    · replace h := h.2 q
      refine A_iconst (v := 1) dX10_isSo_89 rfl ?_
      refine A_goto (tgt := 94) dX10_isSo_90 (by decide) ?_
      exact A_zret dX10_isSo_94 (by decide) ⟨rfl, _, rfl, h⟩
  · replace h := h.2 q
    refine A_iconst (v := 1) dX10_isSo_81 rfl ?_
    refine A_goto (tgt := 86) dX10_isSo_82 (by decide) ?_
    refine B_icmp_ne (tgt := 93) dX10_isSo_86 (by decide) rfl (wlitI (by decide) (by decide)) ⟨fun q => ?_, fun q => ?_⟩
    · replace h := h.1 q
      refine A_iconst (v := 0) dX10_isSo_93 rfl ?_
      exact A_zret dX10_isSo_94 (by decide) ⟨rfl, _, rfl, h⟩
    · replace h := h.2 q
      refine A_iconst (v := 1) dX10_isSo_89 rfl ?_
      refine A_goto (tgt := 94) dX10_isSo_90 (by decide) ?_
      exact A_zret dX10_isSo_94 (by decide) ⟨rfl, _, rfl, h⟩
set_option maxRecDepth 100000 in
set_option maxHeartbeats 4000000 in
theorem vc_X10_wish {G : GT} {a1 : Int} {a2 : Int} {a3 : Int} {N : NN} {K : Int → NN → Prop}  (h : (∃ j1 : Nat, (wI a1) = (j1 : Int) ∧ j1 < 60 ∧ (((wI (N 62 0 j1)) = (-1) → W_X10_wish G K 25 [(0, vR 10 0), (1, vI a1), (2, vI a2), (3, vL a3), (5, vI (N 62 0 j1))] [] N) ∧ (¬ ((wI (N 62 0 j1)) = (-1)) → (C_X10_isPaper G (N 62 0 j1) N (fun x2 N2 => (((wI x2) ≠ 0 → W_X10_wish G K 25 [(0, vR 10 0), (1, vI a1), (2, vI a2), (3, vL a3), (5, vI (N 62 0 j1))] [] N2) ∧ (¬ ((wI x2) ≠ 0) → K 0 N2)))))))) : C_X10_wish G a1 a2 a3 N K := by
  refine Ctr.ofAW RX10 false rfl (by decide +kernel) (fun q => by cases q) (Nat.le_of_ble_eq_true rfl) (Nat.le_refl _) ?_
  refine A_aload_n dX10_wish_0 rfl rfl ?_
  refine A_getR (c2 := 62) (i2 := 0) dX10_wish_1 fX10_84 rfl (okK10 (by omega)) rfl ?_
  refine A_iload_n dX10_wish_4 rfl rfl ?_
  obtain ⟨j1, qj1, bj1, h⟩ := h
  refine A_iald (j := j1) dX10_wish_5 (by decide) rfl (okK62 (by omega)) qj1 bj1 ?_
  refine A_istore (ls' := [(5, _), (0, _), (1, _), (2, _), (3, _)]) dX10_wish_6 (by decide) rfl ?_
  refine A_iload dX10_wish_8 rfl ?_
  refine A_iconst (v := (-1)) dX10_wish_10 rfl ?_
  refine B_icmp_eq (tgt := 25) dX10_wish_11 (by decide) rfl (wlitI (by decide) (by decide)) ⟨fun q => ?_, fun q => ?_⟩
  · replace h := h.1 q
    exact A_pick [1, 2, 3, 4, 0] rfl h
  · replace h := h.2 q
    refine A_aload_n dX10_wish_14 rfl rfl ?_
    refine A_iload dX10_wish_15 rfl ?_
    refine B_callV_I (av := [vI (N 62 0 j1)]) rfl dX10_wish_17 vX10_447 mX10_isPaper ⟨rfl, rfl, by decide⟩ (okK10 (by omega)) rfl (Nat.le_of_ble_eq_true rfl) (by decide) (by decide) rfl (BC_monoI h (fun x2 N2 h => ?_))
    refine B_if_ne (tgt := 25) dX10_wish_20 (by decide) rfl ⟨fun q => ?_, fun q => ?_⟩
    · replace h := h.1 q
      exact A_pick [1, 2, 3, 4, 0] rfl h
    · replace h := h.2 q
      refine A_lconst (v := 0) dX10_wish_23 (by decide +kernel) ?_
      exact A_lret dX10_wish_24 ⟨rfl, _, rfl, h⟩
set_option maxRecDepth 100000 in
set_option maxHeartbeats 4000000 in
theorem vc_X10_wish_25 {G : GT} {l1 : Int} {l2 : Int} {l3 : Int} {l5 : Int} {N : NN} {K : Int → NN → Prop}  (h : (∃ j1 : Nat, (wI l1) = (j1 : Int) ∧ j1 < 60 ∧ (∃ j2 : Nat, (wI l1) = (j2 : Int) ∧ j2 < 60 ∧ (((wI (N 61 0 j2)) = 0 → (∃ j3 : Nat, (wI l2) = (j3 : Int) ∧ j3 < 61 ∧ K (((wL ((N 53 0 j3) * ((wI (N 63 0 j1)))))).tdiv 10000) N)) ∧ (((wI (N 61 0 j2)) = 1 → (∃ j4 : Nat, (wI l5) = (j4 : Int) ∧ j4 < 5 ∧ K (N 75 0 j4) N)) ∧ (((wI (N 61 0 j2)) = 2 → (∃ j5 : Nat, (wI l5) = (j5 : Int) ∧ j5 < 5 ∧ K (N 69 0 j5) N)) ∧ (((wI (N 61 0 j2)) = 3 → (∃ j6 : Nat, (wI l2) = (j6 : Int) ∧ j6 < 61 ∧ (∃ j7 : Nat, (wI l5) = (j7 : Int) ∧ j7 < 5 ∧ (((wL (N 69 0 j7)) ≤ (wL (((wL ((N 49 0 j6) * ((wI (N 63 0 j1)))))).tdiv 100)) → (∃ j8 : Nat, (wI l5) = (j8 : Int) ∧ j8 < 5 ∧ K (N 69 0 j8) N)) ∧ (¬ ((wL (N 69 0 j7)) ≤ (wL (((wL ((N 49 0 j6) * ((wI (N 63 0 j1)))))).tdiv 100))) → K (((wL ((N 49 0 j6) * ((wI (N 63 0 j1)))))).tdiv 100) N))))) ∧ (((wI (N 61 0 j2)) = 4 → (((wL ((wI (N 63 0 j1)))) ≤ (wL (N 10 0 64)) → K 0 N) ∧ (¬ ((wL ((wI (N 63 0 j1)))) ≤ (wL (N 10 0 64))) → K (((wI (N 63 0 j1))) - (N 10 0 64)) N))) ∧ ((wI (N 61 0 j2)) < 0 ∨ 4 < (wI (N 61 0 j2)) → K l3 N))))))))) : W_X10_wish G K 25 [(0, vR 10 0), (1, vI l1), (2, vI l2), (3, vL l3), (5, vI l5)] [] N := by
  refine A_aload_n dX10_wish_25 rfl rfl ?_
  refine A_getR (c2 := 63) (i2 := 0) dX10_wish_26 fX10_87 rfl (okK10 (by omega)) rfl ?_
  refine A_iload_n dX10_wish_29 rfl rfl ?_
  obtain ⟨j1, qj1, bj1, h⟩ := h
  refine A_iald (j := j1) dX10_wish_30 (by decide) rfl (okK63 (by omega)) qj1 bj1 ?_
  refine A_istore (ls' := [(6, _), (0, _), (1, _), (2, _), (3, _), (5, _)]) dX10_wish_31 (by decide) rfl ?_
  refine A_aload_n dX10_wish_33 rfl rfl ?_
  refine A_getR (c2 := 61) (i2 := 0) dX10_wish_34 fX10_81 rfl (okK10 (by omega)) rfl ?_
  refine A_iload_n dX10_wish_37 rfl rfl ?_
  obtain ⟨j2, qj2, bj2, h⟩ := h
  refine A_iald (j := j2) dX10_wish_38 (by decide) rfl (okK61 (by omega)) qj2 bj2 ?_
  by_cases q39_0 : wI (N 61 0 j2) = 0
  · replace h := h.1 q39_0
    refine A_tableIn (tgt := 72) dX10_wish_39 q39_0 (by decide) rfl (by decide) ?_
    refine A_aload_n dX10_wish_72 rfl rfl ?_
    refine A_getR (c2 := 53) (i2 := 0) dX10_wish_73 fX10_57 rfl (okK10 (by omega)) rfl ?_
    refine A_iload_n dX10_wish_76 rfl rfl ?_
    obtain ⟨j3, qj3, bj3, h⟩ := h
    refine A_lald (j := j3) dX10_wish_77 (by decide) rfl (okK53 (by omega)) qj3 bj3 ?_
    refine A_iload dX10_wish_78 rfl ?_
    refine B_i2l dX10_wish_80 rfl ?_
    refine A_lmul dX10_wish_81 ?_
    refine A_ldc2 (x := 10000) dX10_wish_82 kX10_470 (by decide +kernel) ?_
    refine B_ldiv dX10_wish_85 rfl (wlitL (by decide) (by decide)) (by decide) ?_
    exact A_lret dX10_wish_86 ⟨rfl, _, rfl, h⟩
  replace h := h.2
  by_cases q39_1 : wI (N 61 0 j2) = 1
  · replace h := h.1 q39_1
    refine A_tableIn (tgt := 87) dX10_wish_39 q39_1 (by decide) rfl (by decide) ?_
    refine A_aload_n dX10_wish_87 rfl rfl ?_
    refine A_getR (c2 := 75) (i2 := 0) dX10_wish_88 fX10_123 rfl (okK10 (by omega)) rfl ?_
    refine A_iload dX10_wish_91 rfl ?_
    obtain ⟨j4, qj4, bj4, h⟩ := h
    refine A_lald (j := j4) dX10_wish_93 (by decide) rfl (okK75 (by omega)) qj4 bj4 ?_
    exact A_lret dX10_wish_94 ⟨rfl, _, rfl, h⟩
  replace h := h.2
  by_cases q39_2 : wI (N 61 0 j2) = 2
  · replace h := h.1 q39_2
    refine A_tableIn (tgt := 95) dX10_wish_39 q39_2 (by decide) rfl (by decide) ?_
    refine A_aload_n dX10_wish_95 rfl rfl ?_
    refine A_getR (c2 := 69) (i2 := 0) dX10_wish_96 fX10_105 rfl (okK10 (by omega)) rfl ?_
    refine A_iload dX10_wish_99 rfl ?_
    obtain ⟨j5, qj5, bj5, h⟩ := h
    refine A_lald (j := j5) dX10_wish_101 (by decide) rfl (okK69 (by omega)) qj5 bj5 ?_
    exact A_lret dX10_wish_102 ⟨rfl, _, rfl, h⟩
  replace h := h.2
  by_cases q39_3 : wI (N 61 0 j2) = 3
  · replace h := h.1 q39_3
    refine A_tableIn (tgt := 103) dX10_wish_39 q39_3 (by decide) rfl (by decide) ?_
    refine A_aload_n dX10_wish_103 rfl rfl ?_
    refine A_getR (c2 := 49) (i2 := 0) dX10_wish_104 fX10_45 rfl (okK10 (by omega)) rfl ?_
    refine A_iload_n dX10_wish_107 rfl rfl ?_
    obtain ⟨j6, qj6, bj6, h⟩ := h
    refine A_lald (j := j6) dX10_wish_108 (by decide) rfl (okK49 (by omega)) qj6 bj6 ?_
    refine A_iload dX10_wish_109 rfl ?_
    refine B_i2l dX10_wish_111 rfl ?_
    refine A_lmul dX10_wish_112 ?_
    refine A_ldc2 (x := 100) dX10_wish_113 kX10_262 (by decide +kernel) ?_
    refine B_ldiv dX10_wish_116 rfl (wlitL (by decide) (by decide)) (by decide) ?_
    refine A_lstore (ls' := [(7, _), (6, _), (0, _), (1, _), (2, _), (3, _), (5, _)]) dX10_wish_117 (by decide) rfl ?_
    refine A_lload dX10_wish_119 rfl ?_
    refine A_aload_n dX10_wish_121 rfl rfl ?_
    refine A_getR (c2 := 69) (i2 := 0) dX10_wish_122 fX10_105 rfl (okK10 (by omega)) rfl ?_
    refine A_iload dX10_wish_125 rfl ?_
    obtain ⟨j7, qj7, bj7, h⟩ := h
    refine A_lald (j := j7) dX10_wish_127 (by decide) rfl (okK69 (by omega)) qj7 bj7 ?_
    refine B_lcmp_ge (tgt := 137) dX10_wish_128 rfl dX10_wish_129 (by decide) rfl rfl ⟨fun q => ?_, fun q => ?_⟩
    · replace h := h.1 q
      refine A_aload_n dX10_wish_137 rfl rfl ?_
      refine A_getR (c2 := 69) (i2 := 0) dX10_wish_138 fX10_105 rfl (okK10 (by omega)) rfl ?_
      refine A_iload dX10_wish_141 rfl ?_
      obtain ⟨j8, qj8, bj8, h⟩ := h
      refine A_lald (j := j8) dX10_wish_143 (by decide) rfl (okK69 (by omega)) qj8 bj8 ?_
      exact A_lret dX10_wish_144 ⟨rfl, _, rfl, h⟩
    · replace h := h.2 q
      refine A_lload dX10_wish_132 rfl ?_
      refine A_goto (tgt := 144) dX10_wish_134 (by decide) ?_
      exact A_lret dX10_wish_144 ⟨rfl, _, rfl, h⟩
  replace h := h.2
  by_cases q39_4 : wI (N 61 0 j2) = 4
  · replace h := h.1 q39_4
    refine A_tableIn (tgt := 145) dX10_wish_39 q39_4 (by decide) rfl (by decide) ?_
    refine A_iload dX10_wish_145 rfl ?_
    refine B_i2l dX10_wish_147 rfl ?_
    refine A_aload_n dX10_wish_148 rfl rfl ?_
    refine A_getL dX10_wish_149 fX10_472 rfl (okK10 (by omega)) ?_
    refine B_lcmp_le (tgt := 167) dX10_wish_152 rfl dX10_wish_153 (by decide) rfl rfl ⟨fun q => ?_, fun q => ?_⟩
    · replace h := h.1 q
      refine A_lconst (v := 0) dX10_wish_167 (by decide +kernel) ?_
      exact A_lret dX10_wish_168 ⟨rfl, _, rfl, h⟩
    · replace h := h.2 q
      refine A_iload dX10_wish_156 rfl ?_
      refine B_i2l dX10_wish_158 rfl ?_
      refine A_aload_n dX10_wish_159 rfl rfl ?_
      refine A_getL dX10_wish_160 fX10_472 rfl (okK10 (by omega)) ?_
      refine A_lsub dX10_wish_163 ?_
      refine A_goto (tgt := 168) dX10_wish_164 (by decide) ?_
      exact A_lret dX10_wish_168 ⟨rfl, _, rfl, h⟩
  replace h := h.2
  replace h := h (by omega)
  refine A_tableOut (tgt := 169) dX10_wish_39 (by omega) (by decide) ?_
  refine A_lload_n dX10_wish_169 rfl rfl ?_
  exact A_lret dX10_wish_170 ⟨rfl, _, rfl, h⟩
set_option maxRecDepth 100000 in
set_option maxHeartbeats 4000000 in
theorem vc_X10_pay {G : GT} {a1 : Int} {N : NN} {K : NN → Prop}  (h : (∃ j1 : Nat, (wI a1) = (j1 : Int) ∧ j1 < 61 ∧ (∀ M2 : NN, M2 = up3 N 10 0 65 ((N 10 0 65) + (N 55 0 j1)) → (∃ j3 : Nat, (wI a1) = (j3 : Int) ∧ j3 < 61 ∧ (((wL (M2 55 0 j3)) ≤ 0 → (∀ M4 : NN, M4 = up3 M2 10 0 68 ((M2 10 0 68) + 1) → (((wI (M4 10 0 67)) ≠ 0 → (((wI (M4 10 0 68)) < (wI (M4 10 0 70)) → (∃ j5 : Nat, (wI a1) = (j5 : Int) ∧ j5 < 61 ∧ ((M4 10 0 67 = 0 ∨ M4 10 0 67 = 1) ∧ (∀ M6 : NN, M6 = up3 M4 79 0 j5 (M4 10 0 67) → (∃ j7 : Nat, (wI a1) = (j7 : Int) ∧ j7 < 61 ∧ (∃ j8 : Nat, (wI a1) = (j8 : Int) ∧ j8 < 61 ∧ (∃ j9 : Nat, (wI a1) = (j9 : Int) ∧ j9 < 61 ∧ (∃ j10 : Nat, (wI a1) = (j10 : Int) ∧ j10 < 61 ∧ (∃ j11 : Nat, (wI a1) = (j11 : Int) ∧ j11 < 61 ∧ (∃ j12 : Nat, (wI a1) = (j12 : Int) ∧ j12 < 61 ∧ (∀ M13 : NN, M13 = up3 M6 77 0 j12 ((((((M6 48 0 j7) + (M6 49 0 j8)) + (M6 50 0 j9)) + (M6 51 0 j10)) - (M6 52 0 j11)) + (M6 10 0 64)) → (∀ M14 : NN, M14 = up3 M13 10 0 64 0 → W_X10_pay G K 164 [(0, vR 10 0), (1, vI a1), (2, vL ((((((M6 48 0 j7) + (M6 49 0 j8)) + (M6 50 0 j9)) + (M6 51 0 j10)) - (M6 52 0 j11)) + (M6 10 0 64))), (4, vI 0)] [] M14)))))))))))) ∧ (¬ ((wI (M4 10 0 68)) < (wI (M4 10 0 70))) → (∀ M15 : NN, M15 = up3 M4 10 0 67 0 → (∃ j16 : Nat, (wI a1) = (j16 : Int) ∧ j16 < 61 ∧ ((M15 10 0 67 = 0 ∨ M15 10 0 67 = 1) ∧ (∀ M17 : NN, M17 = up3 M15 79 0 j16 (M15 10 0 67) → (∃ j18 : Nat, (wI a1) = (j18 : Int) ∧ j18 < 61 ∧ (∃ j19 : Nat, (wI a1) = (j19 : Int) ∧ j19 < 61 ∧ (∃ j20 : Nat, (wI a1) = (j20 : Int) ∧ j20 < 61 ∧ (∃ j21 : Nat, (wI a1) = (j21 : Int) ∧ j21 < 61 ∧ (∃ j22 : Nat, (wI a1) = (j22 : Int) ∧ j22 < 61 ∧ (∃ j23 : Nat, (wI a1) = (j23 : Int) ∧ j23 < 61 ∧ (∀ M24 : NN, M24 = up3 M17 77 0 j23 ((((((M17 48 0 j18) + (M17 49 0 j19)) + (M17 50 0 j20)) + (M17 51 0 j21)) - (M17 52 0 j22)) + (M17 10 0 64)) → (∀ M25 : NN, M25 = up3 M24 10 0 64 0 → W_X10_pay G K 164 [(0, vR 10 0), (1, vI a1), (2, vL ((((((M17 48 0 j18) + (M17 49 0 j19)) + (M17 50 0 j20)) + (M17 51 0 j21)) - (M17 52 0 j22)) + (M17 10 0 64))), (4, vI 0)] [] M25))))))))))))))) ∧ (¬ ((wI (M4 10 0 67)) ≠ 0) → (∃ j26 : Nat, (wI a1) = (j26 : Int) ∧ j26 < 61 ∧ (((wL (M4 55 0 j26)) ≤ 0 → (∀ M27 : NN, M27 = up3 M4 10 0 67 0 → (∃ j28 : Nat, (wI a1) = (j28 : Int) ∧ j28 < 61 ∧ ((M27 10 0 67 = 0 ∨ M27 10 0 67 = 1) ∧ (∀ M29 : NN, M29 = up3 M27 79 0 j28 (M27 10 0 67) → (∃ j30 : Nat, (wI a1) = (j30 : Int) ∧ j30 < 61 ∧ (∃ j31 : Nat, (wI a1) = (j31 : Int) ∧ j31 < 61 ∧ (∃ j32 : Nat, (wI a1) = (j32 : Int) ∧ j32 < 61 ∧ (∃ j33 : Nat, (wI a1) = (j33 : Int) ∧ j33 < 61 ∧ (∃ j34 : Nat, (wI a1) = (j34 : Int) ∧ j34 < 61 ∧ (∃ j35 : Nat, (wI a1) = (j35 : Int) ∧ j35 < 61 ∧ (∀ M36 : NN, M36 = up3 M29 77 0 j35 ((((((M29 48 0 j30) + (M29 49 0 j31)) + (M29 50 0 j32)) + (M29 51 0 j33)) - (M29 52 0 j34)) + (M29 10 0 64)) → (∀ M37 : NN, M37 = up3 M36 10 0 64 0 → W_X10_pay G K 164 [(0, vR 10 0), (1, vI a1), (2, vL ((((((M29 48 0 j30) + (M29 49 0 j31)) + (M29 50 0 j32)) + (M29 51 0 j33)) - (M29 52 0 j34)) + (M29 10 0 64))), (4, vI 0)] [] M37))))))))))))) ∧ (¬ ((wL (M4 55 0 j26)) ≤ 0) → (C_X10_lostNow G  M4 (fun x38 N38 => (((wL x38) ≤ (wL ((wI (N38 10 0 69)))) → (∀ M39 : NN, M39 = up3 N38 10 0 67 0 → (∃ j40 : Nat, (wI a1) = (j40 : Int) ∧ j40 < 61 ∧ ((M39 10 0 67 = 0 ∨ M39 10 0 67 = 1) ∧ (∀ M41 : NN, M41 = up3 M39 79 0 j40 (M39 10 0 67) → (∃ j42 : Nat, (wI a1) = (j42 : Int) ∧ j42 < 61 ∧ (∃ j43 : Nat, (wI a1) = (j43 : Int) ∧ j43 < 61 ∧ (∃ j44 : Nat, (wI a1) = (j44 : Int) ∧ j44 < 61 ∧ (∃ j45 : Nat, (wI a1) = (j45 : Int) ∧ j45 < 61 ∧ (∃ j46 : Nat, (wI a1) = (j46 : Int) ∧ j46 < 61 ∧ (∃ j47 : Nat, (wI a1) = (j47 : Int) ∧ j47 < 61 ∧ (∀ M48 : NN, M48 = up3 M41 77 0 j47 ((((((M41 48 0 j42) + (M41 49 0 j43)) + (M41 50 0 j44)) + (M41 51 0 j45)) - (M41 52 0 j46)) + (M41 10 0 64)) → (∀ M49 : NN, M49 = up3 M48 10 0 64 0 → W_X10_pay G K 164 [(0, vR 10 0), (1, vI a1), (2, vL ((((((M41 48 0 j42) + (M41 49 0 j43)) + (M41 50 0 j44)) + (M41 51 0 j45)) - (M41 52 0 j46)) + (M41 10 0 64))), (4, vI 0)] [] M49))))))))))))) ∧ (¬ ((wL x38) ≤ (wL ((wI (N38 10 0 69))))) → (∀ M50 : NN, M50 = up3 N38 10 0 67 1 → (∃ j51 : Nat, (wI a1) = (j51 : Int) ∧ j51 < 61 ∧ ((M50 10 0 67 = 0 ∨ M50 10 0 67 = 1) ∧ (∀ M52 : NN, M52 = up3 M50 79 0 j51 (M50 10 0 67) → (∃ j53 : Nat, (wI a1) = (j53 : Int) ∧ j53 < 61 ∧ (∃ j54 : Nat, (wI a1) = (j54 : Int) ∧ j54 < 61 ∧ (∃ j55 : Nat, (wI a1) = (j55 : Int) ∧ j55 < 61 ∧ (∃ j56 : Nat, (wI a1) = (j56 : Int) ∧ j56 < 61 ∧ (∃ j57 : Nat, (wI a1) = (j57 : Int) ∧ j57 < 61 ∧ (∃ j58 : Nat, (wI a1) = (j58 : Int) ∧ j58 < 61 ∧ (∀ M59 : NN, M59 = up3 M52 77 0 j58 ((((((M52 48 0 j53) + (M52 49 0 j54)) + (M52 50 0 j55)) + (M52 51 0 j56)) - (M52 52 0 j57)) + (M52 10 0 64)) → (∀ M60 : NN, M60 = up3 M59 10 0 64 0 → W_X10_pay G K 164 [(0, vR 10 0), (1, vI a1), (2, vL ((((((M52 48 0 j53) + (M52 49 0 j54)) + (M52 50 0 j55)) + (M52 51 0 j56)) - (M52 52 0 j57)) + (M52 10 0 64))), (4, vI 0)] [] M60))))))))))))))))))))))) ∧ (¬ ((wL (M2 55 0 j3)) ≤ 0) → (∀ M61 : NN, M61 = up3 M2 10 0 68 0 → (((wI (M61 10 0 67)) ≠ 0 → (((wI (M61 10 0 68)) < (wI (M61 10 0 70)) → (∃ j62 : Nat, (wI a1) = (j62 : Int) ∧ j62 < 61 ∧ ((M61 10 0 67 = 0 ∨ M61 10 0 67 = 1) ∧ (∀ M63 : NN, M63 = up3 M61 79 0 j62 (M61 10 0 67) → (∃ j64 : Nat, (wI a1) = (j64 : Int) ∧ j64 < 61 ∧ (∃ j65 : Nat, (wI a1) = (j65 : Int) ∧ j65 < 61 ∧ (∃ j66 : Nat, (wI a1) = (j66 : Int) ∧ j66 < 61 ∧ (∃ j67 : Nat, (wI a1) = (j67 : Int) ∧ j67 < 61 ∧ (∃ j68 : Nat, (wI a1) = (j68 : Int) ∧ j68 < 61 ∧ (∃ j69 : Nat, (wI a1) = (j69 : Int) ∧ j69 < 61 ∧ (∀ M70 : NN, M70 = up3 M63 77 0 j69 ((((((M63 48 0 j64) + (M63 49 0 j65)) + (M63 50 0 j66)) + (M63 51 0 j67)) - (M63 52 0 j68)) + (M63 10 0 64)) → (∀ M71 : NN, M71 = up3 M70 10 0 64 0 → W_X10_pay G K 164 [(0, vR 10 0), (1, vI a1), (2, vL ((((((M63 48 0 j64) + (M63 49 0 j65)) + (M63 50 0 j66)) + (M63 51 0 j67)) - (M63 52 0 j68)) + (M63 10 0 64))), (4, vI 0)] [] M71)))))))))))) ∧ (¬ ((wI (M61 10 0 68)) < (wI (M61 10 0 70))) → (∀ M72 : NN, M72 = up3 M61 10 0 67 0 → (∃ j73 : Nat, (wI a1) = (j73 : Int) ∧ j73 < 61 ∧ ((M72 10 0 67 = 0 ∨ M72 10 0 67 = 1) ∧ (∀ M74 : NN, M74 = up3 M72 79 0 j73 (M72 10 0 67) → (∃ j75 : Nat, (wI a1) = (j75 : Int) ∧ j75 < 61 ∧ (∃ j76 : Nat, (wI a1) = (j76 : Int) ∧ j76 < 61 ∧ (∃ j77 : Nat, (wI a1) = (j77 : Int) ∧ j77 < 61 ∧ (∃ j78 : Nat, (wI a1) = (j78 : Int) ∧ j78 < 61 ∧ (∃ j79 : Nat, (wI a1) = (j79 : Int) ∧ j79 < 61 ∧ (∃ j80 : Nat, (wI a1) = (j80 : Int) ∧ j80 < 61 ∧ (∀ M81 : NN, M81 = up3 M74 77 0 j80 ((((((M74 48 0 j75) + (M74 49 0 j76)) + (M74 50 0 j77)) + (M74 51 0 j78)) - (M74 52 0 j79)) + (M74 10 0 64)) → (∀ M82 : NN, M82 = up3 M81 10 0 64 0 → W_X10_pay G K 164 [(0, vR 10 0), (1, vI a1), (2, vL ((((((M74 48 0 j75) + (M74 49 0 j76)) + (M74 50 0 j77)) + (M74 51 0 j78)) - (M74 52 0 j79)) + (M74 10 0 64))), (4, vI 0)] [] M82))))))))))))))) ∧ (¬ ((wI (M61 10 0 67)) ≠ 0) → (∃ j83 : Nat, (wI a1) = (j83 : Int) ∧ j83 < 61 ∧ (((wL (M61 55 0 j83)) ≤ 0 → (∀ M84 : NN, M84 = up3 M61 10 0 67 0 → (∃ j85 : Nat, (wI a1) = (j85 : Int) ∧ j85 < 61 ∧ ((M84 10 0 67 = 0 ∨ M84 10 0 67 = 1) ∧ (∀ M86 : NN, M86 = up3 M84 79 0 j85 (M84 10 0 67) → (∃ j87 : Nat, (wI a1) = (j87 : Int) ∧ j87 < 61 ∧ (∃ j88 : Nat, (wI a1) = (j88 : Int) ∧ j88 < 61 ∧ (∃ j89 : Nat, (wI a1) = (j89 : Int) ∧ j89 < 61 ∧ (∃ j90 : Nat, (wI a1) = (j90 : Int) ∧ j90 < 61 ∧ (∃ j91 : Nat, (wI a1) = (j91 : Int) ∧ j91 < 61 ∧ (∃ j92 : Nat, (wI a1) = (j92 : Int) ∧ j92 < 61 ∧ (∀ M93 : NN, M93 = up3 M86 77 0 j92 ((((((M86 48 0 j87) + (M86 49 0 j88)) + (M86 50 0 j89)) + (M86 51 0 j90)) - (M86 52 0 j91)) + (M86 10 0 64)) → (∀ M94 : NN, M94 = up3 M93 10 0 64 0 → W_X10_pay G K 164 [(0, vR 10 0), (1, vI a1), (2, vL ((((((M86 48 0 j87) + (M86 49 0 j88)) + (M86 50 0 j89)) + (M86 51 0 j90)) - (M86 52 0 j91)) + (M86 10 0 64))), (4, vI 0)] [] M94))))))))))))) ∧ (¬ ((wL (M61 55 0 j83)) ≤ 0) → (C_X10_lostNow G  M61 (fun x95 N95 => (((wL x95) ≤ (wL ((wI (N95 10 0 69)))) → (∀ M96 : NN, M96 = up3 N95 10 0 67 0 → (∃ j97 : Nat, (wI a1) = (j97 : Int) ∧ j97 < 61 ∧ ((M96 10 0 67 = 0 ∨ M96 10 0 67 = 1) ∧ (∀ M98 : NN, M98 = up3 M96 79 0 j97 (M96 10 0 67) → (∃ j99 : Nat, (wI a1) = (j99 : Int) ∧ j99 < 61 ∧ (∃ j100 : Nat, (wI a1) = (j100 : Int) ∧ j100 < 61 ∧ (∃ j101 : Nat, (wI a1) = (j101 : Int) ∧ j101 < 61 ∧ (∃ j102 : Nat, (wI a1) = (j102 : Int) ∧ j102 < 61 ∧ (∃ j103 : Nat, (wI a1) = (j103 : Int) ∧ j103 < 61 ∧ (∃ j104 : Nat, (wI a1) = (j104 : Int) ∧ j104 < 61 ∧ (∀ M105 : NN, M105 = up3 M98 77 0 j104 ((((((M98 48 0 j99) + (M98 49 0 j100)) + (M98 50 0 j101)) + (M98 51 0 j102)) - (M98 52 0 j103)) + (M98 10 0 64)) → (∀ M106 : NN, M106 = up3 M105 10 0 64 0 → W_X10_pay G K 164 [(0, vR 10 0), (1, vI a1), (2, vL ((((((M98 48 0 j99) + (M98 49 0 j100)) + (M98 50 0 j101)) + (M98 51 0 j102)) - (M98 52 0 j103)) + (M98 10 0 64))), (4, vI 0)] [] M106))))))))))))) ∧ (¬ ((wL x95) ≤ (wL ((wI (N95 10 0 69))))) → (∀ M107 : NN, M107 = up3 N95 10 0 67 1 → (∃ j108 : Nat, (wI a1) = (j108 : Int) ∧ j108 < 61 ∧ ((M107 10 0 67 = 0 ∨ M107 10 0 67 = 1) ∧ (∀ M109 : NN, M109 = up3 M107 79 0 j108 (M107 10 0 67) → (∃ j110 : Nat, (wI a1) = (j110 : Int) ∧ j110 < 61 ∧ (∃ j111 : Nat, (wI a1) = (j111 : Int) ∧ j111 < 61 ∧ (∃ j112 : Nat, (wI a1) = (j112 : Int) ∧ j112 < 61 ∧ (∃ j113 : Nat, (wI a1) = (j113 : Int) ∧ j113 < 61 ∧ (∃ j114 : Nat, (wI a1) = (j114 : Int) ∧ j114 < 61 ∧ (∃ j115 : Nat, (wI a1) = (j115 : Int) ∧ j115 < 61 ∧ (∀ M116 : NN, M116 = up3 M109 77 0 j115 ((((((M109 48 0 j110) + (M109 49 0 j111)) + (M109 50 0 j112)) + (M109 51 0 j113)) - (M109 52 0 j114)) + (M109 10 0 64)) → (∀ M117 : NN, M117 = up3 M116 10 0 64 0 → W_X10_pay G K 164 [(0, vR 10 0), (1, vI a1), (2, vL ((((((M109 48 0 j110) + (M109 49 0 j111)) + (M109 50 0 j112)) + (M109 51 0 j113)) - (M109 52 0 j114)) + (M109 10 0 64))), (4, vI 0)] [] M117)))))))))))))))))))))))))))) : C_X10_pay G a1 N K := by
  refine Ctr.ofAW RX10 false rfl (by decide +kernel) (fun q => by cases q) (Nat.le_of_ble_eq_true rfl) (Nat.le_refl _) ?_
  refine A_aload_n dX10_pay_0 rfl rfl ?_
  refine A_dup dX10_pay_1 rfl ?_
  refine A_getL dX10_pay_2 fX10_454 rfl (okK10 (by omega)) ?_
  refine A_aload_n dX10_pay_5 rfl rfl ?_
  refine A_getR (c2 := 55) (i2 := 0) dX10_pay_6 fX10_63 rfl (okK10 (by omega)) rfl ?_
  refine A_iload_n dX10_pay_9 rfl rfl ?_
  obtain ⟨j1, qj1, bj1, h⟩ := h
  refine A_lald (j := j1) dX10_pay_10 (by decide) rfl (okK55 (by omega)) qj1 bj1 ?_
  refine A_ladd dX10_pay_11 ?_
  refine B_putL dX10_pay_12 fX10_454 (by decide) (okK10 (by omega)) (fun M2 eM2 => ?_)
  replace h := h M2 eM2
  refine A_aload_n dX10_pay_15 rfl rfl ?_
  refine A_aload_n dX10_pay_16 rfl rfl ?_
  refine A_getR (c2 := 55) (i2 := 0) dX10_pay_17 fX10_63 rfl (okK10 (by omega)) rfl ?_
  refine A_iload_n dX10_pay_20 rfl rfl ?_
  obtain ⟨j3, qj3, bj3, h⟩ := h
  refine A_lald (j := j3) dX10_pay_21 (by decide) rfl (okK55 (by omega)) qj3 bj3 ?_
  refine A_lconst (v := 0) dX10_pay_22 (by decide +kernel) ?_
  refine B_lcmp_le (tgt := 31) dX10_pay_23 rfl dX10_pay_24 (by decide) rfl (wlitL (by decide) (by decide)) ⟨fun q => ?_, fun q => ?_⟩
  · replace h := h.1 q
    refine A_aload_n dX10_pay_31 rfl rfl ?_
    refine A_getI dX10_pay_32 fX10_475 rfl (okK10 (by omega)) ?_
    refine A_iconst (v := 1) dX10_pay_35 rfl ?_
    refine A_iadd dX10_pay_36 ?_
    refine B_putI dX10_pay_37 fX10_475 (by decide) (okK10 (by omega)) (fun M4 eM4 => ?_)
    replace h := h M4 eM4
    refine A_aload_n dX10_pay_40 rfl rfl ?_
    refine A_getI dX10_pay_41 fX10_463 rfl (okK10 (by omega)) ?_
    refine B_if_ne (tgt := 83) dX10_pay_44 (by decide) rfl ⟨fun q => ?_, fun q => ?_⟩
    · replace h := h.1 q
      refine A_aload_n dX10_pay_83 rfl rfl ?_
      refine A_getI dX10_pay_84 fX10_475 rfl (okK10 (by omega)) ?_
      refine A_aload_n dX10_pay_87 rfl rfl ?_
      refine A_getI dX10_pay_88 fX10_132 rfl (okK10 (by omega)) ?_
      refine B_icmp_lt (tgt := 99) dX10_pay_91 (by decide) rfl rfl ⟨fun q => ?_, fun q => ?_⟩
      · replace h := h.1 q
        refine A_aload_n dX10_pay_99 rfl rfl ?_
        refine A_getR (c2 := 79) (i2 := 0) dX10_pay_100 fX10_141 rfl (okK10 (by omega)) rfl ?_
        refine A_iload_n dX10_pay_103 rfl rfl ?_
        refine A_aload_n dX10_pay_104 rfl rfl ?_
        refine A_getI dX10_pay_105 fX10_463 rfl (okK10 (by omega)) ?_
        obtain ⟨j5, qj5, bj5, h⟩ := h
        refine B_zast (j := j5) dX10_pay_108 (by decide) rfl (okK79 (by omega)) qj5 bj5 h.1 (fun M6 eM6 => ?_)
        replace h := h.2
        replace h := h M6 eM6
        refine A_aload_n dX10_pay_109 rfl rfl ?_
        refine A_getR (c2 := 48) (i2 := 0) dX10_pay_110 fX10_41 rfl (okK10 (by omega)) rfl ?_
        refine A_iload_n dX10_pay_113 rfl rfl ?_
        obtain ⟨j7, qj7, bj7, h⟩ := h
        refine A_lald (j := j7) dX10_pay_114 (by decide) rfl (okK48 (by omega)) qj7 bj7 ?_
        refine A_aload_n dX10_pay_115 rfl rfl ?_
        refine A_getR (c2 := 49) (i2 := 0) dX10_pay_116 fX10_45 rfl (okK10 (by omega)) rfl ?_
        refine A_iload_n dX10_pay_119 rfl rfl ?_
        obtain ⟨j8, qj8, bj8, h⟩ := h
        refine A_lald (j := j8) dX10_pay_120 (by decide) rfl (okK49 (by omega)) qj8 bj8 ?_
        refine A_ladd dX10_pay_121 ?_
        refine A_aload_n dX10_pay_122 rfl rfl ?_
        refine A_getR (c2 := 50) (i2 := 0) dX10_pay_123 fX10_48 rfl (okK10 (by omega)) rfl ?_
        refine A_iload_n dX10_pay_126 rfl rfl ?_
        obtain ⟨j9, qj9, bj9, h⟩ := h
        refine A_lald (j := j9) dX10_pay_127 (by decide) rfl (okK50 (by omega)) qj9 bj9 ?_
        refine A_ladd dX10_pay_128 ?_
        refine A_aload_n dX10_pay_129 rfl rfl ?_
        refine A_getR (c2 := 51) (i2 := 0) dX10_pay_130 fX10_51 rfl (okK10 (by omega)) rfl ?_
        refine A_iload_n dX10_pay_133 rfl rfl ?_
        obtain ⟨j10, qj10, bj10, h⟩ := h
        refine A_lald (j := j10) dX10_pay_134 (by decide) rfl (okK51 (by omega)) qj10 bj10 ?_
        refine A_ladd dX10_pay_135 ?_
        refine A_aload_n dX10_pay_136 rfl rfl ?_
        refine A_getR (c2 := 52) (i2 := 0) dX10_pay_137 fX10_54 rfl (okK10 (by omega)) rfl ?_
        refine A_iload_n dX10_pay_140 rfl rfl ?_
        obtain ⟨j11, qj11, bj11, h⟩ := h
        refine A_lald (j := j11) dX10_pay_141 (by decide) rfl (okK52 (by omega)) qj11 bj11 ?_
        refine A_lsub dX10_pay_142 ?_
        refine A_aload_n dX10_pay_143 rfl rfl ?_
        refine A_getL dX10_pay_144 fX10_472 rfl (okK10 (by omega)) ?_
        refine A_ladd dX10_pay_147 ?_
        refine A_lstore_n (ls' := [(2, _), (0, _), (1, _)]) dX10_pay_148 rfl (by decide) rfl ?_
        refine A_aload_n dX10_pay_149 rfl rfl ?_
        refine A_getR (c2 := 77) (i2 := 0) dX10_pay_150 fX10_135 rfl (okK10 (by omega)) rfl ?_
        refine A_iload_n dX10_pay_153 rfl rfl ?_
        refine A_lload_n dX10_pay_154 rfl rfl ?_
        obtain ⟨j12, qj12, bj12, h⟩ := h
        refine B_last (j := j12) dX10_pay_155 (by decide) rfl (okK77 (by omega)) qj12 bj12 (fun M13 eM13 => ?_)
        replace h := h M13 eM13
        refine A_aload_n dX10_pay_156 rfl rfl ?_
        refine A_lconst (v := 0) dX10_pay_157 (by decide +kernel) ?_
        refine B_putL dX10_pay_158 fX10_472 (by decide) (okK10 (by omega)) (fun M14 eM14 => ?_)
        replace h := h M14 eM14
        refine A_iconst (v := 0) dX10_pay_161 rfl ?_
        refine A_istore (ls' := [(4, _), (2, _), (0, _), (1, _)]) dX10_pay_162 (by decide) rfl ?_
        exact A_pick [2, 3, 1, 0] rfl h
      · replace h := h.2 q
        refine A_aload_n dX10_pay_94 rfl rfl ?_
        refine A_iconst (v := 0) dX10_pay_95 rfl ?_
        refine B_putZ dX10_pay_96 fX10_463 (by decide) (okK10 (by omega)) (by decide) (fun M15 eM15 => ?_)
        replace h := h M15 eM15
        refine A_aload_n dX10_pay_99 rfl rfl ?_
        refine A_getR (c2 := 79) (i2 := 0) dX10_pay_100 fX10_141 rfl (okK10 (by omega)) rfl ?_
        refine A_iload_n dX10_pay_103 rfl rfl ?_
        refine A_aload_n dX10_pay_104 rfl rfl ?_
        refine A_getI dX10_pay_105 fX10_463 rfl (okK10 (by omega)) ?_
        obtain ⟨j16, qj16, bj16, h⟩ := h
        refine B_zast (j := j16) dX10_pay_108 (by decide) rfl (okK79 (by omega)) qj16 bj16 h.1 (fun M17 eM17 => ?_)
        replace h := h.2
        replace h := h M17 eM17
        refine A_aload_n dX10_pay_109 rfl rfl ?_
        refine A_getR (c2 := 48) (i2 := 0) dX10_pay_110 fX10_41 rfl (okK10 (by omega)) rfl ?_
        refine A_iload_n dX10_pay_113 rfl rfl ?_
        obtain ⟨j18, qj18, bj18, h⟩ := h
        refine A_lald (j := j18) dX10_pay_114 (by decide) rfl (okK48 (by omega)) qj18 bj18 ?_
        refine A_aload_n dX10_pay_115 rfl rfl ?_
        refine A_getR (c2 := 49) (i2 := 0) dX10_pay_116 fX10_45 rfl (okK10 (by omega)) rfl ?_
        refine A_iload_n dX10_pay_119 rfl rfl ?_
        obtain ⟨j19, qj19, bj19, h⟩ := h
        refine A_lald (j := j19) dX10_pay_120 (by decide) rfl (okK49 (by omega)) qj19 bj19 ?_
        refine A_ladd dX10_pay_121 ?_
        refine A_aload_n dX10_pay_122 rfl rfl ?_
        refine A_getR (c2 := 50) (i2 := 0) dX10_pay_123 fX10_48 rfl (okK10 (by omega)) rfl ?_
        refine A_iload_n dX10_pay_126 rfl rfl ?_
        obtain ⟨j20, qj20, bj20, h⟩ := h
        refine A_lald (j := j20) dX10_pay_127 (by decide) rfl (okK50 (by omega)) qj20 bj20 ?_
        refine A_ladd dX10_pay_128 ?_
        refine A_aload_n dX10_pay_129 rfl rfl ?_
        refine A_getR (c2 := 51) (i2 := 0) dX10_pay_130 fX10_51 rfl (okK10 (by omega)) rfl ?_
        refine A_iload_n dX10_pay_133 rfl rfl ?_
        obtain ⟨j21, qj21, bj21, h⟩ := h
        refine A_lald (j := j21) dX10_pay_134 (by decide) rfl (okK51 (by omega)) qj21 bj21 ?_
        refine A_ladd dX10_pay_135 ?_
        refine A_aload_n dX10_pay_136 rfl rfl ?_
        refine A_getR (c2 := 52) (i2 := 0) dX10_pay_137 fX10_54 rfl (okK10 (by omega)) rfl ?_
        refine A_iload_n dX10_pay_140 rfl rfl ?_
        obtain ⟨j22, qj22, bj22, h⟩ := h
        refine A_lald (j := j22) dX10_pay_141 (by decide) rfl (okK52 (by omega)) qj22 bj22 ?_
        refine A_lsub dX10_pay_142 ?_
        refine A_aload_n dX10_pay_143 rfl rfl ?_
        refine A_getL dX10_pay_144 fX10_472 rfl (okK10 (by omega)) ?_
        refine A_ladd dX10_pay_147 ?_
        refine A_lstore_n (ls' := [(2, _), (0, _), (1, _)]) dX10_pay_148 rfl (by decide) rfl ?_
        refine A_aload_n dX10_pay_149 rfl rfl ?_
        refine A_getR (c2 := 77) (i2 := 0) dX10_pay_150 fX10_135 rfl (okK10 (by omega)) rfl ?_
        refine A_iload_n dX10_pay_153 rfl rfl ?_
        refine A_lload_n dX10_pay_154 rfl rfl ?_
        obtain ⟨j23, qj23, bj23, h⟩ := h
        refine B_last (j := j23) dX10_pay_155 (by decide) rfl (okK77 (by omega)) qj23 bj23 (fun M24 eM24 => ?_)
        replace h := h M24 eM24
        refine A_aload_n dX10_pay_156 rfl rfl ?_
        refine A_lconst (v := 0) dX10_pay_157 (by decide +kernel) ?_
        refine B_putL dX10_pay_158 fX10_472 (by decide) (okK10 (by omega)) (fun M25 eM25 => ?_)
        replace h := h M25 eM25
        refine A_iconst (v := 0) dX10_pay_161 rfl ?_
        refine A_istore (ls' := [(4, _), (2, _), (0, _), (1, _)]) dX10_pay_162 (by decide) rfl ?_
        exact A_pick [2, 3, 1, 0] rfl h
    · replace h := h.2 q
      refine A_aload_n dX10_pay_47 rfl rfl ?_
      refine A_aload_n dX10_pay_48 rfl rfl ?_
      refine A_getR (c2 := 55) (i2 := 0) dX10_pay_49 fX10_63 rfl (okK10 (by omega)) rfl ?_
      refine A_iload_n dX10_pay_52 rfl rfl ?_
      obtain ⟨j26, qj26, bj26, h⟩ := h
      refine A_lald (j := j26) dX10_pay_53 (by decide) rfl (okK55 (by omega)) qj26 bj26 ?_
      refine A_lconst (v := 0) dX10_pay_54 (by decide +kernel) ?_
      refine B_lcmp_le (tgt := 76) dX10_pay_55 rfl dX10_pay_56 (by decide) rfl (wlitL (by decide) (by decide)) ⟨fun q => ?_, fun q => ?_⟩
      · replace h := h.1 q
        refine A_iconst (v := 0) dX10_pay_76 rfl ?_
        refine B_putZ dX10_pay_77 fX10_463 (by decide) (okK10 (by omega)) (by decide) (fun M27 eM27 => ?_)
        replace h := h M27 eM27
        refine A_goto (tgt := 99) dX10_pay_80 (by decide) ?_
        refine A_aload_n dX10_pay_99 rfl rfl ?_
        refine A_getR (c2 := 79) (i2 := 0) dX10_pay_100 fX10_141 rfl (okK10 (by omega)) rfl ?_
        refine A_iload_n dX10_pay_103 rfl rfl ?_
        refine A_aload_n dX10_pay_104 rfl rfl ?_
        refine A_getI dX10_pay_105 fX10_463 rfl (okK10 (by omega)) ?_
        obtain ⟨j28, qj28, bj28, h⟩ := h
        refine B_zast (j := j28) dX10_pay_108 (by decide) rfl (okK79 (by omega)) qj28 bj28 h.1 (fun M29 eM29 => ?_)
        replace h := h.2
        replace h := h M29 eM29
        refine A_aload_n dX10_pay_109 rfl rfl ?_
        refine A_getR (c2 := 48) (i2 := 0) dX10_pay_110 fX10_41 rfl (okK10 (by omega)) rfl ?_
        refine A_iload_n dX10_pay_113 rfl rfl ?_
        obtain ⟨j30, qj30, bj30, h⟩ := h
        refine A_lald (j := j30) dX10_pay_114 (by decide) rfl (okK48 (by omega)) qj30 bj30 ?_
        refine A_aload_n dX10_pay_115 rfl rfl ?_
        refine A_getR (c2 := 49) (i2 := 0) dX10_pay_116 fX10_45 rfl (okK10 (by omega)) rfl ?_
        refine A_iload_n dX10_pay_119 rfl rfl ?_
        obtain ⟨j31, qj31, bj31, h⟩ := h
        refine A_lald (j := j31) dX10_pay_120 (by decide) rfl (okK49 (by omega)) qj31 bj31 ?_
        refine A_ladd dX10_pay_121 ?_
        refine A_aload_n dX10_pay_122 rfl rfl ?_
        refine A_getR (c2 := 50) (i2 := 0) dX10_pay_123 fX10_48 rfl (okK10 (by omega)) rfl ?_
        refine A_iload_n dX10_pay_126 rfl rfl ?_
        obtain ⟨j32, qj32, bj32, h⟩ := h
        refine A_lald (j := j32) dX10_pay_127 (by decide) rfl (okK50 (by omega)) qj32 bj32 ?_
        refine A_ladd dX10_pay_128 ?_
        refine A_aload_n dX10_pay_129 rfl rfl ?_
        refine A_getR (c2 := 51) (i2 := 0) dX10_pay_130 fX10_51 rfl (okK10 (by omega)) rfl ?_
        refine A_iload_n dX10_pay_133 rfl rfl ?_
        obtain ⟨j33, qj33, bj33, h⟩ := h
        refine A_lald (j := j33) dX10_pay_134 (by decide) rfl (okK51 (by omega)) qj33 bj33 ?_
        refine A_ladd dX10_pay_135 ?_
        refine A_aload_n dX10_pay_136 rfl rfl ?_
        refine A_getR (c2 := 52) (i2 := 0) dX10_pay_137 fX10_54 rfl (okK10 (by omega)) rfl ?_
        refine A_iload_n dX10_pay_140 rfl rfl ?_
        obtain ⟨j34, qj34, bj34, h⟩ := h
        refine A_lald (j := j34) dX10_pay_141 (by decide) rfl (okK52 (by omega)) qj34 bj34 ?_
        refine A_lsub dX10_pay_142 ?_
        refine A_aload_n dX10_pay_143 rfl rfl ?_
        refine A_getL dX10_pay_144 fX10_472 rfl (okK10 (by omega)) ?_
        refine A_ladd dX10_pay_147 ?_
        refine A_lstore_n (ls' := [(2, _), (0, _), (1, _)]) dX10_pay_148 rfl (by decide) rfl ?_
        refine A_aload_n dX10_pay_149 rfl rfl ?_
        refine A_getR (c2 := 77) (i2 := 0) dX10_pay_150 fX10_135 rfl (okK10 (by omega)) rfl ?_
        refine A_iload_n dX10_pay_153 rfl rfl ?_
        refine A_lload_n dX10_pay_154 rfl rfl ?_
        obtain ⟨j35, qj35, bj35, h⟩ := h
        refine B_last (j := j35) dX10_pay_155 (by decide) rfl (okK77 (by omega)) qj35 bj35 (fun M36 eM36 => ?_)
        replace h := h M36 eM36
        refine A_aload_n dX10_pay_156 rfl rfl ?_
        refine A_lconst (v := 0) dX10_pay_157 (by decide +kernel) ?_
        refine B_putL dX10_pay_158 fX10_472 (by decide) (okK10 (by omega)) (fun M37 eM37 => ?_)
        replace h := h M37 eM37
        refine A_iconst (v := 0) dX10_pay_161 rfl ?_
        refine A_istore (ls' := [(4, _), (2, _), (0, _), (1, _)]) dX10_pay_162 (by decide) rfl ?_
        exact A_pick [2, 3, 1, 0] rfl h
      · replace h := h.2 q
        refine A_aload_n dX10_pay_59 rfl rfl ?_
        refine B_callV_L (av := []) rfl dX10_pay_60 vX10_457 mX10_lostNow ⟨rfl, rfl, by decide⟩ (okK10 (by omega)) rfl (Nat.le_of_ble_eq_true rfl) (by decide) (by decide) rfl (BC_monoL h (fun x38 N38 h => ?_))
        refine A_aload_n dX10_pay_63 rfl rfl ?_
        refine A_getI dX10_pay_64 fX10_129 rfl (okK10 (by omega)) ?_
        refine B_i2l dX10_pay_67 rfl ?_
        refine B_lcmp_le (tgt := 76) dX10_pay_68 rfl dX10_pay_69 (by decide) rfl rfl ⟨fun q => ?_, fun q => ?_⟩
        · replace h := h.1 q
          refine A_iconst (v := 0) dX10_pay_76 rfl ?_
          refine B_putZ dX10_pay_77 fX10_463 (by decide) (okK10 (by omega)) (by decide) (fun M39 eM39 => ?_)
          replace h := h M39 eM39
          refine A_goto (tgt := 99) dX10_pay_80 (by decide) ?_
          refine A_aload_n dX10_pay_99 rfl rfl ?_
          refine A_getR (c2 := 79) (i2 := 0) dX10_pay_100 fX10_141 rfl (okK10 (by omega)) rfl ?_
          refine A_iload_n dX10_pay_103 rfl rfl ?_
          refine A_aload_n dX10_pay_104 rfl rfl ?_
          refine A_getI dX10_pay_105 fX10_463 rfl (okK10 (by omega)) ?_
          obtain ⟨j40, qj40, bj40, h⟩ := h
          refine B_zast (j := j40) dX10_pay_108 (by decide) rfl (okK79 (by omega)) qj40 bj40 h.1 (fun M41 eM41 => ?_)
          replace h := h.2
          replace h := h M41 eM41
          refine A_aload_n dX10_pay_109 rfl rfl ?_
          refine A_getR (c2 := 48) (i2 := 0) dX10_pay_110 fX10_41 rfl (okK10 (by omega)) rfl ?_
          refine A_iload_n dX10_pay_113 rfl rfl ?_
          obtain ⟨j42, qj42, bj42, h⟩ := h
          refine A_lald (j := j42) dX10_pay_114 (by decide) rfl (okK48 (by omega)) qj42 bj42 ?_
          refine A_aload_n dX10_pay_115 rfl rfl ?_
          refine A_getR (c2 := 49) (i2 := 0) dX10_pay_116 fX10_45 rfl (okK10 (by omega)) rfl ?_
          refine A_iload_n dX10_pay_119 rfl rfl ?_
          obtain ⟨j43, qj43, bj43, h⟩ := h
          refine A_lald (j := j43) dX10_pay_120 (by decide) rfl (okK49 (by omega)) qj43 bj43 ?_
          refine A_ladd dX10_pay_121 ?_
          refine A_aload_n dX10_pay_122 rfl rfl ?_
          refine A_getR (c2 := 50) (i2 := 0) dX10_pay_123 fX10_48 rfl (okK10 (by omega)) rfl ?_
          refine A_iload_n dX10_pay_126 rfl rfl ?_
          obtain ⟨j44, qj44, bj44, h⟩ := h
          refine A_lald (j := j44) dX10_pay_127 (by decide) rfl (okK50 (by omega)) qj44 bj44 ?_
          refine A_ladd dX10_pay_128 ?_
          refine A_aload_n dX10_pay_129 rfl rfl ?_
          refine A_getR (c2 := 51) (i2 := 0) dX10_pay_130 fX10_51 rfl (okK10 (by omega)) rfl ?_
          refine A_iload_n dX10_pay_133 rfl rfl ?_
          obtain ⟨j45, qj45, bj45, h⟩ := h
          refine A_lald (j := j45) dX10_pay_134 (by decide) rfl (okK51 (by omega)) qj45 bj45 ?_
          refine A_ladd dX10_pay_135 ?_
          refine A_aload_n dX10_pay_136 rfl rfl ?_
          refine A_getR (c2 := 52) (i2 := 0) dX10_pay_137 fX10_54 rfl (okK10 (by omega)) rfl ?_
          refine A_iload_n dX10_pay_140 rfl rfl ?_
          obtain ⟨j46, qj46, bj46, h⟩ := h
          refine A_lald (j := j46) dX10_pay_141 (by decide) rfl (okK52 (by omega)) qj46 bj46 ?_
          refine A_lsub dX10_pay_142 ?_
          refine A_aload_n dX10_pay_143 rfl rfl ?_
          refine A_getL dX10_pay_144 fX10_472 rfl (okK10 (by omega)) ?_
          refine A_ladd dX10_pay_147 ?_
          refine A_lstore_n (ls' := [(2, _), (0, _), (1, _)]) dX10_pay_148 rfl (by decide) rfl ?_
          refine A_aload_n dX10_pay_149 rfl rfl ?_
          refine A_getR (c2 := 77) (i2 := 0) dX10_pay_150 fX10_135 rfl (okK10 (by omega)) rfl ?_
          refine A_iload_n dX10_pay_153 rfl rfl ?_
          refine A_lload_n dX10_pay_154 rfl rfl ?_
          obtain ⟨j47, qj47, bj47, h⟩ := h
          refine B_last (j := j47) dX10_pay_155 (by decide) rfl (okK77 (by omega)) qj47 bj47 (fun M48 eM48 => ?_)
          replace h := h M48 eM48
          refine A_aload_n dX10_pay_156 rfl rfl ?_
          refine A_lconst (v := 0) dX10_pay_157 (by decide +kernel) ?_
          refine B_putL dX10_pay_158 fX10_472 (by decide) (okK10 (by omega)) (fun M49 eM49 => ?_)
          replace h := h M49 eM49
          refine A_iconst (v := 0) dX10_pay_161 rfl ?_
          refine A_istore (ls' := [(4, _), (2, _), (0, _), (1, _)]) dX10_pay_162 (by decide) rfl ?_
          exact A_pick [2, 3, 1, 0] rfl h
        · replace h := h.2 q
          refine A_iconst (v := 1) dX10_pay_72 rfl ?_
          refine A_goto (tgt := 77) dX10_pay_73 (by decide) ?_
          refine B_putZ dX10_pay_77 fX10_463 (by decide) (okK10 (by omega)) (by decide) (fun M50 eM50 => ?_)
          replace h := h M50 eM50
          refine A_goto (tgt := 99) dX10_pay_80 (by decide) ?_
          refine A_aload_n dX10_pay_99 rfl rfl ?_
          refine A_getR (c2 := 79) (i2 := 0) dX10_pay_100 fX10_141 rfl (okK10 (by omega)) rfl ?_
          refine A_iload_n dX10_pay_103 rfl rfl ?_
          refine A_aload_n dX10_pay_104 rfl rfl ?_
          refine A_getI dX10_pay_105 fX10_463 rfl (okK10 (by omega)) ?_
          obtain ⟨j51, qj51, bj51, h⟩ := h
          refine B_zast (j := j51) dX10_pay_108 (by decide) rfl (okK79 (by omega)) qj51 bj51 h.1 (fun M52 eM52 => ?_)
          replace h := h.2
          replace h := h M52 eM52
          refine A_aload_n dX10_pay_109 rfl rfl ?_
          refine A_getR (c2 := 48) (i2 := 0) dX10_pay_110 fX10_41 rfl (okK10 (by omega)) rfl ?_
          refine A_iload_n dX10_pay_113 rfl rfl ?_
          obtain ⟨j53, qj53, bj53, h⟩ := h
          refine A_lald (j := j53) dX10_pay_114 (by decide) rfl (okK48 (by omega)) qj53 bj53 ?_
          refine A_aload_n dX10_pay_115 rfl rfl ?_
          refine A_getR (c2 := 49) (i2 := 0) dX10_pay_116 fX10_45 rfl (okK10 (by omega)) rfl ?_
          refine A_iload_n dX10_pay_119 rfl rfl ?_
          obtain ⟨j54, qj54, bj54, h⟩ := h
          refine A_lald (j := j54) dX10_pay_120 (by decide) rfl (okK49 (by omega)) qj54 bj54 ?_
          refine A_ladd dX10_pay_121 ?_
          refine A_aload_n dX10_pay_122 rfl rfl ?_
          refine A_getR (c2 := 50) (i2 := 0) dX10_pay_123 fX10_48 rfl (okK10 (by omega)) rfl ?_
          refine A_iload_n dX10_pay_126 rfl rfl ?_
          obtain ⟨j55, qj55, bj55, h⟩ := h
          refine A_lald (j := j55) dX10_pay_127 (by decide) rfl (okK50 (by omega)) qj55 bj55 ?_
          refine A_ladd dX10_pay_128 ?_
          refine A_aload_n dX10_pay_129 rfl rfl ?_
          refine A_getR (c2 := 51) (i2 := 0) dX10_pay_130 fX10_51 rfl (okK10 (by omega)) rfl ?_
          refine A_iload_n dX10_pay_133 rfl rfl ?_
          obtain ⟨j56, qj56, bj56, h⟩ := h
          refine A_lald (j := j56) dX10_pay_134 (by decide) rfl (okK51 (by omega)) qj56 bj56 ?_
          refine A_ladd dX10_pay_135 ?_
          refine A_aload_n dX10_pay_136 rfl rfl ?_
          refine A_getR (c2 := 52) (i2 := 0) dX10_pay_137 fX10_54 rfl (okK10 (by omega)) rfl ?_
          refine A_iload_n dX10_pay_140 rfl rfl ?_
          obtain ⟨j57, qj57, bj57, h⟩ := h
          refine A_lald (j := j57) dX10_pay_141 (by decide) rfl (okK52 (by omega)) qj57 bj57 ?_
          refine A_lsub dX10_pay_142 ?_
          refine A_aload_n dX10_pay_143 rfl rfl ?_
          refine A_getL dX10_pay_144 fX10_472 rfl (okK10 (by omega)) ?_
          refine A_ladd dX10_pay_147 ?_
          refine A_lstore_n (ls' := [(2, _), (0, _), (1, _)]) dX10_pay_148 rfl (by decide) rfl ?_
          refine A_aload_n dX10_pay_149 rfl rfl ?_
          refine A_getR (c2 := 77) (i2 := 0) dX10_pay_150 fX10_135 rfl (okK10 (by omega)) rfl ?_
          refine A_iload_n dX10_pay_153 rfl rfl ?_
          refine A_lload_n dX10_pay_154 rfl rfl ?_
          obtain ⟨j58, qj58, bj58, h⟩ := h
          refine B_last (j := j58) dX10_pay_155 (by decide) rfl (okK77 (by omega)) qj58 bj58 (fun M59 eM59 => ?_)
          replace h := h M59 eM59
          refine A_aload_n dX10_pay_156 rfl rfl ?_
          refine A_lconst (v := 0) dX10_pay_157 (by decide +kernel) ?_
          refine B_putL dX10_pay_158 fX10_472 (by decide) (okK10 (by omega)) (fun M60 eM60 => ?_)
          replace h := h M60 eM60
          refine A_iconst (v := 0) dX10_pay_161 rfl ?_
          refine A_istore (ls' := [(4, _), (2, _), (0, _), (1, _)]) dX10_pay_162 (by decide) rfl ?_
          exact A_pick [2, 3, 1, 0] rfl h
  · replace h := h.2 q
    refine A_iconst (v := 0) dX10_pay_27 rfl ?_
    refine A_goto (tgt := 37) dX10_pay_28 (by decide) ?_
    refine B_putI dX10_pay_37 fX10_475 (by decide) (okK10 (by omega)) (fun M61 eM61 => ?_)
    replace h := h M61 eM61
    refine A_aload_n dX10_pay_40 rfl rfl ?_
    refine A_getI dX10_pay_41 fX10_463 rfl (okK10 (by omega)) ?_
    refine B_if_ne (tgt := 83) dX10_pay_44 (by decide) rfl ⟨fun q => ?_, fun q => ?_⟩
    · replace h := h.1 q
      refine A_aload_n dX10_pay_83 rfl rfl ?_
      refine A_getI dX10_pay_84 fX10_475 rfl (okK10 (by omega)) ?_
      refine A_aload_n dX10_pay_87 rfl rfl ?_
      refine A_getI dX10_pay_88 fX10_132 rfl (okK10 (by omega)) ?_
      refine B_icmp_lt (tgt := 99) dX10_pay_91 (by decide) rfl rfl ⟨fun q => ?_, fun q => ?_⟩
      · replace h := h.1 q
        refine A_aload_n dX10_pay_99 rfl rfl ?_
        refine A_getR (c2 := 79) (i2 := 0) dX10_pay_100 fX10_141 rfl (okK10 (by omega)) rfl ?_
        refine A_iload_n dX10_pay_103 rfl rfl ?_
        refine A_aload_n dX10_pay_104 rfl rfl ?_
        refine A_getI dX10_pay_105 fX10_463 rfl (okK10 (by omega)) ?_
        obtain ⟨j62, qj62, bj62, h⟩ := h
        refine B_zast (j := j62) dX10_pay_108 (by decide) rfl (okK79 (by omega)) qj62 bj62 h.1 (fun M63 eM63 => ?_)
        replace h := h.2
        replace h := h M63 eM63
        refine A_aload_n dX10_pay_109 rfl rfl ?_
        refine A_getR (c2 := 48) (i2 := 0) dX10_pay_110 fX10_41 rfl (okK10 (by omega)) rfl ?_
        refine A_iload_n dX10_pay_113 rfl rfl ?_
        obtain ⟨j64, qj64, bj64, h⟩ := h
        refine A_lald (j := j64) dX10_pay_114 (by decide) rfl (okK48 (by omega)) qj64 bj64 ?_
        refine A_aload_n dX10_pay_115 rfl rfl ?_
        refine A_getR (c2 := 49) (i2 := 0) dX10_pay_116 fX10_45 rfl (okK10 (by omega)) rfl ?_
        refine A_iload_n dX10_pay_119 rfl rfl ?_
        obtain ⟨j65, qj65, bj65, h⟩ := h
        refine A_lald (j := j65) dX10_pay_120 (by decide) rfl (okK49 (by omega)) qj65 bj65 ?_
        refine A_ladd dX10_pay_121 ?_
        refine A_aload_n dX10_pay_122 rfl rfl ?_
        refine A_getR (c2 := 50) (i2 := 0) dX10_pay_123 fX10_48 rfl (okK10 (by omega)) rfl ?_
        refine A_iload_n dX10_pay_126 rfl rfl ?_
        obtain ⟨j66, qj66, bj66, h⟩ := h
        refine A_lald (j := j66) dX10_pay_127 (by decide) rfl (okK50 (by omega)) qj66 bj66 ?_
        refine A_ladd dX10_pay_128 ?_
        refine A_aload_n dX10_pay_129 rfl rfl ?_
        refine A_getR (c2 := 51) (i2 := 0) dX10_pay_130 fX10_51 rfl (okK10 (by omega)) rfl ?_
        refine A_iload_n dX10_pay_133 rfl rfl ?_
        obtain ⟨j67, qj67, bj67, h⟩ := h
        refine A_lald (j := j67) dX10_pay_134 (by decide) rfl (okK51 (by omega)) qj67 bj67 ?_
        refine A_ladd dX10_pay_135 ?_
        refine A_aload_n dX10_pay_136 rfl rfl ?_
        refine A_getR (c2 := 52) (i2 := 0) dX10_pay_137 fX10_54 rfl (okK10 (by omega)) rfl ?_
        refine A_iload_n dX10_pay_140 rfl rfl ?_
        obtain ⟨j68, qj68, bj68, h⟩ := h
        refine A_lald (j := j68) dX10_pay_141 (by decide) rfl (okK52 (by omega)) qj68 bj68 ?_
        refine A_lsub dX10_pay_142 ?_
        refine A_aload_n dX10_pay_143 rfl rfl ?_
        refine A_getL dX10_pay_144 fX10_472 rfl (okK10 (by omega)) ?_
        refine A_ladd dX10_pay_147 ?_
        refine A_lstore_n (ls' := [(2, _), (0, _), (1, _)]) dX10_pay_148 rfl (by decide) rfl ?_
        refine A_aload_n dX10_pay_149 rfl rfl ?_
        refine A_getR (c2 := 77) (i2 := 0) dX10_pay_150 fX10_135 rfl (okK10 (by omega)) rfl ?_
        refine A_iload_n dX10_pay_153 rfl rfl ?_
        refine A_lload_n dX10_pay_154 rfl rfl ?_
        obtain ⟨j69, qj69, bj69, h⟩ := h
        refine B_last (j := j69) dX10_pay_155 (by decide) rfl (okK77 (by omega)) qj69 bj69 (fun M70 eM70 => ?_)
        replace h := h M70 eM70
        refine A_aload_n dX10_pay_156 rfl rfl ?_
        refine A_lconst (v := 0) dX10_pay_157 (by decide +kernel) ?_
        refine B_putL dX10_pay_158 fX10_472 (by decide) (okK10 (by omega)) (fun M71 eM71 => ?_)
        replace h := h M71 eM71
        refine A_iconst (v := 0) dX10_pay_161 rfl ?_
        refine A_istore (ls' := [(4, _), (2, _), (0, _), (1, _)]) dX10_pay_162 (by decide) rfl ?_
        exact A_pick [2, 3, 1, 0] rfl h
      · replace h := h.2 q
        refine A_aload_n dX10_pay_94 rfl rfl ?_
        refine A_iconst (v := 0) dX10_pay_95 rfl ?_
        refine B_putZ dX10_pay_96 fX10_463 (by decide) (okK10 (by omega)) (by decide) (fun M72 eM72 => ?_)
        replace h := h M72 eM72
        refine A_aload_n dX10_pay_99 rfl rfl ?_
        refine A_getR (c2 := 79) (i2 := 0) dX10_pay_100 fX10_141 rfl (okK10 (by omega)) rfl ?_
        refine A_iload_n dX10_pay_103 rfl rfl ?_
        refine A_aload_n dX10_pay_104 rfl rfl ?_
        refine A_getI dX10_pay_105 fX10_463 rfl (okK10 (by omega)) ?_
        obtain ⟨j73, qj73, bj73, h⟩ := h
        refine B_zast (j := j73) dX10_pay_108 (by decide) rfl (okK79 (by omega)) qj73 bj73 h.1 (fun M74 eM74 => ?_)
        replace h := h.2
        replace h := h M74 eM74
        refine A_aload_n dX10_pay_109 rfl rfl ?_
        refine A_getR (c2 := 48) (i2 := 0) dX10_pay_110 fX10_41 rfl (okK10 (by omega)) rfl ?_
        refine A_iload_n dX10_pay_113 rfl rfl ?_
        obtain ⟨j75, qj75, bj75, h⟩ := h
        refine A_lald (j := j75) dX10_pay_114 (by decide) rfl (okK48 (by omega)) qj75 bj75 ?_
        refine A_aload_n dX10_pay_115 rfl rfl ?_
        refine A_getR (c2 := 49) (i2 := 0) dX10_pay_116 fX10_45 rfl (okK10 (by omega)) rfl ?_
        refine A_iload_n dX10_pay_119 rfl rfl ?_
        obtain ⟨j76, qj76, bj76, h⟩ := h
        refine A_lald (j := j76) dX10_pay_120 (by decide) rfl (okK49 (by omega)) qj76 bj76 ?_
        refine A_ladd dX10_pay_121 ?_
        refine A_aload_n dX10_pay_122 rfl rfl ?_
        refine A_getR (c2 := 50) (i2 := 0) dX10_pay_123 fX10_48 rfl (okK10 (by omega)) rfl ?_
        refine A_iload_n dX10_pay_126 rfl rfl ?_
        obtain ⟨j77, qj77, bj77, h⟩ := h
        refine A_lald (j := j77) dX10_pay_127 (by decide) rfl (okK50 (by omega)) qj77 bj77 ?_
        refine A_ladd dX10_pay_128 ?_
        refine A_aload_n dX10_pay_129 rfl rfl ?_
        refine A_getR (c2 := 51) (i2 := 0) dX10_pay_130 fX10_51 rfl (okK10 (by omega)) rfl ?_
        refine A_iload_n dX10_pay_133 rfl rfl ?_
        obtain ⟨j78, qj78, bj78, h⟩ := h
        refine A_lald (j := j78) dX10_pay_134 (by decide) rfl (okK51 (by omega)) qj78 bj78 ?_
        refine A_ladd dX10_pay_135 ?_
        refine A_aload_n dX10_pay_136 rfl rfl ?_
        refine A_getR (c2 := 52) (i2 := 0) dX10_pay_137 fX10_54 rfl (okK10 (by omega)) rfl ?_
        refine A_iload_n dX10_pay_140 rfl rfl ?_
        obtain ⟨j79, qj79, bj79, h⟩ := h
        refine A_lald (j := j79) dX10_pay_141 (by decide) rfl (okK52 (by omega)) qj79 bj79 ?_
        refine A_lsub dX10_pay_142 ?_
        refine A_aload_n dX10_pay_143 rfl rfl ?_
        refine A_getL dX10_pay_144 fX10_472 rfl (okK10 (by omega)) ?_
        refine A_ladd dX10_pay_147 ?_
        refine A_lstore_n (ls' := [(2, _), (0, _), (1, _)]) dX10_pay_148 rfl (by decide) rfl ?_
        refine A_aload_n dX10_pay_149 rfl rfl ?_
        refine A_getR (c2 := 77) (i2 := 0) dX10_pay_150 fX10_135 rfl (okK10 (by omega)) rfl ?_
        refine A_iload_n dX10_pay_153 rfl rfl ?_
        refine A_lload_n dX10_pay_154 rfl rfl ?_
        obtain ⟨j80, qj80, bj80, h⟩ := h
        refine B_last (j := j80) dX10_pay_155 (by decide) rfl (okK77 (by omega)) qj80 bj80 (fun M81 eM81 => ?_)
        replace h := h M81 eM81
        refine A_aload_n dX10_pay_156 rfl rfl ?_
        refine A_lconst (v := 0) dX10_pay_157 (by decide +kernel) ?_
        refine B_putL dX10_pay_158 fX10_472 (by decide) (okK10 (by omega)) (fun M82 eM82 => ?_)
        replace h := h M82 eM82
        refine A_iconst (v := 0) dX10_pay_161 rfl ?_
        refine A_istore (ls' := [(4, _), (2, _), (0, _), (1, _)]) dX10_pay_162 (by decide) rfl ?_
        exact A_pick [2, 3, 1, 0] rfl h
    · replace h := h.2 q
      refine A_aload_n dX10_pay_47 rfl rfl ?_
      refine A_aload_n dX10_pay_48 rfl rfl ?_
      refine A_getR (c2 := 55) (i2 := 0) dX10_pay_49 fX10_63 rfl (okK10 (by omega)) rfl ?_
      refine A_iload_n dX10_pay_52 rfl rfl ?_
      obtain ⟨j83, qj83, bj83, h⟩ := h
      refine A_lald (j := j83) dX10_pay_53 (by decide) rfl (okK55 (by omega)) qj83 bj83 ?_
      refine A_lconst (v := 0) dX10_pay_54 (by decide +kernel) ?_
      refine B_lcmp_le (tgt := 76) dX10_pay_55 rfl dX10_pay_56 (by decide) rfl (wlitL (by decide) (by decide)) ⟨fun q => ?_, fun q => ?_⟩
      · replace h := h.1 q
        refine A_iconst (v := 0) dX10_pay_76 rfl ?_
        refine B_putZ dX10_pay_77 fX10_463 (by decide) (okK10 (by omega)) (by decide) (fun M84 eM84 => ?_)
        replace h := h M84 eM84
        refine A_goto (tgt := 99) dX10_pay_80 (by decide) ?_
        refine A_aload_n dX10_pay_99 rfl rfl ?_
        refine A_getR (c2 := 79) (i2 := 0) dX10_pay_100 fX10_141 rfl (okK10 (by omega)) rfl ?_
        refine A_iload_n dX10_pay_103 rfl rfl ?_
        refine A_aload_n dX10_pay_104 rfl rfl ?_
        refine A_getI dX10_pay_105 fX10_463 rfl (okK10 (by omega)) ?_
        obtain ⟨j85, qj85, bj85, h⟩ := h
        refine B_zast (j := j85) dX10_pay_108 (by decide) rfl (okK79 (by omega)) qj85 bj85 h.1 (fun M86 eM86 => ?_)
        replace h := h.2
        replace h := h M86 eM86
        refine A_aload_n dX10_pay_109 rfl rfl ?_
        refine A_getR (c2 := 48) (i2 := 0) dX10_pay_110 fX10_41 rfl (okK10 (by omega)) rfl ?_
        refine A_iload_n dX10_pay_113 rfl rfl ?_
        obtain ⟨j87, qj87, bj87, h⟩ := h
        refine A_lald (j := j87) dX10_pay_114 (by decide) rfl (okK48 (by omega)) qj87 bj87 ?_
        refine A_aload_n dX10_pay_115 rfl rfl ?_
        refine A_getR (c2 := 49) (i2 := 0) dX10_pay_116 fX10_45 rfl (okK10 (by omega)) rfl ?_
        refine A_iload_n dX10_pay_119 rfl rfl ?_
        obtain ⟨j88, qj88, bj88, h⟩ := h
        refine A_lald (j := j88) dX10_pay_120 (by decide) rfl (okK49 (by omega)) qj88 bj88 ?_
        refine A_ladd dX10_pay_121 ?_
        refine A_aload_n dX10_pay_122 rfl rfl ?_
        refine A_getR (c2 := 50) (i2 := 0) dX10_pay_123 fX10_48 rfl (okK10 (by omega)) rfl ?_
        refine A_iload_n dX10_pay_126 rfl rfl ?_
        obtain ⟨j89, qj89, bj89, h⟩ := h
        refine A_lald (j := j89) dX10_pay_127 (by decide) rfl (okK50 (by omega)) qj89 bj89 ?_
        refine A_ladd dX10_pay_128 ?_
        refine A_aload_n dX10_pay_129 rfl rfl ?_
        refine A_getR (c2 := 51) (i2 := 0) dX10_pay_130 fX10_51 rfl (okK10 (by omega)) rfl ?_
        refine A_iload_n dX10_pay_133 rfl rfl ?_
        obtain ⟨j90, qj90, bj90, h⟩ := h
        refine A_lald (j := j90) dX10_pay_134 (by decide) rfl (okK51 (by omega)) qj90 bj90 ?_
        refine A_ladd dX10_pay_135 ?_
        refine A_aload_n dX10_pay_136 rfl rfl ?_
        refine A_getR (c2 := 52) (i2 := 0) dX10_pay_137 fX10_54 rfl (okK10 (by omega)) rfl ?_
        refine A_iload_n dX10_pay_140 rfl rfl ?_
        obtain ⟨j91, qj91, bj91, h⟩ := h
        refine A_lald (j := j91) dX10_pay_141 (by decide) rfl (okK52 (by omega)) qj91 bj91 ?_
        refine A_lsub dX10_pay_142 ?_
        refine A_aload_n dX10_pay_143 rfl rfl ?_
        refine A_getL dX10_pay_144 fX10_472 rfl (okK10 (by omega)) ?_
        refine A_ladd dX10_pay_147 ?_
        refine A_lstore_n (ls' := [(2, _), (0, _), (1, _)]) dX10_pay_148 rfl (by decide) rfl ?_
        refine A_aload_n dX10_pay_149 rfl rfl ?_
        refine A_getR (c2 := 77) (i2 := 0) dX10_pay_150 fX10_135 rfl (okK10 (by omega)) rfl ?_
        refine A_iload_n dX10_pay_153 rfl rfl ?_
        refine A_lload_n dX10_pay_154 rfl rfl ?_
        obtain ⟨j92, qj92, bj92, h⟩ := h
        refine B_last (j := j92) dX10_pay_155 (by decide) rfl (okK77 (by omega)) qj92 bj92 (fun M93 eM93 => ?_)
        replace h := h M93 eM93
        refine A_aload_n dX10_pay_156 rfl rfl ?_
        refine A_lconst (v := 0) dX10_pay_157 (by decide +kernel) ?_
        refine B_putL dX10_pay_158 fX10_472 (by decide) (okK10 (by omega)) (fun M94 eM94 => ?_)
        replace h := h M94 eM94
        refine A_iconst (v := 0) dX10_pay_161 rfl ?_
        refine A_istore (ls' := [(4, _), (2, _), (0, _), (1, _)]) dX10_pay_162 (by decide) rfl ?_
        exact A_pick [2, 3, 1, 0] rfl h
      · replace h := h.2 q
        refine A_aload_n dX10_pay_59 rfl rfl ?_
        refine B_callV_L (av := []) rfl dX10_pay_60 vX10_457 mX10_lostNow ⟨rfl, rfl, by decide⟩ (okK10 (by omega)) rfl (Nat.le_of_ble_eq_true rfl) (by decide) (by decide) rfl (BC_monoL h (fun x95 N95 h => ?_))
        refine A_aload_n dX10_pay_63 rfl rfl ?_
        refine A_getI dX10_pay_64 fX10_129 rfl (okK10 (by omega)) ?_
        refine B_i2l dX10_pay_67 rfl ?_
        refine B_lcmp_le (tgt := 76) dX10_pay_68 rfl dX10_pay_69 (by decide) rfl rfl ⟨fun q => ?_, fun q => ?_⟩
        · replace h := h.1 q
          refine A_iconst (v := 0) dX10_pay_76 rfl ?_
          refine B_putZ dX10_pay_77 fX10_463 (by decide) (okK10 (by omega)) (by decide) (fun M96 eM96 => ?_)
          replace h := h M96 eM96
          refine A_goto (tgt := 99) dX10_pay_80 (by decide) ?_
          refine A_aload_n dX10_pay_99 rfl rfl ?_
          refine A_getR (c2 := 79) (i2 := 0) dX10_pay_100 fX10_141 rfl (okK10 (by omega)) rfl ?_
          refine A_iload_n dX10_pay_103 rfl rfl ?_
          refine A_aload_n dX10_pay_104 rfl rfl ?_
          refine A_getI dX10_pay_105 fX10_463 rfl (okK10 (by omega)) ?_
          obtain ⟨j97, qj97, bj97, h⟩ := h
          refine B_zast (j := j97) dX10_pay_108 (by decide) rfl (okK79 (by omega)) qj97 bj97 h.1 (fun M98 eM98 => ?_)
          replace h := h.2
          replace h := h M98 eM98
          refine A_aload_n dX10_pay_109 rfl rfl ?_
          refine A_getR (c2 := 48) (i2 := 0) dX10_pay_110 fX10_41 rfl (okK10 (by omega)) rfl ?_
          refine A_iload_n dX10_pay_113 rfl rfl ?_
          obtain ⟨j99, qj99, bj99, h⟩ := h
          refine A_lald (j := j99) dX10_pay_114 (by decide) rfl (okK48 (by omega)) qj99 bj99 ?_
          refine A_aload_n dX10_pay_115 rfl rfl ?_
          refine A_getR (c2 := 49) (i2 := 0) dX10_pay_116 fX10_45 rfl (okK10 (by omega)) rfl ?_
          refine A_iload_n dX10_pay_119 rfl rfl ?_
          obtain ⟨j100, qj100, bj100, h⟩ := h
          refine A_lald (j := j100) dX10_pay_120 (by decide) rfl (okK49 (by omega)) qj100 bj100 ?_
          refine A_ladd dX10_pay_121 ?_
          refine A_aload_n dX10_pay_122 rfl rfl ?_
          refine A_getR (c2 := 50) (i2 := 0) dX10_pay_123 fX10_48 rfl (okK10 (by omega)) rfl ?_
          refine A_iload_n dX10_pay_126 rfl rfl ?_
          obtain ⟨j101, qj101, bj101, h⟩ := h
          refine A_lald (j := j101) dX10_pay_127 (by decide) rfl (okK50 (by omega)) qj101 bj101 ?_
          refine A_ladd dX10_pay_128 ?_
          refine A_aload_n dX10_pay_129 rfl rfl ?_
          refine A_getR (c2 := 51) (i2 := 0) dX10_pay_130 fX10_51 rfl (okK10 (by omega)) rfl ?_
          refine A_iload_n dX10_pay_133 rfl rfl ?_
          obtain ⟨j102, qj102, bj102, h⟩ := h
          refine A_lald (j := j102) dX10_pay_134 (by decide) rfl (okK51 (by omega)) qj102 bj102 ?_
          refine A_ladd dX10_pay_135 ?_
          refine A_aload_n dX10_pay_136 rfl rfl ?_
          refine A_getR (c2 := 52) (i2 := 0) dX10_pay_137 fX10_54 rfl (okK10 (by omega)) rfl ?_
          refine A_iload_n dX10_pay_140 rfl rfl ?_
          obtain ⟨j103, qj103, bj103, h⟩ := h
          refine A_lald (j := j103) dX10_pay_141 (by decide) rfl (okK52 (by omega)) qj103 bj103 ?_
          refine A_lsub dX10_pay_142 ?_
          refine A_aload_n dX10_pay_143 rfl rfl ?_
          refine A_getL dX10_pay_144 fX10_472 rfl (okK10 (by omega)) ?_
          refine A_ladd dX10_pay_147 ?_
          refine A_lstore_n (ls' := [(2, _), (0, _), (1, _)]) dX10_pay_148 rfl (by decide) rfl ?_
          refine A_aload_n dX10_pay_149 rfl rfl ?_
          refine A_getR (c2 := 77) (i2 := 0) dX10_pay_150 fX10_135 rfl (okK10 (by omega)) rfl ?_
          refine A_iload_n dX10_pay_153 rfl rfl ?_
          refine A_lload_n dX10_pay_154 rfl rfl ?_
          obtain ⟨j104, qj104, bj104, h⟩ := h
          refine B_last (j := j104) dX10_pay_155 (by decide) rfl (okK77 (by omega)) qj104 bj104 (fun M105 eM105 => ?_)
          replace h := h M105 eM105
          refine A_aload_n dX10_pay_156 rfl rfl ?_
          refine A_lconst (v := 0) dX10_pay_157 (by decide +kernel) ?_
          refine B_putL dX10_pay_158 fX10_472 (by decide) (okK10 (by omega)) (fun M106 eM106 => ?_)
          replace h := h M106 eM106
          refine A_iconst (v := 0) dX10_pay_161 rfl ?_
          refine A_istore (ls' := [(4, _), (2, _), (0, _), (1, _)]) dX10_pay_162 (by decide) rfl ?_
          exact A_pick [2, 3, 1, 0] rfl h
        · replace h := h.2 q
          refine A_iconst (v := 1) dX10_pay_72 rfl ?_
          refine A_goto (tgt := 77) dX10_pay_73 (by decide) ?_
          refine B_putZ dX10_pay_77 fX10_463 (by decide) (okK10 (by omega)) (by decide) (fun M107 eM107 => ?_)
          replace h := h M107 eM107
          refine A_goto (tgt := 99) dX10_pay_80 (by decide) ?_
          refine A_aload_n dX10_pay_99 rfl rfl ?_
          refine A_getR (c2 := 79) (i2 := 0) dX10_pay_100 fX10_141 rfl (okK10 (by omega)) rfl ?_
          refine A_iload_n dX10_pay_103 rfl rfl ?_
          refine A_aload_n dX10_pay_104 rfl rfl ?_
          refine A_getI dX10_pay_105 fX10_463 rfl (okK10 (by omega)) ?_
          obtain ⟨j108, qj108, bj108, h⟩ := h
          refine B_zast (j := j108) dX10_pay_108 (by decide) rfl (okK79 (by omega)) qj108 bj108 h.1 (fun M109 eM109 => ?_)
          replace h := h.2
          replace h := h M109 eM109
          refine A_aload_n dX10_pay_109 rfl rfl ?_
          refine A_getR (c2 := 48) (i2 := 0) dX10_pay_110 fX10_41 rfl (okK10 (by omega)) rfl ?_
          refine A_iload_n dX10_pay_113 rfl rfl ?_
          obtain ⟨j110, qj110, bj110, h⟩ := h
          refine A_lald (j := j110) dX10_pay_114 (by decide) rfl (okK48 (by omega)) qj110 bj110 ?_
          refine A_aload_n dX10_pay_115 rfl rfl ?_
          refine A_getR (c2 := 49) (i2 := 0) dX10_pay_116 fX10_45 rfl (okK10 (by omega)) rfl ?_
          refine A_iload_n dX10_pay_119 rfl rfl ?_
          obtain ⟨j111, qj111, bj111, h⟩ := h
          refine A_lald (j := j111) dX10_pay_120 (by decide) rfl (okK49 (by omega)) qj111 bj111 ?_
          refine A_ladd dX10_pay_121 ?_
          refine A_aload_n dX10_pay_122 rfl rfl ?_
          refine A_getR (c2 := 50) (i2 := 0) dX10_pay_123 fX10_48 rfl (okK10 (by omega)) rfl ?_
          refine A_iload_n dX10_pay_126 rfl rfl ?_
          obtain ⟨j112, qj112, bj112, h⟩ := h
          refine A_lald (j := j112) dX10_pay_127 (by decide) rfl (okK50 (by omega)) qj112 bj112 ?_
          refine A_ladd dX10_pay_128 ?_
          refine A_aload_n dX10_pay_129 rfl rfl ?_
          refine A_getR (c2 := 51) (i2 := 0) dX10_pay_130 fX10_51 rfl (okK10 (by omega)) rfl ?_
          refine A_iload_n dX10_pay_133 rfl rfl ?_
          obtain ⟨j113, qj113, bj113, h⟩ := h
          refine A_lald (j := j113) dX10_pay_134 (by decide) rfl (okK51 (by omega)) qj113 bj113 ?_
          refine A_ladd dX10_pay_135 ?_
          refine A_aload_n dX10_pay_136 rfl rfl ?_
          refine A_getR (c2 := 52) (i2 := 0) dX10_pay_137 fX10_54 rfl (okK10 (by omega)) rfl ?_
          refine A_iload_n dX10_pay_140 rfl rfl ?_
          obtain ⟨j114, qj114, bj114, h⟩ := h
          refine A_lald (j := j114) dX10_pay_141 (by decide) rfl (okK52 (by omega)) qj114 bj114 ?_
          refine A_lsub dX10_pay_142 ?_
          refine A_aload_n dX10_pay_143 rfl rfl ?_
          refine A_getL dX10_pay_144 fX10_472 rfl (okK10 (by omega)) ?_
          refine A_ladd dX10_pay_147 ?_
          refine A_lstore_n (ls' := [(2, _), (0, _), (1, _)]) dX10_pay_148 rfl (by decide) rfl ?_
          refine A_aload_n dX10_pay_149 rfl rfl ?_
          refine A_getR (c2 := 77) (i2 := 0) dX10_pay_150 fX10_135 rfl (okK10 (by omega)) rfl ?_
          refine A_iload_n dX10_pay_153 rfl rfl ?_
          refine A_lload_n dX10_pay_154 rfl rfl ?_
          obtain ⟨j115, qj115, bj115, h⟩ := h
          refine B_last (j := j115) dX10_pay_155 (by decide) rfl (okK77 (by omega)) qj115 bj115 (fun M116 eM116 => ?_)
          replace h := h M116 eM116
          refine A_aload_n dX10_pay_156 rfl rfl ?_
          refine A_lconst (v := 0) dX10_pay_157 (by decide +kernel) ?_
          refine B_putL dX10_pay_158 fX10_472 (by decide) (okK10 (by omega)) (fun M117 eM117 => ?_)
          replace h := h M117 eM117
          refine A_iconst (v := 0) dX10_pay_161 rfl ?_
          refine A_istore (ls' := [(4, _), (2, _), (0, _), (1, _)]) dX10_pay_162 (by decide) rfl ?_
          exact A_pick [2, 3, 1, 0] rfl h
set_option maxRecDepth 100000 in
set_option maxHeartbeats 4000000 in
theorem vc_X10_pay_164 {G : GT} {l1 : Int} {l2 : Int} {l4 : Int} {N : NN} {K : NN → Prop}  (h : (((wI (N 10 0 53)) ≤ (wI l4) → (∃ j1 : Nat, (wI l1) = (j1 : Int) ∧ j1 < 62 ∧ W_X10_pay G K 228 [(0, vR 10 0), (1, vI l1), (2, vL l2), (4, vI (10 * (N 76 0 j1))), (5, vI 0)] [] N)) ∧ (¬ ((wI (N 10 0 53)) ≤ (wI l4)) → (∃ j2 : Nat, (wI l4) = (j2 : Int) ∧ j2 < 5 ∧ (∃ j3 : Nat, (wI l4) = (j3 : Int) ∧ j3 < 5 ∧ (∃ j4 : Nat, (wI l4) = (j4 : Int) ∧ j4 < 5 ∧ (∃ j5 : Nat, (wI l4) = (j5 : Int) ∧ j5 < 5 ∧ (∀ M6 : NN, M6 = up3 N 75 0 j5 ((((wL ((N 69 0 j2) * ((wI (N 68 0 j3)))))).tdiv 10000) + (N 70 0 j4)) → W_X10_pay G K 164 [(0, vR 10 0), (1, vI l1), (2, vL l2), (4, vI (l4 + 1))] [] M6)))))))) : W_X10_pay G K 164 [(0, vR 10 0), (1, vI l1), (2, vL l2), (4, vI l4)] [] N := by
  refine A_iload dX10_pay_164 rfl ?_
  refine A_aload_n dX10_pay_166 rfl rfl ?_
  refine A_getI dX10_pay_167 fX10_444 rfl (okK10 (by omega)) ?_
  refine B_icmp_ge (tgt := 214) dX10_pay_170 (by decide) rfl rfl ⟨fun q => ?_, fun q => ?_⟩
  · replace h := h.1 q
    refine A_bipush (v := 10) dX10_pay_214 (by decide +kernel) ?_
    refine A_aload_n dX10_pay_216 rfl rfl ?_
    refine A_getR (c2 := 76) (i2 := 0) dX10_pay_217 fX10_126 rfl (okK10 (by omega)) rfl ?_
    refine A_iload_n dX10_pay_220 rfl rfl ?_
    obtain ⟨j1, qj1, bj1, h⟩ := h
    refine A_iald (j := j1) dX10_pay_221 (by decide) rfl (okK76 (by omega)) qj1 bj1 ?_
    refine A_imul dX10_pay_222 ?_
    refine A_istore (ls' := [(4, _), (0, _), (1, _), (2, _)]) dX10_pay_223 (by decide) rfl ?_
    refine A_iconst (v := 0) dX10_pay_225 rfl ?_
    refine A_istore (ls' := [(5, _), (4, _), (0, _), (1, _), (2, _)]) dX10_pay_226 (by decide) rfl ?_
    exact A_pick [2, 3, 4, 1, 0] rfl h
  · replace h := h.2 q
    refine A_aload_n dX10_pay_173 rfl rfl ?_
    refine A_getR (c2 := 75) (i2 := 0) dX10_pay_174 fX10_123 rfl (okK10 (by omega)) rfl ?_
    refine A_iload dX10_pay_177 rfl ?_
    refine A_aload_n dX10_pay_179 rfl rfl ?_
    refine A_getR (c2 := 69) (i2 := 0) dX10_pay_180 fX10_105 rfl (okK10 (by omega)) rfl ?_
    refine A_iload dX10_pay_183 rfl ?_
    obtain ⟨j2, qj2, bj2, h⟩ := h
    refine A_lald (j := j2) dX10_pay_185 (by decide) rfl (okK69 (by omega)) qj2 bj2 ?_
    refine A_aload_n dX10_pay_186 rfl rfl ?_
    refine A_getR (c2 := 68) (i2 := 0) dX10_pay_187 fX10_102 rfl (okK10 (by omega)) rfl ?_
    refine A_iload dX10_pay_190 rfl ?_
    obtain ⟨j3, qj3, bj3, h⟩ := h
    refine A_iald (j := j3) dX10_pay_192 (by decide) rfl (okK68 (by omega)) qj3 bj3 ?_
    refine B_i2l dX10_pay_193 rfl ?_
    refine A_lmul dX10_pay_194 ?_
    refine A_ldc2 (x := 10000) dX10_pay_195 kX10_470 (by decide +kernel) ?_
    refine B_ldiv dX10_pay_198 rfl (wlitL (by decide) (by decide)) (by decide) ?_
    refine A_aload_n dX10_pay_199 rfl rfl ?_
    refine A_getR (c2 := 70) (i2 := 0) dX10_pay_200 fX10_108 rfl (okK10 (by omega)) rfl ?_
    refine A_iload dX10_pay_203 rfl ?_
    obtain ⟨j4, qj4, bj4, h⟩ := h
    refine A_lald (j := j4) dX10_pay_205 (by decide) rfl (okK70 (by omega)) qj4 bj4 ?_
    refine A_ladd dX10_pay_206 ?_
    obtain ⟨j5, qj5, bj5, h⟩ := h
    refine B_last (j := j5) dX10_pay_207 (by decide) rfl (okK75 (by omega)) qj5 bj5 (fun M6 eM6 => ?_)
    replace h := h M6 eM6
    refine A_iinc (ls' := [(4, _), (0, _), (1, _), (2, _)]) dX10_pay_208 (by decide) rfl rfl rfl ?_
    refine A_goto (tgt := 164) dX10_pay_211 (by decide) ?_
    exact A_pick [1, 2, 3, 0] rfl h
set_option maxRecDepth 100000 in
set_option maxHeartbeats 4000000 in
theorem vc_X10_pay_228 {G : GT} {l1 : Int} {l2 : Int} {l4 : Int} {l5 : Int} {N : NN} {K : NN → Prop}  (h : ((10 ≤ (wI l5) → (∃ j1 : Nat, (wI l1) = (j1 : Int) ∧ j1 < 61 ∧ W_X10_pay G K 522 [(0, vR 10 0), (1, vI l1), (5, vL (((-(N 54 0 j1))) - (N 10 0 64))), (7, vI 0)] [] N)) ∧ (¬ (10 ≤ (wI l5)) → (∃ j2 : Nat, (wI ((10 * l1) + l5)) = (j2 : Int) ∧ j2 < 610 ∧ (∀ M3 : NN, M3 = up3 N 80 0 j2 0 → (∃ j4 : Nat, (wI l1) = (j4 : Int) ∧ j4 < 62 ∧ (∃ j5 : Nat, (wI (M3 76 0 j4)) = (j5 : Int) ∧ j5 < 6 ∧ (((wI (M3 60 0 j5)) ≤ (wI l5) → W_X10_pay G K 228 [(0, vR 10 0), (1, vI l1), (2, vL l2), (4, vI l4), (5, vI (l5 + 1))] [] M3) ∧ (¬ ((wI (M3 60 0 j5)) ≤ (wI l5)) → (C_X10_isSo G (l4 + l5) l1 M3 (fun x6 N6 => (((wI x6) ≠ 0 → (C_X10_wish G (l4 + l5) l1 l2 N6 (fun x7 N7 => (((wL l2) ≤ (wL x7) → W_X10_pay G K 306 [(0, vR 10 0), (1, vI l1), (2, vL l2), (4, vI l4), (5, vI l5)] [vL l2] N7) ∧ (¬ ((wL l2) ≤ (wL x7)) → W_X10_pay G K 306 [(0, vR 10 0), (1, vI l1), (2, vL l2), (4, vI l4), (5, vI l5)] [vL x7] N7))))) ∧ (¬ ((wI x6) ≠ 0) → W_X10_pay G K 228 [(0, vR 10 0), (1, vI l1), (2, vL l2), (4, vI l4), (5, vI (l5 + 1))] [] N6))))))))))))) : W_X10_pay G K 228 [(0, vR 10 0), (1, vI l1), (2, vL l2), (4, vI l4), (5, vI l5)] [] N := by
  refine A_iload dX10_pay_228 rfl ?_
  refine A_bipush (v := 10) dX10_pay_230 (by decide +kernel) ?_
  refine B_icmp_ge (tgt := 505) dX10_pay_232 (by decide) rfl (wlitI (by decide) (by decide)) ⟨fun q => ?_, fun q => ?_⟩
  · replace h := h.1 q
    refine A_aload_n dX10_pay_505 rfl rfl ?_
    refine A_getR (c2 := 54) (i2 := 0) dX10_pay_506 fX10_60 rfl (okK10 (by omega)) rfl ?_
    refine A_iload_n dX10_pay_509 rfl rfl ?_
    obtain ⟨j1, qj1, bj1, h⟩ := h
    refine A_lald (j := j1) dX10_pay_510 (by decide) rfl (okK54 (by omega)) qj1 bj1 ?_
    refine A_lneg dX10_pay_511 ?_
    refine A_aload_n dX10_pay_512 rfl rfl ?_
    refine A_getL dX10_pay_513 fX10_472 rfl (okK10 (by omega)) ?_
    refine A_lsub dX10_pay_516 ?_
    refine A_lstore (ls' := [(5, _), (0, _), (1, _), (2, _), (4, _)]) dX10_pay_517 (by decide) rfl ?_
    refine A_iconst (v := 0) dX10_pay_519 rfl ?_
    refine A_istore (ls' := [(7, _), (5, _), (0, _), (1, _), (2, _), (4, _)]) dX10_pay_520 (by decide) rfl ?_
    exact A_pick [2, 3, 1, 0] rfl h
  · replace h := h.2 q
    refine A_aload_n dX10_pay_235 rfl rfl ?_
    refine A_getR (c2 := 80) (i2 := 0) dX10_pay_236 fX10_145 rfl (okK10 (by omega)) rfl ?_
    refine A_bipush (v := 10) dX10_pay_239 (by decide +kernel) ?_
    refine A_iload_n dX10_pay_241 rfl rfl ?_
    refine A_imul dX10_pay_242 ?_
    refine A_iload dX10_pay_243 rfl ?_
    refine A_iadd dX10_pay_245 ?_
    refine A_lconst (v := 0) dX10_pay_246 (by decide +kernel) ?_
    obtain ⟨j2, qj2, bj2, h⟩ := h
    refine B_last (j := j2) dX10_pay_247 (by decide) rfl (okK80 (by omega)) qj2 bj2 (fun M3 eM3 => ?_)
    replace h := h M3 eM3
    refine A_iload dX10_pay_248 rfl ?_
    refine A_aload_n dX10_pay_250 rfl rfl ?_
    refine A_getR (c2 := 60) (i2 := 0) dX10_pay_251 fX10_78 rfl (okK10 (by omega)) rfl ?_
    refine A_aload_n dX10_pay_254 rfl rfl ?_
    refine A_getR (c2 := 76) (i2 := 0) dX10_pay_255 fX10_126 rfl (okK10 (by omega)) rfl ?_
    refine A_iload_n dX10_pay_258 rfl rfl ?_
    obtain ⟨j4, qj4, bj4, h⟩ := h
    refine A_iald (j := j4) dX10_pay_259 (by decide) rfl (okK76 (by omega)) qj4 bj4 ?_
    obtain ⟨j5, qj5, bj5, h⟩ := h
    refine A_iald (j := j5) dX10_pay_260 (by decide) rfl (okK60 (by omega)) qj5 bj5 ?_
    refine B_icmp_ge (tgt := 499) dX10_pay_261 (by decide) rfl rfl ⟨fun q => ?_, fun q => ?_⟩
    · replace h := h.1 q
      refine A_iinc (ls' := [(5, _), (0, _), (1, _), (2, _), (4, _)]) dX10_pay_499 (by decide) rfl rfl rfl ?_
      refine A_goto (tgt := 228) dX10_pay_502 (by decide) ?_
      exact A_pick [1, 2, 3, 4, 0] rfl h
    · replace h := h.2 q
      refine A_aload_n dX10_pay_264 rfl rfl ?_
      refine A_iload dX10_pay_265 rfl ?_
      refine A_iload dX10_pay_267 rfl ?_
      refine A_iadd dX10_pay_269 ?_
      refine A_iload_n dX10_pay_270 rfl rfl ?_
      refine B_callV_I (av := [vI (l4 + l5), vI l1]) rfl dX10_pay_271 vX10_478 mX10_isSo ⟨rfl, rfl, by decide⟩ (okK10 (by omega)) rfl (Nat.le_of_ble_eq_true rfl) (by decide) (by decide) rfl (BC_monoI h (fun x6 N6 h => ?_))
      refine B_if_ne (tgt := 280) dX10_pay_274 (by decide) rfl ⟨fun q => ?_, fun q => ?_⟩
      · replace h := h.1 q
        refine A_aload_n dX10_pay_280 rfl rfl ?_
        refine A_iload dX10_pay_281 rfl ?_
        refine A_iload dX10_pay_283 rfl ?_
        refine A_iadd dX10_pay_285 ?_
        refine A_iload_n dX10_pay_286 rfl rfl ?_
        refine A_lload_n dX10_pay_287 rfl rfl ?_
        refine B_callV_L (av := [vI (l4 + l5), vI l1, vL l2]) rfl dX10_pay_288 vX10_482 mX10_wish ⟨rfl, rfl, by decide⟩ (okK10 (by omega)) rfl (Nat.le_of_ble_eq_true rfl) (by decide) (by decide) rfl (BC_monoL h (fun x7 N7 h => ?_))
        refine A_lstore (ls' := [(6, _), (0, _), (1, _), (2, _), (4, _), (5, _)]) dX10_pay_291 (by decide) rfl ?_
        refine A_lload dX10_pay_293 rfl ?_
        refine A_lload_n dX10_pay_295 rfl rfl ?_
        refine B_lcmp_ge (tgt := 305) dX10_pay_296 rfl dX10_pay_297 (by decide) rfl rfl ⟨fun q => ?_, fun q => ?_⟩
        · replace h := h.1 q
          refine A_lload_n dX10_pay_305 rfl rfl ?_
          exact A_pick [1, 2, 3, 4, 5] rfl h
        · replace h := h.2 q
          refine A_lload dX10_pay_300 rfl ?_
          refine A_goto (tgt := 306) dX10_pay_302 (by decide) ?_
          exact A_pick [1, 2, 3, 4, 5] rfl h
      · replace h := h.2 q
        refine A_goto (tgt := 499) dX10_pay_277 (by decide) ?_
        refine A_iinc (ls' := [(5, _), (0, _), (1, _), (2, _), (4, _)]) dX10_pay_499 (by decide) rfl rfl rfl ?_
        refine A_goto (tgt := 228) dX10_pay_502 (by decide) ?_
        exact A_pick [1, 2, 3, 4, 0] rfl h
set_option maxRecDepth 100000 in
set_option maxHeartbeats 4000000 in
theorem vc_X10_pay_306 {G : GT} {l1 : Int} {l2 : Int} {l4 : Int} {l5 : Int} {s0 : Int} {N : NN} {K : NN → Prop}  (h : (∃ j1 : Nat, (wI ((10 * l1) + l5)) = (j1 : Int) ∧ j1 < 610 ∧ (∀ M2 : NN, M2 = up3 N 80 0 j1 s0 → (∃ j3 : Nat, (wI (l4 + l5)) = (j3 : Int) ∧ j3 < 60 ∧ (∃ j4 : Nat, (wI (l4 + l5)) = (j4 : Int) ∧ j4 < 60 ∧ (((wI (M2 61 0 j4)) = 1 → (C_X10_isPaper G (M2 62 0 j3) M2 (fun x5 N5 => (((wI x5) = 0 → W_X10_pay G K 228 [(0, vR 10 0), (1, vI l1), (2, vL (l2 - s0)), (4, vI l4), (5, vI (l5 + 1))] [] N5) ∧ (¬ ((wI x5) = 0) → (∃ j6 : Nat, (wI (M2 62 0 j3)) = (j6 : Int) ∧ j6 < 5 ∧ (∃ j7 : Nat, (wI (M2 62 0 j3)) = (j7 : Int) ∧ j7 < 5 ∧ (∀ M8 : NN, M8 = up3 N5 75 0 j7 ((N5 75 0 j6) - s0) → (∃ j9 : Nat, (wI (M2 62 0 j3)) = (j9 : Int) ∧ j9 < 5 ∧ (∃ j10 : Nat, (wI (M2 62 0 j3)) = (j10 : Int) ∧ j10 < 5 ∧ (∀ M11 : NN, M11 = up3 M8 71 0 j10 ((M8 71 0 j9) + s0) → W_X10_pay G K 228 [(0, vR 10 0), (1, vI l1), (2, vL (l2 - s0)), (4, vI l4), (5, vI (l5 + 1))] [] M11))))))))))) ∧ (((wI (M2 61 0 j4)) = 2 → (C_X10_isPaper G (M2 62 0 j3) M2 (fun x12 N12 => (((wI x12) = 0 → W_X10_pay G K 228 [(0, vR 10 0), (1, vI l1), (2, vL (l2 - s0)), (4, vI l4), (5, vI (l5 + 1))] [] N12) ∧ (¬ ((wI x12) = 0) → (∃ j13 : Nat, (wI (M2 62 0 j3)) = (j13 : Int) ∧ j13 < 5 ∧ (∃ j14 : Nat, (wI (M2 62 0 j3)) = (j14 : Int) ∧ j14 < 5 ∧ (∀ M15 : NN, M15 = up3 N12 69 0 j14 ((N12 69 0 j13) - s0) → (∃ j16 : Nat, (wI (M2 62 0 j3)) = (j16 : Int) ∧ j16 < 5 ∧ (∃ j17 : Nat, (wI (M2 62 0 j3)) = (j17 : Int) ∧ j17 < 5 ∧ (∀ M18 : NN, M18 = up3 M15 72 0 j17 ((M15 72 0 j16) + s0) → (∃ j19 : Nat, (wI (M2 62 0 j3)) = (j19 : Int) ∧ j19 < 5 ∧ (∃ j20 : Nat, (wI (M2 62 0 j3)) = (j20 : Int) ∧ j20 < 5 ∧ (∀ M21 : NN, M21 = up3 M18 73 0 j20 ((M18 73 0 j19) + (s0 * ((wI l1)))) → W_X10_pay G K 228 [(0, vR 10 0), (1, vI l1), (2, vL (l2 - s0)), (4, vI l4), (5, vI (l5 + 1))] [] M21)))))))))))))) ∧ (((wI (M2 61 0 j4)) = 3 → (C_X10_isPaper G (M2 62 0 j3) M2 (fun x22 N22 => (((wI x22) = 0 → W_X10_pay G K 228 [(0, vR 10 0), (1, vI l1), (2, vL (l2 - s0)), (4, vI l4), (5, vI (l5 + 1))] [] N22) ∧ (¬ ((wI x22) = 0) → (∃ j23 : Nat, (wI (M2 62 0 j3)) = (j23 : Int) ∧ j23 < 5 ∧ (∃ j24 : Nat, (wI (M2 62 0 j3)) = (j24 : Int) ∧ j24 < 5 ∧ (∀ M25 : NN, M25 = up3 N22 69 0 j24 ((N22 69 0 j23) - s0) → (∃ j26 : Nat, (wI (M2 62 0 j3)) = (j26 : Int) ∧ j26 < 5 ∧ (∃ j27 : Nat, (wI (M2 62 0 j3)) = (j27 : Int) ∧ j27 < 5 ∧ (∀ M28 : NN, M28 = up3 M25 72 0 j27 ((M25 72 0 j26) + s0) → (∃ j29 : Nat, (wI (M2 62 0 j3)) = (j29 : Int) ∧ j29 < 5 ∧ (∃ j30 : Nat, (wI (M2 62 0 j3)) = (j30 : Int) ∧ j30 < 5 ∧ (∀ M31 : NN, M31 = up3 M28 73 0 j30 ((M28 73 0 j29) + (s0 * ((wI l1)))) → W_X10_pay G K 228 [(0, vR 10 0), (1, vI l1), (2, vL (l2 - s0)), (4, vI l4), (5, vI (l5 + 1))] [] M31)))))))))))))) ∧ (((wI (M2 61 0 j4)) = 4 → (∀ M32 : NN, M32 = up3 M2 10 0 64 ((M2 10 0 64) + s0) → W_X10_pay G K 228 [(0, vR 10 0), (1, vI l1), (2, vL (l2 - s0)), (4, vI l4), (5, vI (l5 + 1))] [] M32)) ∧ (((wI (M2 61 0 j4)) = 5 → (∀ M33 : NN, M33 = up3 M2 10 0 66 ((M2 10 0 66) + s0) → W_X10_pay G K 228 [(0, vR 10 0), (1, vI l1), (2, vL (l2 - s0)), (4, vI l4), (5, vI (l5 + 1))] [] M33)) ∧ ((wI (M2 61 0 j4)) < 1 ∨ 5 < (wI (M2 61 0 j4)) → W_X10_pay G K 228 [(0, vR 10 0), (1, vI l1), (2, vL (l2 - s0)), (4, vI l4), (5, vI (l5 + 1))] [] M2))))))))))) : W_X10_pay G K 306 [(0, vR 10 0), (1, vI l1), (2, vL l2), (4, vI l4), (5, vI l5)] [vL s0] N := by
  refine A_lstore (ls' := [(6, _), (0, _), (1, _), (2, _), (4, _), (5, _)]) dX10_pay_306 (by decide) rfl ?_
  refine A_aload_n dX10_pay_308 rfl rfl ?_
  refine A_getR (c2 := 80) (i2 := 0) dX10_pay_309 fX10_145 rfl (okK10 (by omega)) rfl ?_
  refine A_bipush (v := 10) dX10_pay_312 (by decide +kernel) ?_
  refine A_iload_n dX10_pay_314 rfl rfl ?_
  refine A_imul dX10_pay_315 ?_
  refine A_iload dX10_pay_316 rfl ?_
  refine A_iadd dX10_pay_318 ?_
  refine A_lload dX10_pay_319 rfl ?_
  obtain ⟨j1, qj1, bj1, h⟩ := h
  refine B_last (j := j1) dX10_pay_321 (by decide) rfl (okK80 (by omega)) qj1 bj1 (fun M2 eM2 => ?_)
  replace h := h M2 eM2
  refine A_lload_n dX10_pay_322 rfl rfl ?_
  refine A_lload dX10_pay_323 rfl ?_
  refine A_lsub dX10_pay_325 ?_
  refine A_lstore_n (ls' := [(2, _), (6, _), (0, _), (1, _), (4, _), (5, _)]) dX10_pay_326 rfl (by decide) rfl ?_
  refine A_aload_n dX10_pay_327 rfl rfl ?_
  refine A_getR (c2 := 62) (i2 := 0) dX10_pay_328 fX10_84 rfl (okK10 (by omega)) rfl ?_
  refine A_iload dX10_pay_331 rfl ?_
  refine A_iload dX10_pay_333 rfl ?_
  refine A_iadd dX10_pay_335 ?_
  obtain ⟨j3, qj3, bj3, h⟩ := h
  refine A_iald (j := j3) dX10_pay_336 (by decide) rfl (okK62 (by omega)) qj3 bj3 ?_
  refine A_istore (ls' := [(8, _), (2, _), (6, _), (0, _), (1, _), (4, _), (5, _)]) dX10_pay_337 (by decide) rfl ?_
  refine A_aload_n dX10_pay_339 rfl rfl ?_
  refine A_getR (c2 := 61) (i2 := 0) dX10_pay_340 fX10_81 rfl (okK10 (by omega)) rfl ?_
  refine A_iload dX10_pay_343 rfl ?_
  refine A_iload dX10_pay_345 rfl ?_
  refine A_iadd dX10_pay_347 ?_
  obtain ⟨j4, qj4, bj4, h⟩ := h
  refine A_iald (j := j4) dX10_pay_348 (by decide) rfl (okK61 (by omega)) qj4 bj4 ?_
  by_cases q349_1 : wI (M2 61 0 j4) = 1
  · replace h := h.1 q349_1
    refine A_tableIn (tgt := 384) dX10_pay_349 q349_1 (by decide) rfl (by decide) ?_
    refine A_aload_n dX10_pay_384 rfl rfl ?_
    refine A_iload dX10_pay_385 rfl ?_
    refine B_callV_I (av := [vI (M2 62 0 j3)]) rfl dX10_pay_387 vX10_447 mX10_isPaper ⟨rfl, rfl, by decide⟩ (okK10 (by omega)) rfl (Nat.le_of_ble_eq_true rfl) (by decide) (by decide) rfl (BC_monoI h (fun x5 N5 h => ?_))
    refine B_if_eq (tgt := 499) dX10_pay_390 (by decide) rfl ⟨fun q => ?_, fun q => ?_⟩
    · replace h := h.1 q
      refine A_iinc (ls' := [(5, _), (8, _), (2, _), (6, _), (0, _), (1, _), (4, _)]) dX10_pay_499 (by decide) rfl rfl rfl ?_
      refine A_goto (tgt := 228) dX10_pay_502 (by decide) ?_
      exact A_pick [4, 5, 2, 6, 0] rfl h
    · replace h := h.2 q
      refine A_aload_n dX10_pay_393 rfl rfl ?_
      refine A_getR (c2 := 75) (i2 := 0) dX10_pay_394 fX10_123 rfl (okK10 (by omega)) rfl ?_
      refine A_iload dX10_pay_397 rfl ?_
      refine A_dup2 dX10_pay_399 rfl rfl ?_
      obtain ⟨j6, qj6, bj6, h⟩ := h
      refine A_lald (j := j6) dX10_pay_400 (by decide) rfl (okK75 (by omega)) qj6 bj6 ?_
      refine A_lload dX10_pay_401 rfl ?_
      refine A_lsub dX10_pay_403 ?_
      obtain ⟨j7, qj7, bj7, h⟩ := h
      refine B_last (j := j7) dX10_pay_404 (by decide) rfl (okK75 (by omega)) qj7 bj7 (fun M8 eM8 => ?_)
      replace h := h M8 eM8
      refine A_aload_n dX10_pay_405 rfl rfl ?_
      refine A_getR (c2 := 71) (i2 := 0) dX10_pay_406 fX10_111 rfl (okK10 (by omega)) rfl ?_
      refine A_iload dX10_pay_409 rfl ?_
      refine A_dup2 dX10_pay_411 rfl rfl ?_
      obtain ⟨j9, qj9, bj9, h⟩ := h
      refine A_lald (j := j9) dX10_pay_412 (by decide) rfl (okK71 (by omega)) qj9 bj9 ?_
      refine A_lload dX10_pay_413 rfl ?_
      refine A_ladd dX10_pay_415 ?_
      obtain ⟨j10, qj10, bj10, h⟩ := h
      refine B_last (j := j10) dX10_pay_416 (by decide) rfl (okK71 (by omega)) qj10 bj10 (fun M11 eM11 => ?_)
      replace h := h M11 eM11
      refine A_goto (tgt := 499) dX10_pay_417 (by decide) ?_
      refine A_iinc (ls' := [(5, _), (8, _), (2, _), (6, _), (0, _), (1, _), (4, _)]) dX10_pay_499 (by decide) rfl rfl rfl ?_
      refine A_goto (tgt := 228) dX10_pay_502 (by decide) ?_
      exact A_pick [4, 5, 2, 6, 0] rfl h
  replace h := h.2
  by_cases q349_2 : wI (M2 61 0 j4) = 2
  · replace h := h.1 q349_2
    refine A_tableIn (tgt := 420) dX10_pay_349 q349_2 (by decide) rfl (by decide) ?_
    refine A_aload_n dX10_pay_420 rfl rfl ?_
    refine A_iload dX10_pay_421 rfl ?_
    refine B_callV_I (av := [vI (M2 62 0 j3)]) rfl dX10_pay_423 vX10_447 mX10_isPaper ⟨rfl, rfl, by decide⟩ (okK10 (by omega)) rfl (Nat.le_of_ble_eq_true rfl) (by decide) (by decide) rfl (BC_monoI h (fun x12 N12 h => ?_))
    refine B_if_eq (tgt := 499) dX10_pay_426 (by decide) rfl ⟨fun q => ?_, fun q => ?_⟩
    · replace h := h.1 q
      refine A_iinc (ls' := [(5, _), (8, _), (2, _), (6, _), (0, _), (1, _), (4, _)]) dX10_pay_499 (by decide) rfl rfl rfl ?_
      refine A_goto (tgt := 228) dX10_pay_502 (by decide) ?_
      exact A_pick [4, 5, 2, 6, 0] rfl h
    · replace h := h.2 q
      refine A_aload_n dX10_pay_429 rfl rfl ?_
      refine A_getR (c2 := 69) (i2 := 0) dX10_pay_430 fX10_105 rfl (okK10 (by omega)) rfl ?_
      refine A_iload dX10_pay_433 rfl ?_
      refine A_dup2 dX10_pay_435 rfl rfl ?_
      obtain ⟨j13, qj13, bj13, h⟩ := h
      refine A_lald (j := j13) dX10_pay_436 (by decide) rfl (okK69 (by omega)) qj13 bj13 ?_
      refine A_lload dX10_pay_437 rfl ?_
      refine A_lsub dX10_pay_439 ?_
      obtain ⟨j14, qj14, bj14, h⟩ := h
      refine B_last (j := j14) dX10_pay_440 (by decide) rfl (okK69 (by omega)) qj14 bj14 (fun M15 eM15 => ?_)
      replace h := h M15 eM15
      refine A_aload_n dX10_pay_441 rfl rfl ?_
      refine A_getR (c2 := 72) (i2 := 0) dX10_pay_442 fX10_114 rfl (okK10 (by omega)) rfl ?_
      refine A_iload dX10_pay_445 rfl ?_
      refine A_dup2 dX10_pay_447 rfl rfl ?_
      obtain ⟨j16, qj16, bj16, h⟩ := h
      refine A_lald (j := j16) dX10_pay_448 (by decide) rfl (okK72 (by omega)) qj16 bj16 ?_
      refine A_lload dX10_pay_449 rfl ?_
      refine A_ladd dX10_pay_451 ?_
      obtain ⟨j17, qj17, bj17, h⟩ := h
      refine B_last (j := j17) dX10_pay_452 (by decide) rfl (okK72 (by omega)) qj17 bj17 (fun M18 eM18 => ?_)
      replace h := h M18 eM18
      refine A_aload_n dX10_pay_453 rfl rfl ?_
      refine A_getR (c2 := 73) (i2 := 0) dX10_pay_454 fX10_117 rfl (okK10 (by omega)) rfl ?_
      refine A_iload dX10_pay_457 rfl ?_
      refine A_dup2 dX10_pay_459 rfl rfl ?_
      obtain ⟨j19, qj19, bj19, h⟩ := h
      refine A_lald (j := j19) dX10_pay_460 (by decide) rfl (okK73 (by omega)) qj19 bj19 ?_
      refine A_lload dX10_pay_461 rfl ?_
      refine A_iload_n dX10_pay_463 rfl rfl ?_
      refine B_i2l dX10_pay_464 rfl ?_
      refine A_lmul dX10_pay_465 ?_
      refine A_ladd dX10_pay_466 ?_
      obtain ⟨j20, qj20, bj20, h⟩ := h
      refine B_last (j := j20) dX10_pay_467 (by decide) rfl (okK73 (by omega)) qj20 bj20 (fun M21 eM21 => ?_)
      replace h := h M21 eM21
      refine A_goto (tgt := 499) dX10_pay_468 (by decide) ?_
      refine A_iinc (ls' := [(5, _), (8, _), (2, _), (6, _), (0, _), (1, _), (4, _)]) dX10_pay_499 (by decide) rfl rfl rfl ?_
      refine A_goto (tgt := 228) dX10_pay_502 (by decide) ?_
      exact A_pick [4, 5, 2, 6, 0] rfl h
  replace h := h.2
  by_cases q349_3 : wI (M2 61 0 j4) = 3
  · replace h := h.1 q349_3
    refine A_tableIn (tgt := 420) dX10_pay_349 q349_3 (by decide) rfl (by decide) ?_
    refine A_aload_n dX10_pay_420 rfl rfl ?_
    refine A_iload dX10_pay_421 rfl ?_
    refine B_callV_I (av := [vI (M2 62 0 j3)]) rfl dX10_pay_423 vX10_447 mX10_isPaper ⟨rfl, rfl, by decide⟩ (okK10 (by omega)) rfl (Nat.le_of_ble_eq_true rfl) (by decide) (by decide) rfl (BC_monoI h (fun x22 N22 h => ?_))
    refine B_if_eq (tgt := 499) dX10_pay_426 (by decide) rfl ⟨fun q => ?_, fun q => ?_⟩
    · replace h := h.1 q
      refine A_iinc (ls' := [(5, _), (8, _), (2, _), (6, _), (0, _), (1, _), (4, _)]) dX10_pay_499 (by decide) rfl rfl rfl ?_
      refine A_goto (tgt := 228) dX10_pay_502 (by decide) ?_
      exact A_pick [4, 5, 2, 6, 0] rfl h
    · replace h := h.2 q
      refine A_aload_n dX10_pay_429 rfl rfl ?_
      refine A_getR (c2 := 69) (i2 := 0) dX10_pay_430 fX10_105 rfl (okK10 (by omega)) rfl ?_
      refine A_iload dX10_pay_433 rfl ?_
      refine A_dup2 dX10_pay_435 rfl rfl ?_
      obtain ⟨j23, qj23, bj23, h⟩ := h
      refine A_lald (j := j23) dX10_pay_436 (by decide) rfl (okK69 (by omega)) qj23 bj23 ?_
      refine A_lload dX10_pay_437 rfl ?_
      refine A_lsub dX10_pay_439 ?_
      obtain ⟨j24, qj24, bj24, h⟩ := h
      refine B_last (j := j24) dX10_pay_440 (by decide) rfl (okK69 (by omega)) qj24 bj24 (fun M25 eM25 => ?_)
      replace h := h M25 eM25
      refine A_aload_n dX10_pay_441 rfl rfl ?_
      refine A_getR (c2 := 72) (i2 := 0) dX10_pay_442 fX10_114 rfl (okK10 (by omega)) rfl ?_
      refine A_iload dX10_pay_445 rfl ?_
      refine A_dup2 dX10_pay_447 rfl rfl ?_
      obtain ⟨j26, qj26, bj26, h⟩ := h
      refine A_lald (j := j26) dX10_pay_448 (by decide) rfl (okK72 (by omega)) qj26 bj26 ?_
      refine A_lload dX10_pay_449 rfl ?_
      refine A_ladd dX10_pay_451 ?_
      obtain ⟨j27, qj27, bj27, h⟩ := h
      refine B_last (j := j27) dX10_pay_452 (by decide) rfl (okK72 (by omega)) qj27 bj27 (fun M28 eM28 => ?_)
      replace h := h M28 eM28
      refine A_aload_n dX10_pay_453 rfl rfl ?_
      refine A_getR (c2 := 73) (i2 := 0) dX10_pay_454 fX10_117 rfl (okK10 (by omega)) rfl ?_
      refine A_iload dX10_pay_457 rfl ?_
      refine A_dup2 dX10_pay_459 rfl rfl ?_
      obtain ⟨j29, qj29, bj29, h⟩ := h
      refine A_lald (j := j29) dX10_pay_460 (by decide) rfl (okK73 (by omega)) qj29 bj29 ?_
      refine A_lload dX10_pay_461 rfl ?_
      refine A_iload_n dX10_pay_463 rfl rfl ?_
      refine B_i2l dX10_pay_464 rfl ?_
      refine A_lmul dX10_pay_465 ?_
      refine A_ladd dX10_pay_466 ?_
      obtain ⟨j30, qj30, bj30, h⟩ := h
      refine B_last (j := j30) dX10_pay_467 (by decide) rfl (okK73 (by omega)) qj30 bj30 (fun M31 eM31 => ?_)
      replace h := h M31 eM31
      refine A_goto (tgt := 499) dX10_pay_468 (by decide) ?_
      refine A_iinc (ls' := [(5, _), (8, _), (2, _), (6, _), (0, _), (1, _), (4, _)]) dX10_pay_499 (by decide) rfl rfl rfl ?_
      refine A_goto (tgt := 228) dX10_pay_502 (by decide) ?_
      exact A_pick [4, 5, 2, 6, 0] rfl h
  replace h := h.2
  by_cases q349_4 : wI (M2 61 0 j4) = 4
  · replace h := h.1 q349_4
    refine A_tableIn (tgt := 471) dX10_pay_349 q349_4 (by decide) rfl (by decide) ?_
    refine A_aload_n dX10_pay_471 rfl rfl ?_
    refine A_dup dX10_pay_472 rfl ?_
    refine A_getL dX10_pay_473 fX10_472 rfl (okK10 (by omega)) ?_
    refine A_lload dX10_pay_476 rfl ?_
    refine A_ladd dX10_pay_478 ?_
    refine B_putL dX10_pay_479 fX10_472 (by decide) (okK10 (by omega)) (fun M32 eM32 => ?_)
    replace h := h M32 eM32
    refine A_goto (tgt := 499) dX10_pay_482 (by decide) ?_
    refine A_iinc (ls' := [(5, _), (8, _), (2, _), (6, _), (0, _), (1, _), (4, _)]) dX10_pay_499 (by decide) rfl rfl rfl ?_
    refine A_goto (tgt := 228) dX10_pay_502 (by decide) ?_
    exact A_pick [4, 5, 2, 6, 0] rfl h
  replace h := h.2
  by_cases q349_5 : wI (M2 61 0 j4) = 5
  · replace h := h.1 q349_5
    refine A_tableIn (tgt := 485) dX10_pay_349 q349_5 (by decide) rfl (by decide) ?_
    refine A_aload_n dX10_pay_485 rfl rfl ?_
    refine A_dup dX10_pay_486 rfl ?_
    refine A_getL dX10_pay_487 fX10_486 rfl (okK10 (by omega)) ?_
    refine A_lload dX10_pay_490 rfl ?_
    refine A_ladd dX10_pay_492 ?_
    refine B_putL dX10_pay_493 fX10_486 (by decide) (okK10 (by omega)) (fun M33 eM33 => ?_)
    replace h := h M33 eM33
    refine A_goto (tgt := 499) dX10_pay_496 (by decide) ?_
    refine A_iinc (ls' := [(5, _), (8, _), (2, _), (6, _), (0, _), (1, _), (4, _)]) dX10_pay_499 (by decide) rfl rfl rfl ?_
    refine A_goto (tgt := 228) dX10_pay_502 (by decide) ?_
    exact A_pick [4, 5, 2, 6, 0] rfl h
  replace h := h.2
  replace h := h (by omega)
  refine A_tableOut (tgt := 499) dX10_pay_349 (by omega) (by decide) ?_
  refine A_iinc (ls' := [(5, _), (8, _), (2, _), (6, _), (0, _), (1, _), (4, _)]) dX10_pay_499 (by decide) rfl rfl rfl ?_
  refine A_goto (tgt := 228) dX10_pay_502 (by decide) ?_
  exact A_pick [4, 5, 2, 6, 0] rfl h
set_option maxRecDepth 100000 in
set_option maxHeartbeats 4000000 in
theorem vc_X10_pay_522 {G : GT} {l1 : Int} {l5 : Int} {l7 : Int} {N : NN} {K : NN → Prop}  (h : (((wI (N 10 0 53)) ≤ (wI l7) → W_X10_pay G K 571 [(0, vR 10 0), (1, vI l1), (5, vL l5), (7, vI ((N 10 0 53) - 1))] [] N) ∧ (¬ ((wI (N 10 0 53)) ≤ (wI l7)) → (∃ j1 : Nat, (wI l7) = (j1 : Int) ∧ j1 < 5 ∧ (∃ j2 : Nat, (wI l7) = (j2 : Int) ∧ j2 < 5 ∧ (∀ M3 : NN, M3 = up3 N 70 0 j2 (N 75 0 j1) → (∃ j4 : Nat, (wI l7) = (j4 : Int) ∧ j4 < 5 ∧ W_X10_pay G K 522 [(0, vR 10 0), (1, vI l1), (5, vL (l5 + (M3 69 0 j4))), (7, vI (l7 + 1))] [] M3))))))) : W_X10_pay G K 522 [(0, vR 10 0), (1, vI l1), (5, vL l5), (7, vI l7)] [] N := by
  refine A_iload dX10_pay_522 rfl ?_
  refine A_aload_n dX10_pay_524 rfl rfl ?_
  refine A_getI dX10_pay_525 fX10_444 rfl (okK10 (by omega)) ?_
  refine B_icmp_ge (tgt := 563) dX10_pay_528 (by decide) rfl rfl ⟨fun q => ?_, fun q => ?_⟩
  · replace h := h.1 q
    refine A_aload_n dX10_pay_563 rfl rfl ?_
    refine A_getI dX10_pay_564 fX10_444 rfl (okK10 (by omega)) ?_
    refine A_iconst (v := 1) dX10_pay_567 rfl ?_
    refine A_isub dX10_pay_568 ?_
    refine A_istore (ls' := [(7, _), (0, _), (1, _), (5, _)]) dX10_pay_569 (by decide) rfl ?_
    exact A_pick [1, 2, 3, 0] rfl h
  · replace h := h.2 q
    refine A_aload_n dX10_pay_531 rfl rfl ?_
    refine A_getR (c2 := 70) (i2 := 0) dX10_pay_532 fX10_108 rfl (okK10 (by omega)) rfl ?_
    refine A_iload dX10_pay_535 rfl ?_
    refine A_aload_n dX10_pay_537 rfl rfl ?_
    refine A_getR (c2 := 75) (i2 := 0) dX10_pay_538 fX10_123 rfl (okK10 (by omega)) rfl ?_
    refine A_iload dX10_pay_541 rfl ?_
    obtain ⟨j1, qj1, bj1, h⟩ := h
    refine A_lald (j := j1) dX10_pay_543 (by decide) rfl (okK75 (by omega)) qj1 bj1 ?_
    obtain ⟨j2, qj2, bj2, h⟩ := h
    refine B_last (j := j2) dX10_pay_544 (by decide) rfl (okK70 (by omega)) qj2 bj2 (fun M3 eM3 => ?_)
    replace h := h M3 eM3
    refine A_lload dX10_pay_545 rfl ?_
    refine A_aload_n dX10_pay_547 rfl rfl ?_
    refine A_getR (c2 := 69) (i2 := 0) dX10_pay_548 fX10_105 rfl (okK10 (by omega)) rfl ?_
    refine A_iload dX10_pay_551 rfl ?_
    obtain ⟨j4, qj4, bj4, h⟩ := h
    refine A_lald (j := j4) dX10_pay_553 (by decide) rfl (okK69 (by omega)) qj4 bj4 ?_
    refine A_ladd dX10_pay_554 ?_
    refine A_lstore (ls' := [(5, _), (0, _), (1, _), (7, _)]) dX10_pay_555 (by decide) rfl ?_
    refine A_iinc (ls' := [(7, _), (5, _), (0, _), (1, _)]) dX10_pay_557 (by decide) rfl rfl rfl ?_
    refine A_goto (tgt := 522) dX10_pay_560 (by decide) ?_
    exact A_pick [2, 3, 1, 0] rfl h
set_option maxRecDepth 100000 in
set_option maxHeartbeats 4000000 in
theorem vc_X10_pay_571 {G : GT} {l1 : Int} {l5 : Int} {l7 : Int} {N : NN} {K : NN → Prop}  (h : (((wI l7) < 0 → (∃ j1 : Nat, (wI l1) = (j1 : Int) ∧ j1 < 61 ∧ (∀ M2 : NN, M2 = up3 N 78 0 j1 (N 10 0 64) → K M2))) ∧ (¬ ((wI l7) < 0) → (((wL l5) ≤ 0 → (∃ j3 : Nat, (wI l1) = (j3 : Int) ∧ j3 < 61 ∧ (∀ M4 : NN, M4 = up3 N 78 0 j3 (N 10 0 64) → K M4))) ∧ (¬ ((wL l5) ≤ 0) → (∃ j5 : Nat, (wI l7) = (j5 : Int) ∧ j5 < 5 ∧ (((wL (N 69 0 j5)) ≤ (wL l5) → (∃ j6 : Nat, (wI l7) = (j6 : Int) ∧ j6 < 5 ∧ (∃ j7 : Nat, (wI l7) = (j7 : Int) ∧ j7 < 5 ∧ (∃ j8 : Nat, (wI l7) = (j8 : Int) ∧ j8 < 5 ∧ (∀ M9 : NN, M9 = up3 N 69 0 j8 ((N 69 0 j7) - (N 69 0 j6)) → (∃ j10 : Nat, (wI l7) = (j10 : Int) ∧ j10 < 5 ∧ (∃ j11 : Nat, (wI l7) = (j11 : Int) ∧ j11 < 5 ∧ (∀ M12 : NN, M12 = up3 M9 74 0 j11 ((M9 74 0 j10) + (N 69 0 j6)) → W_X10_pay G K 571 [(0, vR 10 0), (1, vI l1), (5, vL (l5 - (N 69 0 j6))), (7, vI (l7 + (-1)))] [] M12)))))))) ∧ (¬ ((wL (N 69 0 j5)) ≤ (wL l5)) → (∃ j13 : Nat, (wI l7) = (j13 : Int) ∧ j13 < 5 ∧ (∃ j14 : Nat, (wI l7) = (j14 : Int) ∧ j14 < 5 ∧ (∀ M15 : NN, M15 = up3 N 69 0 j14 ((N 69 0 j13) - l5) → (∃ j16 : Nat, (wI l7) = (j16 : Int) ∧ j16 < 5 ∧ (∃ j17 : Nat, (wI l7) = (j17 : Int) ∧ j17 < 5 ∧ (∀ M18 : NN, M18 = up3 M15 74 0 j17 ((M15 74 0 j16) + l5) → W_X10_pay G K 571 [(0, vR 10 0), (1, vI l1), (5, vL (l5 - l5)), (7, vI (l7 + (-1)))] [] M18)))))))))))))) : W_X10_pay G K 571 [(0, vR 10 0), (1, vI l1), (5, vL l5), (7, vI l7)] [] N := by
  refine A_iload dX10_pay_571 rfl ?_
  refine B_if_lt (tgt := 647) dX10_pay_573 (by decide) rfl ⟨fun q => ?_, fun q => ?_⟩
  · replace h := h.1 q
    refine A_aload_n dX10_pay_647 rfl rfl ?_
    refine A_getR (c2 := 78) (i2 := 0) dX10_pay_648 fX10_138 rfl (okK10 (by omega)) rfl ?_
    refine A_iload_n dX10_pay_651 rfl rfl ?_
    refine A_aload_n dX10_pay_652 rfl rfl ?_
    refine A_getL dX10_pay_653 fX10_472 rfl (okK10 (by omega)) ?_
    obtain ⟨j1, qj1, bj1, h⟩ := h
    refine B_last (j := j1) dX10_pay_656 (by decide) rfl (okK78 (by omega)) qj1 bj1 (fun M2 eM2 => ?_)
    replace h := h M2 eM2
    exact A_vret dX10_pay_657 ⟨rfl, rfl, h⟩
  · replace h := h.2 q
    refine A_lload dX10_pay_576 rfl ?_
    refine A_lconst (v := 0) dX10_pay_578 (by decide +kernel) ?_
    refine B_lcmp_le (tgt := 647) dX10_pay_579 rfl dX10_pay_580 (by decide) rfl (wlitL (by decide) (by decide)) ⟨fun q => ?_, fun q => ?_⟩
    · replace h := h.1 q
      refine A_aload_n dX10_pay_647 rfl rfl ?_
      refine A_getR (c2 := 78) (i2 := 0) dX10_pay_648 fX10_138 rfl (okK10 (by omega)) rfl ?_
      refine A_iload_n dX10_pay_651 rfl rfl ?_
      refine A_aload_n dX10_pay_652 rfl rfl ?_
      refine A_getL dX10_pay_653 fX10_472 rfl (okK10 (by omega)) ?_
      obtain ⟨j3, qj3, bj3, h⟩ := h
      refine B_last (j := j3) dX10_pay_656 (by decide) rfl (okK78 (by omega)) qj3 bj3 (fun M4 eM4 => ?_)
      replace h := h M4 eM4
      exact A_vret dX10_pay_657 ⟨rfl, rfl, h⟩
    · replace h := h.2 q
      refine A_lload dX10_pay_583 rfl ?_
      refine A_aload_n dX10_pay_585 rfl rfl ?_
      refine A_getR (c2 := 69) (i2 := 0) dX10_pay_586 fX10_105 rfl (okK10 (by omega)) rfl ?_
      refine A_iload dX10_pay_589 rfl ?_
      obtain ⟨j5, qj5, bj5, h⟩ := h
      refine A_lald (j := j5) dX10_pay_591 (by decide) rfl (okK69 (by omega)) qj5 bj5 ?_
      refine B_lcmp_ge (tgt := 601) dX10_pay_592 rfl dX10_pay_593 (by decide) rfl rfl ⟨fun q => ?_, fun q => ?_⟩
      · replace h := h.1 q
        refine A_aload_n dX10_pay_601 rfl rfl ?_
        refine A_getR (c2 := 69) (i2 := 0) dX10_pay_602 fX10_105 rfl (okK10 (by omega)) rfl ?_
        refine A_iload dX10_pay_605 rfl ?_
        obtain ⟨j6, qj6, bj6, h⟩ := h
        refine A_lald (j := j6) dX10_pay_607 (by decide) rfl (okK69 (by omega)) qj6 bj6 ?_
        refine A_lstore (ls' := [(8, _), (0, _), (1, _), (5, _), (7, _)]) dX10_pay_608 (by decide) rfl ?_
        refine A_aload_n dX10_pay_610 rfl rfl ?_
        refine A_getR (c2 := 69) (i2 := 0) dX10_pay_611 fX10_105 rfl (okK10 (by omega)) rfl ?_
        refine A_iload dX10_pay_614 rfl ?_
        refine A_dup2 dX10_pay_616 rfl rfl ?_
        obtain ⟨j7, qj7, bj7, h⟩ := h
        refine A_lald (j := j7) dX10_pay_617 (by decide) rfl (okK69 (by omega)) qj7 bj7 ?_
        refine A_lload dX10_pay_618 rfl ?_
        refine A_lsub dX10_pay_620 ?_
        obtain ⟨j8, qj8, bj8, h⟩ := h
        refine B_last (j := j8) dX10_pay_621 (by decide) rfl (okK69 (by omega)) qj8 bj8 (fun M9 eM9 => ?_)
        replace h := h M9 eM9
        refine A_aload_n dX10_pay_622 rfl rfl ?_
        refine A_getR (c2 := 74) (i2 := 0) dX10_pay_623 fX10_120 rfl (okK10 (by omega)) rfl ?_
        refine A_iload dX10_pay_626 rfl ?_
        refine A_dup2 dX10_pay_628 rfl rfl ?_
        obtain ⟨j10, qj10, bj10, h⟩ := h
        refine A_lald (j := j10) dX10_pay_629 (by decide) rfl (okK74 (by omega)) qj10 bj10 ?_
        refine A_lload dX10_pay_630 rfl ?_
        refine A_ladd dX10_pay_632 ?_
        obtain ⟨j11, qj11, bj11, h⟩ := h
        refine B_last (j := j11) dX10_pay_633 (by decide) rfl (okK74 (by omega)) qj11 bj11 (fun M12 eM12 => ?_)
        replace h := h M12 eM12
        refine A_lload dX10_pay_634 rfl ?_
        refine A_lload dX10_pay_636 rfl ?_
        refine A_lsub dX10_pay_638 ?_
        refine A_lstore (ls' := [(5, _), (8, _), (0, _), (1, _), (7, _)]) dX10_pay_639 (by decide) rfl ?_
        refine A_iinc (ls' := [(7, _), (5, _), (8, _), (0, _), (1, _)]) dX10_pay_641 (by decide) rfl rfl rfl ?_
        refine A_goto (tgt := 571) dX10_pay_644 (by decide) ?_
        exact A_pick [3, 4, 1, 0] rfl h
      · replace h := h.2 q
        refine A_lload dX10_pay_596 rfl ?_
        refine A_goto (tgt := 608) dX10_pay_598 (by decide) ?_
        refine A_lstore (ls' := [(8, _), (0, _), (1, _), (5, _), (7, _)]) dX10_pay_608 (by decide) rfl ?_
        refine A_aload_n dX10_pay_610 rfl rfl ?_
        refine A_getR (c2 := 69) (i2 := 0) dX10_pay_611 fX10_105 rfl (okK10 (by omega)) rfl ?_
        refine A_iload dX10_pay_614 rfl ?_
        refine A_dup2 dX10_pay_616 rfl rfl ?_
        obtain ⟨j13, qj13, bj13, h⟩ := h
        refine A_lald (j := j13) dX10_pay_617 (by decide) rfl (okK69 (by omega)) qj13 bj13 ?_
        refine A_lload dX10_pay_618 rfl ?_
        refine A_lsub dX10_pay_620 ?_
        obtain ⟨j14, qj14, bj14, h⟩ := h
        refine B_last (j := j14) dX10_pay_621 (by decide) rfl (okK69 (by omega)) qj14 bj14 (fun M15 eM15 => ?_)
        replace h := h M15 eM15
        refine A_aload_n dX10_pay_622 rfl rfl ?_
        refine A_getR (c2 := 74) (i2 := 0) dX10_pay_623 fX10_120 rfl (okK10 (by omega)) rfl ?_
        refine A_iload dX10_pay_626 rfl ?_
        refine A_dup2 dX10_pay_628 rfl rfl ?_
        obtain ⟨j16, qj16, bj16, h⟩ := h
        refine A_lald (j := j16) dX10_pay_629 (by decide) rfl (okK74 (by omega)) qj16 bj16 ?_
        refine A_lload dX10_pay_630 rfl ?_
        refine A_ladd dX10_pay_632 ?_
        obtain ⟨j17, qj17, bj17, h⟩ := h
        refine B_last (j := j17) dX10_pay_633 (by decide) rfl (okK74 (by omega)) qj17 bj17 (fun M18 eM18 => ?_)
        replace h := h M18 eM18
        refine A_lload dX10_pay_634 rfl ?_
        refine A_lload dX10_pay_636 rfl ?_
        refine A_lsub dX10_pay_638 ?_
        refine A_lstore (ls' := [(5, _), (8, _), (0, _), (1, _), (7, _)]) dX10_pay_639 (by decide) rfl ?_
        refine A_iinc (ls' := [(7, _), (5, _), (8, _), (0, _), (1, _)]) dX10_pay_641 (by decide) rfl rfl rfl ?_
        refine A_goto (tgt := 571) dX10_pay_644 (by decide) ?_
        exact A_pick [3, 4, 1, 0] rfl h
set_option maxRecDepth 100000 in
set_option maxHeartbeats 4000000 in
theorem vc_X10_anew {G : GT} {N : NN} {K : NN → Prop}  (h : W_X10_anew G K 2 [(0, vR 10 0), (1, vI 0)] [] N) : C_X10_anew G N K := by
  refine Ctr.ofAW RX10 false rfl (by decide +kernel) (fun q => by cases q) (Nat.le_of_ble_eq_true rfl) (Nat.le_refl _) ?_
  refine A_iconst (v := 0) dX10_anew_0 rfl ?_
  refine A_istore_n (ls' := [(1, _), (0, _)]) dX10_anew_1 rfl (by decide) rfl ?_
  exact A_pick [1, 0] rfl h
set_option maxRecDepth 100000 in
set_option maxHeartbeats 4000000 in
theorem vc_X10_anew_2 {G : GT} {l1 : Int} {N : NN} {K : NN → Prop}  (h : (((wI (N 10 0 53)) ≤ (wI l1) → (∀ M1 : NN, M1 = up3 N 10 0 64 0 → (∀ M2 : NN, M2 = up3 M1 10 0 65 0 → (∀ M3 : NN, M3 = up3 M2 10 0 66 0 → (∀ M4 : NN, M4 = up3 M3 10 0 67 0 → (∀ M5 : NN, M5 = up3 M4 10 0 68 0 → K M5)))))) ∧ (¬ ((wI (N 10 0 53)) ≤ (wI l1)) → (∃ j6 : Nat, (wI l1) = (j6 : Int) ∧ j6 < 5 ∧ (∃ j7 : Nat, (wI l1) = (j7 : Int) ∧ j7 < 5 ∧ (∀ M8 : NN, M8 = up3 N 69 0 j7 (N 67 0 j6) → (∃ j9 : Nat, (wI l1) = (j9 : Int) ∧ j9 < 5 ∧ (∀ M10 : NN, M10 = up3 M8 70 0 j9 0 → (∃ j11 : Nat, (wI l1) = (j11 : Int) ∧ j11 < 5 ∧ (∀ M12 : NN, M12 = up3 M10 71 0 j11 0 → (∃ j13 : Nat, (wI l1) = (j13 : Int) ∧ j13 < 5 ∧ (∀ M14 : NN, M14 = up3 M12 72 0 j13 0 → (∃ j15 : Nat, (wI l1) = (j15 : Int) ∧ j15 < 5 ∧ (∀ M16 : NN, M16 = up3 M14 73 0 j15 0 → (∃ j17 : Nat, (wI l1) = (j17 : Int) ∧ j17 < 5 ∧ (∀ M18 : NN, M18 = up3 M16 74 0 j17 0 → W_X10_anew G K 2 [(0, vR 10 0), (1, vI (l1 + 1))] [] M18)))))))))))))))) : W_X10_anew G K 2 [(0, vR 10 0), (1, vI l1)] [] N := by
  refine A_iload_n dX10_anew_2 rfl rfl ?_
  refine A_aload_n dX10_anew_3 rfl rfl ?_
  refine A_getI dX10_anew_4 fX10_444 rfl (okK10 (by omega)) ?_
  refine B_icmp_ge (tgt := 63) dX10_anew_7 (by decide) rfl rfl ⟨fun q => ?_, fun q => ?_⟩
  · replace h := h.1 q
    refine A_aload_n dX10_anew_63 rfl rfl ?_
    refine A_lconst (v := 0) dX10_anew_64 (by decide +kernel) ?_
    refine B_putL dX10_anew_65 fX10_472 (by decide) (okK10 (by omega)) (fun M1 eM1 => ?_)
    replace h := h M1 eM1
    refine A_aload_n dX10_anew_68 rfl rfl ?_
    refine A_lconst (v := 0) dX10_anew_69 (by decide +kernel) ?_
    refine B_putL dX10_anew_70 fX10_454 (by decide) (okK10 (by omega)) (fun M2 eM2 => ?_)
    replace h := h M2 eM2
    refine A_aload_n dX10_anew_73 rfl rfl ?_
    refine A_lconst (v := 0) dX10_anew_74 (by decide +kernel) ?_
    refine B_putL dX10_anew_75 fX10_486 (by decide) (okK10 (by omega)) (fun M3 eM3 => ?_)
    replace h := h M3 eM3
    refine A_aload_n dX10_anew_78 rfl rfl ?_
    refine A_iconst (v := 0) dX10_anew_79 rfl ?_
    refine B_putZ dX10_anew_80 fX10_463 (by decide) (okK10 (by omega)) (by decide) (fun M4 eM4 => ?_)
    replace h := h M4 eM4
    refine A_aload_n dX10_anew_83 rfl rfl ?_
    refine A_iconst (v := 0) dX10_anew_84 rfl ?_
    refine B_putI dX10_anew_85 fX10_475 (by decide) (okK10 (by omega)) (fun M5 eM5 => ?_)
    replace h := h M5 eM5
    exact A_vret dX10_anew_88 ⟨rfl, rfl, h⟩
  · replace h := h.2 q
    refine A_aload_n dX10_anew_10 rfl rfl ?_
    refine A_getR (c2 := 69) (i2 := 0) dX10_anew_11 fX10_105 rfl (okK10 (by omega)) rfl ?_
    refine A_iload_n dX10_anew_14 rfl rfl ?_
    refine A_aload_n dX10_anew_15 rfl rfl ?_
    refine A_getR (c2 := 67) (i2 := 0) dX10_anew_16 fX10_99 rfl (okK10 (by omega)) rfl ?_
    refine A_iload_n dX10_anew_19 rfl rfl ?_
    obtain ⟨j6, qj6, bj6, h⟩ := h
    refine A_lald (j := j6) dX10_anew_20 (by decide) rfl (okK67 (by omega)) qj6 bj6 ?_
    obtain ⟨j7, qj7, bj7, h⟩ := h
    refine B_last (j := j7) dX10_anew_21 (by decide) rfl (okK69 (by omega)) qj7 bj7 (fun M8 eM8 => ?_)
    replace h := h M8 eM8
    refine A_aload_n dX10_anew_22 rfl rfl ?_
    refine A_getR (c2 := 70) (i2 := 0) dX10_anew_23 fX10_108 rfl (okK10 (by omega)) rfl ?_
    refine A_iload_n dX10_anew_26 rfl rfl ?_
    refine A_lconst (v := 0) dX10_anew_27 (by decide +kernel) ?_
    obtain ⟨j9, qj9, bj9, h⟩ := h
    refine B_last (j := j9) dX10_anew_28 (by decide) rfl (okK70 (by omega)) qj9 bj9 (fun M10 eM10 => ?_)
    replace h := h M10 eM10
    refine A_aload_n dX10_anew_29 rfl rfl ?_
    refine A_getR (c2 := 71) (i2 := 0) dX10_anew_30 fX10_111 rfl (okK10 (by omega)) rfl ?_
    refine A_iload_n dX10_anew_33 rfl rfl ?_
    refine A_lconst (v := 0) dX10_anew_34 (by decide +kernel) ?_
    obtain ⟨j11, qj11, bj11, h⟩ := h
    refine B_last (j := j11) dX10_anew_35 (by decide) rfl (okK71 (by omega)) qj11 bj11 (fun M12 eM12 => ?_)
    replace h := h M12 eM12
    refine A_aload_n dX10_anew_36 rfl rfl ?_
    refine A_getR (c2 := 72) (i2 := 0) dX10_anew_37 fX10_114 rfl (okK10 (by omega)) rfl ?_
    refine A_iload_n dX10_anew_40 rfl rfl ?_
    refine A_lconst (v := 0) dX10_anew_41 (by decide +kernel) ?_
    obtain ⟨j13, qj13, bj13, h⟩ := h
    refine B_last (j := j13) dX10_anew_42 (by decide) rfl (okK72 (by omega)) qj13 bj13 (fun M14 eM14 => ?_)
    replace h := h M14 eM14
    refine A_aload_n dX10_anew_43 rfl rfl ?_
    refine A_getR (c2 := 73) (i2 := 0) dX10_anew_44 fX10_117 rfl (okK10 (by omega)) rfl ?_
    refine A_iload_n dX10_anew_47 rfl rfl ?_
    refine A_lconst (v := 0) dX10_anew_48 (by decide +kernel) ?_
    obtain ⟨j15, qj15, bj15, h⟩ := h
    refine B_last (j := j15) dX10_anew_49 (by decide) rfl (okK73 (by omega)) qj15 bj15 (fun M16 eM16 => ?_)
    replace h := h M16 eM16
    refine A_aload_n dX10_anew_50 rfl rfl ?_
    refine A_getR (c2 := 74) (i2 := 0) dX10_anew_51 fX10_120 rfl (okK10 (by omega)) rfl ?_
    refine A_iload_n dX10_anew_54 rfl rfl ?_
    refine A_lconst (v := 0) dX10_anew_55 (by decide +kernel) ?_
    obtain ⟨j17, qj17, bj17, h⟩ := h
    refine B_last (j := j17) dX10_anew_56 (by decide) rfl (okK74 (by omega)) qj17 bj17 (fun M18 eM18 => ?_)
    replace h := h M18 eM18
    refine A_iinc (ls' := [(1, _), (0, _)]) dX10_anew_57 (by decide) rfl rfl rfl ?_
    refine A_goto (tgt := 2) dX10_anew_60 (by decide) ?_
    exact A_pick [1, 0] rfl h
set_option maxRecDepth 100000 in
set_option maxHeartbeats 4000000 in
theorem vc_X10_amend {G : GT} {a1 : Int} {a2 : Int} {N : NN} {K : Int → NN → Prop}  (h : (C_X10_in G a2 0 ((N 10 0 45) - 1) N (fun x1 N1 => (((wI x1) = 0 → K ((-2)) N1) ∧ (¬ ((wI x1) = 0) → (C_X10_in G a1 1 ((N1 10 0 1) + 1) N1 (fun x2 N2 => (((wI x2) ≠ 0 → W_X10_amend G K 33 [(0, vR 10 0), (2, vI a2), (3, vI a1)] [] N2) ∧ (¬ ((wI x2) ≠ 0) → K ((-2)) N2))))))))) : C_X10_amend G a1 a2 N K := by
  refine Ctr.ofAW RX10 false rfl (by decide +kernel) (fun q => by cases q) (Nat.le_of_ble_eq_true rfl) (Nat.le_refl _) ?_
  refine A_iload_n dX10_amend_0 rfl rfl ?_
  refine A_iconst (v := 0) dX10_amend_1 rfl ?_
  refine A_aload_n dX10_amend_2 rfl rfl ?_
  refine A_getI dX10_amend_3 fX10_178 rfl (okK10 (by omega)) ?_
  refine A_iconst (v := 1) dX10_amend_6 rfl ?_
  refine A_isub dX10_amend_7 ?_
  refine B_callS_I (av := [vI a2, vI 0, vI ((N 10 0 45) - 1)]) rfl dX10_amend_8 vX10_186 mX10_in rfl (Nat.le_of_ble_eq_true rfl) (by decide) (by decide) rfl (BC_monoI h (fun x1 N1 h => ?_))
  refine B_if_eq (tgt := 28) dX10_amend_11 (by decide) rfl ⟨fun q => ?_, fun q => ?_⟩
  · replace h := h.1 q
    refine A_bipush (v := (-2)) dX10_amend_28 (by decide +kernel) ?_
    exact A_iret dX10_amend_30 ⟨rfl, _, rfl, h⟩
  · replace h := h.2 q
    refine A_iload_n dX10_amend_14 rfl rfl ?_
    refine A_iconst (v := 1) dX10_amend_15 rfl ?_
    refine A_aload_n dX10_amend_16 rfl rfl ?_
    refine A_getI dX10_amend_17 fX10_195 rfl (okK10 (by omega)) ?_
    refine A_iconst (v := 1) dX10_amend_20 rfl ?_
    refine A_iadd dX10_amend_21 ?_
    refine B_callS_I (av := [vI a1, vI 1, vI ((N1 10 0 1) + 1)]) rfl dX10_amend_22 vX10_186 mX10_in rfl (Nat.le_of_ble_eq_true rfl) (by decide) (by decide) rfl (BC_monoI h (fun x2 N2 h => ?_))
    refine B_if_ne (tgt := 31) dX10_amend_25 (by decide) rfl ⟨fun q => ?_, fun q => ?_⟩
    · replace h := h.1 q
      refine A_iload_n dX10_amend_31 rfl rfl ?_
      refine A_istore_n (ls' := [(3, _), (0, _), (1, _), (2, _)]) dX10_amend_32 rfl (by decide) rfl ?_
      exact A_pick [1, 3, 0] rfl h
    · replace h := h.2 q
      refine A_bipush (v := (-2)) dX10_amend_28 (by decide +kernel) ?_
      exact A_iret dX10_amend_30 ⟨rfl, _, rfl, h⟩
set_option maxRecDepth 100000 in
set_option maxHeartbeats 4000000 in
theorem vc_X10_amend_33 {G : GT} {l2 : Int} {l3 : Int} {N : NN} {K : Int → NN → Prop}  (h : ((62 ≤ (wI l3) → (C_X10_anew G  N (fun N1 => W_X10_amend G K 58 [(0, vR 10 0), (3, vI 1)] [] N1))) ∧ (¬ (62 ≤ (wI l3)) → (∃ j2 : Nat, (wI l3) = (j2 : Int) ∧ j2 < 62 ∧ (∀ M3 : NN, M3 = up3 N 76 0 j2 l2 → W_X10_amend G K 33 [(0, vR 10 0), (2, vI l2), (3, vI (l3 + 1))] [] M3))))) : W_X10_amend G K 33 [(0, vR 10 0), (2, vI l2), (3, vI l3)] [] N := by
  refine A_iload_n dX10_amend_33 rfl rfl ?_
  refine A_bipush (v := 62) dX10_amend_34 (by decide +kernel) ?_
  refine B_icmp_ge (tgt := 52) dX10_amend_36 (by decide) rfl (wlitI (by decide) (by decide)) ⟨fun q => ?_, fun q => ?_⟩
  · replace h := h.1 q
    refine A_aload_n dX10_amend_52 rfl rfl ?_
    refine B_callV_V (av := []) rfl dX10_amend_53 vX10_489 mX10_anew ⟨rfl, rfl, by decide⟩ (okK10 (by omega)) rfl (Nat.le_of_ble_eq_true rfl) (by decide) (by decide) rfl (BC_monoV h (fun N1 h => ?_))
    refine A_iconst (v := 1) dX10_amend_56 rfl ?_
    refine A_istore_n (ls' := [(3, _), (0, _), (2, _)]) dX10_amend_57 rfl (by decide) rfl ?_
    exact A_pick [1, 0] rfl h
  · replace h := h.2 q
    refine A_aload_n dX10_amend_39 rfl rfl ?_
    refine A_getR (c2 := 76) (i2 := 0) dX10_amend_40 fX10_126 rfl (okK10 (by omega)) rfl ?_
    refine A_iload_n dX10_amend_43 rfl rfl ?_
    refine A_iload_n dX10_amend_44 rfl rfl ?_
    obtain ⟨j2, qj2, bj2, h⟩ := h
    refine B_iast (j := j2) dX10_amend_45 (by decide) rfl (okK76 (by omega)) qj2 bj2 (fun M3 eM3 => ?_)
    replace h := h M3 eM3
    refine A_iinc (ls' := [(3, _), (0, _), (2, _)]) dX10_amend_46 (by decide) rfl rfl rfl ?_
    refine A_goto (tgt := 33) dX10_amend_49 (by decide) ?_
    exact A_pick [1, 2, 0] rfl h
set_option maxRecDepth 100000 in
set_option maxHeartbeats 4000000 in
theorem vc_X10_amend_58 {G : GT} {l3 : Int} {N : NN} {K : Int → NN → Prop}  (h : (((wI (N 10 0 1)) < (wI l3) → K (N 10 0 1) N) ∧ (¬ ((wI (N 10 0 1)) < (wI l3)) → (C_X10_pay G l3 N (fun N1 => W_X10_amend G K 58 [(0, vR 10 0), (3, vI (l3 + 1))] [] N1))))) : W_X10_amend G K 58 [(0, vR 10 0), (3, vI l3)] [] N := by
  refine A_iload_n dX10_amend_58 rfl rfl ?_
  refine A_aload_n dX10_amend_59 rfl rfl ?_
  refine A_getI dX10_amend_60 fX10_195 rfl (okK10 (by omega)) ?_
  refine B_icmp_gt (tgt := 77) dX10_amend_63 (by decide) rfl rfl ⟨fun q => ?_, fun q => ?_⟩
  · replace h := h.1 q
    refine A_aload_n dX10_amend_77 rfl rfl ?_
    refine A_getI dX10_amend_78 fX10_195 rfl (okK10 (by omega)) ?_
    exact A_iret dX10_amend_81 ⟨rfl, _, rfl, h⟩
  · replace h := h.2 q
    refine A_aload_n dX10_amend_66 rfl rfl ?_
    refine A_iload_n dX10_amend_67 rfl rfl ?_
    refine B_callV_V (av := [vI l3]) rfl dX10_amend_68 vX10_492 mX10_pay ⟨rfl, rfl, by decide⟩ (okK10 (by omega)) rfl (Nat.le_of_ble_eq_true rfl) (by decide) (by decide) rfl (BC_monoV h (fun N1 h => ?_))
    refine A_iinc (ls' := [(3, _), (0, _)]) dX10_amend_71 (by decide) rfl rfl rfl ?_
    refine A_goto (tgt := 58) dX10_amend_74 (by decide) ?_
    exact A_pick [1, 0] rfl h
set_option maxRecDepth 100000 in
set_option maxHeartbeats 4000000 in
theorem vc_X10_goOn {G : GT} {N : NN} {K : NN → Prop}  (h : (∀ M1 : NN, M1 = up3 N 10 0 1 ((N 10 0 1) + 1) → (C_X10_collect G (M1 10 0 1) M1 (fun N2 => (C_X10_pay G (N2 10 0 1) N2 (fun N3 => K N3)))))) : C_X10_goOn G N K := by
  refine Ctr.ofAW RX10 false rfl (by decide +kernel) (fun q => by cases q) (Nat.le_of_ble_eq_true rfl) (Nat.le_refl _) ?_
  refine A_aload_n dX10_goOn_0 rfl rfl ?_
  refine A_dup dX10_goOn_1 rfl ?_
  refine A_getI dX10_goOn_2 fX10_195 rfl (okK10 (by omega)) ?_
  refine A_iconst (v := 1) dX10_goOn_5 rfl ?_
  refine A_iadd dX10_goOn_6 ?_
  refine B_putI dX10_goOn_7 fX10_195 (by decide) (okK10 (by omega)) (fun M1 eM1 => ?_)
  replace h := h M1 eM1
  refine A_aload_n dX10_goOn_10 rfl rfl ?_
  refine A_aload_n dX10_goOn_11 rfl rfl ?_
  refine A_getI dX10_goOn_12 fX10_195 rfl (okK10 (by omega)) ?_
  refine B_callV_V (av := [vI (M1 10 0 1)]) rfl dX10_goOn_15 vX10_495 mX10_collect ⟨rfl, rfl, by decide⟩ (okK10 (by omega)) rfl (Nat.le_of_ble_eq_true rfl) (by decide) (by decide) rfl (BC_monoV h (fun N2 h => ?_))
  refine A_aload_n dX10_goOn_18 rfl rfl ?_
  refine A_aload_n dX10_goOn_19 rfl rfl ?_
  refine A_getI dX10_goOn_20 fX10_195 rfl (okK10 (by omega)) ?_
  refine B_callV_V (av := [vI (N2 10 0 1)]) rfl dX10_goOn_23 vX10_492 mX10_pay ⟨rfl, rfl, by decide⟩ (okK10 (by omega)) rfl (Nat.le_of_ble_eq_true rfl) (by decide) (by decide) rfl (BC_monoV h (fun N3 h => ?_))
  exact A_vret dX10_goOn_26 ⟨rfl, rfl, h⟩
set_option maxRecDepth 100000 in
set_option maxHeartbeats 4000000 in
theorem vc_X10_run {G : GT} {a1 : Int} {N : NN} {K : Int → NN → Prop}  (h : (C_X10_in G a1 1 12 N (fun x1 N1 => (((wI x1) ≠ 0 → (((wI ((N1 10 0 1) + a1)) ≤ 60 → W_X10_run G K 29 [(0, vR 10 0), (1, vI a1), (2, vI 0)] [] N1) ∧ (¬ ((wI ((N1 10 0 1) + a1)) ≤ 60) → K ((-4)) N1))) ∧ (¬ ((wI x1) ≠ 0) → K ((-2)) N1))))) : C_X10_run G a1 N K := by
  refine Ctr.ofAW RX10 false rfl (by decide +kernel) (fun q => by cases q) (Nat.le_of_ble_eq_true rfl) (Nat.le_refl _) ?_
  refine A_iload_n dX10_run_0 rfl rfl ?_
  refine A_iconst (v := 1) dX10_run_1 rfl ?_
  refine A_bipush (v := 12) dX10_run_2 (by decide +kernel) ?_
  refine B_callS_I (av := [vI a1, vI 1, vI 12]) rfl dX10_run_4 vX10_186 mX10_in rfl (Nat.le_of_ble_eq_true rfl) (by decide) (by decide) rfl (BC_monoI h (fun x1 N1 h => ?_))
  refine B_if_ne (tgt := 13) dX10_run_7 (by decide) rfl ⟨fun q => ?_, fun q => ?_⟩
  · replace h := h.1 q
    refine A_aload_n dX10_run_13 rfl rfl ?_
    refine A_getI dX10_run_14 fX10_195 rfl (okK10 (by omega)) ?_
    refine A_iload_n dX10_run_17 rfl rfl ?_
    refine A_iadd dX10_run_18 ?_
    refine A_bipush (v := 60) dX10_run_19 (by decide +kernel) ?_
    refine B_icmp_le (tgt := 27) dX10_run_21 (by decide) rfl (wlitI (by decide) (by decide)) ⟨fun q => ?_, fun q => ?_⟩
    · replace h := h.1 q
      refine A_iconst (v := 0) dX10_run_27 rfl ?_
      refine A_istore_n (ls' := [(2, _), (0, _), (1, _)]) dX10_run_28 rfl (by decide) rfl ?_
      exact A_pick [1, 2, 0] rfl h
    · replace h := h.2 q
      refine A_bipush (v := (-4)) dX10_run_24 (by decide +kernel) ?_
      exact A_iret dX10_run_26 ⟨rfl, _, rfl, h⟩
  · replace h := h.2 q
    refine A_bipush (v := (-2)) dX10_run_10 (by decide +kernel) ?_
    exact A_iret dX10_run_12 ⟨rfl, _, rfl, h⟩
set_option maxRecDepth 100000 in
set_option maxHeartbeats 4000000 in
theorem vc_X10_run_29 {G : GT} {l1 : Int} {l2 : Int} {N : NN} {K : Int → NN → Prop}  (h : (((wI l1) ≤ (wI l2) → K (N 10 0 1) N) ∧ (¬ ((wI l1) ≤ (wI l2)) → (C_X10_goOn G  N (fun N1 => W_X10_run G K 29 [(0, vR 10 0), (1, vI l1), (2, vI (l2 + 1))] [] N1))))) : W_X10_run G K 29 [(0, vR 10 0), (1, vI l1), (2, vI l2)] [] N := by
  refine A_iload_n dX10_run_29 rfl rfl ?_
  refine A_iload_n dX10_run_30 rfl rfl ?_
  refine B_icmp_ge (tgt := 44) dX10_run_31 (by decide) rfl rfl ⟨fun q => ?_, fun q => ?_⟩
  · replace h := h.1 q
    refine A_aload_n dX10_run_44 rfl rfl ?_
    refine A_getI dX10_run_45 fX10_195 rfl (okK10 (by omega)) ?_
    exact A_iret dX10_run_48 ⟨rfl, _, rfl, h⟩
  · replace h := h.2 q
    refine A_aload_n dX10_run_34 rfl rfl ?_
    refine B_callV_V (av := []) rfl dX10_run_35 vX10_498 mX10_goOn ⟨rfl, rfl, by decide⟩ (okK10 (by omega)) rfl (Nat.le_of_ble_eq_true rfl) (by decide) (by decide) rfl (BC_monoV h (fun N1 h => ?_))
    refine A_iinc (ls' := [(2, _), (0, _), (1, _)]) dX10_run_38 (by decide) rfl rfl rfl ?_
    refine A_goto (tgt := 29) dX10_run_41 (by decide) ?_
    exact A_pick [1, 2, 0] rfl h
set_option maxRecDepth 100000 in
set_option maxHeartbeats 4000000 in
theorem vc_X10_month {G : GT} {a1 : Int} {a2 : Int} {N : NN} {K : Int → NN → Prop}  (h : (C_X10_in G a1 1 (N 10 0 1) N (fun x1 N1 => (((wI x1) = 0 → K ((-2)) N1) ∧ (¬ ((wI x1) = 0) → (C_X10_in G a2 0 11 N1 (fun x2 N2 => (((wI x2) ≠ 0 → (((wI a2) = 0 → (∃ j3 : Nat, (wI a1) = (j3 : Int) ∧ j3 < 61 ∧ K (N2 48 0 j3) N2)) ∧ (((wI a2) = 1 → (∃ j4 : Nat, (wI a1) = (j4 : Int) ∧ j4 < 61 ∧ K (N2 49 0 j4) N2)) ∧ (((wI a2) = 2 → (∃ j5 : Nat, (wI a1) = (j5 : Int) ∧ j5 < 61 ∧ K (N2 50 0 j5) N2)) ∧ (((wI a2) = 3 → (∃ j6 : Nat, (wI a1) = (j6 : Int) ∧ j6 < 61 ∧ K (N2 51 0 j6) N2)) ∧ (((wI a2) = 4 → (∃ j7 : Nat, (wI a1) = (j7 : Int) ∧ j7 < 61 ∧ K (N2 52 0 j7) N2)) ∧ (((wI a2) = 5 → (∃ j8 : Nat, (wI a1) = (j8 : Int) ∧ j8 < 61 ∧ K (N2 77 0 j8) N2)) ∧ (((wI a2) = 6 → (∃ j9 : Nat, (wI a1) = (j9 : Int) ∧ j9 < 61 ∧ K (N2 54 0 j9) N2)) ∧ (((wI a2) = 7 → (∃ j10 : Nat, (wI a1) = (j10 : Int) ∧ j10 < 61 ∧ K (N2 55 0 j10) N2)) ∧ (((wI a2) = 8 → (∃ j11 : Nat, (wI a1) = (j11 : Int) ∧ j11 < 61 ∧ K (N2 56 0 j11) N2)) ∧ (((wI a2) = 9 → (∃ j12 : Nat, (wI a1) = (j12 : Int) ∧ j12 < 61 ∧ K (N2 78 0 j12) N2)) ∧ (((wI a2) = 10 → (∃ j13 : Nat, (wI a1) = (j13 : Int) ∧ j13 < 61 ∧ (((wI (N2 79 0 j13)) = 0 → K 0 N2) ∧ (¬ ((wI (N2 79 0 j13)) = 0) → K 1 N2)))) ∧ ((wI a2) < 0 ∨ 10 < (wI a2) → (∃ j14 : Nat, (wI a1) = (j14 : Int) ∧ j14 < 62 ∧ K (N2 76 0 j14) N2)))))))))))))) ∧ (¬ ((wI x2) ≠ 0) → K ((-2)) N2))))))))) : C_X10_month G a1 a2 N K := by
  refine Ctr.ofAW RX10 false rfl (by decide +kernel) (fun q => by cases q) (Nat.le_of_ble_eq_true rfl) (Nat.le_refl _) ?_
  refine A_iload_n dX10_month_0 rfl rfl ?_
  refine A_iconst (v := 1) dX10_month_1 rfl ?_
  refine A_aload_n dX10_month_2 rfl rfl ?_
  refine A_getI dX10_month_3 fX10_195 rfl (okK10 (by omega)) ?_
  refine B_callS_I (av := [vI a1, vI 1, vI (N 10 0 1)]) rfl dX10_month_6 vX10_186 mX10_in rfl (Nat.le_of_ble_eq_true rfl) (by decide) (by decide) rfl (BC_monoI h (fun x1 N1 h => ?_))
  refine B_if_eq (tgt := 22) dX10_month_9 (by decide) rfl ⟨fun q => ?_, fun q => ?_⟩
  · replace h := h.1 q
    refine A_bipush (v := (-2)) dX10_month_22 (by decide +kernel) ?_
    exact A_iret dX10_month_24 ⟨rfl, _, rfl, h⟩
  · replace h := h.2 q
    refine A_iload_n dX10_month_12 rfl rfl ?_
    refine A_iconst (v := 0) dX10_month_13 rfl ?_
    refine A_bipush (v := 11) dX10_month_14 (by decide +kernel) ?_
    refine B_callS_I (av := [vI a2, vI 0, vI 11]) rfl dX10_month_16 vX10_186 mX10_in rfl (Nat.le_of_ble_eq_true rfl) (by decide) (by decide) rfl (BC_monoI h (fun x2 N2 h => ?_))
    refine B_if_ne (tgt := 25) dX10_month_19 (by decide) rfl ⟨fun q => ?_, fun q => ?_⟩
    · replace h := h.1 q
      refine A_iload_n dX10_month_25 rfl rfl ?_
      by_cases q26_0 : wI a2 = 0
      · replace h := h.1 q26_0
        refine A_tableIn (tgt := 84) dX10_month_26 q26_0 (by decide) rfl (by decide) ?_
        refine A_aload_n dX10_month_84 rfl rfl ?_
        refine A_getR (c2 := 48) (i2 := 0) dX10_month_85 fX10_41 rfl (okK10 (by omega)) rfl ?_
        refine A_iload_n dX10_month_88 rfl rfl ?_
        obtain ⟨j3, qj3, bj3, h⟩ := h
        refine A_lald (j := j3) dX10_month_89 (by decide) rfl (okK48 (by omega)) qj3 bj3 ?_
        refine A_l2i dX10_month_90 ?_
        exact A_iret dX10_month_91 ⟨rfl, _, rfl, h⟩
      replace h := h.2
      by_cases q26_1 : wI a2 = 1
      · replace h := h.1 q26_1
        refine A_tableIn (tgt := 92) dX10_month_26 q26_1 (by decide) rfl (by decide) ?_
        refine A_aload_n dX10_month_92 rfl rfl ?_
        refine A_getR (c2 := 49) (i2 := 0) dX10_month_93 fX10_45 rfl (okK10 (by omega)) rfl ?_
        refine A_iload_n dX10_month_96 rfl rfl ?_
        obtain ⟨j4, qj4, bj4, h⟩ := h
        refine A_lald (j := j4) dX10_month_97 (by decide) rfl (okK49 (by omega)) qj4 bj4 ?_
        refine A_l2i dX10_month_98 ?_
        exact A_iret dX10_month_99 ⟨rfl, _, rfl, h⟩
      replace h := h.2
      by_cases q26_2 : wI a2 = 2
      · replace h := h.1 q26_2
        refine A_tableIn (tgt := 100) dX10_month_26 q26_2 (by decide) rfl (by decide) ?_
        refine A_aload_n dX10_month_100 rfl rfl ?_
        refine A_getR (c2 := 50) (i2 := 0) dX10_month_101 fX10_48 rfl (okK10 (by omega)) rfl ?_
        refine A_iload_n dX10_month_104 rfl rfl ?_
        obtain ⟨j5, qj5, bj5, h⟩ := h
        refine A_lald (j := j5) dX10_month_105 (by decide) rfl (okK50 (by omega)) qj5 bj5 ?_
        refine A_l2i dX10_month_106 ?_
        exact A_iret dX10_month_107 ⟨rfl, _, rfl, h⟩
      replace h := h.2
      by_cases q26_3 : wI a2 = 3
      · replace h := h.1 q26_3
        refine A_tableIn (tgt := 108) dX10_month_26 q26_3 (by decide) rfl (by decide) ?_
        refine A_aload_n dX10_month_108 rfl rfl ?_
        refine A_getR (c2 := 51) (i2 := 0) dX10_month_109 fX10_51 rfl (okK10 (by omega)) rfl ?_
        refine A_iload_n dX10_month_112 rfl rfl ?_
        obtain ⟨j6, qj6, bj6, h⟩ := h
        refine A_lald (j := j6) dX10_month_113 (by decide) rfl (okK51 (by omega)) qj6 bj6 ?_
        refine A_l2i dX10_month_114 ?_
        exact A_iret dX10_month_115 ⟨rfl, _, rfl, h⟩
      replace h := h.2
      by_cases q26_4 : wI a2 = 4
      · replace h := h.1 q26_4
        refine A_tableIn (tgt := 116) dX10_month_26 q26_4 (by decide) rfl (by decide) ?_
        refine A_aload_n dX10_month_116 rfl rfl ?_
        refine A_getR (c2 := 52) (i2 := 0) dX10_month_117 fX10_54 rfl (okK10 (by omega)) rfl ?_
        refine A_iload_n dX10_month_120 rfl rfl ?_
        obtain ⟨j7, qj7, bj7, h⟩ := h
        refine A_lald (j := j7) dX10_month_121 (by decide) rfl (okK52 (by omega)) qj7 bj7 ?_
        refine A_l2i dX10_month_122 ?_
        exact A_iret dX10_month_123 ⟨rfl, _, rfl, h⟩
      replace h := h.2
      by_cases q26_5 : wI a2 = 5
      · replace h := h.1 q26_5
        refine A_tableIn (tgt := 124) dX10_month_26 q26_5 (by decide) rfl (by decide) ?_
        refine A_aload_n dX10_month_124 rfl rfl ?_
        refine A_getR (c2 := 77) (i2 := 0) dX10_month_125 fX10_135 rfl (okK10 (by omega)) rfl ?_
        refine A_iload_n dX10_month_128 rfl rfl ?_
        obtain ⟨j8, qj8, bj8, h⟩ := h
        refine A_lald (j := j8) dX10_month_129 (by decide) rfl (okK77 (by omega)) qj8 bj8 ?_
        refine A_l2i dX10_month_130 ?_
        exact A_iret dX10_month_131 ⟨rfl, _, rfl, h⟩
      replace h := h.2
      by_cases q26_6 : wI a2 = 6
      · replace h := h.1 q26_6
        refine A_tableIn (tgt := 132) dX10_month_26 q26_6 (by decide) rfl (by decide) ?_
        refine A_aload_n dX10_month_132 rfl rfl ?_
        refine A_getR (c2 := 54) (i2 := 0) dX10_month_133 fX10_60 rfl (okK10 (by omega)) rfl ?_
        refine A_iload_n dX10_month_136 rfl rfl ?_
        obtain ⟨j9, qj9, bj9, h⟩ := h
        refine A_lald (j := j9) dX10_month_137 (by decide) rfl (okK54 (by omega)) qj9 bj9 ?_
        refine A_l2i dX10_month_138 ?_
        exact A_iret dX10_month_139 ⟨rfl, _, rfl, h⟩
      replace h := h.2
      by_cases q26_7 : wI a2 = 7
      · replace h := h.1 q26_7
        refine A_tableIn (tgt := 140) dX10_month_26 q26_7 (by decide) rfl (by decide) ?_
        refine A_aload_n dX10_month_140 rfl rfl ?_
        refine A_getR (c2 := 55) (i2 := 0) dX10_month_141 fX10_63 rfl (okK10 (by omega)) rfl ?_
        refine A_iload_n dX10_month_144 rfl rfl ?_
        obtain ⟨j10, qj10, bj10, h⟩ := h
        refine A_lald (j := j10) dX10_month_145 (by decide) rfl (okK55 (by omega)) qj10 bj10 ?_
        refine A_l2i dX10_month_146 ?_
        exact A_iret dX10_month_147 ⟨rfl, _, rfl, h⟩
      replace h := h.2
      by_cases q26_8 : wI a2 = 8
      · replace h := h.1 q26_8
        refine A_tableIn (tgt := 148) dX10_month_26 q26_8 (by decide) rfl (by decide) ?_
        refine A_aload_n dX10_month_148 rfl rfl ?_
        refine A_getR (c2 := 56) (i2 := 0) dX10_month_149 fX10_66 rfl (okK10 (by omega)) rfl ?_
        refine A_iload_n dX10_month_152 rfl rfl ?_
        obtain ⟨j11, qj11, bj11, h⟩ := h
        refine A_iald (j := j11) dX10_month_153 (by decide) rfl (okK56 (by omega)) qj11 bj11 ?_
        exact A_iret dX10_month_154 ⟨rfl, _, rfl, h⟩
      replace h := h.2
      by_cases q26_9 : wI a2 = 9
      · replace h := h.1 q26_9
        refine A_tableIn (tgt := 155) dX10_month_26 q26_9 (by decide) rfl (by decide) ?_
        refine A_aload_n dX10_month_155 rfl rfl ?_
        refine A_getR (c2 := 78) (i2 := 0) dX10_month_156 fX10_138 rfl (okK10 (by omega)) rfl ?_
        refine A_iload_n dX10_month_159 rfl rfl ?_
        obtain ⟨j12, qj12, bj12, h⟩ := h
        refine A_lald (j := j12) dX10_month_160 (by decide) rfl (okK78 (by omega)) qj12 bj12 ?_
        refine A_l2i dX10_month_161 ?_
        exact A_iret dX10_month_162 ⟨rfl, _, rfl, h⟩
      replace h := h.2
      by_cases q26_10 : wI a2 = 10
      · replace h := h.1 q26_10
        refine A_tableIn (tgt := 163) dX10_month_26 q26_10 (by decide) rfl (by decide) ?_
        refine A_aload_n dX10_month_163 rfl rfl ?_
        refine A_getR (c2 := 79) (i2 := 0) dX10_month_164 fX10_141 rfl (okK10 (by omega)) rfl ?_
        refine A_iload_n dX10_month_167 rfl rfl ?_
        obtain ⟨j13, qj13, bj13, h⟩ := h
        refine A_zald (j := j13) dX10_month_168 (by decide) rfl (okK79 (by omega)) qj13 bj13 ?_
        refine B_if_eq (tgt := 176) dX10_month_169 (by decide) rfl ⟨fun q => ?_, fun q => ?_⟩
        · replace h := h.1 q
          refine A_iconst (v := 0) dX10_month_176 rfl ?_
          exact A_iret dX10_month_177 ⟨rfl, _, rfl, h⟩
        · replace h := h.2 q
          refine A_iconst (v := 1) dX10_month_172 rfl ?_
          refine A_goto (tgt := 177) dX10_month_173 (by decide) ?_
          exact A_iret dX10_month_177 ⟨rfl, _, rfl, h⟩
      replace h := h.2
      replace h := h (by omega)
      refine A_tableOut (tgt := 178) dX10_month_26 (by omega) (by decide) ?_
      refine A_aload_n dX10_month_178 rfl rfl ?_
      refine A_getR (c2 := 76) (i2 := 0) dX10_month_179 fX10_126 rfl (okK10 (by omega)) rfl ?_
      refine A_iload_n dX10_month_182 rfl rfl ?_
      obtain ⟨j14, qj14, bj14, h⟩ := h
      refine A_iald (j := j14) dX10_month_183 (by decide) rfl (okK76 (by omega)) qj14 bj14 ?_
      exact A_iret dX10_month_184 ⟨rfl, _, rfl, h⟩
    · replace h := h.2 q
      refine A_bipush (v := (-2)) dX10_month_22 (by decide +kernel) ?_
      exact A_iret dX10_month_24 ⟨rfl, _, rfl, h⟩
set_option maxRecDepth 100000 in
set_option maxHeartbeats 4000000 in
theorem vc_X10_paid {G : GT} {a1 : Int} {a2 : Int} {N : NN} {K : Int → NN → Prop}  (h : (C_X10_in G a1 1 (N 10 0 1) N (fun x1 N1 => (((wI x1) ≠ 0 → (∃ j2 : Nat, (wI a1) = (j2 : Int) ∧ j2 < 62 ∧ (∃ j3 : Nat, (wI (N1 76 0 j2)) = (j3 : Int) ∧ j3 < 6 ∧ (C_X10_in G a2 0 ((N1 60 0 j3) - 1) N1 (fun x4 N4 => (((wI x4) = 0 → K ((-1)) N4) ∧ (¬ ((wI x4) = 0) → (∃ j5 : Nat, (wI ((10 * a1) + a2)) = (j5 : Int) ∧ j5 < 610 ∧ K (N4 80 0 j5) N4)))))))) ∧ (¬ ((wI x1) ≠ 0) → K ((-2)) N1))))) : C_X10_paid G a1 a2 N K := by
  refine Ctr.ofAW RX10 false rfl (by decide +kernel) (fun q => by cases q) (Nat.le_of_ble_eq_true rfl) (Nat.le_refl _) ?_
  refine A_iload_n dX10_paid_0 rfl rfl ?_
  refine A_iconst (v := 1) dX10_paid_1 rfl ?_
  refine A_aload_n dX10_paid_2 rfl rfl ?_
  refine A_getI dX10_paid_3 fX10_195 rfl (okK10 (by omega)) ?_
  refine B_callS_I (av := [vI a1, vI 1, vI (N 10 0 1)]) rfl dX10_paid_6 vX10_186 mX10_in rfl (Nat.le_of_ble_eq_true rfl) (by decide) (by decide) rfl (BC_monoI h (fun x1 N1 h => ?_))
  refine B_if_ne (tgt := 15) dX10_paid_9 (by decide) rfl ⟨fun q => ?_, fun q => ?_⟩
  · replace h := h.1 q
    refine A_iload_n dX10_paid_15 rfl rfl ?_
    refine A_iconst (v := 0) dX10_paid_16 rfl ?_
    refine A_aload_n dX10_paid_17 rfl rfl ?_
    refine A_getR (c2 := 60) (i2 := 0) dX10_paid_18 fX10_78 rfl (okK10 (by omega)) rfl ?_
    refine A_aload_n dX10_paid_21 rfl rfl ?_
    refine A_getR (c2 := 76) (i2 := 0) dX10_paid_22 fX10_126 rfl (okK10 (by omega)) rfl ?_
    refine A_iload_n dX10_paid_25 rfl rfl ?_
    obtain ⟨j2, qj2, bj2, h⟩ := h
    refine A_iald (j := j2) dX10_paid_26 (by decide) rfl (okK76 (by omega)) qj2 bj2 ?_
    obtain ⟨j3, qj3, bj3, h⟩ := h
    refine A_iald (j := j3) dX10_paid_27 (by decide) rfl (okK60 (by omega)) qj3 bj3 ?_
    refine A_iconst (v := 1) dX10_paid_28 rfl ?_
    refine A_isub dX10_paid_29 ?_
    refine B_callS_I (av := [vI a2, vI 0, vI ((N1 60 0 j3) - 1)]) rfl dX10_paid_30 vX10_186 mX10_in rfl (Nat.le_of_ble_eq_true rfl) (by decide) (by decide) rfl (BC_monoI h (fun x4 N4 h => ?_))
    refine B_if_eq (tgt := 51) dX10_paid_33 (by decide) rfl ⟨fun q => ?_, fun q => ?_⟩
    · replace h := h.1 q
      refine A_iconst (v := (-1)) dX10_paid_51 rfl ?_
      exact A_iret dX10_paid_52 ⟨rfl, _, rfl, h⟩
    · replace h := h.2 q
      refine A_aload_n dX10_paid_36 rfl rfl ?_
      refine A_getR (c2 := 80) (i2 := 0) dX10_paid_37 fX10_145 rfl (okK10 (by omega)) rfl ?_
      refine A_bipush (v := 10) dX10_paid_40 (by decide +kernel) ?_
      refine A_iload_n dX10_paid_42 rfl rfl ?_
      refine A_imul dX10_paid_43 ?_
      refine A_iload_n dX10_paid_44 rfl rfl ?_
      refine A_iadd dX10_paid_45 ?_
      obtain ⟨j5, qj5, bj5, h⟩ := h
      refine A_lald (j := j5) dX10_paid_46 (by decide) rfl (okK80 (by omega)) qj5 bj5 ?_
      refine A_l2i dX10_paid_47 ?_
      refine A_goto (tgt := 52) dX10_paid_48 (by decide) ?_
      exact A_iret dX10_paid_52 ⟨rfl, _, rfl, h⟩
  · replace h := h.2 q
    refine A_bipush (v := (-2)) dX10_paid_12 (by decide +kernel) ?_
    exact A_iret dX10_paid_14 ⟨rfl, _, rfl, h⟩
set_option maxRecDepth 100000 in
set_option maxHeartbeats 4000000 in
theorem vc_X10_pass {G : GT} {a1 : Int} {a2 : Int} {N : NN} {K : Int → NN → Prop}  (h : (((wI a1) = 0 → (∀ M1 : NN, M1 = up3 N 10 0 76 ((N 10 0 76) + 1) → (∃ j2 : Nat, (wI ((M1 10 0 76) - 1)) = (j2 : Int) ∧ j2 < 200 ∧ K (M1 81 0 j2) M1))) ∧ (¬ ((wI a1) = 0) → (∃ j3 : Nat, (wI (N 10 0 76)) = (j3 : Int) ∧ j3 < 200 ∧ (∀ M4 : NN, M4 = up3 N 81 0 j3 a2 → (∀ M5 : NN, M5 = up3 M4 10 0 76 ((M4 10 0 76) + 1) → (∃ j6 : Nat, (wI ((M5 10 0 76) - 1)) = (j6 : Int) ∧ j6 < 200 ∧ K (M5 81 0 j6) M5))))))) : C_X10_pass G a1 a2 N K := by
  refine Ctr.ofAW RX10 false rfl (by decide +kernel) (fun q => by cases q) (Nat.le_of_ble_eq_true rfl) (Nat.le_refl _) ?_
  refine A_iload_n dX10_pass_0 rfl rfl ?_
  refine B_if_eq (tgt := 14) dX10_pass_1 (by decide) rfl ⟨fun q => ?_, fun q => ?_⟩
  · replace h := h.1 q
    refine A_aload_n dX10_pass_14 rfl rfl ?_
    refine A_dup dX10_pass_15 rfl ?_
    refine A_getI dX10_pass_16 fX10_501 rfl (okK10 (by omega)) ?_
    refine A_iconst (v := 1) dX10_pass_19 rfl ?_
    refine A_iadd dX10_pass_20 ?_
    refine B_putI dX10_pass_21 fX10_501 (by decide) (okK10 (by omega)) (fun M1 eM1 => ?_)
    replace h := h M1 eM1
    refine A_aload_n dX10_pass_24 rfl rfl ?_
    refine A_getR (c2 := 81) (i2 := 0) dX10_pass_25 fX10_148 rfl (okK10 (by omega)) rfl ?_
    refine A_aload_n dX10_pass_28 rfl rfl ?_
    refine A_getI dX10_pass_29 fX10_501 rfl (okK10 (by omega)) ?_
    refine A_iconst (v := 1) dX10_pass_32 rfl ?_
    refine A_isub dX10_pass_33 ?_
    obtain ⟨j2, qj2, bj2, h⟩ := h
    refine A_lald (j := j2) dX10_pass_34 (by decide) rfl (okK81 (by omega)) qj2 bj2 ?_
    exact A_lret dX10_pass_35 ⟨rfl, _, rfl, h⟩
  · replace h := h.2 q
    refine A_aload_n dX10_pass_4 rfl rfl ?_
    refine A_getR (c2 := 81) (i2 := 0) dX10_pass_5 fX10_148 rfl (okK10 (by omega)) rfl ?_
    refine A_aload_n dX10_pass_8 rfl rfl ?_
    refine A_getI dX10_pass_9 fX10_501 rfl (okK10 (by omega)) ?_
    refine A_lload_n dX10_pass_12 rfl rfl ?_
    obtain ⟨j3, qj3, bj3, h⟩ := h
    refine B_last (j := j3) dX10_pass_13 (by decide) rfl (okK81 (by omega)) qj3 bj3 (fun M4 eM4 => ?_)
    replace h := h M4 eM4
    refine A_aload_n dX10_pass_14 rfl rfl ?_
    refine A_dup dX10_pass_15 rfl ?_
    refine A_getI dX10_pass_16 fX10_501 rfl (okK10 (by omega)) ?_
    refine A_iconst (v := 1) dX10_pass_19 rfl ?_
    refine A_iadd dX10_pass_20 ?_
    refine B_putI dX10_pass_21 fX10_501 (by decide) (okK10 (by omega)) (fun M5 eM5 => ?_)
    replace h := h M5 eM5
    refine A_aload_n dX10_pass_24 rfl rfl ?_
    refine A_getR (c2 := 81) (i2 := 0) dX10_pass_25 fX10_148 rfl (okK10 (by omega)) rfl ?_
    refine A_aload_n dX10_pass_28 rfl rfl ?_
    refine A_getI dX10_pass_29 fX10_501 rfl (okK10 (by omega)) ?_
    refine A_iconst (v := 1) dX10_pass_32 rfl ?_
    refine A_isub dX10_pass_33 ?_
    obtain ⟨j6, qj6, bj6, h⟩ := h
    refine A_lald (j := j6) dX10_pass_34 (by decide) rfl (okK81 (by omega)) qj6 bj6 ?_
    exact A_lret dX10_pass_35 ⟨rfl, _, rfl, h⟩
set_option maxRecDepth 100000 in
set_option maxHeartbeats 4000000 in
theorem vc_X10_turn {G : GT} {a1 : Int} {N : NN} {K : NN → Prop}  (h : (∀ M1 : NN, M1 = up3 N 10 0 76 0 → W_X10_turn G K 7 [(0, vR 10 0), (1, vI a1), (2, vI 0)] [] M1)) : C_X10_turn G a1 N K := by
  refine Ctr.ofAW RX10 false rfl (by decide +kernel) (fun q => by cases q) (Nat.le_of_ble_eq_true rfl) (Nat.le_refl _) ?_
  refine A_aload_n dX10_turn_0 rfl rfl ?_
  refine A_iconst (v := 0) dX10_turn_1 rfl ?_
  refine B_putI dX10_turn_2 fX10_501 (by decide) (okK10 (by omega)) (fun M1 eM1 => ?_)
  replace h := h M1 eM1
  refine A_iconst (v := 0) dX10_turn_5 rfl ?_
  refine A_istore_n (ls' := [(2, _), (0, _), (1, _)]) dX10_turn_6 rfl (by decide) rfl ?_
  exact A_pick [1, 2, 0] rfl h
set_option maxRecDepth 100000 in
set_option maxHeartbeats 4000000 in
theorem vc_X10_turn_7 {G : GT} {l1 : Int} {l2 : Int} {N : NN} {K : NN → Prop}  (h : (((wI (N 10 0 2)) ≤ (wI l2) → W_X10_turn G K 156 [(0, vR 10 0), (1, vI l1), (2, vI 0)] [] N) ∧ (¬ ((wI (N 10 0 2)) ≤ (wI l2)) → (∃ j1 : Nat, (wI l2) = (j1 : Int) ∧ j1 < 12 ∧ (C_X10_pass G l1 ((wI (N 41 0 j1))) N (fun x2 N2 => (∃ j3 : Nat, (wI l2) = (j3 : Int) ∧ j3 < 12 ∧ (∀ M4 : NN, M4 = up3 N2 41 0 j3 x2 → (∃ j5 : Nat, (wI l2) = (j5 : Int) ∧ j5 < 12 ∧ (C_X10_pass G l1 ((wI (M4 42 0 j5))) M4 (fun x6 N6 => (∃ j7 : Nat, (wI l2) = (j7 : Int) ∧ j7 < 12 ∧ (∀ M8 : NN, M8 = up3 N6 42 0 j7 x6 → (∃ j9 : Nat, (wI l2) = (j9 : Int) ∧ j9 < 12 ∧ (C_X10_pass G l1 ((wI (M8 43 0 j9))) M8 (fun x10 N10 => (∃ j11 : Nat, (wI l2) = (j11 : Int) ∧ j11 < 12 ∧ (∀ M12 : NN, M12 = up3 N10 43 0 j11 x10 → (∃ j13 : Nat, (wI l2) = (j13 : Int) ∧ j13 < 12 ∧ (C_X10_pass G l1 ((wI (M12 44 0 j13))) M12 (fun x14 N14 => (∃ j15 : Nat, (wI l2) = (j15 : Int) ∧ j15 < 12 ∧ (∀ M16 : NN, M16 = up3 N14 44 0 j15 x14 → (∃ j17 : Nat, (wI l2) = (j17 : Int) ∧ j17 < 12 ∧ (C_X10_pass G l1 ((wI (M16 45 0 j17))) M16 (fun x18 N18 => (∃ j19 : Nat, (wI l2) = (j19 : Int) ∧ j19 < 12 ∧ (∀ M20 : NN, M20 = up3 N18 45 0 j19 x18 → (∃ j21 : Nat, (wI l2) = (j21 : Int) ∧ j21 < 12 ∧ (C_X10_pass G l1 ((wI (M20 46 0 j21))) M20 (fun x22 N22 => (∃ j23 : Nat, (wI l2) = (j23 : Int) ∧ j23 < 12 ∧ (∀ M24 : NN, M24 = up3 N22 46 0 j23 x22 → (∃ j25 : Nat, (wI l2) = (j25 : Int) ∧ j25 < 12 ∧ (C_X10_pass G l1 ((wI (M24 47 0 j25))) M24 (fun x26 N26 => (∃ j27 : Nat, (wI l2) = (j27 : Int) ∧ j27 < 12 ∧ (∀ M28 : NN, M28 = up3 N26 47 0 j27 x26 → W_X10_turn G K 7 [(0, vR 10 0), (1, vI l1), (2, vI (l2 + 1))] [] M28)))))))))))))))))))))))))))))))))))))) : W_X10_turn G K 7 [(0, vR 10 0), (1, vI l1), (2, vI l2)] [] N := by
  refine A_iload_n dX10_turn_7 rfl rfl ?_
  refine A_aload_n dX10_turn_8 rfl rfl ?_
  refine A_getI dX10_turn_9 fX10_183 rfl (okK10 (by omega)) ?_
  refine B_icmp_ge (tgt := 154) dX10_turn_12 (by decide) rfl rfl ⟨fun q => ?_, fun q => ?_⟩
  · replace h := h.1 q
    refine A_iconst (v := 0) dX10_turn_154 rfl ?_
    refine A_istore_n (ls' := [(2, _), (0, _), (1, _)]) dX10_turn_155 rfl (by decide) rfl ?_
    exact A_pick [1, 2, 0] rfl h
  · replace h := h.2 q
    refine A_aload_n dX10_turn_15 rfl rfl ?_
    refine A_getR (c2 := 41) (i2 := 0) dX10_turn_16 fX10_17 rfl (okK10 (by omega)) rfl ?_
    refine A_iload_n dX10_turn_19 rfl rfl ?_
    refine A_aload_n dX10_turn_20 rfl rfl ?_
    refine A_iload_n dX10_turn_21 rfl rfl ?_
    refine A_aload_n dX10_turn_22 rfl rfl ?_
    refine A_getR (c2 := 41) (i2 := 0) dX10_turn_23 fX10_17 rfl (okK10 (by omega)) rfl ?_
    refine A_iload_n dX10_turn_26 rfl rfl ?_
    obtain ⟨j1, qj1, bj1, h⟩ := h
    refine A_iald (j := j1) dX10_turn_27 (by decide) rfl (okK41 (by omega)) qj1 bj1 ?_
    refine B_i2l dX10_turn_28 rfl ?_
    refine B_callV_L (av := [vI l1, vL ((wI (N 41 0 j1)))]) rfl dX10_turn_29 vX10_504 mX10_pass ⟨rfl, rfl, by decide⟩ (okK10 (by omega)) rfl (Nat.le_of_ble_eq_true rfl) (by decide) (by decide) rfl (BC_monoL h (fun x2 N2 h => ?_))
    refine A_l2i dX10_turn_32 ?_
    obtain ⟨j3, qj3, bj3, h⟩ := h
    refine B_iast (j := j3) dX10_turn_33 (by decide) rfl (okK41 (by omega)) qj3 bj3 (fun M4 eM4 => ?_)
    replace h := h M4 eM4
    refine A_aload_n dX10_turn_34 rfl rfl ?_
    refine A_getR (c2 := 42) (i2 := 0) dX10_turn_35 fX10_20 rfl (okK10 (by omega)) rfl ?_
    refine A_iload_n dX10_turn_38 rfl rfl ?_
    refine A_aload_n dX10_turn_39 rfl rfl ?_
    refine A_iload_n dX10_turn_40 rfl rfl ?_
    refine A_aload_n dX10_turn_41 rfl rfl ?_
    refine A_getR (c2 := 42) (i2 := 0) dX10_turn_42 fX10_20 rfl (okK10 (by omega)) rfl ?_
    refine A_iload_n dX10_turn_45 rfl rfl ?_
    obtain ⟨j5, qj5, bj5, h⟩ := h
    refine A_iald (j := j5) dX10_turn_46 (by decide) rfl (okK42 (by omega)) qj5 bj5 ?_
    refine B_i2l dX10_turn_47 rfl ?_
    refine B_callV_L (av := [vI l1, vL ((wI (M4 42 0 j5)))]) rfl dX10_turn_48 vX10_504 mX10_pass ⟨rfl, rfl, by decide⟩ (okK10 (by omega)) rfl (Nat.le_of_ble_eq_true rfl) (by decide) (by decide) rfl (BC_monoL h (fun x6 N6 h => ?_))
    refine A_l2i dX10_turn_51 ?_
    obtain ⟨j7, qj7, bj7, h⟩ := h
    refine B_iast (j := j7) dX10_turn_52 (by decide) rfl (okK42 (by omega)) qj7 bj7 (fun M8 eM8 => ?_)
    replace h := h M8 eM8
    refine A_aload_n dX10_turn_53 rfl rfl ?_
    refine A_getR (c2 := 43) (i2 := 0) dX10_turn_54 fX10_23 rfl (okK10 (by omega)) rfl ?_
    refine A_iload_n dX10_turn_57 rfl rfl ?_
    refine A_aload_n dX10_turn_58 rfl rfl ?_
    refine A_iload_n dX10_turn_59 rfl rfl ?_
    refine A_aload_n dX10_turn_60 rfl rfl ?_
    refine A_getR (c2 := 43) (i2 := 0) dX10_turn_61 fX10_23 rfl (okK10 (by omega)) rfl ?_
    refine A_iload_n dX10_turn_64 rfl rfl ?_
    obtain ⟨j9, qj9, bj9, h⟩ := h
    refine A_iald (j := j9) dX10_turn_65 (by decide) rfl (okK43 (by omega)) qj9 bj9 ?_
    refine B_i2l dX10_turn_66 rfl ?_
    refine B_callV_L (av := [vI l1, vL ((wI (M8 43 0 j9)))]) rfl dX10_turn_67 vX10_504 mX10_pass ⟨rfl, rfl, by decide⟩ (okK10 (by omega)) rfl (Nat.le_of_ble_eq_true rfl) (by decide) (by decide) rfl (BC_monoL h (fun x10 N10 h => ?_))
    refine A_l2i dX10_turn_70 ?_
    obtain ⟨j11, qj11, bj11, h⟩ := h
    refine B_iast (j := j11) dX10_turn_71 (by decide) rfl (okK43 (by omega)) qj11 bj11 (fun M12 eM12 => ?_)
    replace h := h M12 eM12
    refine A_aload_n dX10_turn_72 rfl rfl ?_
    refine A_getR (c2 := 44) (i2 := 0) dX10_turn_73 fX10_26 rfl (okK10 (by omega)) rfl ?_
    refine A_iload_n dX10_turn_76 rfl rfl ?_
    refine A_aload_n dX10_turn_77 rfl rfl ?_
    refine A_iload_n dX10_turn_78 rfl rfl ?_
    refine A_aload_n dX10_turn_79 rfl rfl ?_
    refine A_getR (c2 := 44) (i2 := 0) dX10_turn_80 fX10_26 rfl (okK10 (by omega)) rfl ?_
    refine A_iload_n dX10_turn_83 rfl rfl ?_
    obtain ⟨j13, qj13, bj13, h⟩ := h
    refine A_iald (j := j13) dX10_turn_84 (by decide) rfl (okK44 (by omega)) qj13 bj13 ?_
    refine B_i2l dX10_turn_85 rfl ?_
    refine B_callV_L (av := [vI l1, vL ((wI (M12 44 0 j13)))]) rfl dX10_turn_86 vX10_504 mX10_pass ⟨rfl, rfl, by decide⟩ (okK10 (by omega)) rfl (Nat.le_of_ble_eq_true rfl) (by decide) (by decide) rfl (BC_monoL h (fun x14 N14 h => ?_))
    refine A_l2i dX10_turn_89 ?_
    obtain ⟨j15, qj15, bj15, h⟩ := h
    refine B_iast (j := j15) dX10_turn_90 (by decide) rfl (okK44 (by omega)) qj15 bj15 (fun M16 eM16 => ?_)
    replace h := h M16 eM16
    refine A_aload_n dX10_turn_91 rfl rfl ?_
    refine A_getR (c2 := 45) (i2 := 0) dX10_turn_92 fX10_29 rfl (okK10 (by omega)) rfl ?_
    refine A_iload_n dX10_turn_95 rfl rfl ?_
    refine A_aload_n dX10_turn_96 rfl rfl ?_
    refine A_iload_n dX10_turn_97 rfl rfl ?_
    refine A_aload_n dX10_turn_98 rfl rfl ?_
    refine A_getR (c2 := 45) (i2 := 0) dX10_turn_99 fX10_29 rfl (okK10 (by omega)) rfl ?_
    refine A_iload_n dX10_turn_102 rfl rfl ?_
    obtain ⟨j17, qj17, bj17, h⟩ := h
    refine A_iald (j := j17) dX10_turn_103 (by decide) rfl (okK45 (by omega)) qj17 bj17 ?_
    refine B_i2l dX10_turn_104 rfl ?_
    refine B_callV_L (av := [vI l1, vL ((wI (M16 45 0 j17)))]) rfl dX10_turn_105 vX10_504 mX10_pass ⟨rfl, rfl, by decide⟩ (okK10 (by omega)) rfl (Nat.le_of_ble_eq_true rfl) (by decide) (by decide) rfl (BC_monoL h (fun x18 N18 h => ?_))
    refine A_l2i dX10_turn_108 ?_
    obtain ⟨j19, qj19, bj19, h⟩ := h
    refine B_iast (j := j19) dX10_turn_109 (by decide) rfl (okK45 (by omega)) qj19 bj19 (fun M20 eM20 => ?_)
    replace h := h M20 eM20
    refine A_aload_n dX10_turn_110 rfl rfl ?_
    refine A_getR (c2 := 46) (i2 := 0) dX10_turn_111 fX10_32 rfl (okK10 (by omega)) rfl ?_
    refine A_iload_n dX10_turn_114 rfl rfl ?_
    refine A_aload_n dX10_turn_115 rfl rfl ?_
    refine A_iload_n dX10_turn_116 rfl rfl ?_
    refine A_aload_n dX10_turn_117 rfl rfl ?_
    refine A_getR (c2 := 46) (i2 := 0) dX10_turn_118 fX10_32 rfl (okK10 (by omega)) rfl ?_
    refine A_iload_n dX10_turn_121 rfl rfl ?_
    obtain ⟨j21, qj21, bj21, h⟩ := h
    refine A_iald (j := j21) dX10_turn_122 (by decide) rfl (okK46 (by omega)) qj21 bj21 ?_
    refine B_i2l dX10_turn_123 rfl ?_
    refine B_callV_L (av := [vI l1, vL ((wI (M20 46 0 j21)))]) rfl dX10_turn_124 vX10_504 mX10_pass ⟨rfl, rfl, by decide⟩ (okK10 (by omega)) rfl (Nat.le_of_ble_eq_true rfl) (by decide) (by decide) rfl (BC_monoL h (fun x22 N22 h => ?_))
    refine A_l2i dX10_turn_127 ?_
    obtain ⟨j23, qj23, bj23, h⟩ := h
    refine B_iast (j := j23) dX10_turn_128 (by decide) rfl (okK46 (by omega)) qj23 bj23 (fun M24 eM24 => ?_)
    replace h := h M24 eM24
    refine A_aload_n dX10_turn_129 rfl rfl ?_
    refine A_getR (c2 := 47) (i2 := 0) dX10_turn_130 fX10_35 rfl (okK10 (by omega)) rfl ?_
    refine A_iload_n dX10_turn_133 rfl rfl ?_
    refine A_aload_n dX10_turn_134 rfl rfl ?_
    refine A_iload_n dX10_turn_135 rfl rfl ?_
    refine A_aload_n dX10_turn_136 rfl rfl ?_
    refine A_getR (c2 := 47) (i2 := 0) dX10_turn_137 fX10_35 rfl (okK10 (by omega)) rfl ?_
    refine A_iload_n dX10_turn_140 rfl rfl ?_
    obtain ⟨j25, qj25, bj25, h⟩ := h
    refine A_iald (j := j25) dX10_turn_141 (by decide) rfl (okK47 (by omega)) qj25 bj25 ?_
    refine B_i2l dX10_turn_142 rfl ?_
    refine B_callV_L (av := [vI l1, vL ((wI (M24 47 0 j25)))]) rfl dX10_turn_143 vX10_504 mX10_pass ⟨rfl, rfl, by decide⟩ (okK10 (by omega)) rfl (Nat.le_of_ble_eq_true rfl) (by decide) (by decide) rfl (BC_monoL h (fun x26 N26 h => ?_))
    refine A_l2i dX10_turn_146 ?_
    obtain ⟨j27, qj27, bj27, h⟩ := h
    refine B_iast (j := j27) dX10_turn_147 (by decide) rfl (okK47 (by omega)) qj27 bj27 (fun M28 eM28 => ?_)
    replace h := h M28 eM28
    refine A_iinc (ls' := [(2, _), (0, _), (1, _)]) dX10_turn_148 (by decide) rfl rfl rfl ?_
    refine A_goto (tgt := 7) dX10_turn_151 (by decide) ?_
    exact A_pick [1, 2, 0] rfl h
set_option maxRecDepth 100000 in
set_option maxHeartbeats 4000000 in
theorem vc_X10_turn_156 {G : GT} {l1 : Int} {l2 : Int} {N : NN} {K : NN → Prop}  (h : (((wI (N 10 0 53)) ≤ (wI l2) → (C_X10_pass G l1 ((wI (N 10 0 1))) N (fun x1 N1 => (∀ M2 : NN, M2 = up3 N1 10 0 1 x1 → (C_X10_pass G l1 ((wI (M2 10 0 11))) M2 (fun x3 N3 => (∀ M4 : NN, M4 = up3 N3 10 0 11 x3 → (C_X10_pass G l1 ((wI (M4 10 0 14))) M4 (fun x5 N5 => (∀ M6 : NN, M6 = up3 N5 10 0 14 x5 → (C_X10_pass G l1 (M6 10 0 64) M6 (fun x7 N7 => (∀ M8 : NN, M8 = up3 N7 10 0 64 x7 → (C_X10_pass G l1 (M8 10 0 65) M8 (fun x9 N9 => (∀ M10 : NN, M10 = up3 N9 10 0 65 x9 → (C_X10_pass G l1 (M10 10 0 66) M10 (fun x11 N11 => (∀ M12 : NN, M12 = up3 N11 10 0 66 x11 → (C_X10_pass G l1 ((wI (M12 10 0 68))) M12 (fun x13 N13 => (∀ M14 : NN, M14 = up3 N13 10 0 68 x13 → (((wI (M14 10 0 67)) = 0 → (C_X10_pass G l1 0 M14 (fun x15 N15 => (((wL x15) ≠ 1 → (∀ M16 : NN, M16 = up3 N15 10 0 67 0 → K M16)) ∧ (¬ ((wL x15) ≠ 1) → (∀ M17 : NN, M17 = up3 N15 10 0 67 1 → K M17)))))) ∧ (¬ ((wI (M14 10 0 67)) = 0) → (C_X10_pass G l1 1 M14 (fun x18 N18 => (((wL x18) ≠ 1 → (∀ M19 : NN, M19 = up3 N18 10 0 67 0 → K M19)) ∧ (¬ ((wL x18) ≠ 1) → (∀ M20 : NN, M20 = up3 N18 10 0 67 1 → K M20))))))))))))))))))))))))))))) ∧ (¬ ((wI (N 10 0 53)) ≤ (wI l2)) → (∃ j21 : Nat, (wI l2) = (j21 : Int) ∧ j21 < 5 ∧ (C_X10_pass G l1 (N 69 0 j21) N (fun x22 N22 => (∃ j23 : Nat, (wI l2) = (j23 : Int) ∧ j23 < 5 ∧ (∀ M24 : NN, M24 = up3 N22 69 0 j23 x22 → (∃ j25 : Nat, (wI l2) = (j25 : Int) ∧ j25 < 5 ∧ (C_X10_pass G l1 (M24 70 0 j25) M24 (fun x26 N26 => (∃ j27 : Nat, (wI l2) = (j27 : Int) ∧ j27 < 5 ∧ (∀ M28 : NN, M28 = up3 N26 70 0 j27 x26 → (∃ j29 : Nat, (wI l2) = (j29 : Int) ∧ j29 < 5 ∧ (C_X10_pass G l1 (M28 71 0 j29) M28 (fun x30 N30 => (∃ j31 : Nat, (wI l2) = (j31 : Int) ∧ j31 < 5 ∧ (∀ M32 : NN, M32 = up3 N30 71 0 j31 x30 → (∃ j33 : Nat, (wI l2) = (j33 : Int) ∧ j33 < 5 ∧ (C_X10_pass G l1 (M32 72 0 j33) M32 (fun x34 N34 => (∃ j35 : Nat, (wI l2) = (j35 : Int) ∧ j35 < 5 ∧ (∀ M36 : NN, M36 = up3 N34 72 0 j35 x34 → (∃ j37 : Nat, (wI l2) = (j37 : Int) ∧ j37 < 5 ∧ (C_X10_pass G l1 (M36 73 0 j37) M36 (fun x38 N38 => (∃ j39 : Nat, (wI l2) = (j39 : Int) ∧ j39 < 5 ∧ (∀ M40 : NN, M40 = up3 N38 73 0 j39 x38 → (∃ j41 : Nat, (wI l2) = (j41 : Int) ∧ j41 < 5 ∧ (C_X10_pass G l1 (M40 74 0 j41) M40 (fun x42 N42 => (∃ j43 : Nat, (wI l2) = (j43 : Int) ∧ j43 < 5 ∧ (∀ M44 : NN, M44 = up3 N42 74 0 j43 x42 → W_X10_turn G K 156 [(0, vR 10 0), (1, vI l1), (2, vI (l2 + 1))] [] M44))))))))))))))))))))))))))))))))) : W_X10_turn G K 156 [(0, vR 10 0), (1, vI l1), (2, vI l2)] [] N := by
  refine A_iload_n dX10_turn_156 rfl rfl ?_
  refine A_aload_n dX10_turn_157 rfl rfl ?_
  refine A_getI dX10_turn_158 fX10_444 rfl (okK10 (by omega)) ?_
  refine B_icmp_ge (tgt := 272) dX10_turn_161 (by decide) rfl rfl ⟨fun q => ?_, fun q => ?_⟩
  · replace h := h.1 q
    refine A_aload_n dX10_turn_272 rfl rfl ?_
    refine A_aload_n dX10_turn_273 rfl rfl ?_
    refine A_iload_n dX10_turn_274 rfl rfl ?_
    refine A_aload_n dX10_turn_275 rfl rfl ?_
    refine A_getI dX10_turn_276 fX10_195 rfl (okK10 (by omega)) ?_
    refine B_i2l dX10_turn_279 rfl ?_
    refine B_callV_L (av := [vI l1, vL ((wI (N 10 0 1)))]) rfl dX10_turn_280 vX10_504 mX10_pass ⟨rfl, rfl, by decide⟩ (okK10 (by omega)) rfl (Nat.le_of_ble_eq_true rfl) (by decide) (by decide) rfl (BC_monoL h (fun x1 N1 h => ?_))
    refine A_l2i dX10_turn_283 ?_
    refine B_putI dX10_turn_284 fX10_195 (by decide) (okK10 (by omega)) (fun M2 eM2 => ?_)
    replace h := h M2 eM2
    refine A_aload_n dX10_turn_287 rfl rfl ?_
    refine A_aload_n dX10_turn_288 rfl rfl ?_
    refine A_iload_n dX10_turn_289 rfl rfl ?_
    refine A_aload_n dX10_turn_290 rfl rfl ?_
    refine A_getI dX10_turn_291 fX10_214 rfl (okK10 (by omega)) ?_
    refine B_i2l dX10_turn_294 rfl ?_
    refine B_callV_L (av := [vI l1, vL ((wI (M2 10 0 11)))]) rfl dX10_turn_295 vX10_504 mX10_pass ⟨rfl, rfl, by decide⟩ (okK10 (by omega)) rfl (Nat.le_of_ble_eq_true rfl) (by decide) (by decide) rfl (BC_monoL h (fun x3 N3 h => ?_))
    refine A_l2i dX10_turn_298 ?_
    refine B_putI dX10_turn_299 fX10_214 (by decide) (okK10 (by omega)) (fun M4 eM4 => ?_)
    replace h := h M4 eM4
    refine A_aload_n dX10_turn_302 rfl rfl ?_
    refine A_aload_n dX10_turn_303 rfl rfl ?_
    refine A_iload_n dX10_turn_304 rfl rfl ?_
    refine A_aload_n dX10_turn_305 rfl rfl ?_
    refine A_getI dX10_turn_306 fX10_264 rfl (okK10 (by omega)) ?_
    refine B_i2l dX10_turn_309 rfl ?_
    refine B_callV_L (av := [vI l1, vL ((wI (M4 10 0 14)))]) rfl dX10_turn_310 vX10_504 mX10_pass ⟨rfl, rfl, by decide⟩ (okK10 (by omega)) rfl (Nat.le_of_ble_eq_true rfl) (by decide) (by decide) rfl (BC_monoL h (fun x5 N5 h => ?_))
    refine A_l2i dX10_turn_313 ?_
    refine B_putI dX10_turn_314 fX10_264 (by decide) (okK10 (by omega)) (fun M6 eM6 => ?_)
    replace h := h M6 eM6
    refine A_aload_n dX10_turn_317 rfl rfl ?_
    refine A_aload_n dX10_turn_318 rfl rfl ?_
    refine A_iload_n dX10_turn_319 rfl rfl ?_
    refine A_aload_n dX10_turn_320 rfl rfl ?_
    refine A_getL dX10_turn_321 fX10_472 rfl (okK10 (by omega)) ?_
    refine B_callV_L (av := [vI l1, vL (M6 10 0 64)]) rfl dX10_turn_324 vX10_504 mX10_pass ⟨rfl, rfl, by decide⟩ (okK10 (by omega)) rfl (Nat.le_of_ble_eq_true rfl) (by decide) (by decide) rfl (BC_monoL h (fun x7 N7 h => ?_))
    refine B_putL dX10_turn_327 fX10_472 (by decide) (okK10 (by omega)) (fun M8 eM8 => ?_)
    replace h := h M8 eM8
    refine A_aload_n dX10_turn_330 rfl rfl ?_
    refine A_aload_n dX10_turn_331 rfl rfl ?_
    refine A_iload_n dX10_turn_332 rfl rfl ?_
    refine A_aload_n dX10_turn_333 rfl rfl ?_
    refine A_getL dX10_turn_334 fX10_454 rfl (okK10 (by omega)) ?_
    refine B_callV_L (av := [vI l1, vL (M8 10 0 65)]) rfl dX10_turn_337 vX10_504 mX10_pass ⟨rfl, rfl, by decide⟩ (okK10 (by omega)) rfl (Nat.le_of_ble_eq_true rfl) (by decide) (by decide) rfl (BC_monoL h (fun x9 N9 h => ?_))
    refine B_putL dX10_turn_340 fX10_454 (by decide) (okK10 (by omega)) (fun M10 eM10 => ?_)
    replace h := h M10 eM10
    refine A_aload_n dX10_turn_343 rfl rfl ?_
    refine A_aload_n dX10_turn_344 rfl rfl ?_
    refine A_iload_n dX10_turn_345 rfl rfl ?_
    refine A_aload_n dX10_turn_346 rfl rfl ?_
    refine A_getL dX10_turn_347 fX10_486 rfl (okK10 (by omega)) ?_
    refine B_callV_L (av := [vI l1, vL (M10 10 0 66)]) rfl dX10_turn_350 vX10_504 mX10_pass ⟨rfl, rfl, by decide⟩ (okK10 (by omega)) rfl (Nat.le_of_ble_eq_true rfl) (by decide) (by decide) rfl (BC_monoL h (fun x11 N11 h => ?_))
    refine B_putL dX10_turn_353 fX10_486 (by decide) (okK10 (by omega)) (fun M12 eM12 => ?_)
    replace h := h M12 eM12
    refine A_aload_n dX10_turn_356 rfl rfl ?_
    refine A_aload_n dX10_turn_357 rfl rfl ?_
    refine A_iload_n dX10_turn_358 rfl rfl ?_
    refine A_aload_n dX10_turn_359 rfl rfl ?_
    refine A_getI dX10_turn_360 fX10_475 rfl (okK10 (by omega)) ?_
    refine B_i2l dX10_turn_363 rfl ?_
    refine B_callV_L (av := [vI l1, vL ((wI (M12 10 0 68)))]) rfl dX10_turn_364 vX10_504 mX10_pass ⟨rfl, rfl, by decide⟩ (okK10 (by omega)) rfl (Nat.le_of_ble_eq_true rfl) (by decide) (by decide) rfl (BC_monoL h (fun x13 N13 h => ?_))
    refine A_l2i dX10_turn_367 ?_
    refine B_putI dX10_turn_368 fX10_475 (by decide) (okK10 (by omega)) (fun M14 eM14 => ?_)
    replace h := h M14 eM14
    refine A_aload_n dX10_turn_371 rfl rfl ?_
    refine A_aload_n dX10_turn_372 rfl rfl ?_
    refine A_iload_n dX10_turn_373 rfl rfl ?_
    refine A_aload_n dX10_turn_374 rfl rfl ?_
    refine A_getI dX10_turn_375 fX10_463 rfl (okK10 (by omega)) ?_
    refine B_if_eq (tgt := 385) dX10_turn_378 (by decide) rfl ⟨fun q => ?_, fun q => ?_⟩
    · replace h := h.1 q
      refine A_lconst (v := 0) dX10_turn_385 (by decide +kernel) ?_
      refine B_callV_L (av := [vI l1, vL 0]) rfl dX10_turn_386 vX10_504 mX10_pass ⟨rfl, rfl, by decide⟩ (okK10 (by omega)) rfl (Nat.le_of_ble_eq_true rfl) (by decide) (by decide) rfl (BC_monoL h (fun x15 N15 h => ?_))
      refine A_lconst (v := 1) dX10_turn_389 (by decide +kernel) ?_
      refine B_lcmp_ne (tgt := 398) dX10_turn_390 rfl dX10_turn_391 (by decide) rfl (wlitL (by decide) (by decide)) ⟨fun q => ?_, fun q => ?_⟩
      · replace h := h.1 q
        refine A_iconst (v := 0) dX10_turn_398 rfl ?_
        refine B_putZ dX10_turn_399 fX10_463 (by decide) (okK10 (by omega)) (by decide) (fun M16 eM16 => ?_)
        replace h := h M16 eM16
        exact A_vret dX10_turn_402 ⟨rfl, rfl, h⟩
      · replace h := h.2 q
        refine A_iconst (v := 1) dX10_turn_394 rfl ?_
        refine A_goto (tgt := 399) dX10_turn_395 (by decide) ?_
        refine B_putZ dX10_turn_399 fX10_463 (by decide) (okK10 (by omega)) (by decide) (fun M17 eM17 => ?_)
        replace h := h M17 eM17
        exact A_vret dX10_turn_402 ⟨rfl, rfl, h⟩
    · replace h := h.2 q
      refine A_lconst (v := 1) dX10_turn_381 (by decide +kernel) ?_
      refine A_goto (tgt := 386) dX10_turn_382 (by decide) ?_
      refine B_callV_L (av := [vI l1, vL 1]) rfl dX10_turn_386 vX10_504 mX10_pass ⟨rfl, rfl, by decide⟩ (okK10 (by omega)) rfl (Nat.le_of_ble_eq_true rfl) (by decide) (by decide) rfl (BC_monoL h (fun x18 N18 h => ?_))
      refine A_lconst (v := 1) dX10_turn_389 (by decide +kernel) ?_
      refine B_lcmp_ne (tgt := 398) dX10_turn_390 rfl dX10_turn_391 (by decide) rfl (wlitL (by decide) (by decide)) ⟨fun q => ?_, fun q => ?_⟩
      · replace h := h.1 q
        refine A_iconst (v := 0) dX10_turn_398 rfl ?_
        refine B_putZ dX10_turn_399 fX10_463 (by decide) (okK10 (by omega)) (by decide) (fun M19 eM19 => ?_)
        replace h := h M19 eM19
        exact A_vret dX10_turn_402 ⟨rfl, rfl, h⟩
      · replace h := h.2 q
        refine A_iconst (v := 1) dX10_turn_394 rfl ?_
        refine A_goto (tgt := 399) dX10_turn_395 (by decide) ?_
        refine B_putZ dX10_turn_399 fX10_463 (by decide) (okK10 (by omega)) (by decide) (fun M20 eM20 => ?_)
        replace h := h M20 eM20
        exact A_vret dX10_turn_402 ⟨rfl, rfl, h⟩
  · replace h := h.2 q
    refine A_aload_n dX10_turn_164 rfl rfl ?_
    refine A_getR (c2 := 69) (i2 := 0) dX10_turn_165 fX10_105 rfl (okK10 (by omega)) rfl ?_
    refine A_iload_n dX10_turn_168 rfl rfl ?_
    refine A_aload_n dX10_turn_169 rfl rfl ?_
    refine A_iload_n dX10_turn_170 rfl rfl ?_
    refine A_aload_n dX10_turn_171 rfl rfl ?_
    refine A_getR (c2 := 69) (i2 := 0) dX10_turn_172 fX10_105 rfl (okK10 (by omega)) rfl ?_
    refine A_iload_n dX10_turn_175 rfl rfl ?_
    obtain ⟨j21, qj21, bj21, h⟩ := h
    refine A_lald (j := j21) dX10_turn_176 (by decide) rfl (okK69 (by omega)) qj21 bj21 ?_
    refine B_callV_L (av := [vI l1, vL (N 69 0 j21)]) rfl dX10_turn_177 vX10_504 mX10_pass ⟨rfl, rfl, by decide⟩ (okK10 (by omega)) rfl (Nat.le_of_ble_eq_true rfl) (by decide) (by decide) rfl (BC_monoL h (fun x22 N22 h => ?_))
    obtain ⟨j23, qj23, bj23, h⟩ := h
    refine B_last (j := j23) dX10_turn_180 (by decide) rfl (okK69 (by omega)) qj23 bj23 (fun M24 eM24 => ?_)
    replace h := h M24 eM24
    refine A_aload_n dX10_turn_181 rfl rfl ?_
    refine A_getR (c2 := 70) (i2 := 0) dX10_turn_182 fX10_108 rfl (okK10 (by omega)) rfl ?_
    refine A_iload_n dX10_turn_185 rfl rfl ?_
    refine A_aload_n dX10_turn_186 rfl rfl ?_
    refine A_iload_n dX10_turn_187 rfl rfl ?_
    refine A_aload_n dX10_turn_188 rfl rfl ?_
    refine A_getR (c2 := 70) (i2 := 0) dX10_turn_189 fX10_108 rfl (okK10 (by omega)) rfl ?_
    refine A_iload_n dX10_turn_192 rfl rfl ?_
    obtain ⟨j25, qj25, bj25, h⟩ := h
    refine A_lald (j := j25) dX10_turn_193 (by decide) rfl (okK70 (by omega)) qj25 bj25 ?_
    refine B_callV_L (av := [vI l1, vL (M24 70 0 j25)]) rfl dX10_turn_194 vX10_504 mX10_pass ⟨rfl, rfl, by decide⟩ (okK10 (by omega)) rfl (Nat.le_of_ble_eq_true rfl) (by decide) (by decide) rfl (BC_monoL h (fun x26 N26 h => ?_))
    obtain ⟨j27, qj27, bj27, h⟩ := h
    refine B_last (j := j27) dX10_turn_197 (by decide) rfl (okK70 (by omega)) qj27 bj27 (fun M28 eM28 => ?_)
    replace h := h M28 eM28
    refine A_aload_n dX10_turn_198 rfl rfl ?_
    refine A_getR (c2 := 71) (i2 := 0) dX10_turn_199 fX10_111 rfl (okK10 (by omega)) rfl ?_
    refine A_iload_n dX10_turn_202 rfl rfl ?_
    refine A_aload_n dX10_turn_203 rfl rfl ?_
    refine A_iload_n dX10_turn_204 rfl rfl ?_
    refine A_aload_n dX10_turn_205 rfl rfl ?_
    refine A_getR (c2 := 71) (i2 := 0) dX10_turn_206 fX10_111 rfl (okK10 (by omega)) rfl ?_
    refine A_iload_n dX10_turn_209 rfl rfl ?_
    obtain ⟨j29, qj29, bj29, h⟩ := h
    refine A_lald (j := j29) dX10_turn_210 (by decide) rfl (okK71 (by omega)) qj29 bj29 ?_
    refine B_callV_L (av := [vI l1, vL (M28 71 0 j29)]) rfl dX10_turn_211 vX10_504 mX10_pass ⟨rfl, rfl, by decide⟩ (okK10 (by omega)) rfl (Nat.le_of_ble_eq_true rfl) (by decide) (by decide) rfl (BC_monoL h (fun x30 N30 h => ?_))
    obtain ⟨j31, qj31, bj31, h⟩ := h
    refine B_last (j := j31) dX10_turn_214 (by decide) rfl (okK71 (by omega)) qj31 bj31 (fun M32 eM32 => ?_)
    replace h := h M32 eM32
    refine A_aload_n dX10_turn_215 rfl rfl ?_
    refine A_getR (c2 := 72) (i2 := 0) dX10_turn_216 fX10_114 rfl (okK10 (by omega)) rfl ?_
    refine A_iload_n dX10_turn_219 rfl rfl ?_
    refine A_aload_n dX10_turn_220 rfl rfl ?_
    refine A_iload_n dX10_turn_221 rfl rfl ?_
    refine A_aload_n dX10_turn_222 rfl rfl ?_
    refine A_getR (c2 := 72) (i2 := 0) dX10_turn_223 fX10_114 rfl (okK10 (by omega)) rfl ?_
    refine A_iload_n dX10_turn_226 rfl rfl ?_
    obtain ⟨j33, qj33, bj33, h⟩ := h
    refine A_lald (j := j33) dX10_turn_227 (by decide) rfl (okK72 (by omega)) qj33 bj33 ?_
    refine B_callV_L (av := [vI l1, vL (M32 72 0 j33)]) rfl dX10_turn_228 vX10_504 mX10_pass ⟨rfl, rfl, by decide⟩ (okK10 (by omega)) rfl (Nat.le_of_ble_eq_true rfl) (by decide) (by decide) rfl (BC_monoL h (fun x34 N34 h => ?_))
    obtain ⟨j35, qj35, bj35, h⟩ := h
    refine B_last (j := j35) dX10_turn_231 (by decide) rfl (okK72 (by omega)) qj35 bj35 (fun M36 eM36 => ?_)
    replace h := h M36 eM36
    refine A_aload_n dX10_turn_232 rfl rfl ?_
    refine A_getR (c2 := 73) (i2 := 0) dX10_turn_233 fX10_117 rfl (okK10 (by omega)) rfl ?_
    refine A_iload_n dX10_turn_236 rfl rfl ?_
    refine A_aload_n dX10_turn_237 rfl rfl ?_
    refine A_iload_n dX10_turn_238 rfl rfl ?_
    refine A_aload_n dX10_turn_239 rfl rfl ?_
    refine A_getR (c2 := 73) (i2 := 0) dX10_turn_240 fX10_117 rfl (okK10 (by omega)) rfl ?_
    refine A_iload_n dX10_turn_243 rfl rfl ?_
    obtain ⟨j37, qj37, bj37, h⟩ := h
    refine A_lald (j := j37) dX10_turn_244 (by decide) rfl (okK73 (by omega)) qj37 bj37 ?_
    refine B_callV_L (av := [vI l1, vL (M36 73 0 j37)]) rfl dX10_turn_245 vX10_504 mX10_pass ⟨rfl, rfl, by decide⟩ (okK10 (by omega)) rfl (Nat.le_of_ble_eq_true rfl) (by decide) (by decide) rfl (BC_monoL h (fun x38 N38 h => ?_))
    obtain ⟨j39, qj39, bj39, h⟩ := h
    refine B_last (j := j39) dX10_turn_248 (by decide) rfl (okK73 (by omega)) qj39 bj39 (fun M40 eM40 => ?_)
    replace h := h M40 eM40
    refine A_aload_n dX10_turn_249 rfl rfl ?_
    refine A_getR (c2 := 74) (i2 := 0) dX10_turn_250 fX10_120 rfl (okK10 (by omega)) rfl ?_
    refine A_iload_n dX10_turn_253 rfl rfl ?_
    refine A_aload_n dX10_turn_254 rfl rfl ?_
    refine A_iload_n dX10_turn_255 rfl rfl ?_
    refine A_aload_n dX10_turn_256 rfl rfl ?_
    refine A_getR (c2 := 74) (i2 := 0) dX10_turn_257 fX10_120 rfl (okK10 (by omega)) rfl ?_
    refine A_iload_n dX10_turn_260 rfl rfl ?_
    obtain ⟨j41, qj41, bj41, h⟩ := h
    refine A_lald (j := j41) dX10_turn_261 (by decide) rfl (okK74 (by omega)) qj41 bj41 ?_
    refine B_callV_L (av := [vI l1, vL (M40 74 0 j41)]) rfl dX10_turn_262 vX10_504 mX10_pass ⟨rfl, rfl, by decide⟩ (okK10 (by omega)) rfl (Nat.le_of_ble_eq_true rfl) (by decide) (by decide) rfl (BC_monoL h (fun x42 N42 h => ?_))
    obtain ⟨j43, qj43, bj43, h⟩ := h
    refine B_last (j := j43) dX10_turn_265 (by decide) rfl (okK74 (by omega)) qj43 bj43 (fun M44 eM44 => ?_)
    replace h := h M44 eM44
    refine A_iinc (ls' := [(2, _), (0, _), (1, _)]) dX10_turn_266 (by decide) rfl rfl rfl ?_
    refine A_goto (tgt := 156) dX10_turn_269 (by decide) ?_
    exact A_pick [1, 2, 0] rfl h
set_option maxRecDepth 100000 in
set_option maxHeartbeats 4000000 in
theorem vc_X10_beside {G : GT} {a1 : Int} {a2 : Int} {a3 : Int} {N : NN} {K : Int → NN → Prop}  (h : (C_X10_in G a1 1 12 N (fun x1 N1 => (((wI x1) = 0 → K ((-4611686018427387904)) N1) ∧ (¬ ((wI x1) = 0) → ((60 < (wI ((N1 10 0 1) + a1)) → K ((-4611686018427387904)) N1) ∧ (¬ (60 < (wI ((N1 10 0 1) + a1))) → (C_X10_in G a2 0 99999 N1 (fun x2 N2 => (((wI x2) = 0 → K ((-4611686018427387904)) N2) ∧ (¬ ((wI x2) = 0) → (C_X10_in G a3 0 (2 + (N2 10 0 53)) N2 (fun x3 N3 => (((wI x3) ≠ 0 → (C_X10_turn G 1 N3 (fun N4 => (((wI a3) ≤ 2 → (∀ M5 : NN, M5 = up3 N4 10 0 11 a2 → W_X10_beside G K 96 [(0, vR 10 0), (1, vI a1), (3, vI a3), (4, vI (N4 10 0 1)), (5, vL 0), (7, vI 0)] [] M5)) ∧ (¬ ((wI a3) ≤ 2) → (∃ j6 : Nat, (wI (a3 - 3)) = (j6 : Int) ∧ j6 < 5 ∧ (∃ j7 : Nat, (wI (a3 - 3)) = (j7 : Int) ∧ j7 < 5 ∧ (∀ M8 : NN, M8 = up3 N4 10 0 11 a2 → W_X10_beside G K 96 [(0, vR 10 0), (1, vI a1), (3, vI a3), (4, vI (N4 10 0 1)), (5, vL ((N4 71 0 j6) + (N4 72 0 j7))), (7, vI 0)] [] M8)))))))) ∧ (¬ ((wI x3) ≠ 0) → K ((-4611686018427387904)) N3))))))))))))))) : C_X10_beside G a1 a2 a3 N K := by
  refine Ctr.ofAW RX10 false rfl (by decide +kernel) (fun q => by cases q) (Nat.le_of_ble_eq_true rfl) (Nat.le_refl _) ?_
  refine A_iload_n dX10_beside_0 rfl rfl ?_
  refine A_iconst (v := 1) dX10_beside_1 rfl ?_
  refine A_bipush (v := 12) dX10_beside_2 (by decide +kernel) ?_
  refine B_callS_I (av := [vI a1, vI 1, vI 12]) rfl dX10_beside_4 vX10_186 mX10_in rfl (Nat.le_of_ble_eq_true rfl) (by decide) (by decide) rfl (BC_monoI h (fun x1 N1 h => ?_))
  refine B_if_eq (tgt := 45) dX10_beside_7 (by decide) rfl ⟨fun q => ?_, fun q => ?_⟩
  · replace h := h.1 q
    refine A_ldc2 (x := (-4611686018427387904)) dX10_beside_45 kX10_406 (by decide +kernel) ?_
    exact A_lret dX10_beside_48 ⟨rfl, _, rfl, h⟩
  · replace h := h.2 q
    refine A_aload_n dX10_beside_10 rfl rfl ?_
    refine A_getI dX10_beside_11 fX10_195 rfl (okK10 (by omega)) ?_
    refine A_iload_n dX10_beside_14 rfl rfl ?_
    refine A_iadd dX10_beside_15 ?_
    refine A_bipush (v := 60) dX10_beside_16 (by decide +kernel) ?_
    refine B_icmp_gt (tgt := 45) dX10_beside_18 (by decide) rfl (wlitI (by decide) (by decide)) ⟨fun q => ?_, fun q => ?_⟩
    · replace h := h.1 q
      refine A_ldc2 (x := (-4611686018427387904)) dX10_beside_45 kX10_406 (by decide +kernel) ?_
      exact A_lret dX10_beside_48 ⟨rfl, _, rfl, h⟩
    · replace h := h.2 q
      refine A_iload_n dX10_beside_21 rfl rfl ?_
      refine A_iconst (v := 0) dX10_beside_22 rfl ?_
      refine A_ldc (x := 99999) dX10_beside_23 kX10_213 (by decide +kernel) ?_
      refine B_callS_I (av := [vI a2, vI 0, vI 99999]) rfl dX10_beside_25 vX10_186 mX10_in rfl (Nat.le_of_ble_eq_true rfl) (by decide) (by decide) rfl (BC_monoI h (fun x2 N2 h => ?_))
      refine B_if_eq (tgt := 45) dX10_beside_28 (by decide) rfl ⟨fun q => ?_, fun q => ?_⟩
      · replace h := h.1 q
        refine A_ldc2 (x := (-4611686018427387904)) dX10_beside_45 kX10_406 (by decide +kernel) ?_
        exact A_lret dX10_beside_48 ⟨rfl, _, rfl, h⟩
      · replace h := h.2 q
        refine A_iload_n dX10_beside_31 rfl rfl ?_
        refine A_iconst (v := 0) dX10_beside_32 rfl ?_
        refine A_iconst (v := 2) dX10_beside_33 rfl ?_
        refine A_aload_n dX10_beside_34 rfl rfl ?_
        refine A_getI dX10_beside_35 fX10_444 rfl (okK10 (by omega)) ?_
        refine A_iadd dX10_beside_38 ?_
        refine B_callS_I (av := [vI a3, vI 0, vI (2 + (N2 10 0 53))]) rfl dX10_beside_39 vX10_186 mX10_in rfl (Nat.le_of_ble_eq_true rfl) (by decide) (by decide) rfl (BC_monoI h (fun x3 N3 h => ?_))
        refine B_if_ne (tgt := 49) dX10_beside_42 (by decide) rfl ⟨fun q => ?_, fun q => ?_⟩
        · replace h := h.1 q
          refine A_aload_n dX10_beside_49 rfl rfl ?_
          refine A_iconst (v := 1) dX10_beside_50 rfl ?_
          refine B_callV_V (av := [vI 1]) rfl dX10_beside_51 vX10_508 mX10_turn ⟨rfl, rfl, by decide⟩ (okK10 (by omega)) rfl (Nat.le_of_ble_eq_true rfl) (by decide) (by decide) rfl (BC_monoV h (fun N4 h => ?_))
          refine A_aload_n dX10_beside_54 rfl rfl ?_
          refine A_getI dX10_beside_55 fX10_195 rfl (okK10 (by omega)) ?_
          refine A_istore (ls' := [(4, _), (0, _), (1, _), (2, _), (3, _)]) dX10_beside_58 (by decide) rfl ?_
          refine A_iload_n dX10_beside_60 rfl rfl ?_
          refine A_iconst (v := 2) dX10_beside_61 rfl ?_
          refine B_icmp_le (tgt := 85) dX10_beside_62 (by decide) rfl (wlitI (by decide) (by decide)) ⟨fun q => ?_, fun q => ?_⟩
          · replace h := h.1 q
            refine A_lconst (v := 0) dX10_beside_85 (by decide +kernel) ?_
            refine A_lstore (ls' := [(5, _), (4, _), (0, _), (1, _), (2, _), (3, _)]) dX10_beside_86 (by decide) rfl ?_
            refine A_aload_n dX10_beside_88 rfl rfl ?_
            refine A_iload_n dX10_beside_89 rfl rfl ?_
            refine B_putI dX10_beside_90 fX10_214 (by decide) (okK10 (by omega)) (fun M5 eM5 => ?_)
            replace h := h M5 eM5
            refine A_iconst (v := 0) dX10_beside_93 rfl ?_
            refine A_istore (ls' := [(7, _), (5, _), (4, _), (0, _), (1, _), (2, _), (3, _)]) dX10_beside_94 (by decide) rfl ?_
            exact A_pick [3, 4, 6, 2, 1, 0] rfl h
          · replace h := h.2 q
            refine A_aload_n dX10_beside_65 rfl rfl ?_
            refine A_getR (c2 := 71) (i2 := 0) dX10_beside_66 fX10_111 rfl (okK10 (by omega)) rfl ?_
            refine A_iload_n dX10_beside_69 rfl rfl ?_
            refine A_iconst (v := 3) dX10_beside_70 rfl ?_
            refine A_isub dX10_beside_71 ?_
            obtain ⟨j6, qj6, bj6, h⟩ := h
            refine A_lald (j := j6) dX10_beside_72 (by decide) rfl (okK71 (by omega)) qj6 bj6 ?_
            refine A_aload_n dX10_beside_73 rfl rfl ?_
            refine A_getR (c2 := 72) (i2 := 0) dX10_beside_74 fX10_114 rfl (okK10 (by omega)) rfl ?_
            refine A_iload_n dX10_beside_77 rfl rfl ?_
            refine A_iconst (v := 3) dX10_beside_78 rfl ?_
            refine A_isub dX10_beside_79 ?_
            obtain ⟨j7, qj7, bj7, h⟩ := h
            refine A_lald (j := j7) dX10_beside_80 (by decide) rfl (okK72 (by omega)) qj7 bj7 ?_
            refine A_ladd dX10_beside_81 ?_
            refine A_goto (tgt := 86) dX10_beside_82 (by decide) ?_
            refine A_lstore (ls' := [(5, _), (4, _), (0, _), (1, _), (2, _), (3, _)]) dX10_beside_86 (by decide) rfl ?_
            refine A_aload_n dX10_beside_88 rfl rfl ?_
            refine A_iload_n dX10_beside_89 rfl rfl ?_
            refine B_putI dX10_beside_90 fX10_214 (by decide) (okK10 (by omega)) (fun M8 eM8 => ?_)
            replace h := h M8 eM8
            refine A_iconst (v := 0) dX10_beside_93 rfl ?_
            refine A_istore (ls' := [(7, _), (5, _), (4, _), (0, _), (1, _), (2, _), (3, _)]) dX10_beside_94 (by decide) rfl ?_
            exact A_pick [3, 4, 6, 2, 1, 0] rfl h
        · replace h := h.2 q
          refine A_ldc2 (x := (-4611686018427387904)) dX10_beside_45 kX10_406 (by decide +kernel) ?_
          exact A_lret dX10_beside_48 ⟨rfl, _, rfl, h⟩
set_option maxRecDepth 100000 in
set_option maxHeartbeats 4000000 in
theorem vc_X10_beside_96 {G : GT} {l1 : Int} {l3 : Int} {l4 : Int} {l5 : Int} {l7 : Int} {N : NN} {K : Int → NN → Prop}  (h : (((wI l1) ≤ (wI l7) → (((wI l3) ≤ 2 → W_X10_beside G K 149 [(0, vR 10 0), (1, vI l1), (3, vI l3), (4, vI l4), (7, vL 0), (9, vI (l4 + 1))] [] N) ∧ (¬ ((wI l3) ≤ 2) → (∃ j1 : Nat, (wI (l3 - 3)) = (j1 : Int) ∧ j1 < 5 ∧ (∃ j2 : Nat, (wI (l3 - 3)) = (j2 : Int) ∧ j2 < 5 ∧ W_X10_beside G K 149 [(0, vR 10 0), (1, vI l1), (3, vI l3), (4, vI l4), (7, vL (((N 71 0 j1) + (N 72 0 j2)) - l5)), (9, vI (l4 + 1))] [] N))))) ∧ (¬ ((wI l1) ≤ (wI l7)) → (C_X10_goOn G  N (fun N3 => W_X10_beside G K 96 [(0, vR 10 0), (1, vI l1), (3, vI l3), (4, vI l4), (5, vL l5), (7, vI (l7 + 1))] [] N3))))) : W_X10_beside G K 96 [(0, vR 10 0), (1, vI l1), (3, vI l3), (4, vI l4), (5, vL l5), (7, vI l7)] [] N := by
  refine A_iload dX10_beside_96 rfl ?_
  refine A_iload_n dX10_beside_98 rfl rfl ?_
  refine B_icmp_ge (tgt := 112) dX10_beside_99 (by decide) rfl rfl ⟨fun q => ?_, fun q => ?_⟩
  · replace h := h.1 q
    refine A_iload_n dX10_beside_112 rfl rfl ?_
    refine A_iconst (v := 2) dX10_beside_113 rfl ?_
    refine B_icmp_le (tgt := 140) dX10_beside_114 (by decide) rfl (wlitI (by decide) (by decide)) ⟨fun q => ?_, fun q => ?_⟩
    · replace h := h.1 q
      refine A_lconst (v := 0) dX10_beside_140 (by decide +kernel) ?_
      refine A_lstore (ls' := [(7, _), (0, _), (1, _), (3, _), (4, _), (5, _)]) dX10_beside_141 (by decide) rfl ?_
      refine A_iload dX10_beside_143 rfl ?_
      refine A_iconst (v := 1) dX10_beside_145 rfl ?_
      refine A_iadd dX10_beside_146 ?_
      refine A_istore (ls' := [(9, _), (7, _), (0, _), (1, _), (3, _), (4, _), (5, _)]) dX10_beside_147 (by decide) rfl ?_
      exact A_pick [2, 3, 4, 5, 1, 0] rfl h
    · replace h := h.2 q
      refine A_aload_n dX10_beside_117 rfl rfl ?_
      refine A_getR (c2 := 71) (i2 := 0) dX10_beside_118 fX10_111 rfl (okK10 (by omega)) rfl ?_
      refine A_iload_n dX10_beside_121 rfl rfl ?_
      refine A_iconst (v := 3) dX10_beside_122 rfl ?_
      refine A_isub dX10_beside_123 ?_
      obtain ⟨j1, qj1, bj1, h⟩ := h
      refine A_lald (j := j1) dX10_beside_124 (by decide) rfl (okK71 (by omega)) qj1 bj1 ?_
      refine A_aload_n dX10_beside_125 rfl rfl ?_
      refine A_getR (c2 := 72) (i2 := 0) dX10_beside_126 fX10_114 rfl (okK10 (by omega)) rfl ?_
      refine A_iload_n dX10_beside_129 rfl rfl ?_
      refine A_iconst (v := 3) dX10_beside_130 rfl ?_
      refine A_isub dX10_beside_131 ?_
      obtain ⟨j2, qj2, bj2, h⟩ := h
      refine A_lald (j := j2) dX10_beside_132 (by decide) rfl (okK72 (by omega)) qj2 bj2 ?_
      refine A_ladd dX10_beside_133 ?_
      refine A_lload dX10_beside_134 rfl ?_
      refine A_lsub dX10_beside_136 ?_
      refine A_goto (tgt := 141) dX10_beside_137 (by decide) ?_
      refine A_lstore (ls' := [(7, _), (0, _), (1, _), (3, _), (4, _), (5, _)]) dX10_beside_141 (by decide) rfl ?_
      refine A_iload dX10_beside_143 rfl ?_
      refine A_iconst (v := 1) dX10_beside_145 rfl ?_
      refine A_iadd dX10_beside_146 ?_
      refine A_istore (ls' := [(9, _), (7, _), (0, _), (1, _), (3, _), (4, _), (5, _)]) dX10_beside_147 (by decide) rfl ?_
      exact A_pick [2, 3, 4, 5, 1, 0] rfl h
  · replace h := h.2 q
    refine A_aload_n dX10_beside_102 rfl rfl ?_
    refine B_callV_V (av := []) rfl dX10_beside_103 vX10_498 mX10_goOn ⟨rfl, rfl, by decide⟩ (okK10 (by omega)) rfl (Nat.le_of_ble_eq_true rfl) (by decide) (by decide) rfl (BC_monoV h (fun N3 h => ?_))
    refine A_iinc (ls' := [(7, _), (0, _), (1, _), (3, _), (4, _), (5, _)]) dX10_beside_106 (by decide) rfl rfl rfl ?_
    refine A_goto (tgt := 96) dX10_beside_109 (by decide) ?_
    exact A_pick [1, 2, 3, 4, 5, 0] rfl h
set_option maxRecDepth 100000 in
set_option maxHeartbeats 4000000 in
theorem vc_X10_beside_149 {G : GT} {l1 : Int} {l3 : Int} {l4 : Int} {l7 : Int} {l9 : Int} {N : NN} {K : Int → NN → Prop}  (h : (((wI (l4 + l1)) < (wI l9) → (C_X10_turn G 0 N (fun N1 => K l7 N1))) ∧ (¬ ((wI (l4 + l1)) < (wI l9)) → ((3 ≤ (wI l3) → (C_X10_turn G 0 N (fun N2 => K l7 N2))) ∧ (¬ (3 ≤ (wI l3)) → (((wI l3) ≠ 0 → (((wI l3) ≠ 1 → (∃ j3 : Nat, (wI l9) = (j3 : Int) ∧ j3 < 61 ∧ W_X10_beside G K 149 [(0, vR 10 0), (1, vI l1), (3, vI l3), (4, vI l4), (7, vL (l7 + (N 48 0 j3))), (9, vI (l9 + 1))] [] N)) ∧ (¬ ((wI l3) ≠ 1) → (∃ j4 : Nat, (wI l9) = (j4 : Int) ∧ j4 < 61 ∧ W_X10_beside G K 149 [(0, vR 10 0), (1, vI l1), (3, vI l3), (4, vI l4), (7, vL (l7 + (N 49 0 j4))), (9, vI (l9 + 1))] [] N)))) ∧ (¬ ((wI l3) ≠ 0) → (∃ j5 : Nat, (wI l9) = (j5 : Int) ∧ j5 < 61 ∧ W_X10_beside G K 149 [(0, vR 10 0), (1, vI l1), (3, vI l3), (4, vI l4), (7, vL (l7 + (N 55 0 j5))), (9, vI (l9 + 1))] [] N)))))))) : W_X10_beside G K 149 [(0, vR 10 0), (1, vI l1), (3, vI l3), (4, vI l4), (7, vL l7), (9, vI l9)] [] N := by
  refine A_iload dX10_beside_149 rfl ?_
  refine A_iload dX10_beside_151 rfl ?_
  refine A_iload_n dX10_beside_153 rfl rfl ?_
  refine A_iadd dX10_beside_154 ?_
  refine B_icmp_gt (tgt := 210) dX10_beside_155 (by decide) rfl rfl ⟨fun q => ?_, fun q => ?_⟩
  · replace h := h.1 q
    refine A_aload_n dX10_beside_210 rfl rfl ?_
    refine A_iconst (v := 0) dX10_beside_211 rfl ?_
    refine B_callV_V (av := [vI 0]) rfl dX10_beside_212 vX10_508 mX10_turn ⟨rfl, rfl, by decide⟩ (okK10 (by omega)) rfl (Nat.le_of_ble_eq_true rfl) (by decide) (by decide) rfl (BC_monoV h (fun N1 h => ?_))
    refine A_lload dX10_beside_215 rfl ?_
    exact A_lret dX10_beside_217 ⟨rfl, _, rfl, h⟩
  · replace h := h.2 q
    refine A_iload_n dX10_beside_158 rfl rfl ?_
    refine A_iconst (v := 3) dX10_beside_159 rfl ?_
    refine B_icmp_ge (tgt := 210) dX10_beside_160 (by decide) rfl (wlitI (by decide) (by decide)) ⟨fun q => ?_, fun q => ?_⟩
    · replace h := h.1 q
      refine A_aload_n dX10_beside_210 rfl rfl ?_
      refine A_iconst (v := 0) dX10_beside_211 rfl ?_
      refine B_callV_V (av := [vI 0]) rfl dX10_beside_212 vX10_508 mX10_turn ⟨rfl, rfl, by decide⟩ (okK10 (by omega)) rfl (Nat.le_of_ble_eq_true rfl) (by decide) (by decide) rfl (BC_monoV h (fun N2 h => ?_))
      refine A_lload dX10_beside_215 rfl ?_
      exact A_lret dX10_beside_217 ⟨rfl, _, rfl, h⟩
    · replace h := h.2 q
      refine A_lload dX10_beside_163 rfl ?_
      refine A_iload_n dX10_beside_165 rfl rfl ?_
      refine B_if_ne (tgt := 179) dX10_beside_166 (by decide) rfl ⟨fun q => ?_, fun q => ?_⟩
      · replace h := h.1 q
        refine A_iload_n dX10_beside_179 rfl rfl ?_
        refine A_iconst (v := 1) dX10_beside_180 rfl ?_
        refine B_icmp_ne (tgt := 194) dX10_beside_181 (by decide) rfl (wlitI (by decide) (by decide)) ⟨fun q => ?_, fun q => ?_⟩
        · replace h := h.1 q
          refine A_aload_n dX10_beside_194 rfl rfl ?_
          refine A_getR (c2 := 48) (i2 := 0) dX10_beside_195 fX10_41 rfl (okK10 (by omega)) rfl ?_
          refine A_iload dX10_beside_198 rfl ?_
          obtain ⟨j3, qj3, bj3, h⟩ := h
          refine A_lald (j := j3) dX10_beside_200 (by decide) rfl (okK48 (by omega)) qj3 bj3 ?_
          refine A_ladd dX10_beside_201 ?_
          refine A_lstore (ls' := [(7, _), (0, _), (1, _), (3, _), (4, _), (9, _)]) dX10_beside_202 (by decide) rfl ?_
          refine A_iinc (ls' := [(9, _), (7, _), (0, _), (1, _), (3, _), (4, _)]) dX10_beside_204 (by decide) rfl rfl rfl ?_
          refine A_goto (tgt := 149) dX10_beside_207 (by decide) ?_
          exact A_pick [2, 3, 4, 5, 1, 0] rfl h
        · replace h := h.2 q
          refine A_aload_n dX10_beside_184 rfl rfl ?_
          refine A_getR (c2 := 49) (i2 := 0) dX10_beside_185 fX10_45 rfl (okK10 (by omega)) rfl ?_
          refine A_iload dX10_beside_188 rfl ?_
          obtain ⟨j4, qj4, bj4, h⟩ := h
          refine A_lald (j := j4) dX10_beside_190 (by decide) rfl (okK49 (by omega)) qj4 bj4 ?_
          refine A_goto (tgt := 201) dX10_beside_191 (by decide) ?_
          refine A_ladd dX10_beside_201 ?_
          refine A_lstore (ls' := [(7, _), (0, _), (1, _), (3, _), (4, _), (9, _)]) dX10_beside_202 (by decide) rfl ?_
          refine A_iinc (ls' := [(9, _), (7, _), (0, _), (1, _), (3, _), (4, _)]) dX10_beside_204 (by decide) rfl rfl rfl ?_
          refine A_goto (tgt := 149) dX10_beside_207 (by decide) ?_
          exact A_pick [2, 3, 4, 5, 1, 0] rfl h
      · replace h := h.2 q
        refine A_aload_n dX10_beside_169 rfl rfl ?_
        refine A_getR (c2 := 55) (i2 := 0) dX10_beside_170 fX10_63 rfl (okK10 (by omega)) rfl ?_
        refine A_iload dX10_beside_173 rfl ?_
        obtain ⟨j5, qj5, bj5, h⟩ := h
        refine A_lald (j := j5) dX10_beside_175 (by decide) rfl (okK55 (by omega)) qj5 bj5 ?_
        refine A_goto (tgt := 201) dX10_beside_176 (by decide) ?_
        refine A_ladd dX10_beside_201 ?_
        refine A_lstore (ls' := [(7, _), (0, _), (1, _), (3, _), (4, _), (9, _)]) dX10_beside_202 (by decide) rfl ?_
        refine A_iinc (ls' := [(9, _), (7, _), (0, _), (1, _), (3, _), (4, _)]) dX10_beside_204 (by decide) rfl rfl rfl ?_
        refine A_goto (tgt := 149) dX10_beside_207 (by decide) ?_
        exact A_pick [2, 3, 4, 5, 1, 0] rfl h
set_option maxRecDepth 100000 in
set_option maxHeartbeats 4000000 in
theorem vc_X10_count {G : GT} {a1 : Int} {N : NN} {K : Int → NN → Prop}  (h : (((wI a1) = 0 → K (N 10 0 2) N) ∧ (((wI a1) = 1 → K (N 10 0 53) N) ∧ (((wI a1) = 2 → K (N 10 0 26) N) ∧ (((wI a1) = 3 → K (N 10 0 45) N) ∧ (((wI a1) = 4 → K (N 10 0 29) N) ∧ (((wI a1) = 5 → K (N 10 0 1) N) ∧ (((wI a1) = 6 → K (N 10 0 27) N) ∧ (((wI a1) = 7 → (C_X10_pool G  N (fun x1 N1 => K x1 N1))) ∧ (((wI a1) = 8 → K (N 10 0 64) N) ∧ (((wI a1) = 9 → K (N 10 0 14) N) ∧ (((wI a1) = 10 → (((wI (N 10 0 67)) = 0 → K 0 N) ∧ (¬ ((wI (N 10 0 67)) = 0) → K 1 N))) ∧ (((wI a1) = 11 → K (N 10 0 66) N) ∧ ((wI a1) < 0 ∨ 11 < (wI a1) → K ((-2)) N)))))))))))))) : C_X10_count G a1 N K := by
  refine Ctr.ofAW RX10 false rfl (by decide +kernel) (fun q => by cases q) (Nat.le_of_ble_eq_true rfl) (Nat.le_refl _) ?_
  refine A_iload_n dX10_count_0 rfl rfl ?_
  by_cases q1_0 : wI a1 = 0
  · replace h := h.1 q1_0
    refine A_tableIn (tgt := 64) dX10_count_1 q1_0 (by decide) rfl (by decide) ?_
    refine A_aload_n dX10_count_64 rfl rfl ?_
    refine A_getI dX10_count_65 fX10_183 rfl (okK10 (by omega)) ?_
    exact A_iret dX10_count_68 ⟨rfl, _, rfl, h⟩
  replace h := h.2
  by_cases q1_1 : wI a1 = 1
  · replace h := h.1 q1_1
    refine A_tableIn (tgt := 69) dX10_count_1 q1_1 (by decide) rfl (by decide) ?_
    refine A_aload_n dX10_count_69 rfl rfl ?_
    refine A_getI dX10_count_70 fX10_444 rfl (okK10 (by omega)) ?_
    exact A_iret dX10_count_73 ⟨rfl, _, rfl, h⟩
  replace h := h.2
  by_cases q1_2 : wI a1 = 2
  · replace h := h.1 q1_2
    refine A_tableIn (tgt := 74) dX10_count_1 q1_2 (by decide) rfl (by decide) ?_
    refine A_aload_n dX10_count_74 rfl rfl ?_
    refine A_getI dX10_count_75 fX10_175 rfl (okK10 (by omega)) ?_
    exact A_iret dX10_count_78 ⟨rfl, _, rfl, h⟩
  replace h := h.2
  by_cases q1_3 : wI a1 = 3
  · replace h := h.1 q1_3
    refine A_tableIn (tgt := 79) dX10_count_1 q1_3 (by decide) rfl (by decide) ?_
    refine A_aload_n dX10_count_79 rfl rfl ?_
    refine A_getI dX10_count_80 fX10_178 rfl (okK10 (by omega)) ?_
    exact A_iret dX10_count_83 ⟨rfl, _, rfl, h⟩
  replace h := h.2
  by_cases q1_4 : wI a1 = 4
  · replace h := h.1 q1_4
    refine A_tableIn (tgt := 84) dX10_count_1 q1_4 (by decide) rfl (by decide) ?_
    refine A_aload_n dX10_count_84 rfl rfl ?_
    refine A_getI dX10_count_85 fX10_267 rfl (okK10 (by omega)) ?_
    exact A_iret dX10_count_88 ⟨rfl, _, rfl, h⟩
  replace h := h.2
  by_cases q1_5 : wI a1 = 5
  · replace h := h.1 q1_5
    refine A_tableIn (tgt := 89) dX10_count_1 q1_5 (by decide) rfl (by decide) ?_
    refine A_aload_n dX10_count_89 rfl rfl ?_
    refine A_getI dX10_count_90 fX10_195 rfl (okK10 (by omega)) ?_
    exact A_iret dX10_count_93 ⟨rfl, _, rfl, h⟩
  replace h := h.2
  by_cases q1_6 : wI a1 = 6
  · replace h := h.1 q1_6
    refine A_tableIn (tgt := 94) dX10_count_1 q1_6 (by decide) rfl (by decide) ?_
    refine A_aload_n dX10_count_94 rfl rfl ?_
    refine A_getI dX10_count_95 fX10_400 rfl (okK10 (by omega)) ?_
    exact A_iret dX10_count_98 ⟨rfl, _, rfl, h⟩
  replace h := h.2
  by_cases q1_7 : wI a1 = 7
  · replace h := h.1 q1_7
    refine A_tableIn (tgt := 99) dX10_count_1 q1_7 (by decide) rfl (by decide) ?_
    refine A_aload_n dX10_count_99 rfl rfl ?_
    refine B_callV_I (av := []) rfl dX10_count_100 vX10_248 mX10_pool ⟨rfl, rfl, by decide⟩ (okK10 (by omega)) rfl (Nat.le_of_ble_eq_true rfl) (by decide) (by decide) rfl (BC_monoI h (fun x1 N1 h => ?_))
    exact A_iret dX10_count_103 ⟨rfl, _, rfl, h⟩
  replace h := h.2
  by_cases q1_8 : wI a1 = 8
  · replace h := h.1 q1_8
    refine A_tableIn (tgt := 104) dX10_count_1 q1_8 (by decide) rfl (by decide) ?_
    refine A_aload_n dX10_count_104 rfl rfl ?_
    refine A_getL dX10_count_105 fX10_472 rfl (okK10 (by omega)) ?_
    refine A_l2i dX10_count_108 ?_
    exact A_iret dX10_count_109 ⟨rfl, _, rfl, h⟩
  replace h := h.2
  by_cases q1_9 : wI a1 = 9
  · replace h := h.1 q1_9
    refine A_tableIn (tgt := 110) dX10_count_1 q1_9 (by decide) rfl (by decide) ?_
    refine A_aload_n dX10_count_110 rfl rfl ?_
    refine A_getI dX10_count_111 fX10_264 rfl (okK10 (by omega)) ?_
    exact A_iret dX10_count_114 ⟨rfl, _, rfl, h⟩
  replace h := h.2
  by_cases q1_10 : wI a1 = 10
  · replace h := h.1 q1_10
    refine A_tableIn (tgt := 115) dX10_count_1 q1_10 (by decide) rfl (by decide) ?_
    refine A_aload_n dX10_count_115 rfl rfl ?_
    refine A_getI dX10_count_116 fX10_463 rfl (okK10 (by omega)) ?_
    refine B_if_eq (tgt := 126) dX10_count_119 (by decide) rfl ⟨fun q => ?_, fun q => ?_⟩
    · replace h := h.1 q
      refine A_iconst (v := 0) dX10_count_126 rfl ?_
      exact A_iret dX10_count_127 ⟨rfl, _, rfl, h⟩
    · replace h := h.2 q
      refine A_iconst (v := 1) dX10_count_122 rfl ?_
      refine A_goto (tgt := 127) dX10_count_123 (by decide) ?_
      exact A_iret dX10_count_127 ⟨rfl, _, rfl, h⟩
  replace h := h.2
  by_cases q1_11 : wI a1 = 11
  · replace h := h.1 q1_11
    refine A_tableIn (tgt := 128) dX10_count_1 q1_11 (by decide) rfl (by decide) ?_
    refine A_aload_n dX10_count_128 rfl rfl ?_
    refine A_getL dX10_count_129 fX10_486 rfl (okK10 (by omega)) ?_
    refine A_l2i dX10_count_132 ?_
    exact A_iret dX10_count_133 ⟨rfl, _, rfl, h⟩
  replace h := h.2
  replace h := h (by omega)
  refine A_tableOut (tgt := 134) dX10_count_1 (by omega) (by decide) ?_
  refine A_bipush (v := (-2)) dX10_count_134 (by decide +kernel) ?_
  exact A_iret dX10_count_136 ⟨rfl, _, rfl, h⟩
set_option maxRecDepth 100000 in
set_option maxHeartbeats 4000000 in
theorem vc_X10_isSheet {G : GT} {a0 : Int} {N : NN} {K : Int → NN → Prop}  (h : (C_X10_in G a0 0 3 N (fun x1 N1 => ((x1 = 0 ∨ x1 = 1) ∧ K x1 N1)))) : C_X10_isSheet G a0 N K := by
  refine Ctr.ofAW RX10 false rfl (by decide +kernel) (fun q => by cases q) (Nat.le_of_ble_eq_true rfl) (Nat.le_refl _) ?_
  refine A_iload_n dX10_isSheet_0 rfl rfl ?_
  refine A_iconst (v := 0) dX10_isSheet_1 rfl ?_
  refine A_iconst (v := 3) dX10_isSheet_2 rfl ?_
  refine B_callS_I (av := [vI a0, vI 0, vI 3]) rfl dX10_isSheet_3 vX10_186 mX10_in rfl (Nat.le_of_ble_eq_true rfl) (by decide) (by decide) rfl (BC_monoI h (fun x1 N1 h => ?_))
  exact A_zret dX10_isSheet_6 h.1 ⟨rfl, _, rfl, h.2⟩
set_option maxRecDepth 100000 in
set_option maxHeartbeats 4000000 in
theorem vc_X10_sheet {G : GT} {a1 : Int} {a2 : Int} {a3 : Int} {N : NN} {K : Int → NN → Prop}  (h : (C_X10_isSheet G a1 N (fun x1 N1 => (((wI x1) = 0 → K ((-2)) N1) ∧ (¬ ((wI x1) = 0) → (C_X10_in G a2 ((-1)) 2 N1 (fun x2 N2 => (((wI x2) = 0 → K ((-2)) N2) ∧ (¬ ((wI x2) = 0) → (((wI a2) < 0 → (((wI a2) < 0 → (((wI a2) < 0 → (∃ j3 : Nat, (wI a1) = (j3 : Int) ∧ j3 < 4 ∧ (∀ M4 : NN, M4 = up3 N2 82 0 j3 0 → (∃ j5 : Nat, (wI a1) = (j5 : Int) ∧ j5 < 4 ∧ (∀ M6 : NN, M6 = up3 M4 83 0 j5 a2 → (∃ j7 : Nat, (wI a1) = (j7 : Int) ∧ j7 < 4 ∧ (∀ M8 : NN, M8 = up3 M6 84 0 j7 a3 → W_X10_sheet G K 72 [(0, vR 10 0), (1, vI a1), (2, vI a2), (3, vI a3), (4, vI 0)] [] M8))))))) ∧ (¬ ((wI a2) < 0) → (∃ j9 : Nat, (wI a1) = (j9 : Int) ∧ j9 < 4 ∧ (∀ M10 : NN, M10 = up3 N2 82 0 j9 1 → (∃ j11 : Nat, (wI a1) = (j11 : Int) ∧ j11 < 4 ∧ (∀ M12 : NN, M12 = up3 M10 83 0 j11 a2 → (∃ j13 : Nat, (wI a1) = (j13 : Int) ∧ j13 < 4 ∧ (∀ M14 : NN, M14 = up3 M12 84 0 j13 a3 → W_X10_sheet G K 72 [(0, vR 10 0), (1, vI a1), (2, vI a2), (3, vI a3), (4, vI 0)] [] M14))))))))) ∧ (¬ ((wI a2) < 0) → ((0 ≤ (wI a3) → (((wI a2) < 0 → (∃ j15 : Nat, (wI a1) = (j15 : Int) ∧ j15 < 4 ∧ (∀ M16 : NN, M16 = up3 N2 82 0 j15 0 → (∃ j17 : Nat, (wI a1) = (j17 : Int) ∧ j17 < 4 ∧ (∀ M18 : NN, M18 = up3 M16 83 0 j17 a2 → (∃ j19 : Nat, (wI a1) = (j19 : Int) ∧ j19 < 4 ∧ (∀ M20 : NN, M20 = up3 M18 84 0 j19 a3 → W_X10_sheet G K 72 [(0, vR 10 0), (1, vI a1), (2, vI a2), (3, vI a3), (4, vI 0)] [] M20))))))) ∧ (¬ ((wI a2) < 0) → (∃ j21 : Nat, (wI a1) = (j21 : Int) ∧ j21 < 4 ∧ (∀ M22 : NN, M22 = up3 N2 82 0 j21 1 → (∃ j23 : Nat, (wI a1) = (j23 : Int) ∧ j23 < 4 ∧ (∀ M24 : NN, M24 = up3 M22 83 0 j23 a2 → (∃ j25 : Nat, (wI a1) = (j25 : Int) ∧ j25 < 4 ∧ (∀ M26 : NN, M26 = up3 M24 84 0 j25 a3 → W_X10_sheet G K 72 [(0, vR 10 0), (1, vI a1), (2, vI a2), (3, vI a3), (4, vI 0)] [] M26))))))))) ∧ (¬ (0 ≤ (wI a3)) → K ((-14)) N2))))) ∧ (¬ ((wI a2) < 0) → (((wI a3) ≤ 40 → (((wI a2) < 0 → (((wI a2) < 0 → (∃ j27 : Nat, (wI a1) = (j27 : Int) ∧ j27 < 4 ∧ (∀ M28 : NN, M28 = up3 N2 82 0 j27 0 → (∃ j29 : Nat, (wI a1) = (j29 : Int) ∧ j29 < 4 ∧ (∀ M30 : NN, M30 = up3 M28 83 0 j29 a2 → (∃ j31 : Nat, (wI a1) = (j31 : Int) ∧ j31 < 4 ∧ (∀ M32 : NN, M32 = up3 M30 84 0 j31 a3 → W_X10_sheet G K 72 [(0, vR 10 0), (1, vI a1), (2, vI a2), (3, vI a3), (4, vI 0)] [] M32))))))) ∧ (¬ ((wI a2) < 0) → (∃ j33 : Nat, (wI a1) = (j33 : Int) ∧ j33 < 4 ∧ (∀ M34 : NN, M34 = up3 N2 82 0 j33 1 → (∃ j35 : Nat, (wI a1) = (j35 : Int) ∧ j35 < 4 ∧ (∀ M36 : NN, M36 = up3 M34 83 0 j35 a2 → (∃ j37 : Nat, (wI a1) = (j37 : Int) ∧ j37 < 4 ∧ (∀ M38 : NN, M38 = up3 M36 84 0 j37 a3 → W_X10_sheet G K 72 [(0, vR 10 0), (1, vI a1), (2, vI a2), (3, vI a3), (4, vI 0)] [] M38))))))))) ∧ (¬ ((wI a2) < 0) → ((0 ≤ (wI a3) → (((wI a2) < 0 → (∃ j39 : Nat, (wI a1) = (j39 : Int) ∧ j39 < 4 ∧ (∀ M40 : NN, M40 = up3 N2 82 0 j39 0 → (∃ j41 : Nat, (wI a1) = (j41 : Int) ∧ j41 < 4 ∧ (∀ M42 : NN, M42 = up3 M40 83 0 j41 a2 → (∃ j43 : Nat, (wI a1) = (j43 : Int) ∧ j43 < 4 ∧ (∀ M44 : NN, M44 = up3 M42 84 0 j43 a3 → W_X10_sheet G K 72 [(0, vR 10 0), (1, vI a1), (2, vI a2), (3, vI a3), (4, vI 0)] [] M44))))))) ∧ (¬ ((wI a2) < 0) → (∃ j45 : Nat, (wI a1) = (j45 : Int) ∧ j45 < 4 ∧ (∀ M46 : NN, M46 = up3 N2 82 0 j45 1 → (∃ j47 : Nat, (wI a1) = (j47 : Int) ∧ j47 < 4 ∧ (∀ M48 : NN, M48 = up3 M46 83 0 j47 a2 → (∃ j49 : Nat, (wI a1) = (j49 : Int) ∧ j49 < 4 ∧ (∀ M50 : NN, M50 = up3 M48 84 0 j49 a3 → W_X10_sheet G K 72 [(0, vR 10 0), (1, vI a1), (2, vI a2), (3, vI a3), (4, vI 0)] [] M50))))))))) ∧ (¬ (0 ≤ (wI a3)) → K ((-14)) N2))))) ∧ (¬ ((wI a3) ≤ 40) → K ((-2)) N2))))))))))))) : C_X10_sheet G a1 a2 a3 N K := by
  refine Ctr.ofAW RX10 false rfl (by decide +kernel) (fun q => by cases q) (Nat.le_of_ble_eq_true rfl) (Nat.le_refl _) ?_
  refine A_iload_n dX10_sheet_0 rfl rfl ?_
  refine B_callS_I (av := [vI a1]) rfl dX10_sheet_1 vX10_512 mX10_isSheet rfl (Nat.le_of_ble_eq_true rfl) (by decide) (by decide) rfl (BC_monoI h (fun x1 N1 h => ?_))
  refine B_if_eq (tgt := 26) dX10_sheet_4 (by decide) rfl ⟨fun q => ?_, fun q => ?_⟩
  · replace h := h.1 q
    refine A_bipush (v := (-2)) dX10_sheet_26 (by decide +kernel) ?_
    exact A_iret dX10_sheet_28 ⟨rfl, _, rfl, h⟩
  · replace h := h.2 q
    refine A_iload_n dX10_sheet_7 rfl rfl ?_
    refine A_iconst (v := (-1)) dX10_sheet_8 rfl ?_
    refine A_iconst (v := 2) dX10_sheet_9 rfl ?_
    refine B_callS_I (av := [vI a2, vI ((-1)), vI 2]) rfl dX10_sheet_10 vX10_186 mX10_in rfl (Nat.le_of_ble_eq_true rfl) (by decide) (by decide) rfl (BC_monoI h (fun x2 N2 h => ?_))
    refine B_if_eq (tgt := 26) dX10_sheet_13 (by decide) rfl ⟨fun q => ?_, fun q => ?_⟩
    · replace h := h.1 q
      refine A_bipush (v := (-2)) dX10_sheet_26 (by decide +kernel) ?_
      exact A_iret dX10_sheet_28 ⟨rfl, _, rfl, h⟩
    · replace h := h.2 q
      refine A_iload_n dX10_sheet_16 rfl rfl ?_
      refine B_if_lt (tgt := 29) dX10_sheet_17 (by decide) rfl ⟨fun q => ?_, fun q => ?_⟩
      · replace h := h.1 q
        refine A_iload_n dX10_sheet_29 rfl rfl ?_
        refine B_if_lt (tgt := 40) dX10_sheet_30 (by decide) rfl ⟨fun q => ?_, fun q => ?_⟩
        · replace h := h.1 q
          refine A_aload_n dX10_sheet_40 rfl rfl ?_
          refine A_getR (c2 := 82) (i2 := 0) dX10_sheet_41 fX10_151 rfl (okK10 (by omega)) rfl ?_
          refine A_iload_n dX10_sheet_44 rfl rfl ?_
          refine A_iload_n dX10_sheet_45 rfl rfl ?_
          refine B_if_lt (tgt := 53) dX10_sheet_46 (by decide) rfl ⟨fun q => ?_, fun q => ?_⟩
          · replace h := h.1 q
            refine A_iconst (v := 0) dX10_sheet_53 rfl ?_
            obtain ⟨j3, qj3, bj3, h⟩ := h
            refine B_zast (j := j3) dX10_sheet_54 (by decide) rfl (okK82 (by omega)) qj3 bj3 (by decide) (fun M4 eM4 => ?_)
            replace h := h M4 eM4
            refine A_aload_n dX10_sheet_55 rfl rfl ?_
            refine A_getR (c2 := 83) (i2 := 0) dX10_sheet_56 fX10_154 rfl (okK10 (by omega)) rfl ?_
            refine A_iload_n dX10_sheet_59 rfl rfl ?_
            refine A_iload_n dX10_sheet_60 rfl rfl ?_
            obtain ⟨j5, qj5, bj5, h⟩ := h
            refine B_iast (j := j5) dX10_sheet_61 (by decide) rfl (okK83 (by omega)) qj5 bj5 (fun M6 eM6 => ?_)
            replace h := h M6 eM6
            refine A_aload_n dX10_sheet_62 rfl rfl ?_
            refine A_getR (c2 := 84) (i2 := 0) dX10_sheet_63 fX10_157 rfl (okK10 (by omega)) rfl ?_
            refine A_iload_n dX10_sheet_66 rfl rfl ?_
            refine A_iload_n dX10_sheet_67 rfl rfl ?_
            obtain ⟨j7, qj7, bj7, h⟩ := h
            refine B_iast (j := j7) dX10_sheet_68 (by decide) rfl (okK84 (by omega)) qj7 bj7 (fun M8 eM8 => ?_)
            replace h := h M8 eM8
            refine A_iconst (v := 0) dX10_sheet_69 rfl ?_
            refine A_istore (ls' := [(4, _), (0, _), (1, _), (2, _), (3, _)]) dX10_sheet_70 (by decide) rfl ?_
            exact A_pick [1, 2, 3, 4, 0] rfl h
          · replace h := h.2 q
            refine A_iconst (v := 1) dX10_sheet_49 rfl ?_
            refine A_goto (tgt := 54) dX10_sheet_50 (by decide) ?_
            obtain ⟨j9, qj9, bj9, h⟩ := h
            refine B_zast (j := j9) dX10_sheet_54 (by decide) rfl (okK82 (by omega)) qj9 bj9 (by decide) (fun M10 eM10 => ?_)
            replace h := h M10 eM10
            refine A_aload_n dX10_sheet_55 rfl rfl ?_
            refine A_getR (c2 := 83) (i2 := 0) dX10_sheet_56 fX10_154 rfl (okK10 (by omega)) rfl ?_
            refine A_iload_n dX10_sheet_59 rfl rfl ?_
            refine A_iload_n dX10_sheet_60 rfl rfl ?_
            obtain ⟨j11, qj11, bj11, h⟩ := h
            refine B_iast (j := j11) dX10_sheet_61 (by decide) rfl (okK83 (by omega)) qj11 bj11 (fun M12 eM12 => ?_)
            replace h := h M12 eM12
            refine A_aload_n dX10_sheet_62 rfl rfl ?_
            refine A_getR (c2 := 84) (i2 := 0) dX10_sheet_63 fX10_157 rfl (okK10 (by omega)) rfl ?_
            refine A_iload_n dX10_sheet_66 rfl rfl ?_
            refine A_iload_n dX10_sheet_67 rfl rfl ?_
            obtain ⟨j13, qj13, bj13, h⟩ := h
            refine B_iast (j := j13) dX10_sheet_68 (by decide) rfl (okK84 (by omega)) qj13 bj13 (fun M14 eM14 => ?_)
            replace h := h M14 eM14
            refine A_iconst (v := 0) dX10_sheet_69 rfl ?_
            refine A_istore (ls' := [(4, _), (0, _), (1, _), (2, _), (3, _)]) dX10_sheet_70 (by decide) rfl ?_
            exact A_pick [1, 2, 3, 4, 0] rfl h
        · replace h := h.2 q
          refine A_iload_n dX10_sheet_33 rfl rfl ?_
          refine B_if_ge (tgt := 40) dX10_sheet_34 (by decide) rfl ⟨fun q => ?_, fun q => ?_⟩
          · replace h := h.1 q
            refine A_aload_n dX10_sheet_40 rfl rfl ?_
            refine A_getR (c2 := 82) (i2 := 0) dX10_sheet_41 fX10_151 rfl (okK10 (by omega)) rfl ?_
            refine A_iload_n dX10_sheet_44 rfl rfl ?_
            refine A_iload_n dX10_sheet_45 rfl rfl ?_
            refine B_if_lt (tgt := 53) dX10_sheet_46 (by decide) rfl ⟨fun q => ?_, fun q => ?_⟩
            · replace h := h.1 q
              refine A_iconst (v := 0) dX10_sheet_53 rfl ?_
              obtain ⟨j15, qj15, bj15, h⟩ := h
              refine B_zast (j := j15) dX10_sheet_54 (by decide) rfl (okK82 (by omega)) qj15 bj15 (by decide) (fun M16 eM16 => ?_)
              replace h := h M16 eM16
              refine A_aload_n dX10_sheet_55 rfl rfl ?_
              refine A_getR (c2 := 83) (i2 := 0) dX10_sheet_56 fX10_154 rfl (okK10 (by omega)) rfl ?_
              refine A_iload_n dX10_sheet_59 rfl rfl ?_
              refine A_iload_n dX10_sheet_60 rfl rfl ?_
              obtain ⟨j17, qj17, bj17, h⟩ := h
              refine B_iast (j := j17) dX10_sheet_61 (by decide) rfl (okK83 (by omega)) qj17 bj17 (fun M18 eM18 => ?_)
              replace h := h M18 eM18
              refine A_aload_n dX10_sheet_62 rfl rfl ?_
              refine A_getR (c2 := 84) (i2 := 0) dX10_sheet_63 fX10_157 rfl (okK10 (by omega)) rfl ?_
              refine A_iload_n dX10_sheet_66 rfl rfl ?_
              refine A_iload_n dX10_sheet_67 rfl rfl ?_
              obtain ⟨j19, qj19, bj19, h⟩ := h
              refine B_iast (j := j19) dX10_sheet_68 (by decide) rfl (okK84 (by omega)) qj19 bj19 (fun M20 eM20 => ?_)
              replace h := h M20 eM20
              refine A_iconst (v := 0) dX10_sheet_69 rfl ?_
              refine A_istore (ls' := [(4, _), (0, _), (1, _), (2, _), (3, _)]) dX10_sheet_70 (by decide) rfl ?_
              exact A_pick [1, 2, 3, 4, 0] rfl h
            · replace h := h.2 q
              refine A_iconst (v := 1) dX10_sheet_49 rfl ?_
              refine A_goto (tgt := 54) dX10_sheet_50 (by decide) ?_
              obtain ⟨j21, qj21, bj21, h⟩ := h
              refine B_zast (j := j21) dX10_sheet_54 (by decide) rfl (okK82 (by omega)) qj21 bj21 (by decide) (fun M22 eM22 => ?_)
              replace h := h M22 eM22
              refine A_aload_n dX10_sheet_55 rfl rfl ?_
              refine A_getR (c2 := 83) (i2 := 0) dX10_sheet_56 fX10_154 rfl (okK10 (by omega)) rfl ?_
              refine A_iload_n dX10_sheet_59 rfl rfl ?_
              refine A_iload_n dX10_sheet_60 rfl rfl ?_
              obtain ⟨j23, qj23, bj23, h⟩ := h
              refine B_iast (j := j23) dX10_sheet_61 (by decide) rfl (okK83 (by omega)) qj23 bj23 (fun M24 eM24 => ?_)
              replace h := h M24 eM24
              refine A_aload_n dX10_sheet_62 rfl rfl ?_
              refine A_getR (c2 := 84) (i2 := 0) dX10_sheet_63 fX10_157 rfl (okK10 (by omega)) rfl ?_
              refine A_iload_n dX10_sheet_66 rfl rfl ?_
              refine A_iload_n dX10_sheet_67 rfl rfl ?_
              obtain ⟨j25, qj25, bj25, h⟩ := h
              refine B_iast (j := j25) dX10_sheet_68 (by decide) rfl (okK84 (by omega)) qj25 bj25 (fun M26 eM26 => ?_)
              replace h := h M26 eM26
              refine A_iconst (v := 0) dX10_sheet_69 rfl ?_
              refine A_istore (ls' := [(4, _), (0, _), (1, _), (2, _), (3, _)]) dX10_sheet_70 (by decide) rfl ?_
              exact A_pick [1, 2, 3, 4, 0] rfl h
          · replace h := h.2 q
            refine A_bipush (v := (-14)) dX10_sheet_37 (by decide +kernel) ?_
            exact A_iret dX10_sheet_39 ⟨rfl, _, rfl, h⟩
      · replace h := h.2 q
        refine A_iload_n dX10_sheet_20 rfl rfl ?_
        refine A_bipush (v := 40) dX10_sheet_21 (by decide +kernel) ?_
        refine B_icmp_le (tgt := 29) dX10_sheet_23 (by decide) rfl (wlitI (by decide) (by decide)) ⟨fun q => ?_, fun q => ?_⟩
        · replace h := h.1 q
          refine A_iload_n dX10_sheet_29 rfl rfl ?_
          refine B_if_lt (tgt := 40) dX10_sheet_30 (by decide) rfl ⟨fun q => ?_, fun q => ?_⟩
          · replace h := h.1 q
            refine A_aload_n dX10_sheet_40 rfl rfl ?_
            refine A_getR (c2 := 82) (i2 := 0) dX10_sheet_41 fX10_151 rfl (okK10 (by omega)) rfl ?_
            refine A_iload_n dX10_sheet_44 rfl rfl ?_
            refine A_iload_n dX10_sheet_45 rfl rfl ?_
            refine B_if_lt (tgt := 53) dX10_sheet_46 (by decide) rfl ⟨fun q => ?_, fun q => ?_⟩
            · replace h := h.1 q
              refine A_iconst (v := 0) dX10_sheet_53 rfl ?_
              obtain ⟨j27, qj27, bj27, h⟩ := h
              refine B_zast (j := j27) dX10_sheet_54 (by decide) rfl (okK82 (by omega)) qj27 bj27 (by decide) (fun M28 eM28 => ?_)
              replace h := h M28 eM28
              refine A_aload_n dX10_sheet_55 rfl rfl ?_
              refine A_getR (c2 := 83) (i2 := 0) dX10_sheet_56 fX10_154 rfl (okK10 (by omega)) rfl ?_
              refine A_iload_n dX10_sheet_59 rfl rfl ?_
              refine A_iload_n dX10_sheet_60 rfl rfl ?_
              obtain ⟨j29, qj29, bj29, h⟩ := h
              refine B_iast (j := j29) dX10_sheet_61 (by decide) rfl (okK83 (by omega)) qj29 bj29 (fun M30 eM30 => ?_)
              replace h := h M30 eM30
              refine A_aload_n dX10_sheet_62 rfl rfl ?_
              refine A_getR (c2 := 84) (i2 := 0) dX10_sheet_63 fX10_157 rfl (okK10 (by omega)) rfl ?_
              refine A_iload_n dX10_sheet_66 rfl rfl ?_
              refine A_iload_n dX10_sheet_67 rfl rfl ?_
              obtain ⟨j31, qj31, bj31, h⟩ := h
              refine B_iast (j := j31) dX10_sheet_68 (by decide) rfl (okK84 (by omega)) qj31 bj31 (fun M32 eM32 => ?_)
              replace h := h M32 eM32
              refine A_iconst (v := 0) dX10_sheet_69 rfl ?_
              refine A_istore (ls' := [(4, _), (0, _), (1, _), (2, _), (3, _)]) dX10_sheet_70 (by decide) rfl ?_
              exact A_pick [1, 2, 3, 4, 0] rfl h
            · replace h := h.2 q
              refine A_iconst (v := 1) dX10_sheet_49 rfl ?_
              refine A_goto (tgt := 54) dX10_sheet_50 (by decide) ?_
              obtain ⟨j33, qj33, bj33, h⟩ := h
              refine B_zast (j := j33) dX10_sheet_54 (by decide) rfl (okK82 (by omega)) qj33 bj33 (by decide) (fun M34 eM34 => ?_)
              replace h := h M34 eM34
              refine A_aload_n dX10_sheet_55 rfl rfl ?_
              refine A_getR (c2 := 83) (i2 := 0) dX10_sheet_56 fX10_154 rfl (okK10 (by omega)) rfl ?_
              refine A_iload_n dX10_sheet_59 rfl rfl ?_
              refine A_iload_n dX10_sheet_60 rfl rfl ?_
              obtain ⟨j35, qj35, bj35, h⟩ := h
              refine B_iast (j := j35) dX10_sheet_61 (by decide) rfl (okK83 (by omega)) qj35 bj35 (fun M36 eM36 => ?_)
              replace h := h M36 eM36
              refine A_aload_n dX10_sheet_62 rfl rfl ?_
              refine A_getR (c2 := 84) (i2 := 0) dX10_sheet_63 fX10_157 rfl (okK10 (by omega)) rfl ?_
              refine A_iload_n dX10_sheet_66 rfl rfl ?_
              refine A_iload_n dX10_sheet_67 rfl rfl ?_
              obtain ⟨j37, qj37, bj37, h⟩ := h
              refine B_iast (j := j37) dX10_sheet_68 (by decide) rfl (okK84 (by omega)) qj37 bj37 (fun M38 eM38 => ?_)
              replace h := h M38 eM38
              refine A_iconst (v := 0) dX10_sheet_69 rfl ?_
              refine A_istore (ls' := [(4, _), (0, _), (1, _), (2, _), (3, _)]) dX10_sheet_70 (by decide) rfl ?_
              exact A_pick [1, 2, 3, 4, 0] rfl h
          · replace h := h.2 q
            refine A_iload_n dX10_sheet_33 rfl rfl ?_
            refine B_if_ge (tgt := 40) dX10_sheet_34 (by decide) rfl ⟨fun q => ?_, fun q => ?_⟩
            · replace h := h.1 q
              refine A_aload_n dX10_sheet_40 rfl rfl ?_
              refine A_getR (c2 := 82) (i2 := 0) dX10_sheet_41 fX10_151 rfl (okK10 (by omega)) rfl ?_
              refine A_iload_n dX10_sheet_44 rfl rfl ?_
              refine A_iload_n dX10_sheet_45 rfl rfl ?_
              refine B_if_lt (tgt := 53) dX10_sheet_46 (by decide) rfl ⟨fun q => ?_, fun q => ?_⟩
              · replace h := h.1 q
                refine A_iconst (v := 0) dX10_sheet_53 rfl ?_
                obtain ⟨j39, qj39, bj39, h⟩ := h
                refine B_zast (j := j39) dX10_sheet_54 (by decide) rfl (okK82 (by omega)) qj39 bj39 (by decide) (fun M40 eM40 => ?_)
                replace h := h M40 eM40
                refine A_aload_n dX10_sheet_55 rfl rfl ?_
                refine A_getR (c2 := 83) (i2 := 0) dX10_sheet_56 fX10_154 rfl (okK10 (by omega)) rfl ?_
                refine A_iload_n dX10_sheet_59 rfl rfl ?_
                refine A_iload_n dX10_sheet_60 rfl rfl ?_
                obtain ⟨j41, qj41, bj41, h⟩ := h
                refine B_iast (j := j41) dX10_sheet_61 (by decide) rfl (okK83 (by omega)) qj41 bj41 (fun M42 eM42 => ?_)
                replace h := h M42 eM42
                refine A_aload_n dX10_sheet_62 rfl rfl ?_
                refine A_getR (c2 := 84) (i2 := 0) dX10_sheet_63 fX10_157 rfl (okK10 (by omega)) rfl ?_
                refine A_iload_n dX10_sheet_66 rfl rfl ?_
                refine A_iload_n dX10_sheet_67 rfl rfl ?_
                obtain ⟨j43, qj43, bj43, h⟩ := h
                refine B_iast (j := j43) dX10_sheet_68 (by decide) rfl (okK84 (by omega)) qj43 bj43 (fun M44 eM44 => ?_)
                replace h := h M44 eM44
                refine A_iconst (v := 0) dX10_sheet_69 rfl ?_
                refine A_istore (ls' := [(4, _), (0, _), (1, _), (2, _), (3, _)]) dX10_sheet_70 (by decide) rfl ?_
                exact A_pick [1, 2, 3, 4, 0] rfl h
              · replace h := h.2 q
                refine A_iconst (v := 1) dX10_sheet_49 rfl ?_
                refine A_goto (tgt := 54) dX10_sheet_50 (by decide) ?_
                obtain ⟨j45, qj45, bj45, h⟩ := h
                refine B_zast (j := j45) dX10_sheet_54 (by decide) rfl (okK82 (by omega)) qj45 bj45 (by decide) (fun M46 eM46 => ?_)
                replace h := h M46 eM46
                refine A_aload_n dX10_sheet_55 rfl rfl ?_
                refine A_getR (c2 := 83) (i2 := 0) dX10_sheet_56 fX10_154 rfl (okK10 (by omega)) rfl ?_
                refine A_iload_n dX10_sheet_59 rfl rfl ?_
                refine A_iload_n dX10_sheet_60 rfl rfl ?_
                obtain ⟨j47, qj47, bj47, h⟩ := h
                refine B_iast (j := j47) dX10_sheet_61 (by decide) rfl (okK83 (by omega)) qj47 bj47 (fun M48 eM48 => ?_)
                replace h := h M48 eM48
                refine A_aload_n dX10_sheet_62 rfl rfl ?_
                refine A_getR (c2 := 84) (i2 := 0) dX10_sheet_63 fX10_157 rfl (okK10 (by omega)) rfl ?_
                refine A_iload_n dX10_sheet_66 rfl rfl ?_
                refine A_iload_n dX10_sheet_67 rfl rfl ?_
                obtain ⟨j49, qj49, bj49, h⟩ := h
                refine B_iast (j := j49) dX10_sheet_68 (by decide) rfl (okK84 (by omega)) qj49 bj49 (fun M50 eM50 => ?_)
                replace h := h M50 eM50
                refine A_iconst (v := 0) dX10_sheet_69 rfl ?_
                refine A_istore (ls' := [(4, _), (0, _), (1, _), (2, _), (3, _)]) dX10_sheet_70 (by decide) rfl ?_
                exact A_pick [1, 2, 3, 4, 0] rfl h
            · replace h := h.2 q
              refine A_bipush (v := (-14)) dX10_sheet_37 (by decide +kernel) ?_
              exact A_iret dX10_sheet_39 ⟨rfl, _, rfl, h⟩
        · replace h := h.2 q
          refine A_bipush (v := (-2)) dX10_sheet_26 (by decide +kernel) ?_
          exact A_iret dX10_sheet_28 ⟨rfl, _, rfl, h⟩
set_option maxRecDepth 100000 in
set_option maxHeartbeats 4000000 in
theorem vc_X10_sheet_72 {G : GT} {l1 : Int} {l2 : Int} {l3 : Int} {l4 : Int} {N : NN} {K : Int → NN → Prop}  (h : (((wI l3) ≤ (wI l4) → K 1 N) ∧ (¬ ((wI l3) ≤ (wI l4)) → (((wI l2) < 0 → K 1 N) ∧ (¬ ((wI l2) < 0) → (∃ j1 : Nat, (wI ((40 * l1) + l4)) = (j1 : Int) ∧ j1 < 160 ∧ (∀ M2 : NN, M2 = up3 N 85 0 j1 0 → W_X10_sheet G K 72 [(0, vR 10 0), (1, vI l1), (2, vI l2), (3, vI l3), (4, vI (l4 + 1))] [] M2))))))) : W_X10_sheet G K 72 [(0, vR 10 0), (1, vI l1), (2, vI l2), (3, vI l3), (4, vI l4)] [] N := by
  refine A_iload dX10_sheet_72 rfl ?_
  refine A_iload_n dX10_sheet_74 rfl rfl ?_
  refine B_icmp_ge (tgt := 101) dX10_sheet_75 (by decide) rfl rfl ⟨fun q => ?_, fun q => ?_⟩
  · replace h := h.1 q
    refine A_iconst (v := 1) dX10_sheet_101 rfl ?_
    exact A_iret dX10_sheet_102 ⟨rfl, _, rfl, h⟩
  · replace h := h.2 q
    refine A_iload_n dX10_sheet_78 rfl rfl ?_
    refine B_if_lt (tgt := 101) dX10_sheet_79 (by decide) rfl ⟨fun q => ?_, fun q => ?_⟩
    · replace h := h.1 q
      refine A_iconst (v := 1) dX10_sheet_101 rfl ?_
      exact A_iret dX10_sheet_102 ⟨rfl, _, rfl, h⟩
    · replace h := h.2 q
      refine A_aload_n dX10_sheet_82 rfl rfl ?_
      refine A_getR (c2 := 85) (i2 := 0) dX10_sheet_83 fX10_160 rfl (okK10 (by omega)) rfl ?_
      refine A_bipush (v := 40) dX10_sheet_86 (by decide +kernel) ?_
      refine A_iload_n dX10_sheet_88 rfl rfl ?_
      refine A_imul dX10_sheet_89 ?_
      refine A_iload dX10_sheet_90 rfl ?_
      refine A_iadd dX10_sheet_92 ?_
      refine A_iconst (v := 0) dX10_sheet_93 rfl ?_
      obtain ⟨j1, qj1, bj1, h⟩ := h
      refine B_iast (j := j1) dX10_sheet_94 (by decide) rfl (okK85 (by omega)) qj1 bj1 (fun M2 eM2 => ?_)
      replace h := h M2 eM2
      refine A_iinc (ls' := [(4, _), (0, _), (1, _), (2, _), (3, _)]) dX10_sheet_95 (by decide) rfl rfl rfl ?_
      refine A_goto (tgt := 72) dX10_sheet_98 (by decide) ?_
      exact A_pick [1, 2, 3, 4, 0] rfl h
set_option maxRecDepth 100000 in
set_option maxHeartbeats 4000000 in
theorem vc_X10_cell {G : GT} {a1 : Int} {a2 : Int} {a3 : Int} {N : NN} {K : Int → NN → Prop}  (h : (C_X10_isSheet G a1 N (fun x1 N1 => (((wI x1) ≠ 0 → (∃ j2 : Nat, (wI a1) = (j2 : Int) ∧ j2 < 4 ∧ (((wI (N1 82 0 j2)) ≠ 0 → (∃ j3 : Nat, (wI a1) = (j3 : Int) ∧ j3 < 4 ∧ (C_X10_in G a2 0 ((N1 84 0 j3) - 1) N1 (fun x4 N4 => (((wI x4) ≠ 0 → (∃ j5 : Nat, (wI a1) = (j5 : Int) ∧ j5 < 4 ∧ (((wI (N4 83 0 j5)) ≠ 0 → (∃ j6 : Nat, (wI a1) = (j6 : Int) ∧ j6 < 4 ∧ (((wI (N4 83 0 j6)) ≠ 1 → (∃ j7 : Nat, (wI ((40 * a1) + a2)) = (j7 : Int) ∧ j7 < 160 ∧ (∀ M8 : NN, M8 = up3 N4 85 0 j7 a3 → K 1 M8))) ∧ (¬ ((wI (N4 83 0 j6)) ≠ 1) → (∃ j9 : Nat, (wI ((40 * a1) + a2)) = (j9 : Int) ∧ j9 < 160 ∧ (∀ M10 : NN, M10 = up3 N4 85 0 j9 (i2sI a3) → K 1 M10)))))) ∧ (¬ ((wI (N4 83 0 j5)) ≠ 0) → (∃ j11 : Nat, (wI ((40 * a1) + a2)) = (j11 : Int) ∧ j11 < 160 ∧ (∀ M12 : NN, M12 = up3 N4 85 0 j11 (i2bI a3) → K 1 M12)))))) ∧ (¬ ((wI x4) ≠ 0) → K ((-12)) N4)))))) ∧ (¬ ((wI (N1 82 0 j2)) ≠ 0) → K ((-11)) N1)))) ∧ (¬ ((wI x1) ≠ 0) → K ((-2)) N1))))) : C_X10_cell G a1 a2 a3 N K := by
  refine Ctr.ofAW RX10 false rfl (by decide +kernel) (fun q => by cases q) (Nat.le_of_ble_eq_true rfl) (Nat.le_refl _) ?_
  refine A_iload_n dX10_cell_0 rfl rfl ?_
  refine B_callS_I (av := [vI a1]) rfl dX10_cell_1 vX10_512 mX10_isSheet rfl (Nat.le_of_ble_eq_true rfl) (by decide) (by decide) rfl (BC_monoI h (fun x1 N1 h => ?_))
  refine B_if_ne (tgt := 10) dX10_cell_4 (by decide) rfl ⟨fun q => ?_, fun q => ?_⟩
  · replace h := h.1 q
    refine A_aload_n dX10_cell_10 rfl rfl ?_
    refine A_getR (c2 := 82) (i2 := 0) dX10_cell_11 fX10_151 rfl (okK10 (by omega)) rfl ?_
    refine A_iload_n dX10_cell_14 rfl rfl ?_
    obtain ⟨j2, qj2, bj2, h⟩ := h
    refine A_zald (j := j2) dX10_cell_15 (by decide) rfl (okK82 (by omega)) qj2 bj2 ?_
    refine B_if_ne (tgt := 22) dX10_cell_16 (by decide) rfl ⟨fun q => ?_, fun q => ?_⟩
    · replace h := h.1 q
      refine A_iload_n dX10_cell_22 rfl rfl ?_
      refine A_iconst (v := 0) dX10_cell_23 rfl ?_
      refine A_aload_n dX10_cell_24 rfl rfl ?_
      refine A_getR (c2 := 84) (i2 := 0) dX10_cell_25 fX10_157 rfl (okK10 (by omega)) rfl ?_
      refine A_iload_n dX10_cell_28 rfl rfl ?_
      obtain ⟨j3, qj3, bj3, h⟩ := h
      refine A_iald (j := j3) dX10_cell_29 (by decide) rfl (okK84 (by omega)) qj3 bj3 ?_
      refine A_iconst (v := 1) dX10_cell_30 rfl ?_
      refine A_isub dX10_cell_31 ?_
      refine B_callS_I (av := [vI a2, vI 0, vI ((N1 84 0 j3) - 1)]) rfl dX10_cell_32 vX10_186 mX10_in rfl (Nat.le_of_ble_eq_true rfl) (by decide) (by decide) rfl (BC_monoI h (fun x4 N4 h => ?_))
      refine B_if_ne (tgt := 41) dX10_cell_35 (by decide) rfl ⟨fun q => ?_, fun q => ?_⟩
      · replace h := h.1 q
        refine A_aload_n dX10_cell_41 rfl rfl ?_
        refine A_getR (c2 := 85) (i2 := 0) dX10_cell_42 fX10_160 rfl (okK10 (by omega)) rfl ?_
        refine A_bipush (v := 40) dX10_cell_45 (by decide +kernel) ?_
        refine A_iload_n dX10_cell_47 rfl rfl ?_
        refine A_imul dX10_cell_48 ?_
        refine A_iload_n dX10_cell_49 rfl rfl ?_
        refine A_iadd dX10_cell_50 ?_
        refine A_aload_n dX10_cell_51 rfl rfl ?_
        refine A_getR (c2 := 83) (i2 := 0) dX10_cell_52 fX10_154 rfl (okK10 (by omega)) rfl ?_
        refine A_iload_n dX10_cell_55 rfl rfl ?_
        obtain ⟨j5, qj5, bj5, h⟩ := h
        refine A_iald (j := j5) dX10_cell_56 (by decide) rfl (okK83 (by omega)) qj5 bj5 ?_
        refine B_if_ne (tgt := 65) dX10_cell_57 (by decide) rfl ⟨fun q => ?_, fun q => ?_⟩
        · replace h := h.1 q
          refine A_aload_n dX10_cell_65 rfl rfl ?_
          refine A_getR (c2 := 83) (i2 := 0) dX10_cell_66 fX10_154 rfl (okK10 (by omega)) rfl ?_
          refine A_iload_n dX10_cell_69 rfl rfl ?_
          obtain ⟨j6, qj6, bj6, h⟩ := h
          refine A_iald (j := j6) dX10_cell_70 (by decide) rfl (okK83 (by omega)) qj6 bj6 ?_
          refine A_iconst (v := 1) dX10_cell_71 rfl ?_
          refine B_icmp_ne (tgt := 80) dX10_cell_72 (by decide) rfl (wlitI (by decide) (by decide)) ⟨fun q => ?_, fun q => ?_⟩
          · replace h := h.1 q
            refine A_iload_n dX10_cell_80 rfl rfl ?_
            obtain ⟨j7, qj7, bj7, h⟩ := h
            refine B_iast (j := j7) dX10_cell_81 (by decide) rfl (okK85 (by omega)) qj7 bj7 (fun M8 eM8 => ?_)
            replace h := h M8 eM8
            refine A_iconst (v := 1) dX10_cell_82 rfl ?_
            exact A_iret dX10_cell_83 ⟨rfl, _, rfl, h⟩
          · replace h := h.2 q
            refine A_iload_n dX10_cell_75 rfl rfl ?_
            refine A_i2s dX10_cell_76 ?_
            refine A_goto (tgt := 81) dX10_cell_77 (by decide) ?_
            obtain ⟨j9, qj9, bj9, h⟩ := h
            refine B_iast (j := j9) dX10_cell_81 (by decide) rfl (okK85 (by omega)) qj9 bj9 (fun M10 eM10 => ?_)
            replace h := h M10 eM10
            refine A_iconst (v := 1) dX10_cell_82 rfl ?_
            exact A_iret dX10_cell_83 ⟨rfl, _, rfl, h⟩
        · replace h := h.2 q
          refine A_iload_n dX10_cell_60 rfl rfl ?_
          refine A_i2b dX10_cell_61 ?_
          refine A_goto (tgt := 81) dX10_cell_62 (by decide) ?_
          obtain ⟨j11, qj11, bj11, h⟩ := h
          refine B_iast (j := j11) dX10_cell_81 (by decide) rfl (okK85 (by omega)) qj11 bj11 (fun M12 eM12 => ?_)
          replace h := h M12 eM12
          refine A_iconst (v := 1) dX10_cell_82 rfl ?_
          exact A_iret dX10_cell_83 ⟨rfl, _, rfl, h⟩
      · replace h := h.2 q
        refine A_bipush (v := (-12)) dX10_cell_38 (by decide +kernel) ?_
        exact A_iret dX10_cell_40 ⟨rfl, _, rfl, h⟩
    · replace h := h.2 q
      refine A_bipush (v := (-11)) dX10_cell_19 (by decide +kernel) ?_
      exact A_iret dX10_cell_21 ⟨rfl, _, rfl, h⟩
  · replace h := h.2 q
    refine A_bipush (v := (-2)) dX10_cell_7 (by decide +kernel) ?_
    exact A_iret dX10_cell_9 ⟨rfl, _, rfl, h⟩
set_option maxRecDepth 100000 in
set_option maxHeartbeats 4000000 in
theorem vc_X10_noRow {G : GT} {a1 : Int} {a2 : Int} {a3 : Int} {a4 : Int} {N : NN} {K : Int → NN → Prop}  (h : (∃ j1 : Nat, (wI a1) = (j1 : Int) ∧ j1 < 4 ∧ (((wI (N 82 0 j1)) = 0 → (∃ j2 : Nat, (wI a1) = (j2 : Int) ∧ j2 < 4 ∧ (((wI (N 82 0 j2)) ≠ 0 → (((wI a4) ≤ 0 → K 0 N) ∧ (¬ ((wI a4) ≤ 0) → (((wI a3) < 0 → K ((-12)) N) ∧ (¬ ((wI a3) < 0) → (∃ j3 : Nat, (wI a1) = (j3 : Int) ∧ j3 < 4 ∧ (((wI a3) ≤ (wI ((N 84 0 j3) - a4)) → K 0 N) ∧ (¬ ((wI a3) ≤ (wI ((N 84 0 j3) - a4))) → K ((-12)) N)))))))) ∧ (¬ ((wI (N 82 0 j2)) ≠ 0) → K ((-11)) N)))) ∧ (¬ ((wI (N 82 0 j1)) = 0) → (∃ j4 : Nat, (wI a1) = (j4 : Int) ∧ j4 < 4 ∧ (((wI (N 83 0 j4)) = (wI a2) → (∃ j5 : Nat, (wI a1) = (j5 : Int) ∧ j5 < 4 ∧ (((wI (N 82 0 j5)) ≠ 0 → (((wI a4) ≤ 0 → K 0 N) ∧ (¬ ((wI a4) ≤ 0) → (((wI a3) < 0 → K ((-12)) N) ∧ (¬ ((wI a3) < 0) → (∃ j6 : Nat, (wI a1) = (j6 : Int) ∧ j6 < 4 ∧ (((wI a3) ≤ (wI ((N 84 0 j6) - a4)) → K 0 N) ∧ (¬ ((wI a3) ≤ (wI ((N 84 0 j6) - a4))) → K ((-12)) N)))))))) ∧ (¬ ((wI (N 82 0 j5)) ≠ 0) → K ((-11)) N)))) ∧ (¬ ((wI (N 83 0 j4)) = (wI a2)) → K ((-13)) N))))))) : C_X10_noRow G a1 a2 a3 a4 N K := by
  refine Ctr.ofAW RX10 false rfl (by decide +kernel) (fun q => by cases q) (Nat.le_of_ble_eq_true rfl) (Nat.le_refl _) ?_
  refine A_aload_n dX10_noRow_0 rfl rfl ?_
  refine A_getR (c2 := 82) (i2 := 0) dX10_noRow_1 fX10_151 rfl (okK10 (by omega)) rfl ?_
  refine A_iload_n dX10_noRow_4 rfl rfl ?_
  obtain ⟨j1, qj1, bj1, h⟩ := h
  refine A_zald (j := j1) dX10_noRow_5 (by decide) rfl (okK82 (by omega)) qj1 bj1 ?_
  refine B_if_eq (tgt := 22) dX10_noRow_6 (by decide) rfl ⟨fun q => ?_, fun q => ?_⟩
  · replace h := h.1 q
    refine A_aload_n dX10_noRow_22 rfl rfl ?_
    refine A_getR (c2 := 82) (i2 := 0) dX10_noRow_23 fX10_151 rfl (okK10 (by omega)) rfl ?_
    refine A_iload_n dX10_noRow_26 rfl rfl ?_
    obtain ⟨j2, qj2, bj2, h⟩ := h
    refine A_zald (j := j2) dX10_noRow_27 (by decide) rfl (okK82 (by omega)) qj2 bj2 ?_
    refine B_if_ne (tgt := 34) dX10_noRow_28 (by decide) rfl ⟨fun q => ?_, fun q => ?_⟩
    · replace h := h.1 q
      refine A_iload dX10_noRow_34 rfl ?_
      refine B_if_le (tgt := 61) dX10_noRow_36 (by decide) rfl ⟨fun q => ?_, fun q => ?_⟩
      · replace h := h.1 q
        refine A_iconst (v := 0) dX10_noRow_61 rfl ?_
        exact A_iret dX10_noRow_62 ⟨rfl, _, rfl, h⟩
      · replace h := h.2 q
        refine A_iload_n dX10_noRow_39 rfl rfl ?_
        refine B_if_lt (tgt := 56) dX10_noRow_40 (by decide) rfl ⟨fun q => ?_, fun q => ?_⟩
        · replace h := h.1 q
          refine A_bipush (v := (-12)) dX10_noRow_56 (by decide +kernel) ?_
          refine A_goto (tgt := 62) dX10_noRow_58 (by decide) ?_
          exact A_iret dX10_noRow_62 ⟨rfl, _, rfl, h⟩
        · replace h := h.2 q
          refine A_iload_n dX10_noRow_43 rfl rfl ?_
          refine A_aload_n dX10_noRow_44 rfl rfl ?_
          refine A_getR (c2 := 84) (i2 := 0) dX10_noRow_45 fX10_157 rfl (okK10 (by omega)) rfl ?_
          refine A_iload_n dX10_noRow_48 rfl rfl ?_
          obtain ⟨j3, qj3, bj3, h⟩ := h
          refine A_iald (j := j3) dX10_noRow_49 (by decide) rfl (okK84 (by omega)) qj3 bj3 ?_
          refine A_iload dX10_noRow_50 rfl ?_
          refine A_isub dX10_noRow_52 ?_
          refine B_icmp_le (tgt := 61) dX10_noRow_53 (by decide) rfl rfl ⟨fun q => ?_, fun q => ?_⟩
          · replace h := h.1 q
            refine A_iconst (v := 0) dX10_noRow_61 rfl ?_
            exact A_iret dX10_noRow_62 ⟨rfl, _, rfl, h⟩
          · replace h := h.2 q
            refine A_bipush (v := (-12)) dX10_noRow_56 (by decide +kernel) ?_
            refine A_goto (tgt := 62) dX10_noRow_58 (by decide) ?_
            exact A_iret dX10_noRow_62 ⟨rfl, _, rfl, h⟩
    · replace h := h.2 q
      refine A_bipush (v := (-11)) dX10_noRow_31 (by decide +kernel) ?_
      exact A_iret dX10_noRow_33 ⟨rfl, _, rfl, h⟩
  · replace h := h.2 q
    refine A_aload_n dX10_noRow_9 rfl rfl ?_
    refine A_getR (c2 := 83) (i2 := 0) dX10_noRow_10 fX10_154 rfl (okK10 (by omega)) rfl ?_
    refine A_iload_n dX10_noRow_13 rfl rfl ?_
    obtain ⟨j4, qj4, bj4, h⟩ := h
    refine A_iald (j := j4) dX10_noRow_14 (by decide) rfl (okK83 (by omega)) qj4 bj4 ?_
    refine A_iload_n dX10_noRow_15 rfl rfl ?_
    refine B_icmp_eq (tgt := 22) dX10_noRow_16 (by decide) rfl rfl ⟨fun q => ?_, fun q => ?_⟩
    · replace h := h.1 q
      refine A_aload_n dX10_noRow_22 rfl rfl ?_
      refine A_getR (c2 := 82) (i2 := 0) dX10_noRow_23 fX10_151 rfl (okK10 (by omega)) rfl ?_
      refine A_iload_n dX10_noRow_26 rfl rfl ?_
      obtain ⟨j5, qj5, bj5, h⟩ := h
      refine A_zald (j := j5) dX10_noRow_27 (by decide) rfl (okK82 (by omega)) qj5 bj5 ?_
      refine B_if_ne (tgt := 34) dX10_noRow_28 (by decide) rfl ⟨fun q => ?_, fun q => ?_⟩
      · replace h := h.1 q
        refine A_iload dX10_noRow_34 rfl ?_
        refine B_if_le (tgt := 61) dX10_noRow_36 (by decide) rfl ⟨fun q => ?_, fun q => ?_⟩
        · replace h := h.1 q
          refine A_iconst (v := 0) dX10_noRow_61 rfl ?_
          exact A_iret dX10_noRow_62 ⟨rfl, _, rfl, h⟩
        · replace h := h.2 q
          refine A_iload_n dX10_noRow_39 rfl rfl ?_
          refine B_if_lt (tgt := 56) dX10_noRow_40 (by decide) rfl ⟨fun q => ?_, fun q => ?_⟩
          · replace h := h.1 q
            refine A_bipush (v := (-12)) dX10_noRow_56 (by decide +kernel) ?_
            refine A_goto (tgt := 62) dX10_noRow_58 (by decide) ?_
            exact A_iret dX10_noRow_62 ⟨rfl, _, rfl, h⟩
          · replace h := h.2 q
            refine A_iload_n dX10_noRow_43 rfl rfl ?_
            refine A_aload_n dX10_noRow_44 rfl rfl ?_
            refine A_getR (c2 := 84) (i2 := 0) dX10_noRow_45 fX10_157 rfl (okK10 (by omega)) rfl ?_
            refine A_iload_n dX10_noRow_48 rfl rfl ?_
            obtain ⟨j6, qj6, bj6, h⟩ := h
            refine A_iald (j := j6) dX10_noRow_49 (by decide) rfl (okK84 (by omega)) qj6 bj6 ?_
            refine A_iload dX10_noRow_50 rfl ?_
            refine A_isub dX10_noRow_52 ?_
            refine B_icmp_le (tgt := 61) dX10_noRow_53 (by decide) rfl rfl ⟨fun q => ?_, fun q => ?_⟩
            · replace h := h.1 q
              refine A_iconst (v := 0) dX10_noRow_61 rfl ?_
              exact A_iret dX10_noRow_62 ⟨rfl, _, rfl, h⟩
            · replace h := h.2 q
              refine A_bipush (v := (-12)) dX10_noRow_56 (by decide +kernel) ?_
              refine A_goto (tgt := 62) dX10_noRow_58 (by decide) ?_
              exact A_iret dX10_noRow_62 ⟨rfl, _, rfl, h⟩
      · replace h := h.2 q
        refine A_bipush (v := (-11)) dX10_noRow_31 (by decide +kernel) ?_
        exact A_iret dX10_noRow_33 ⟨rfl, _, rfl, h⟩
    · replace h := h.2 q
      refine A_bipush (v := (-13)) dX10_noRow_19 (by decide +kernel) ?_
      exact A_iret dX10_noRow_21 ⟨rfl, _, rfl, h⟩
set_option maxRecDepth 100000 in
set_option maxHeartbeats 4000000 in
theorem vc_X10_report {G : GT} {a1 : Int} {a2 : Int} {a3 : Int} {a4 : Int} {a5 : Int} {N : NN} {K : Int → NN → Prop}  (h : (C_X10_in G a1 1 (N 10 0 1) N (fun x1 N1 => (((wI x1) = 0 → K ((-2)) N1) ∧ (¬ ((wI x1) = 0) → (C_X10_isSheet G a2 N1 (fun x2 N2 => (((wI x2) = 0 → K ((-2)) N2) ∧ (¬ ((wI x2) = 0) → (C_X10_in G a3 0 2 N2 (fun x3 N3 => (((wI x3) = 0 → K ((-2)) N3) ∧ (¬ ((wI x3) = 0) → (C_X10_in G a5 0 10 N3 (fun x4 N4 => (((wI x4) ≠ 0 → (C_X10_noRow G a2 a3 a4 a5 N4 (fun x5 N5 => ((0 ≤ (wI x5) → W_X10_report G K 65 [(0, vR 10 0), (1, vI a1), (2, vI a2), (4, vI a4), (5, vI a5), (7, vI 0)] [] N5) ∧ (¬ (0 ≤ (wI x5)) → K x5 N5))))) ∧ (¬ ((wI x4) ≠ 0) → K ((-2)) N4))))))))))))))))) : C_X10_report G a1 a2 a3 a4 a5 N K := by
  refine Ctr.ofAW RX10 false rfl (by decide +kernel) (fun q => by cases q) (Nat.le_of_ble_eq_true rfl) (Nat.le_refl _) ?_
  refine A_iload_n dX10_report_0 rfl rfl ?_
  refine A_iconst (v := 1) dX10_report_1 rfl ?_
  refine A_aload_n dX10_report_2 rfl rfl ?_
  refine A_getI dX10_report_3 fX10_195 rfl (okK10 (by omega)) ?_
  refine B_callS_I (av := [vI a1, vI 1, vI (N 10 0 1)]) rfl dX10_report_6 vX10_186 mX10_in rfl (Nat.le_of_ble_eq_true rfl) (by decide) (by decide) rfl (BC_monoI h (fun x1 N1 h => ?_))
  refine B_if_eq (tgt := 39) dX10_report_9 (by decide) rfl ⟨fun q => ?_, fun q => ?_⟩
  · replace h := h.1 q
    refine A_bipush (v := (-2)) dX10_report_39 (by decide +kernel) ?_
    exact A_iret dX10_report_41 ⟨rfl, _, rfl, h⟩
  · replace h := h.2 q
    refine A_iload_n dX10_report_12 rfl rfl ?_
    refine B_callS_I (av := [vI a2]) rfl dX10_report_13 vX10_512 mX10_isSheet rfl (Nat.le_of_ble_eq_true rfl) (by decide) (by decide) rfl (BC_monoI h (fun x2 N2 h => ?_))
    refine B_if_eq (tgt := 39) dX10_report_16 (by decide) rfl ⟨fun q => ?_, fun q => ?_⟩
    · replace h := h.1 q
      refine A_bipush (v := (-2)) dX10_report_39 (by decide +kernel) ?_
      exact A_iret dX10_report_41 ⟨rfl, _, rfl, h⟩
    · replace h := h.2 q
      refine A_iload_n dX10_report_19 rfl rfl ?_
      refine A_iconst (v := 0) dX10_report_20 rfl ?_
      refine A_iconst (v := 2) dX10_report_21 rfl ?_
      refine B_callS_I (av := [vI a3, vI 0, vI 2]) rfl dX10_report_22 vX10_186 mX10_in rfl (Nat.le_of_ble_eq_true rfl) (by decide) (by decide) rfl (BC_monoI h (fun x3 N3 h => ?_))
      refine B_if_eq (tgt := 39) dX10_report_25 (by decide) rfl ⟨fun q => ?_, fun q => ?_⟩
      · replace h := h.1 q
        refine A_bipush (v := (-2)) dX10_report_39 (by decide +kernel) ?_
        exact A_iret dX10_report_41 ⟨rfl, _, rfl, h⟩
      · replace h := h.2 q
        refine A_iload dX10_report_28 rfl ?_
        refine A_iconst (v := 0) dX10_report_30 rfl ?_
        refine A_bipush (v := 10) dX10_report_31 (by decide +kernel) ?_
        refine B_callS_I (av := [vI a5, vI 0, vI 10]) rfl dX10_report_33 vX10_186 mX10_in rfl (Nat.le_of_ble_eq_true rfl) (by decide) (by decide) rfl (BC_monoI h (fun x4 N4 h => ?_))
        refine B_if_ne (tgt := 42) dX10_report_36 (by decide) rfl ⟨fun q => ?_, fun q => ?_⟩
        · replace h := h.1 q
          refine A_aload_n dX10_report_42 rfl rfl ?_
          refine A_iload_n dX10_report_43 rfl rfl ?_
          refine A_iload_n dX10_report_44 rfl rfl ?_
          refine A_iload dX10_report_45 rfl ?_
          refine A_iload dX10_report_47 rfl ?_
          refine B_callV_I (av := [vI a2, vI a3, vI a4, vI a5]) rfl dX10_report_49 vX10_515 mX10_noRow ⟨rfl, rfl, by decide⟩ (okK10 (by omega)) rfl (Nat.le_of_ble_eq_true rfl) (by decide) (by decide) rfl (BC_monoI h (fun x5 N5 h => ?_))
          refine A_istore (ls' := [(6, _), (0, _), (1, _), (2, _), (3, _), (4, _), (5, _)]) dX10_report_52 (by decide) rfl ?_
          refine A_iload dX10_report_54 rfl ?_
          refine B_if_ge (tgt := 62) dX10_report_56 (by decide) rfl ⟨fun q => ?_, fun q => ?_⟩
          · replace h := h.1 q
            refine A_iconst (v := 0) dX10_report_62 rfl ?_
            refine A_istore (ls' := [(7, _), (6, _), (0, _), (1, _), (2, _), (3, _), (4, _), (5, _)]) dX10_report_63 (by decide) rfl ?_
            exact A_pick [2, 3, 4, 6, 7, 0] rfl h
          · replace h := h.2 q
            refine A_iload dX10_report_59 rfl ?_
            exact A_iret dX10_report_61 ⟨rfl, _, rfl, h⟩
        · replace h := h.2 q
          refine A_bipush (v := (-2)) dX10_report_39 (by decide +kernel) ?_
          exact A_iret dX10_report_41 ⟨rfl, _, rfl, h⟩
set_option maxRecDepth 100000 in
set_option maxHeartbeats 4000000 in
theorem vc_X10_report_65 {G : GT} {l1 : Int} {l2 : Int} {l4 : Int} {l5 : Int} {l7 : Int} {N : NN} {K : Int → NN → Prop}  (h : (((wI l5) ≤ (wI l7) → K ((-1)) N) ∧ (¬ ((wI l5) ≤ (wI l7)) → (∃ j1 : Nat, (wI (((40 * l2) + l4) + l7)) = (j1 : Int) ∧ j1 < 160 ∧ (∃ j2 : Nat, (wI ((10 * l1) + l7)) = (j2 : Int) ∧ j2 < 610 ∧ (((wL ((wI (N 85 0 j1)))) = (wL (N 80 0 j2)) → W_X10_report G K 65 [(0, vR 10 0), (1, vI l1), (2, vI l2), (4, vI l4), (5, vI l5), (7, vI (l7 + 1))] [] N) ∧ (¬ ((wL ((wI (N 85 0 j1)))) = (wL (N 80 0 j2))) → K l7 N))))))) : W_X10_report G K 65 [(0, vR 10 0), (1, vI l1), (2, vI l2), (4, vI l4), (5, vI l5), (7, vI l7)] [] N := by
  refine A_iload dX10_report_65 rfl ?_
  refine A_iload dX10_report_67 rfl ?_
  refine B_icmp_ge (tgt := 113) dX10_report_69 (by decide) rfl rfl ⟨fun q => ?_, fun q => ?_⟩
  · replace h := h.1 q
    refine A_iconst (v := (-1)) dX10_report_113 rfl ?_
    exact A_iret dX10_report_114 ⟨rfl, _, rfl, h⟩
  · replace h := h.2 q
    refine A_aload_n dX10_report_72 rfl rfl ?_
    refine A_getR (c2 := 85) (i2 := 0) dX10_report_73 fX10_160 rfl (okK10 (by omega)) rfl ?_
    refine A_bipush (v := 40) dX10_report_76 (by decide +kernel) ?_
    refine A_iload_n dX10_report_78 rfl rfl ?_
    refine A_imul dX10_report_79 ?_
    refine A_iload dX10_report_80 rfl ?_
    refine A_iadd dX10_report_82 ?_
    refine A_iload dX10_report_83 rfl ?_
    refine A_iadd dX10_report_85 ?_
    obtain ⟨j1, qj1, bj1, h⟩ := h
    refine A_iald (j := j1) dX10_report_86 (by decide) rfl (okK85 (by omega)) qj1 bj1 ?_
    refine B_i2l dX10_report_87 rfl ?_
    refine A_aload_n dX10_report_88 rfl rfl ?_
    refine A_getR (c2 := 80) (i2 := 0) dX10_report_89 fX10_145 rfl (okK10 (by omega)) rfl ?_
    refine A_bipush (v := 10) dX10_report_92 (by decide +kernel) ?_
    refine A_iload_n dX10_report_94 rfl rfl ?_
    refine A_imul dX10_report_95 ?_
    refine A_iload dX10_report_96 rfl ?_
    refine A_iadd dX10_report_98 ?_
    obtain ⟨j2, qj2, bj2, h⟩ := h
    refine A_lald (j := j2) dX10_report_99 (by decide) rfl (okK80 (by omega)) qj2 bj2 ?_
    refine B_lcmp_eq (tgt := 107) dX10_report_100 rfl dX10_report_101 (by decide) rfl rfl ⟨fun q => ?_, fun q => ?_⟩
    · replace h := h.1 q
      refine A_iinc (ls' := [(7, _), (0, _), (1, _), (2, _), (4, _), (5, _)]) dX10_report_107 (by decide) rfl rfl rfl ?_
      refine A_goto (tgt := 65) dX10_report_110 (by decide) ?_
      exact A_pick [1, 2, 3, 4, 5, 0] rfl h
    · replace h := h.2 q
      refine A_iload dX10_report_104 rfl ?_
      exact A_iret dX10_report_106 ⟨rfl, _, rfl, h⟩
set_option maxRecDepth 100000 in
set_option maxHeartbeats 4000000 in
theorem vc_X10_loans {G : GT} {a1 : Int} {a2 : Int} {a3 : Int} {a4 : Int} {N : NN} {K : Int → NN → Prop}  (h : (C_X10_isSheet G a1 N (fun x1 N1 => (((wI x1) = 0 → K ((-2)) N1) ∧ (¬ ((wI x1) = 0) → (C_X10_in G a2 0 2 N1 (fun x2 N2 => (((wI x2) = 0 → K ((-2)) N2) ∧ (¬ ((wI x2) = 0) → (C_X10_in G a4 0 10 N2 (fun x3 N3 => (((wI x3) ≠ 0 → (C_X10_noRow G a1 a2 a3 0 N3 (fun x4 N4 => ((0 ≤ (wI x4) → (((wI a4) ≤ 0 → W_X10_loans G K 66 [(0, vR 10 0), (1, vI a1), (3, vI a3), (4, vI a4), (6, vI 0), (7, vI 0)] [] N4) ∧ (¬ ((wI a4) ≤ 0) → ((0 ≤ (wI a3) → W_X10_loans G K 66 [(0, vR 10 0), (1, vI a1), (3, vI a3), (4, vI a4), (6, vI 0), (7, vI 0)] [] N4) ∧ (¬ (0 ≤ (wI a3)) → K ((-12)) N4))))) ∧ (¬ (0 ≤ (wI x4)) → K x4 N4))))) ∧ (¬ ((wI x3) ≠ 0) → K ((-2)) N3))))))))))))) : C_X10_loans G a1 a2 a3 a4 N K := by
  refine Ctr.ofAW RX10 false rfl (by decide +kernel) (fun q => by cases q) (Nat.le_of_ble_eq_true rfl) (Nat.le_refl _) ?_
  refine A_iload_n dX10_loans_0 rfl rfl ?_
  refine B_callS_I (av := [vI a1]) rfl dX10_loans_1 vX10_512 mX10_isSheet rfl (Nat.le_of_ble_eq_true rfl) (by decide) (by decide) rfl (BC_monoI h (fun x1 N1 h => ?_))
  refine B_if_eq (tgt := 27) dX10_loans_4 (by decide) rfl ⟨fun q => ?_, fun q => ?_⟩
  · replace h := h.1 q
    refine A_bipush (v := (-2)) dX10_loans_27 (by decide +kernel) ?_
    exact A_iret dX10_loans_29 ⟨rfl, _, rfl, h⟩
  · replace h := h.2 q
    refine A_iload_n dX10_loans_7 rfl rfl ?_
    refine A_iconst (v := 0) dX10_loans_8 rfl ?_
    refine A_iconst (v := 2) dX10_loans_9 rfl ?_
    refine B_callS_I (av := [vI a2, vI 0, vI 2]) rfl dX10_loans_10 vX10_186 mX10_in rfl (Nat.le_of_ble_eq_true rfl) (by decide) (by decide) rfl (BC_monoI h (fun x2 N2 h => ?_))
    refine B_if_eq (tgt := 27) dX10_loans_13 (by decide) rfl ⟨fun q => ?_, fun q => ?_⟩
    · replace h := h.1 q
      refine A_bipush (v := (-2)) dX10_loans_27 (by decide +kernel) ?_
      exact A_iret dX10_loans_29 ⟨rfl, _, rfl, h⟩
    · replace h := h.2 q
      refine A_iload dX10_loans_16 rfl ?_
      refine A_iconst (v := 0) dX10_loans_18 rfl ?_
      refine A_bipush (v := 10) dX10_loans_19 (by decide +kernel) ?_
      refine B_callS_I (av := [vI a4, vI 0, vI 10]) rfl dX10_loans_21 vX10_186 mX10_in rfl (Nat.le_of_ble_eq_true rfl) (by decide) (by decide) rfl (BC_monoI h (fun x3 N3 h => ?_))
      refine B_if_ne (tgt := 30) dX10_loans_24 (by decide) rfl ⟨fun q => ?_, fun q => ?_⟩
      · replace h := h.1 q
        refine A_aload_n dX10_loans_30 rfl rfl ?_
        refine A_iload_n dX10_loans_31 rfl rfl ?_
        refine A_iload_n dX10_loans_32 rfl rfl ?_
        refine A_iload_n dX10_loans_33 rfl rfl ?_
        refine A_iconst (v := 0) dX10_loans_34 rfl ?_
        refine B_callV_I (av := [vI a1, vI a2, vI a3, vI 0]) rfl dX10_loans_35 vX10_515 mX10_noRow ⟨rfl, rfl, by decide⟩ (okK10 (by omega)) rfl (Nat.le_of_ble_eq_true rfl) (by decide) (by decide) rfl (BC_monoI h (fun x4 N4 h => ?_))
        refine A_istore (ls' := [(5, _), (0, _), (1, _), (2, _), (3, _), (4, _)]) dX10_loans_38 (by decide) rfl ?_
        refine A_iload dX10_loans_40 rfl ?_
        refine B_if_ge (tgt := 48) dX10_loans_42 (by decide) rfl ⟨fun q => ?_, fun q => ?_⟩
        · replace h := h.1 q
          refine A_iload dX10_loans_48 rfl ?_
          refine B_if_le (tgt := 60) dX10_loans_50 (by decide) rfl ⟨fun q => ?_, fun q => ?_⟩
          · replace h := h.1 q
            refine A_iconst (v := 0) dX10_loans_60 rfl ?_
            refine A_istore (ls' := [(6, _), (5, _), (0, _), (1, _), (2, _), (3, _), (4, _)]) dX10_loans_61 (by decide) rfl ?_
            refine A_iconst (v := 0) dX10_loans_63 rfl ?_
            refine A_istore (ls' := [(7, _), (6, _), (5, _), (0, _), (1, _), (2, _), (3, _), (4, _)]) dX10_loans_64 (by decide) rfl ?_
            exact A_pick [3, 4, 6, 7, 1, 0] rfl h
          · replace h := h.2 q
            refine A_iload_n dX10_loans_53 rfl rfl ?_
            refine B_if_ge (tgt := 60) dX10_loans_54 (by decide) rfl ⟨fun q => ?_, fun q => ?_⟩
            · replace h := h.1 q
              refine A_iconst (v := 0) dX10_loans_60 rfl ?_
              refine A_istore (ls' := [(6, _), (5, _), (0, _), (1, _), (2, _), (3, _), (4, _)]) dX10_loans_61 (by decide) rfl ?_
              refine A_iconst (v := 0) dX10_loans_63 rfl ?_
              refine A_istore (ls' := [(7, _), (6, _), (5, _), (0, _), (1, _), (2, _), (3, _), (4, _)]) dX10_loans_64 (by decide) rfl ?_
              exact A_pick [3, 4, 6, 7, 1, 0] rfl h
            · replace h := h.2 q
              refine A_bipush (v := (-12)) dX10_loans_57 (by decide +kernel) ?_
              exact A_iret dX10_loans_59 ⟨rfl, _, rfl, h⟩
        · replace h := h.2 q
          refine A_iload dX10_loans_45 rfl ?_
          exact A_iret dX10_loans_47 ⟨rfl, _, rfl, h⟩
      · replace h := h.2 q
        refine A_bipush (v := (-2)) dX10_loans_27 (by decide +kernel) ?_
        exact A_iret dX10_loans_29 ⟨rfl, _, rfl, h⟩
set_option maxRecDepth 100000 in
set_option maxHeartbeats 4000000 in
theorem vc_X10_loans_66 {G : GT} {l1 : Int} {l3 : Int} {l4 : Int} {l6 : Int} {l7 : Int} {N : NN} {K : Int → NN → Prop}  (h : (((wI l4) ≤ (wI l7) → K l6 N) ∧ (¬ ((wI l4) ≤ (wI l7)) → (∃ j1 : Nat, (wI l1) = (j1 : Int) ∧ j1 < 4 ∧ (((wI l3) ≤ (wI (((N 84 0 j1) - (4 * l7)) - 4)) → (∃ j2 : Nat, (wI (((40 * l1) + l3) + (4 * l7))) = (j2 : Int) ∧ j2 < 160 ∧ (∃ j3 : Nat, (wI ((((40 * l1) + l3) + (4 * l7)) + 1)) = (j3 : Int) ∧ j3 < 160 ∧ (∃ j4 : Nat, (wI ((((40 * l1) + l3) + (4 * l7)) + 2)) = (j4 : Int) ∧ j4 < 160 ∧ (∃ j5 : Nat, (wI ((((40 * l1) + l3) + (4 * l7)) + 3)) = (j5 : Int) ∧ j5 < 160 ∧ (C_X10_loan G (N 85 0 j2) (N 85 0 j3) (N 85 0 j4) (N 85 0 j5) N (fun x6 N6 => (((wI x6) < 0 → W_X10_loans G K 66 [(0, vR 10 0), (1, vI l1), (3, vI l3), (4, vI l4), (6, vI l6), (7, vI (l7 + 1))] [] N6) ∧ (¬ ((wI x6) < 0) → W_X10_loans G K 66 [(0, vR 10 0), (1, vI l1), (3, vI l3), (4, vI l4), (6, vI (l6 + 1)), (7, vI (l7 + 1))] [] N6))))))))) ∧ (¬ ((wI l3) ≤ (wI (((N 84 0 j1) - (4 * l7)) - 4))) → K ((-12)) N)))))) : W_X10_loans G K 66 [(0, vR 10 0), (1, vI l1), (3, vI l3), (4, vI l4), (6, vI l6), (7, vI l7)] [] N := by
  refine A_iload dX10_loans_66 rfl ?_
  refine A_iload dX10_loans_68 rfl ?_
  refine B_icmp_ge (tgt := 156) dX10_loans_70 (by decide) rfl rfl ⟨fun q => ?_, fun q => ?_⟩
  · replace h := h.1 q
    refine A_iload dX10_loans_156 rfl ?_
    exact A_iret dX10_loans_158 ⟨rfl, _, rfl, h⟩
  · replace h := h.2 q
    refine A_iload_n dX10_loans_73 rfl rfl ?_
    refine A_aload_n dX10_loans_74 rfl rfl ?_
    refine A_getR (c2 := 84) (i2 := 0) dX10_loans_75 fX10_157 rfl (okK10 (by omega)) rfl ?_
    refine A_iload_n dX10_loans_78 rfl rfl ?_
    obtain ⟨j1, qj1, bj1, h⟩ := h
    refine A_iald (j := j1) dX10_loans_79 (by decide) rfl (okK84 (by omega)) qj1 bj1 ?_
    refine A_iconst (v := 4) dX10_loans_80 rfl ?_
    refine A_iload dX10_loans_81 rfl ?_
    refine A_imul dX10_loans_83 ?_
    refine A_isub dX10_loans_84 ?_
    refine A_iconst (v := 4) dX10_loans_85 rfl ?_
    refine A_isub dX10_loans_86 ?_
    refine B_icmp_le (tgt := 93) dX10_loans_87 (by decide) rfl rfl ⟨fun q => ?_, fun q => ?_⟩
    · replace h := h.1 q
      refine A_bipush (v := 40) dX10_loans_93 (by decide +kernel) ?_
      refine A_iload_n dX10_loans_95 rfl rfl ?_
      refine A_imul dX10_loans_96 ?_
      refine A_iload_n dX10_loans_97 rfl rfl ?_
      refine A_iadd dX10_loans_98 ?_
      refine A_iconst (v := 4) dX10_loans_99 rfl ?_
      refine A_iload dX10_loans_100 rfl ?_
      refine A_imul dX10_loans_102 ?_
      refine A_iadd dX10_loans_103 ?_
      refine A_istore (ls' := [(8, _), (0, _), (1, _), (3, _), (4, _), (6, _), (7, _)]) dX10_loans_104 (by decide) rfl ?_
      refine A_aload_n dX10_loans_106 rfl rfl ?_
      refine A_aload_n dX10_loans_107 rfl rfl ?_
      refine A_getR (c2 := 85) (i2 := 0) dX10_loans_108 fX10_160 rfl (okK10 (by omega)) rfl ?_
      refine A_iload dX10_loans_111 rfl ?_
      obtain ⟨j2, qj2, bj2, h⟩ := h
      refine A_iald (j := j2) dX10_loans_113 (by decide) rfl (okK85 (by omega)) qj2 bj2 ?_
      refine A_aload_n dX10_loans_114 rfl rfl ?_
      refine A_getR (c2 := 85) (i2 := 0) dX10_loans_115 fX10_160 rfl (okK10 (by omega)) rfl ?_
      refine A_iload dX10_loans_118 rfl ?_
      refine A_iconst (v := 1) dX10_loans_120 rfl ?_
      refine A_iadd dX10_loans_121 ?_
      obtain ⟨j3, qj3, bj3, h⟩ := h
      refine A_iald (j := j3) dX10_loans_122 (by decide) rfl (okK85 (by omega)) qj3 bj3 ?_
      refine A_aload_n dX10_loans_123 rfl rfl ?_
      refine A_getR (c2 := 85) (i2 := 0) dX10_loans_124 fX10_160 rfl (okK10 (by omega)) rfl ?_
      refine A_iload dX10_loans_127 rfl ?_
      refine A_iconst (v := 2) dX10_loans_129 rfl ?_
      refine A_iadd dX10_loans_130 ?_
      obtain ⟨j4, qj4, bj4, h⟩ := h
      refine A_iald (j := j4) dX10_loans_131 (by decide) rfl (okK85 (by omega)) qj4 bj4 ?_
      refine A_aload_n dX10_loans_132 rfl rfl ?_
      refine A_getR (c2 := 85) (i2 := 0) dX10_loans_133 fX10_160 rfl (okK10 (by omega)) rfl ?_
      refine A_iload dX10_loans_136 rfl ?_
      refine A_iconst (v := 3) dX10_loans_138 rfl ?_
      refine A_iadd dX10_loans_139 ?_
      obtain ⟨j5, qj5, bj5, h⟩ := h
      refine A_iald (j := j5) dX10_loans_140 (by decide) rfl (okK85 (by omega)) qj5 bj5 ?_
      refine B_callV_I (av := [vI (N 85 0 j2), vI (N 85 0 j3), vI (N 85 0 j4), vI (N 85 0 j5)]) rfl dX10_loans_141 vX10_518 mX10_loan ⟨rfl, rfl, by decide⟩ (okK10 (by omega)) rfl (Nat.le_of_ble_eq_true rfl) (by decide) (by decide) rfl (BC_monoI h (fun x6 N6 h => ?_))
      refine B_if_lt (tgt := 150) dX10_loans_144 (by decide) rfl ⟨fun q => ?_, fun q => ?_⟩
      · replace h := h.1 q
        refine A_iinc (ls' := [(7, _), (8, _), (0, _), (1, _), (3, _), (4, _), (6, _)]) dX10_loans_150 (by decide) rfl rfl rfl ?_
        refine A_goto (tgt := 66) dX10_loans_153 (by decide) ?_
        exact A_pick [2, 3, 4, 5, 6, 0] rfl h
      · replace h := h.2 q
        refine A_iinc (ls' := [(6, _), (8, _), (0, _), (1, _), (3, _), (4, _), (7, _)]) dX10_loans_147 (by decide) rfl rfl rfl ?_
        refine A_iinc (ls' := [(7, _), (6, _), (8, _), (0, _), (1, _), (3, _), (4, _)]) dX10_loans_150 (by decide) rfl rfl rfl ?_
        refine A_goto (tgt := 66) dX10_loans_153 (by decide) ?_
        exact A_pick [3, 4, 5, 6, 1, 0] rfl h
    · replace h := h.2 q
      refine A_bipush (v := (-12)) dX10_loans_90 (by decide +kernel) ?_
      exact A_iret dX10_loans_92 ⟨rfl, _, rfl, h⟩
set_option maxRecDepth 100000 in
set_option maxHeartbeats 4000000 in
theorem vc_X10_over {G : GT} {a0 : Int} {N : NN} {K : Int → NN → Prop}  (h : (((wI a0) ≠ 0 → (((wI a0) ≠ 2 → (((wI a0) ≠ 4 → (((wI a0) ≠ 5 → K 0 N) ∧ (¬ ((wI a0) ≠ 5) → K 3 N))) ∧ (¬ ((wI a0) ≠ 4) → K 2 N))) ∧ (¬ ((wI a0) ≠ 2) → K 1 N))) ∧ (¬ ((wI a0) ≠ 0) → K ((-1)) N))) : C_X10_over G a0 N K := by
  refine Ctr.ofAW RX10 false rfl (by decide +kernel) (fun q => by cases q) (Nat.le_of_ble_eq_true rfl) (Nat.le_refl _) ?_
  refine A_iload_n dX10_over_0 rfl rfl ?_
  refine B_if_ne (tgt := 8) dX10_over_1 (by decide) rfl ⟨fun q => ?_, fun q => ?_⟩
  · replace h := h.1 q
    refine A_iload_n dX10_over_8 rfl rfl ?_
    refine A_iconst (v := 2) dX10_over_9 rfl ?_
    refine B_icmp_ne (tgt := 17) dX10_over_10 (by decide) rfl (wlitI (by decide) (by decide)) ⟨fun q => ?_, fun q => ?_⟩
    · replace h := h.1 q
      refine A_iload_n dX10_over_17 rfl rfl ?_
      refine A_iconst (v := 4) dX10_over_18 rfl ?_
      refine B_icmp_ne (tgt := 26) dX10_over_19 (by decide) rfl (wlitI (by decide) (by decide)) ⟨fun q => ?_, fun q => ?_⟩
      · replace h := h.1 q
        refine A_iload_n dX10_over_26 rfl rfl ?_
        refine A_iconst (v := 5) dX10_over_27 rfl ?_
        refine B_icmp_ne (tgt := 35) dX10_over_28 (by decide) rfl (wlitI (by decide) (by decide)) ⟨fun q => ?_, fun q => ?_⟩
        · replace h := h.1 q
          refine A_iconst (v := 0) dX10_over_35 rfl ?_
          exact A_iret dX10_over_36 ⟨rfl, _, rfl, h⟩
        · replace h := h.2 q
          refine A_iconst (v := 3) dX10_over_31 rfl ?_
          refine A_goto (tgt := 36) dX10_over_32 (by decide) ?_
          exact A_iret dX10_over_36 ⟨rfl, _, rfl, h⟩
      · replace h := h.2 q
        refine A_iconst (v := 2) dX10_over_22 rfl ?_
        refine A_goto (tgt := 36) dX10_over_23 (by decide) ?_
        exact A_iret dX10_over_36 ⟨rfl, _, rfl, h⟩
    · replace h := h.2 q
      refine A_iconst (v := 1) dX10_over_13 rfl ?_
      refine A_goto (tgt := 36) dX10_over_14 (by decide) ?_
      exact A_iret dX10_over_36 ⟨rfl, _, rfl, h⟩
  · replace h := h.2 q
    refine A_iconst (v := (-1)) dX10_over_4 rfl ?_
    refine A_goto (tgt := 36) dX10_over_5 (by decide) ?_
    exact A_iret dX10_over_36 ⟨rfl, _, rfl, h⟩
set_option maxRecDepth 100000 in
set_option maxHeartbeats 4000000 in
theorem vc_X10_taken {G : GT} {a1 : Int} {a2 : Int} {N : NN} {K : Int → NN → Prop}  (h : (C_X10_in G a2 0 5 N (fun x1 N1 => (((wI x1) ≠ 0 → (C_X10_isLoan G a1 N1 (fun x2 N2 => (((wI x2) ≠ 0 → (∃ j3 : Nat, (wI a1) = (j3 : Int) ∧ j3 < 12 ∧ W_X10_taken G K 30 [(0, vR 10 0), (1, vI a1), (2, vI a2), (3, vI (N2 40 0 j3))] [] N2)) ∧ (¬ ((wI x2) ≠ 0) → K ((-11)) N2))))) ∧ (¬ ((wI x1) ≠ 0) → K ((-2)) N1))))) : C_X10_taken G a1 a2 N K := by
  refine Ctr.ofAW RX10 false rfl (by decide +kernel) (fun q => by cases q) (Nat.le_of_ble_eq_true rfl) (Nat.le_refl _) ?_
  refine A_iload_n dX10_taken_0 rfl rfl ?_
  refine A_iconst (v := 0) dX10_taken_1 rfl ?_
  refine A_iconst (v := 5) dX10_taken_2 rfl ?_
  refine B_callS_I (av := [vI a2, vI 0, vI 5]) rfl dX10_taken_3 vX10_186 mX10_in rfl (Nat.le_of_ble_eq_true rfl) (by decide) (by decide) rfl (BC_monoI h (fun x1 N1 h => ?_))
  refine B_if_ne (tgt := 12) dX10_taken_6 (by decide) rfl ⟨fun q => ?_, fun q => ?_⟩
  · replace h := h.1 q
    refine A_aload_n dX10_taken_12 rfl rfl ?_
    refine A_iload_n dX10_taken_13 rfl rfl ?_
    refine B_callV_I (av := [vI a1]) rfl dX10_taken_14 vX10_198 mX10_isLoan ⟨rfl, rfl, by decide⟩ (okK10 (by omega)) rfl (Nat.le_of_ble_eq_true rfl) (by decide) (by decide) rfl (BC_monoI h (fun x2 N2 h => ?_))
    refine B_if_ne (tgt := 23) dX10_taken_17 (by decide) rfl ⟨fun q => ?_, fun q => ?_⟩
    · replace h := h.1 q
      refine A_aload_n dX10_taken_23 rfl rfl ?_
      refine A_getR (c2 := 40) (i2 := 0) dX10_taken_24 fX10_13 rfl (okK10 (by omega)) rfl ?_
      refine A_iload_n dX10_taken_27 rfl rfl ?_
      obtain ⟨j3, qj3, bj3, h⟩ := h
      refine A_iald (j := j3) dX10_taken_28 (by decide) rfl (okK40 (by omega)) qj3 bj3 ?_
      refine A_istore_n (ls' := [(3, _), (0, _), (1, _), (2, _)]) dX10_taken_29 rfl (by decide) rfl ?_
      exact A_pick [1, 2, 3, 0] rfl h
    · replace h := h.2 q
      refine A_bipush (v := (-11)) dX10_taken_20 (by decide +kernel) ?_
      exact A_iret dX10_taken_22 ⟨rfl, _, rfl, h⟩
  · replace h := h.2 q
    refine A_bipush (v := (-2)) dX10_taken_9 (by decide +kernel) ?_
    exact A_iret dX10_taken_11 ⟨rfl, _, rfl, h⟩
set_option maxRecDepth 100000 in
set_option maxHeartbeats 4000000 in
theorem vc_X10_taken_30 {G : GT} {l1 : Int} {l2 : Int} {l3 : Int} {N : NN} {K : Int → NN → Prop}  (h : (((wI l3) = (-1) → (((wI l3) ≠ (wI l2) → K ((-13)) N) ∧ (¬ ((wI l3) ≠ (wI l2)) → (∃ j1 : Nat, (wI l1) = (j1 : Int) ∧ j1 < 12 ∧ K (N 41 0 j1) N)))) ∧ (¬ ((wI l3) = (-1)) → (((wI l3) = (wI l2) → (((wI l3) ≠ (wI l2) → K ((-13)) N) ∧ (¬ ((wI l3) ≠ (wI l2)) → (∃ j2 : Nat, (wI l1) = (j2 : Int) ∧ j2 < 12 ∧ K (N 41 0 j2) N)))) ∧ (¬ ((wI l3) = (wI l2)) → (C_X10_over G l3 N (fun x3 N3 => W_X10_taken G K 30 [(0, vR 10 0), (1, vI l1), (2, vI l2), (3, vI x3)] [] N3))))))) : W_X10_taken G K 30 [(0, vR 10 0), (1, vI l1), (2, vI l2), (3, vI l3)] [] N := by
  refine A_iload_n dX10_taken_30 rfl rfl ?_
  refine A_iconst (v := (-1)) dX10_taken_31 rfl ?_
  refine B_icmp_eq (tgt := 48) dX10_taken_32 (by decide) rfl (wlitI (by decide) (by decide)) ⟨fun q => ?_, fun q => ?_⟩
  · replace h := h.1 q
    refine A_iload_n dX10_taken_48 rfl rfl ?_
    refine A_iload_n dX10_taken_49 rfl rfl ?_
    refine B_icmp_ne (tgt := 62) dX10_taken_50 (by decide) rfl rfl ⟨fun q => ?_, fun q => ?_⟩
    · replace h := h.1 q
      refine A_bipush (v := (-13)) dX10_taken_62 (by decide +kernel) ?_
      exact A_iret dX10_taken_64 ⟨rfl, _, rfl, h⟩
    · replace h := h.2 q
      refine A_aload_n dX10_taken_53 rfl rfl ?_
      refine A_getR (c2 := 41) (i2 := 0) dX10_taken_54 fX10_17 rfl (okK10 (by omega)) rfl ?_
      refine A_iload_n dX10_taken_57 rfl rfl ?_
      obtain ⟨j1, qj1, bj1, h⟩ := h
      refine A_iald (j := j1) dX10_taken_58 (by decide) rfl (okK41 (by omega)) qj1 bj1 ?_
      refine A_goto (tgt := 64) dX10_taken_59 (by decide) ?_
      exact A_iret dX10_taken_64 ⟨rfl, _, rfl, h⟩
  · replace h := h.2 q
    refine A_iload_n dX10_taken_35 rfl rfl ?_
    refine A_iload_n dX10_taken_36 rfl rfl ?_
    refine B_icmp_eq (tgt := 48) dX10_taken_37 (by decide) rfl rfl ⟨fun q => ?_, fun q => ?_⟩
    · replace h := h.1 q
      refine A_iload_n dX10_taken_48 rfl rfl ?_
      refine A_iload_n dX10_taken_49 rfl rfl ?_
      refine B_icmp_ne (tgt := 62) dX10_taken_50 (by decide) rfl rfl ⟨fun q => ?_, fun q => ?_⟩
      · replace h := h.1 q
        refine A_bipush (v := (-13)) dX10_taken_62 (by decide +kernel) ?_
        exact A_iret dX10_taken_64 ⟨rfl, _, rfl, h⟩
      · replace h := h.2 q
        refine A_aload_n dX10_taken_53 rfl rfl ?_
        refine A_getR (c2 := 41) (i2 := 0) dX10_taken_54 fX10_17 rfl (okK10 (by omega)) rfl ?_
        refine A_iload_n dX10_taken_57 rfl rfl ?_
        obtain ⟨j2, qj2, bj2, h⟩ := h
        refine A_iald (j := j2) dX10_taken_58 (by decide) rfl (okK41 (by omega)) qj2 bj2 ?_
        refine A_goto (tgt := 64) dX10_taken_59 (by decide) ?_
        exact A_iret dX10_taken_64 ⟨rfl, _, rfl, h⟩
    · replace h := h.2 q
      refine A_iload_n dX10_taken_40 rfl rfl ?_
      refine B_callS_I (av := [vI l3]) rfl dX10_taken_41 vX10_521 mX10_over rfl (Nat.le_of_ble_eq_true rfl) (by decide) (by decide) rfl (BC_monoI h (fun x3 N3 h => ?_))
      refine A_istore_n (ls' := [(3, _), (0, _), (1, _), (2, _)]) dX10_taken_44 rfl (by decide) rfl ?_
      refine A_goto (tgt := 30) dX10_taken_45 (by decide) ?_
      exact A_pick [1, 2, 3, 0] rfl h
