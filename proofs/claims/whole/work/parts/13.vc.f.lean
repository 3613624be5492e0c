set_option maxRecDepth 100000 in
set_option maxHeartbeats 4000000 in
theorem vc_X10_in {G : GT} {a0 : Int} {a1 : Int} {a2 : Int} {N : NN} {K : Int → NN → Prop}  (h : (((wI a0) < (wI a1) → K 0 N) ∧ (¬ ((wI a0) < (wI a1)) → (((wI a2) < (wI a0) → K 0 N) ∧ (¬ ((wI a2) < (wI a0)) → K 1 N))))) : C_X10_in G a0 a1 a2 N K := by
  refine Ctr.ofAW RX10 false rfl (by decide +kernel) (fun q => by cases q) (Nat.le_of_ble_eq_true rfl) (Nat.le_refl _) ?_
  refine A_iload_n dX10_in_0 rfl rfl ?_
  refine A_iload_n dX10_in_1 rfl rfl ?_
  refine B_icmp_lt (tgt := 14) dX10_in_2 (by decide) rfl rfl ⟨fun q => ?_, fun q => ?_⟩
  · replace h := h.1 q
    refine A_iconst (v := 0) dX10_in_14 rfl ?_
    exact A_zret dX10_in_15 (by decide) ⟨rfl, _, rfl, h⟩
  · replace h := h.2 q
    refine A_iload_n dX10_in_5 rfl rfl ?_
    refine A_iload_n dX10_in_6 rfl rfl ?_
    refine B_icmp_gt (tgt := 14) dX10_in_7 (by decide) rfl rfl ⟨fun q => ?_, fun q => ?_⟩
    · replace h := h.1 q
      refine A_iconst (v := 0) dX10_in_14 rfl ?_
      exact A_zret dX10_in_15 (by decide) ⟨rfl, _, rfl, h⟩
    · replace h := h.2 q
      refine A_iconst (v := 1) dX10_in_10 rfl ?_
      refine A_goto (tgt := 15) dX10_in_11 (by decide) ?_
      exact A_zret dX10_in_15 (by decide) ⟨rfl, _, rfl, h⟩
set_option maxRecDepth 100000 in
set_option maxHeartbeats 4000000 in
theorem vc_X10_spell {G : GT} {a1 : Int} {a2 : Int} {N : NN} {K : NN → Prop}  (h : W_X10_spell G K 3 [(0, vR 10 0), (1, vI a1), (2, vL a2), (4, vI 0)] [] N) : C_X10_spell G a1 a2 N K := by
  refine Ctr.ofAW RX10 false rfl (by decide +kernel) (fun q => by cases q) (Nat.le_of_ble_eq_true rfl) (Nat.le_refl _) ?_
  refine A_iconst (v := 0) dX10_spell_0 rfl ?_
  refine A_istore (ls' := [(4, _), (0, _), (1, _), (2, _)]) dX10_spell_1 (by decide) rfl ?_
  exact A_pick [1, 2, 3, 0] rfl h
set_option maxRecDepth 100000 in
set_option maxHeartbeats 4000000 in
theorem vc_X10_spell_3 {G : GT} {l1 : Int} {l2 : Int} {l4 : Int} {N : NN} {K : NN → Prop}  (h : ((8 ≤ (wI l4) → K N) ∧ (¬ (8 ≤ (wI l4)) → (∃ j1 : Nat, (wI (l1 + l4)) = (j1 : Int) ∧ j1 < 1120 ∧ (∀ M2 : NN, M2 = up3 N 57 0 j1 (andL (shrL l2 (56 - (8 * l4))) 255) → W_X10_spell G K 3 [(0, vR 10 0), (1, vI l1), (2, vL l2), (4, vI (l4 + 1))] [] M2))))) : W_X10_spell G K 3 [(0, vR 10 0), (1, vI l1), (2, vL l2), (4, vI l4)] [] N := by
  refine A_iload dX10_spell_3 rfl ?_
  refine A_bipush (v := 8) dX10_spell_5 (by decide +kernel) ?_
  refine B_icmp_ge (tgt := 40) dX10_spell_7 (by decide) rfl (wlitI (by decide) (by decide)) ⟨fun q => ?_, fun q => ?_⟩
  · replace h := h.1 q
    exact A_vret dX10_spell_40 ⟨rfl, rfl, h⟩
  · replace h := h.2 q
    refine A_aload_n dX10_spell_10 rfl rfl ?_
    refine A_getR (c2 := 57) (i2 := 0) dX10_spell_11 fX10_69 rfl (okK10 (by omega)) rfl ?_
    refine A_iload_n dX10_spell_14 rfl rfl ?_
    refine A_iload dX10_spell_15 rfl ?_
    refine A_iadd dX10_spell_17 ?_
    refine A_lload_n dX10_spell_18 rfl rfl ?_
    refine A_bipush (v := 56) dX10_spell_19 (by decide +kernel) ?_
    refine A_bipush (v := 8) dX10_spell_21 (by decide +kernel) ?_
    refine A_iload dX10_spell_23 rfl ?_
    refine A_imul dX10_spell_25 ?_
    refine A_isub dX10_spell_26 ?_
    refine A_lshr dX10_spell_27 ?_
    refine A_ldc2 (x := 255) dX10_spell_28 kX10_181 (by decide +kernel) ?_
    refine A_land dX10_spell_31 ?_
    refine A_l2i dX10_spell_32 ?_
    obtain ⟨j1, qj1, bj1, h⟩ := h
    refine B_iast (j := j1) dX10_spell_33 (by decide) rfl (okK57 (by omega)) qj1 bj1 (fun M2 eM2 => ?_)
    replace h := h M2 eM2
    refine A_iinc (ls' := [(4, _), (0, _), (1, _), (2, _)]) dX10_spell_34 (by decide) rfl rfl rfl ?_
    refine A_goto (tgt := 3) dX10_spell_37 (by decide) ?_
    exact A_pick [1, 2, 3, 0] rfl h
set_option maxRecDepth 100000 in
set_option maxHeartbeats 4000000 in
theorem vc_X10_isLoan {G : GT} {a1 : Int} {N : NN} {K : Int → NN → Prop}  (h : (C_X10_in G a1 0 ((N 10 0 2) - 1) N (fun x1 N1 => ((x1 = 0 ∨ x1 = 1) ∧ K x1 N1)))) : C_X10_isLoan G a1 N K := by
  refine Ctr.ofAW RX10 false rfl (by decide +kernel) (fun q => by cases q) (Nat.le_of_ble_eq_true rfl) (Nat.le_refl _) ?_
  refine A_iload_n dX10_isLoan_0 rfl rfl ?_
  refine A_iconst (v := 0) dX10_isLoan_1 rfl ?_
  refine A_aload_n dX10_isLoan_2 rfl rfl ?_
  refine A_getI dX10_isLoan_3 fX10_183 rfl (okK10 (by omega)) ?_
  refine A_iconst (v := 1) dX10_isLoan_6 rfl ?_
  refine A_isub dX10_isLoan_7 ?_
  refine B_callS_I (av := [vI a1, vI 0, vI ((N 10 0 2) - 1)]) rfl dX10_isLoan_8 vX10_186 mX10_in rfl (Nat.le_of_ble_eq_true rfl) (by decide) (by decide) rfl (BC_monoI h (fun x1 N1 h => ?_))
  exact A_zret dX10_isLoan_11 h.1 ⟨rfl, _, rfl, h.2⟩
set_option maxRecDepth 100000 in
set_option maxHeartbeats 4000000 in
theorem vc_X10_isTold {G : GT} {a0 : Int} {a1 : Int} {a2 : Int} {a3 : Int} {N : NN} {K : Int → NN → Prop}  (h : (C_X10_in G a0 0 5 N (fun x1 N1 => (((wI x1) = 0 → K 0 N1) ∧ (¬ ((wI x1) = 0) → (C_X10_in G a1 1000 999999 N1 (fun x2 N2 => (((wI x2) = 0 → K 0 N2) ∧ (¬ ((wI x2) = 0) → (C_X10_in G a2 0 200 N2 (fun x3 N3 => (((wI x3) = 0 → K 0 N3) ∧ (¬ ((wI x3) = 0) → (C_X10_in G a3 1 60 N3 (fun x4 N4 => (((wI x4) = 0 → K 0 N4) ∧ (¬ ((wI x4) = 0) → K 1 N4))))))))))))))))) : C_X10_isTold G a0 a1 a2 a3 N K := by
  refine Ctr.ofAW RX10 false rfl (by decide +kernel) (fun q => by cases q) (Nat.le_of_ble_eq_true rfl) (Nat.le_refl _) ?_
  refine A_iload_n dX10_isTold_0 rfl rfl ?_
  refine A_iconst (v := 0) dX10_isTold_1 rfl ?_
  refine A_iconst (v := 5) dX10_isTold_2 rfl ?_
  refine B_callS_I (av := [vI a0, vI 0, vI 5]) rfl dX10_isTold_3 vX10_186 mX10_in rfl (Nat.le_of_ble_eq_true rfl) (by decide) (by decide) rfl (BC_monoI h (fun x1 N1 h => ?_))
  refine B_if_eq (tgt := 46) dX10_isTold_6 (by decide) rfl ⟨fun q => ?_, fun q => ?_⟩
  · replace h := h.1 q
    refine A_iconst (v := 0) dX10_isTold_46 rfl ?_
    exact A_zret dX10_isTold_47 (by decide) ⟨rfl, _, rfl, h⟩
  · replace h := h.2 q
    refine A_iload_n dX10_isTold_9 rfl rfl ?_
    refine A_sipush (v := 1000) dX10_isTold_10 (by decide +kernel) ?_
    refine A_ldc (x := 999999) dX10_isTold_13 kX10_190 (by decide +kernel) ?_
    refine B_callS_I (av := [vI a1, vI 1000, vI 999999]) rfl dX10_isTold_15 vX10_186 mX10_in rfl (Nat.le_of_ble_eq_true rfl) (by decide) (by decide) rfl (BC_monoI h (fun x2 N2 h => ?_))
    refine B_if_eq (tgt := 46) dX10_isTold_18 (by decide) rfl ⟨fun q => ?_, fun q => ?_⟩
    · replace h := h.1 q
      refine A_iconst (v := 0) dX10_isTold_46 rfl ?_
      exact A_zret dX10_isTold_47 (by decide) ⟨rfl, _, rfl, h⟩
    · replace h := h.2 q
      refine A_iload_n dX10_isTold_21 rfl rfl ?_
      refine A_iconst (v := 0) dX10_isTold_22 rfl ?_
      refine A_sipush (v := 200) dX10_isTold_23 (by decide +kernel) ?_
      refine B_callS_I (av := [vI a2, vI 0, vI 200]) rfl dX10_isTold_26 vX10_186 mX10_in rfl (Nat.le_of_ble_eq_true rfl) (by decide) (by decide) rfl (BC_monoI h (fun x3 N3 h => ?_))
      refine B_if_eq (tgt := 46) dX10_isTold_29 (by decide) rfl ⟨fun q => ?_, fun q => ?_⟩
      · replace h := h.1 q
        refine A_iconst (v := 0) dX10_isTold_46 rfl ?_
        exact A_zret dX10_isTold_47 (by decide) ⟨rfl, _, rfl, h⟩
      · replace h := h.2 q
        refine A_iload_n dX10_isTold_32 rfl rfl ?_
        refine A_iconst (v := 1) dX10_isTold_33 rfl ?_
        refine A_bipush (v := 60) dX10_isTold_34 (by decide +kernel) ?_
        refine B_callS_I (av := [vI a3, vI 1, vI 60]) rfl dX10_isTold_36 vX10_186 mX10_in rfl (Nat.le_of_ble_eq_true rfl) (by decide) (by decide) rfl (BC_monoI h (fun x4 N4 h => ?_))
        refine B_if_eq (tgt := 46) dX10_isTold_39 (by decide) rfl ⟨fun q => ?_, fun q => ?_⟩
        · replace h := h.1 q
          refine A_iconst (v := 0) dX10_isTold_46 rfl ?_
          exact A_zret dX10_isTold_47 (by decide) ⟨rfl, _, rfl, h⟩
        · replace h := h.2 q
          refine A_iconst (v := 1) dX10_isTold_42 rfl ?_
          refine A_goto (tgt := 47) dX10_isTold_43 (by decide) ?_
          exact A_zret dX10_isTold_47 (by decide) ⟨rfl, _, rfl, h⟩
set_option maxRecDepth 100000 in
set_option maxHeartbeats 4000000 in
theorem vc_X10_loan {G : GT} {a1 : Int} {a2 : Int} {a3 : Int} {a4 : Int} {N : NN} {K : Int → NN → Prop}  (h : (C_X10_isTold G a1 a2 a3 a4 N (fun x1 N1 => (((wI x1) ≠ 0 → (((wI (N1 10 0 1)) ≤ 0 → (((wI (N1 10 0 2)) ≠ 12 → (∃ j2 : Nat, (wI (N1 10 0 2)) = (j2 : Int) ∧ j2 < 12 ∧ (∀ M3 : NN, M3 = up3 N1 40 0 j2 a1 → (∃ j4 : Nat, (wI (M3 10 0 2)) = (j4 : Int) ∧ j4 < 12 ∧ (∀ M5 : NN, M5 = up3 M3 41 0 j4 a2 → (∃ j6 : Nat, (wI (M5 10 0 2)) = (j6 : Int) ∧ j6 < 12 ∧ (∀ M7 : NN, M7 = up3 M5 42 0 j6 a3 → (∃ j8 : Nat, (wI (M7 10 0 2)) = (j8 : Int) ∧ j8 < 12 ∧ (∀ M9 : NN, M9 = up3 M7 43 0 j8 a4 → (∃ j10 : Nat, (wI (M9 10 0 2)) = (j10 : Int) ∧ j10 < 12 ∧ (∀ M11 : NN, M11 = up3 M9 44 0 j10 0 → (∃ j12 : Nat, (wI (M11 10 0 2)) = (j12 : Int) ∧ j12 < 12 ∧ (∀ M13 : NN, M13 = up3 M11 45 0 j12 0 → (∃ j14 : Nat, (wI (M13 10 0 2)) = (j14 : Int) ∧ j14 < 12 ∧ (∀ M15 : NN, M15 = up3 M13 46 0 j14 0 → (∀ M16 : NN, M16 = up3 M15 10 0 2 ((M15 10 0 2) + 1) → K ((M16 10 0 2) - 1) M16)))))))))))))))) ∧ (¬ ((wI (N1 10 0 2)) ≠ 12) → K ((-4)) N1))) ∧ (¬ ((wI (N1 10 0 1)) ≤ 0) → K ((-3)) N1))) ∧ (¬ ((wI x1) ≠ 0) → K ((-2)) N1))))) : C_X10_loan G a1 a2 a3 a4 N K := by
  refine Ctr.ofAW RX10 false rfl (by decide +kernel) (fun q => by cases q) (Nat.le_of_ble_eq_true rfl) (Nat.le_refl _) ?_
  refine A_iload_n dX10_loan_0 rfl rfl ?_
  refine A_iload_n dX10_loan_1 rfl rfl ?_
  refine A_iload_n dX10_loan_2 rfl rfl ?_
  refine A_iload dX10_loan_3 rfl ?_
  refine B_callS_I (av := [vI a1, vI a2, vI a3, vI a4]) rfl dX10_loan_5 vX10_191 mX10_isTold rfl (Nat.le_of_ble_eq_true rfl) (by decide) (by decide) rfl (BC_monoI h (fun x1 N1 h => ?_))
  refine B_if_ne (tgt := 14) dX10_loan_8 (by decide) rfl ⟨fun q => ?_, fun q => ?_⟩
  · replace h := h.1 q
    refine A_aload_n dX10_loan_14 rfl rfl ?_
    refine A_getI dX10_loan_15 fX10_195 rfl (okK10 (by omega)) ?_
    refine B_if_le (tgt := 24) dX10_loan_18 (by decide) rfl ⟨fun q => ?_, fun q => ?_⟩
    · replace h := h.1 q
      refine A_aload_n dX10_loan_24 rfl rfl ?_
      refine A_getI dX10_loan_25 fX10_183 rfl (okK10 (by omega)) ?_
      refine A_bipush (v := 12) dX10_loan_28 (by decide +kernel) ?_
      refine B_icmp_ne (tgt := 36) dX10_loan_30 (by decide) rfl (wlitI (by decide) (by decide)) ⟨fun q => ?_, fun q => ?_⟩
      · replace h := h.1 q
        refine A_aload_n dX10_loan_36 rfl rfl ?_
        refine A_getR (c2 := 40) (i2 := 0) dX10_loan_37 fX10_13 rfl (okK10 (by omega)) rfl ?_
        refine A_aload_n dX10_loan_40 rfl rfl ?_
        refine A_getI dX10_loan_41 fX10_183 rfl (okK10 (by omega)) ?_
        refine A_iload_n dX10_loan_44 rfl rfl ?_
        obtain ⟨j2, qj2, bj2, h⟩ := h
        refine B_iast (j := j2) dX10_loan_45 (by decide) rfl (okK40 (by omega)) qj2 bj2 (fun M3 eM3 => ?_)
        replace h := h M3 eM3
        refine A_aload_n dX10_loan_46 rfl rfl ?_
        refine A_getR (c2 := 41) (i2 := 0) dX10_loan_47 fX10_17 rfl (okK10 (by omega)) rfl ?_
        refine A_aload_n dX10_loan_50 rfl rfl ?_
        refine A_getI dX10_loan_51 fX10_183 rfl (okK10 (by omega)) ?_
        refine A_iload_n dX10_loan_54 rfl rfl ?_
        obtain ⟨j4, qj4, bj4, h⟩ := h
        refine B_iast (j := j4) dX10_loan_55 (by decide) rfl (okK41 (by omega)) qj4 bj4 (fun M5 eM5 => ?_)
        replace h := h M5 eM5
        refine A_aload_n dX10_loan_56 rfl rfl ?_
        refine A_getR (c2 := 42) (i2 := 0) dX10_loan_57 fX10_20 rfl (okK10 (by omega)) rfl ?_
        refine A_aload_n dX10_loan_60 rfl rfl ?_
        refine A_getI dX10_loan_61 fX10_183 rfl (okK10 (by omega)) ?_
        refine A_iload_n dX10_loan_64 rfl rfl ?_
        obtain ⟨j6, qj6, bj6, h⟩ := h
        refine B_iast (j := j6) dX10_loan_65 (by decide) rfl (okK42 (by omega)) qj6 bj6 (fun M7 eM7 => ?_)
        replace h := h M7 eM7
        refine A_aload_n dX10_loan_66 rfl rfl ?_
        refine A_getR (c2 := 43) (i2 := 0) dX10_loan_67 fX10_23 rfl (okK10 (by omega)) rfl ?_
        refine A_aload_n dX10_loan_70 rfl rfl ?_
        refine A_getI dX10_loan_71 fX10_183 rfl (okK10 (by omega)) ?_
        refine A_iload dX10_loan_74 rfl ?_
        obtain ⟨j8, qj8, bj8, h⟩ := h
        refine B_iast (j := j8) dX10_loan_76 (by decide) rfl (okK43 (by omega)) qj8 bj8 (fun M9 eM9 => ?_)
        replace h := h M9 eM9
        refine A_aload_n dX10_loan_77 rfl rfl ?_
        refine A_getR (c2 := 44) (i2 := 0) dX10_loan_78 fX10_26 rfl (okK10 (by omega)) rfl ?_
        refine A_aload_n dX10_loan_81 rfl rfl ?_
        refine A_getI dX10_loan_82 fX10_183 rfl (okK10 (by omega)) ?_
        refine A_iconst (v := 0) dX10_loan_85 rfl ?_
        obtain ⟨j10, qj10, bj10, h⟩ := h
        refine B_iast (j := j10) dX10_loan_86 (by decide) rfl (okK44 (by omega)) qj10 bj10 (fun M11 eM11 => ?_)
        replace h := h M11 eM11
        refine A_aload_n dX10_loan_87 rfl rfl ?_
        refine A_getR (c2 := 45) (i2 := 0) dX10_loan_88 fX10_29 rfl (okK10 (by omega)) rfl ?_
        refine A_aload_n dX10_loan_91 rfl rfl ?_
        refine A_getI dX10_loan_92 fX10_183 rfl (okK10 (by omega)) ?_
        refine A_iconst (v := 0) dX10_loan_95 rfl ?_
        obtain ⟨j12, qj12, bj12, h⟩ := h
        refine B_iast (j := j12) dX10_loan_96 (by decide) rfl (okK45 (by omega)) qj12 bj12 (fun M13 eM13 => ?_)
        replace h := h M13 eM13
        refine A_aload_n dX10_loan_97 rfl rfl ?_
        refine A_getR (c2 := 46) (i2 := 0) dX10_loan_98 fX10_32 rfl (okK10 (by omega)) rfl ?_
        refine A_aload_n dX10_loan_101 rfl rfl ?_
        refine A_getI dX10_loan_102 fX10_183 rfl (okK10 (by omega)) ?_
        refine A_iconst (v := 0) dX10_loan_105 rfl ?_
        obtain ⟨j14, qj14, bj14, h⟩ := h
        refine B_iast (j := j14) dX10_loan_106 (by decide) rfl (okK46 (by omega)) qj14 bj14 (fun M15 eM15 => ?_)
        replace h := h M15 eM15
        refine A_aload_n dX10_loan_107 rfl rfl ?_
        refine A_dup dX10_loan_108 rfl ?_
        refine A_getI dX10_loan_109 fX10_183 rfl (okK10 (by omega)) ?_
        refine A_iconst (v := 1) dX10_loan_112 rfl ?_
        refine A_iadd dX10_loan_113 ?_
        refine B_putI dX10_loan_114 fX10_183 (by decide) (okK10 (by omega)) (fun M16 eM16 => ?_)
        replace h := h M16 eM16
        refine A_aload_n dX10_loan_117 rfl rfl ?_
        refine A_getI dX10_loan_118 fX10_183 rfl (okK10 (by omega)) ?_
        refine A_iconst (v := 1) dX10_loan_121 rfl ?_
        refine A_isub dX10_loan_122 ?_
        exact A_iret dX10_loan_123 ⟨rfl, _, rfl, h⟩
      · replace h := h.2 q
        refine A_bipush (v := (-4)) dX10_loan_33 (by decide +kernel) ?_
        exact A_iret dX10_loan_35 ⟨rfl, _, rfl, h⟩
    · replace h := h.2 q
      refine A_bipush (v := (-3)) dX10_loan_21 (by decide +kernel) ?_
      exact A_iret dX10_loan_23 ⟨rfl, _, rfl, h⟩
  · replace h := h.2 q
    refine A_bipush (v := (-2)) dX10_loan_11 (by decide +kernel) ?_
    exact A_iret dX10_loan_13 ⟨rfl, _, rfl, h⟩
set_option maxRecDepth 100000 in
set_option maxHeartbeats 4000000 in
theorem vc_X10_loanTold {G : GT} {a1 : Int} {a2 : Int} {N : NN} {K : Int → NN → Prop}  (h : (C_X10_isLoan G a1 N (fun x1 N1 => (((wI x1) ≠ 0 → (((wI a2) = 0 → (∃ j2 : Nat, (wI a1) = (j2 : Int) ∧ j2 < 12 ∧ K (N1 40 0 j2) N1)) ∧ (((wI a2) = 1 → (∃ j3 : Nat, (wI a1) = (j3 : Int) ∧ j3 < 12 ∧ K (N1 41 0 j3) N1)) ∧ (((wI a2) = 2 → (∃ j4 : Nat, (wI a1) = (j4 : Int) ∧ j4 < 12 ∧ K (N1 42 0 j4) N1)) ∧ (((wI a2) = 3 → (∃ j5 : Nat, (wI a1) = (j5 : Int) ∧ j5 < 12 ∧ K (N1 43 0 j5) N1)) ∧ (((wI a2) = 4 → (∃ j6 : Nat, (wI a1) = (j6 : Int) ∧ j6 < 12 ∧ K (N1 44 0 j6) N1)) ∧ (((wI a2) = 5 → (∃ j7 : Nat, (wI a1) = (j7 : Int) ∧ j7 < 12 ∧ K (N1 45 0 j7) N1)) ∧ (((wI a2) = 6 → (∃ j8 : Nat, (wI a1) = (j8 : Int) ∧ j8 < 12 ∧ K (N1 46 0 j8) N1)) ∧ ((wI a2) < 0 ∨ 6 < (wI a2) → K ((-2)) N1))))))))) ∧ (¬ ((wI x1) ≠ 0) → K ((-2)) N1))))) : C_X10_loanTold G a1 a2 N K := by
  refine Ctr.ofAW RX10 false rfl (by decide +kernel) (fun q => by cases q) (Nat.le_of_ble_eq_true rfl) (Nat.le_refl _) ?_
  refine A_aload_n dX10_loanTold_0 rfl rfl ?_
  refine A_iload_n dX10_loanTold_1 rfl rfl ?_
  refine B_callV_I (av := [vI a1]) rfl dX10_loanTold_2 vX10_198 mX10_isLoan ⟨rfl, rfl, by decide⟩ (okK10 (by omega)) rfl (Nat.le_of_ble_eq_true rfl) (by decide) (by decide) rfl (BC_monoI h (fun x1 N1 h => ?_))
  refine B_if_ne (tgt := 11) dX10_loanTold_5 (by decide) rfl ⟨fun q => ?_, fun q => ?_⟩
  · replace h := h.1 q
    refine A_iload_n dX10_loanTold_11 rfl rfl ?_
    by_cases q12_0 : wI a2 = 0
    · replace h := h.1 q12_0
      refine A_tableIn (tgt := 56) dX10_loanTold_12 q12_0 (by decide) rfl (by decide) ?_
      refine A_aload_n dX10_loanTold_56 rfl rfl ?_
      refine A_getR (c2 := 40) (i2 := 0) dX10_loanTold_57 fX10_13 rfl (okK10 (by omega)) rfl ?_
      refine A_iload_n dX10_loanTold_60 rfl rfl ?_
      obtain ⟨j2, qj2, bj2, h⟩ := h
      refine A_iald (j := j2) dX10_loanTold_61 (by decide) rfl (okK40 (by omega)) qj2 bj2 ?_
      exact A_iret dX10_loanTold_62 ⟨rfl, _, rfl, h⟩
    replace h := h.2
    by_cases q12_1 : wI a2 = 1
    · replace h := h.1 q12_1
      refine A_tableIn (tgt := 63) dX10_loanTold_12 q12_1 (by decide) rfl (by decide) ?_
      refine A_aload_n dX10_loanTold_63 rfl rfl ?_
      refine A_getR (c2 := 41) (i2 := 0) dX10_loanTold_64 fX10_17 rfl (okK10 (by omega)) rfl ?_
      refine A_iload_n dX10_loanTold_67 rfl rfl ?_
      obtain ⟨j3, qj3, bj3, h⟩ := h
      refine A_iald (j := j3) dX10_loanTold_68 (by decide) rfl (okK41 (by omega)) qj3 bj3 ?_
      exact A_iret dX10_loanTold_69 ⟨rfl, _, rfl, h⟩
    replace h := h.2
    by_cases q12_2 : wI a2 = 2
    · replace h := h.1 q12_2
      refine A_tableIn (tgt := 70) dX10_loanTold_12 q12_2 (by decide) rfl (by decide) ?_
      refine A_aload_n dX10_loanTold_70 rfl rfl ?_
      refine A_getR (c2 := 42) (i2 := 0) dX10_loanTold_71 fX10_20 rfl (okK10 (by omega)) rfl ?_
      refine A_iload_n dX10_loanTold_74 rfl rfl ?_
      obtain ⟨j4, qj4, bj4, h⟩ := h
      refine A_iald (j := j4) dX10_loanTold_75 (by decide) rfl (okK42 (by omega)) qj4 bj4 ?_
      exact A_iret dX10_loanTold_76 ⟨rfl, _, rfl, h⟩
    replace h := h.2
    by_cases q12_3 : wI a2 = 3
    · replace h := h.1 q12_3
      refine A_tableIn (tgt := 77) dX10_loanTold_12 q12_3 (by decide) rfl (by decide) ?_
      refine A_aload_n dX10_loanTold_77 rfl rfl ?_
      refine A_getR (c2 := 43) (i2 := 0) dX10_loanTold_78 fX10_23 rfl (okK10 (by omega)) rfl ?_
      refine A_iload_n dX10_loanTold_81 rfl rfl ?_
      obtain ⟨j5, qj5, bj5, h⟩ := h
      refine A_iald (j := j5) dX10_loanTold_82 (by decide) rfl (okK43 (by omega)) qj5 bj5 ?_
      exact A_iret dX10_loanTold_83 ⟨rfl, _, rfl, h⟩
    replace h := h.2
    by_cases q12_4 : wI a2 = 4
    · replace h := h.1 q12_4
      refine A_tableIn (tgt := 84) dX10_loanTold_12 q12_4 (by decide) rfl (by decide) ?_
      refine A_aload_n dX10_loanTold_84 rfl rfl ?_
      refine A_getR (c2 := 44) (i2 := 0) dX10_loanTold_85 fX10_26 rfl (okK10 (by omega)) rfl ?_
      refine A_iload_n dX10_loanTold_88 rfl rfl ?_
      obtain ⟨j6, qj6, bj6, h⟩ := h
      refine A_iald (j := j6) dX10_loanTold_89 (by decide) rfl (okK44 (by omega)) qj6 bj6 ?_
      exact A_iret dX10_loanTold_90 ⟨rfl, _, rfl, h⟩
    replace h := h.2
    by_cases q12_5 : wI a2 = 5
    · replace h := h.1 q12_5
      refine A_tableIn (tgt := 91) dX10_loanTold_12 q12_5 (by decide) rfl (by decide) ?_
      refine A_aload_n dX10_loanTold_91 rfl rfl ?_
      refine A_getR (c2 := 45) (i2 := 0) dX10_loanTold_92 fX10_29 rfl (okK10 (by omega)) rfl ?_
      refine A_iload_n dX10_loanTold_95 rfl rfl ?_
      obtain ⟨j7, qj7, bj7, h⟩ := h
      refine A_iald (j := j7) dX10_loanTold_96 (by decide) rfl (okK45 (by omega)) qj7 bj7 ?_
      exact A_iret dX10_loanTold_97 ⟨rfl, _, rfl, h⟩
    replace h := h.2
    by_cases q12_6 : wI a2 = 6
    · replace h := h.1 q12_6
      refine A_tableIn (tgt := 98) dX10_loanTold_12 q12_6 (by decide) rfl (by decide) ?_
      refine A_aload_n dX10_loanTold_98 rfl rfl ?_
      refine A_getR (c2 := 46) (i2 := 0) dX10_loanTold_99 fX10_32 rfl (okK10 (by omega)) rfl ?_
      refine A_iload_n dX10_loanTold_102 rfl rfl ?_
      obtain ⟨j8, qj8, bj8, h⟩ := h
      refine A_iald (j := j8) dX10_loanTold_103 (by decide) rfl (okK46 (by omega)) qj8 bj8 ?_
      exact A_iret dX10_loanTold_104 ⟨rfl, _, rfl, h⟩
    replace h := h.2
    replace h := h (by omega)
    refine A_tableOut (tgt := 105) dX10_loanTold_12 (by omega) (by decide) ?_
    refine A_bipush (v := (-2)) dX10_loanTold_105 (by decide +kernel) ?_
    exact A_iret dX10_loanTold_107 ⟨rfl, _, rfl, h⟩
  · replace h := h.2 q
    refine A_bipush (v := (-2)) dX10_loanTold_8 (by decide +kernel) ?_
    exact A_iret dX10_loanTold_10 ⟨rfl, _, rfl, h⟩
set_option maxRecDepth 100000 in
set_option maxHeartbeats 4000000 in
theorem vc_X10_isFixed {G : GT} {a0 : Int} {N : NN} {K : Int → NN → Prop}  (h : (((wI a0) = 1 → K 1 N) ∧ (¬ ((wI a0) = 1) → (((wI a0) = 2 → K 1 N) ∧ (¬ ((wI a0) = 2) → (((wI a0) ≠ 4 → K 0 N) ∧ (¬ ((wI a0) ≠ 4) → K 1 N))))))) : C_X10_isFixed G a0 N K := by
  refine Ctr.ofAW RX10 false rfl (by decide +kernel) (fun q => by cases q) (Nat.le_of_ble_eq_true rfl) (Nat.le_refl _) ?_
  refine A_iload_n dX10_isFixed_0 rfl rfl ?_
  refine A_iconst (v := 1) dX10_isFixed_1 rfl ?_
  refine B_icmp_eq (tgt := 15) dX10_isFixed_2 (by decide) rfl (wlitI (by decide) (by decide)) ⟨fun q => ?_, fun q => ?_⟩
  · replace h := h.1 q
    refine A_iconst (v := 1) dX10_isFixed_15 rfl ?_
    refine A_goto (tgt := 20) dX10_isFixed_16 (by decide) ?_
    exact A_zret dX10_isFixed_20 (by decide) ⟨rfl, _, rfl, h⟩
  · replace h := h.2 q
    refine A_iload_n dX10_isFixed_5 rfl rfl ?_
    refine A_iconst (v := 2) dX10_isFixed_6 rfl ?_
    refine B_icmp_eq (tgt := 15) dX10_isFixed_7 (by decide) rfl (wlitI (by decide) (by decide)) ⟨fun q => ?_, fun q => ?_⟩
    · replace h := h.1 q
      refine A_iconst (v := 1) dX10_isFixed_15 rfl ?_
      refine A_goto (tgt := 20) dX10_isFixed_16 (by decide) ?_
      exact A_zret dX10_isFixed_20 (by decide) ⟨rfl, _, rfl, h⟩
    · replace h := h.2 q
      refine A_iload_n dX10_isFixed_10 rfl rfl ?_
      refine A_iconst (v := 4) dX10_isFixed_11 rfl ?_
      refine B_icmp_ne (tgt := 19) dX10_isFixed_12 (by decide) rfl (wlitI (by decide) (by decide)) ⟨fun q => ?_, fun q => ?_⟩
      · replace h := h.1 q
        refine A_iconst (v := 0) dX10_isFixed_19 rfl ?_
        exact A_zret dX10_isFixed_20 (by decide) ⟨rfl, _, rfl, h⟩
      · replace h := h.2 q
        refine A_iconst (v := 1) dX10_isFixed_15 rfl ?_
        refine A_goto (tgt := 20) dX10_isFixed_16 (by decide) ?_
        exact A_zret dX10_isFixed_20 (by decide) ⟨rfl, _, rfl, h⟩
set_option maxRecDepth 100000 in
set_option maxHeartbeats 4000000 in
theorem vc_X10_isReset {G : GT} {a0 : Int} {N : NN} {K : Int → NN → Prop}  (h : (((wI a0) = 2 → K 1 N) ∧ (¬ ((wI a0) = 2) → (((wI a0) ≠ 4 → K 0 N) ∧ (¬ ((wI a0) ≠ 4) → K 1 N))))) : C_X10_isReset G a0 N K := by
  refine Ctr.ofAW RX10 false rfl (by decide +kernel) (fun q => by cases q) (Nat.le_of_ble_eq_true rfl) (Nat.le_refl _) ?_
  refine A_iload_n dX10_isReset_0 rfl rfl ?_
  refine A_iconst (v := 2) dX10_isReset_1 rfl ?_
  refine B_icmp_eq (tgt := 10) dX10_isReset_2 (by decide) rfl (wlitI (by decide) (by decide)) ⟨fun q => ?_, fun q => ?_⟩
  · replace h := h.1 q
    refine A_iconst (v := 1) dX10_isReset_10 rfl ?_
    refine A_goto (tgt := 15) dX10_isReset_11 (by decide) ?_
    exact A_zret dX10_isReset_15 (by decide) ⟨rfl, _, rfl, h⟩
  · replace h := h.2 q
    refine A_iload_n dX10_isReset_5 rfl rfl ?_
    refine A_iconst (v := 4) dX10_isReset_6 rfl ?_
    refine B_icmp_ne (tgt := 14) dX10_isReset_7 (by decide) rfl (wlitI (by decide) (by decide)) ⟨fun q => ?_, fun q => ?_⟩
    · replace h := h.1 q
      refine A_iconst (v := 0) dX10_isReset_14 rfl ?_
      exact A_zret dX10_isReset_15 (by decide) ⟨rfl, _, rfl, h⟩
    · replace h := h.2 q
      refine A_iconst (v := 1) dX10_isReset_10 rfl ?_
      refine A_goto (tgt := 15) dX10_isReset_11 (by decide) ?_
      exact A_zret dX10_isReset_15 (by decide) ⟨rfl, _, rfl, h⟩
set_option maxRecDepth 100000 in
set_option maxHeartbeats 4000000 in
theorem vc_X10_interest {G : GT} {a0 : Int} {a1 : Int} {N : NN} {K : Int → NN → Prop}  (h : K (((wI (a0 * a1))).tdiv 10000) N) : C_X10_interest G a0 a1 N K := by
  refine Ctr.ofAW RX10 false rfl (by decide +kernel) (fun q => by cases q) (Nat.le_of_ble_eq_true rfl) (Nat.le_refl _) ?_
  refine A_iload_n dX10_interest_0 rfl rfl ?_
  refine A_iload_n dX10_interest_1 rfl rfl ?_
  refine A_imul dX10_interest_2 ?_
  refine A_sipush (v := 10000) dX10_interest_3 (by decide +kernel) ?_
  refine B_idiv dX10_interest_6 rfl (wlitI (by decide) (by decide)) (by decide) ?_
  exact A_iret dX10_interest_7 ⟨rfl, _, rfl, h⟩
set_option maxRecDepth 100000 in
set_option maxHeartbeats 4000000 in
theorem vc_X10_leftBy {G : GT} {a0 : Int} {a1 : Int} {a2 : Int} {a3 : Int} {N : NN} {K : Int → NN → Prop}  (h : W_X10_leftBy G K 6 [(1, vI a1), (2, vI a2), (3, vI a3), (4, vI a0), (5, vI 0)] [] N) : C_X10_leftBy G a0 a1 a2 a3 N K := by
  refine Ctr.ofAW RX10 false rfl (by decide +kernel) (fun q => by cases q) (Nat.le_of_ble_eq_true rfl) (Nat.le_refl _) ?_
  refine A_iload_n dX10_leftBy_0 rfl rfl ?_
  refine A_istore (ls' := [(4, _), (0, _), (1, _), (2, _), (3, _)]) dX10_leftBy_1 (by decide) rfl ?_
  refine A_iconst (v := 0) dX10_leftBy_3 rfl ?_
  refine A_istore (ls' := [(5, _), (4, _), (0, _), (1, _), (2, _), (3, _)]) dX10_leftBy_4 (by decide) rfl ?_
  exact A_pick [3, 4, 5, 1, 0] rfl h
set_option maxRecDepth 100000 in
set_option maxHeartbeats 4000000 in
theorem vc_X10_leftBy_6 {G : GT} {l1 : Int} {l2 : Int} {l3 : Int} {l4 : Int} {l5 : Int} {N : NN} {K : Int → NN → Prop}  (h : (((wI l2) ≤ (wI l5) → K l4 N) ∧ (¬ ((wI l2) ≤ (wI l5)) → (((wI l4) ≤ 0 → K l4 N) ∧ (¬ ((wI l4) ≤ 0) → (C_X10_interest G l4 l1 N (fun x1 N1 => ((0 ≤ (wI (l3 - x1)) → (((wI l4) ≤ (wI (l3 - x1)) → W_X10_leftBy G K 6 [(1, vI l1), (2, vI l2), (3, vI l3), (4, vI (l4 - l4)), (5, vI (l5 + 1))] [] N1) ∧ (¬ ((wI l4) ≤ (wI (l3 - x1))) → W_X10_leftBy G K 6 [(1, vI l1), (2, vI l2), (3, vI l3), (4, vI (l4 - (l3 - x1))), (5, vI (l5 + 1))] [] N1))) ∧ (¬ (0 ≤ (wI (l3 - x1))) → (((wI l4) ≤ 0 → W_X10_leftBy G K 6 [(1, vI l1), (2, vI l2), (3, vI l3), (4, vI (l4 - l4)), (5, vI (l5 + 1))] [] N1) ∧ (¬ ((wI l4) ≤ 0) → W_X10_leftBy G K 6 [(1, vI l1), (2, vI l2), (3, vI l3), (4, vI (l4 - 0)), (5, vI (l5 + 1))] [] N1))))))))))) : W_X10_leftBy G K 6 [(1, vI l1), (2, vI l2), (3, vI l3), (4, vI l4), (5, vI l5)] [] N := by
  refine A_iload dX10_leftBy_6 rfl ?_
  refine A_iload_n dX10_leftBy_8 rfl rfl ?_
  refine B_icmp_ge (tgt := 65) dX10_leftBy_9 (by decide) rfl rfl ⟨fun q => ?_, fun q => ?_⟩
  · replace h := h.1 q
    refine A_iload dX10_leftBy_65 rfl ?_
    exact A_iret dX10_leftBy_67 ⟨rfl, _, rfl, h⟩
  · replace h := h.2 q
    refine A_iload dX10_leftBy_12 rfl ?_
    refine B_if_le (tgt := 65) dX10_leftBy_14 (by decide) rfl ⟨fun q => ?_, fun q => ?_⟩
    · replace h := h.1 q
      refine A_iload dX10_leftBy_65 rfl ?_
      exact A_iret dX10_leftBy_67 ⟨rfl, _, rfl, h⟩
    · replace h := h.2 q
      refine A_iload_n dX10_leftBy_17 rfl rfl ?_
      refine A_iload dX10_leftBy_18 rfl ?_
      refine A_iload_n dX10_leftBy_20 rfl rfl ?_
      refine B_callS_I (av := [vI l4, vI l1]) rfl dX10_leftBy_21 vX10_202 mX10_interest rfl (Nat.le_of_ble_eq_true rfl) (by decide) (by decide) rfl (BC_monoI h (fun x1 N1 h => ?_))
      refine A_isub dX10_leftBy_24 ?_
      refine A_istore (ls' := [(6, _), (1, _), (2, _), (3, _), (4, _), (5, _)]) dX10_leftBy_25 (by decide) rfl ?_
      refine A_iload dX10_leftBy_27 rfl ?_
      refine B_if_ge (tgt := 36) dX10_leftBy_29 (by decide) rfl ⟨fun q => ?_, fun q => ?_⟩
      · replace h := h.1 q
        refine A_iload dX10_leftBy_36 rfl ?_
        refine A_istore (ls' := [(6, _), (1, _), (2, _), (3, _), (4, _), (5, _)]) dX10_leftBy_38 (by decide) rfl ?_
        refine A_iload dX10_leftBy_40 rfl ?_
        refine A_iload dX10_leftBy_42 rfl ?_
        refine A_iload dX10_leftBy_44 rfl ?_
        refine B_icmp_ge (tgt := 54) dX10_leftBy_46 (by decide) rfl rfl ⟨fun q => ?_, fun q => ?_⟩
        · replace h := h.1 q
          refine A_iload dX10_leftBy_54 rfl ?_
          refine A_isub dX10_leftBy_56 ?_
          refine A_istore (ls' := [(4, _), (6, _), (1, _), (2, _), (3, _), (5, _)]) dX10_leftBy_57 (by decide) rfl ?_
          refine A_iinc (ls' := [(5, _), (4, _), (6, _), (1, _), (2, _), (3, _)]) dX10_leftBy_59 (by decide) rfl rfl rfl ?_
          refine A_goto (tgt := 6) dX10_leftBy_62 (by decide) ?_
          exact A_pick [3, 4, 5, 1, 0] rfl h
        · replace h := h.2 q
          refine A_iload dX10_leftBy_49 rfl ?_
          refine A_goto (tgt := 56) dX10_leftBy_51 (by decide) ?_
          refine A_isub dX10_leftBy_56 ?_
          refine A_istore (ls' := [(4, _), (6, _), (1, _), (2, _), (3, _), (5, _)]) dX10_leftBy_57 (by decide) rfl ?_
          refine A_iinc (ls' := [(5, _), (4, _), (6, _), (1, _), (2, _), (3, _)]) dX10_leftBy_59 (by decide) rfl rfl rfl ?_
          refine A_goto (tgt := 6) dX10_leftBy_62 (by decide) ?_
          exact A_pick [3, 4, 5, 1, 0] rfl h
      · replace h := h.2 q
        refine A_iconst (v := 0) dX10_leftBy_32 rfl ?_
        refine A_goto (tgt := 38) dX10_leftBy_33 (by decide) ?_
        refine A_istore (ls' := [(6, _), (1, _), (2, _), (3, _), (4, _), (5, _)]) dX10_leftBy_38 (by decide) rfl ?_
        refine A_iload dX10_leftBy_40 rfl ?_
        refine A_iload dX10_leftBy_42 rfl ?_
        refine A_iload dX10_leftBy_44 rfl ?_
        refine B_icmp_ge (tgt := 54) dX10_leftBy_46 (by decide) (wlitI (by decide) (by decide)) rfl ⟨fun q => ?_, fun q => ?_⟩
        · replace h := h.1 q
          refine A_iload dX10_leftBy_54 rfl ?_
          refine A_isub dX10_leftBy_56 ?_
          refine A_istore (ls' := [(4, _), (6, _), (1, _), (2, _), (3, _), (5, _)]) dX10_leftBy_57 (by decide) rfl ?_
          refine A_iinc (ls' := [(5, _), (4, _), (6, _), (1, _), (2, _), (3, _)]) dX10_leftBy_59 (by decide) rfl rfl rfl ?_
          refine A_goto (tgt := 6) dX10_leftBy_62 (by decide) ?_
          exact A_pick [3, 4, 5, 1, 0] rfl h
        · replace h := h.2 q
          refine A_iload dX10_leftBy_49 rfl ?_
          refine A_goto (tgt := 56) dX10_leftBy_51 (by decide) ?_
          refine A_isub dX10_leftBy_56 ?_
          refine A_istore (ls' := [(4, _), (6, _), (1, _), (2, _), (3, _), (5, _)]) dX10_leftBy_57 (by decide) rfl ?_
          refine A_iinc (ls' := [(5, _), (4, _), (6, _), (1, _), (2, _), (3, _)]) dX10_leftBy_59 (by decide) rfl rfl rfl ?_
          refine A_goto (tgt := 6) dX10_leftBy_62 (by decide) ?_
          exact A_pick [3, 4, 5, 1, 0] rfl h
set_option maxRecDepth 100000 in
set_option maxHeartbeats 4000000 in
theorem vc_X10_payFor {G : GT} {a0 : Int} {a1 : Int} {a2 : Int} {N : NN} {K : Int → NN → Prop}  (h : (C_X10_interest G a0 a1 N (fun x1 N1 => W_X10_payFor G K 11 [(0, vI a0), (1, vI a1), (2, vI a2), (3, vI 0), (4, vI (a0 + x1))] [] N1))) : C_X10_payFor G a0 a1 a2 N K := by
  refine Ctr.ofAW RX10 false rfl (by decide +kernel) (fun q => by cases q) (Nat.le_of_ble_eq_true rfl) (Nat.le_refl _) ?_
  refine A_iconst (v := 0) dX10_payFor_0 rfl ?_
  refine A_istore_n (ls' := [(3, _), (0, _), (1, _), (2, _)]) dX10_payFor_1 rfl (by decide) rfl ?_
  refine A_iload_n dX10_payFor_2 rfl rfl ?_
  refine A_iload_n dX10_payFor_3 rfl rfl ?_
  refine A_iload_n dX10_payFor_4 rfl rfl ?_
  refine B_callS_I (av := [vI a0, vI a1]) rfl dX10_payFor_5 vX10_202 mX10_interest rfl (Nat.le_of_ble_eq_true rfl) (by decide) (by decide) rfl (BC_monoI h (fun x1 N1 h => ?_))
  refine A_iadd dX10_payFor_8 ?_
  refine A_istore (ls' := [(4, _), (3, _), (0, _), (1, _), (2, _)]) dX10_payFor_9 (by decide) rfl ?_
  exact A_pick [2, 3, 4, 1, 0] rfl h
set_option maxRecDepth 100000 in
set_option maxHeartbeats 4000000 in
theorem vc_X10_payFor_11 {G : GT} {l0 : Int} {l1 : Int} {l2 : Int} {l3 : Int} {l4 : Int} {N : NN} {K : Int → NN → Prop}  (h : (((wI l4) ≤ (wI l3) → K l3 N) ∧ (¬ ((wI l4) ≤ (wI l3)) → (C_X10_leftBy G l0 l1 l2 (((wI (l3 + l4))).tdiv 2) N (fun x1 N1 => (((wI x1) ≠ 0 → W_X10_payFor G K 11 [(0, vI l0), (1, vI l1), (2, vI l2), (3, vI ((((wI (l3 + l4))).tdiv 2) + 1)), (4, vI l4)] [] N1) ∧ (¬ ((wI x1) ≠ 0) → W_X10_payFor G K 11 [(0, vI l0), (1, vI l1), (2, vI l2), (3, vI l3), (4, vI (((wI (l3 + l4))).tdiv 2))] [] N1))))))) : W_X10_payFor G K 11 [(0, vI l0), (1, vI l1), (2, vI l2), (3, vI l3), (4, vI l4)] [] N := by
  refine A_iload_n dX10_payFor_11 rfl rfl ?_
  refine A_iload dX10_payFor_12 rfl ?_
  refine B_icmp_ge (tgt := 51) dX10_payFor_14 (by decide) rfl rfl ⟨fun q => ?_, fun q => ?_⟩
  · replace h := h.1 q
    refine A_iload_n dX10_payFor_51 rfl rfl ?_
    exact A_iret dX10_payFor_52 ⟨rfl, _, rfl, h⟩
  · replace h := h.2 q
    refine A_iload_n dX10_payFor_17 rfl rfl ?_
    refine A_iload dX10_payFor_18 rfl ?_
    refine A_iadd dX10_payFor_20 ?_
    refine A_iconst (v := 2) dX10_payFor_21 rfl ?_
    refine B_idiv dX10_payFor_22 rfl (wlitI (by decide) (by decide)) (by decide) ?_
    refine A_istore (ls' := [(5, _), (0, _), (1, _), (2, _), (3, _), (4, _)]) dX10_payFor_23 (by decide) rfl ?_
    refine A_iload_n dX10_payFor_25 rfl rfl ?_
    refine A_iload_n dX10_payFor_26 rfl rfl ?_
    refine A_iload_n dX10_payFor_27 rfl rfl ?_
    refine A_iload dX10_payFor_28 rfl ?_
    refine B_callS_I (av := [vI l0, vI l1, vI l2, vI (((wI (l3 + l4))).tdiv 2)]) rfl dX10_payFor_30 vX10_206 mX10_leftBy rfl (Nat.le_of_ble_eq_true rfl) (by decide) (by decide) rfl (BC_monoI h (fun x1 N1 h => ?_))
    refine B_if_ne (tgt := 43) dX10_payFor_33 (by decide) rfl ⟨fun q => ?_, fun q => ?_⟩
    · replace h := h.1 q
      refine A_iload dX10_payFor_43 rfl ?_
      refine A_iconst (v := 1) dX10_payFor_45 rfl ?_
      refine A_iadd dX10_payFor_46 ?_
      refine A_istore_n (ls' := [(3, _), (5, _), (0, _), (1, _), (2, _), (4, _)]) dX10_payFor_47 rfl (by decide) rfl ?_
      refine A_goto (tgt := 11) dX10_payFor_48 (by decide) ?_
      exact A_pick [2, 3, 4, 0, 5] rfl h
    · replace h := h.2 q
      refine A_iload dX10_payFor_36 rfl ?_
      refine A_istore (ls' := [(4, _), (5, _), (0, _), (1, _), (2, _), (3, _)]) dX10_payFor_38 (by decide) rfl ?_
      refine A_goto (tgt := 48) dX10_payFor_40 (by decide) ?_
      refine A_goto (tgt := 11) dX10_payFor_48 (by decide) ?_
      exact A_pick [2, 3, 4, 5, 0] rfl h
set_option maxRecDepth 100000 in
set_option maxHeartbeats 4000000 in
theorem vc_X10_pool {G : GT} {N : NN} {K : Int → NN → Prop}  (h : W_X10_pool G K 4 [(0, vR 10 0), (1, vI 0), (2, vI 0)] [] N) : C_X10_pool G N K := by
  refine Ctr.ofAW RX10 false rfl (by decide +kernel) (fun q => by cases q) (Nat.le_of_ble_eq_true rfl) (Nat.le_refl _) ?_
  refine A_iconst (v := 0) dX10_pool_0 rfl ?_
  refine A_istore_n (ls' := [(1, _), (0, _)]) dX10_pool_1 rfl (by decide) rfl ?_
  refine A_iconst (v := 0) dX10_pool_2 rfl ?_
  refine A_istore_n (ls' := [(2, _), (1, _), (0, _)]) dX10_pool_3 rfl (by decide) rfl ?_
  exact A_pick [2, 1, 0] rfl h
set_option maxRecDepth 100000 in
set_option maxHeartbeats 4000000 in
theorem vc_X10_pool_4 {G : GT} {l1 : Int} {l2 : Int} {N : NN} {K : Int → NN → Prop}  (h : (((wI (N 10 0 2)) ≤ (wI l2) → K l1 N) ∧ (¬ ((wI (N 10 0 2)) ≤ (wI l2)) → (∃ j1 : Nat, (wI l2) = (j1 : Int) ∧ j1 < 12 ∧ (((wI (N 45 0 j1)) = 0 → (∃ j2 : Nat, (wI l2) = (j2 : Int) ∧ j2 < 12 ∧ W_X10_pool G K 4 [(0, vR 10 0), (1, vI (l1 + (N 41 0 j2))), (2, vI (l2 + 1))] [] N)) ∧ (¬ ((wI (N 45 0 j1)) = 0) → (∃ j3 : Nat, (wI l2) = (j3 : Int) ∧ j3 < 12 ∧ (((wI (N 45 0 j3)) = 1 → (∃ j4 : Nat, (wI l2) = (j4 : Int) ∧ j4 < 12 ∧ W_X10_pool G K 4 [(0, vR 10 0), (1, vI (l1 + (N 41 0 j4))), (2, vI (l2 + 1))] [] N)) ∧ (¬ ((wI (N 45 0 j3)) = 1) → (∃ j5 : Nat, (wI l2) = (j5 : Int) ∧ j5 < 12 ∧ (((wI (N 45 0 j5)) ≠ 3 → W_X10_pool G K 4 [(0, vR 10 0), (1, vI (l1 + 0)), (2, vI (l2 + 1))] [] N) ∧ (¬ ((wI (N 45 0 j5)) ≠ 3) → (∃ j6 : Nat, (wI l2) = (j6 : Int) ∧ j6 < 12 ∧ W_X10_pool G K 4 [(0, vR 10 0), (1, vI (l1 + (N 41 0 j6))), (2, vI (l2 + 1))] [] N))))))))))))) : W_X10_pool G K 4 [(0, vR 10 0), (1, vI l1), (2, vI l2)] [] N := by
  refine A_iload_n dX10_pool_4 rfl rfl ?_
  refine A_aload_n dX10_pool_5 rfl rfl ?_
  refine A_getI dX10_pool_6 fX10_183 rfl (okK10 (by omega)) ?_
  refine B_icmp_ge (tgt := 60) dX10_pool_9 (by decide) rfl rfl ⟨fun q => ?_, fun q => ?_⟩
  · replace h := h.1 q
    refine A_iload_n dX10_pool_60 rfl rfl ?_
    exact A_iret dX10_pool_61 ⟨rfl, _, rfl, h⟩
  · replace h := h.2 q
    refine A_iload_n dX10_pool_12 rfl rfl ?_
    refine A_aload_n dX10_pool_13 rfl rfl ?_
    refine A_getR (c2 := 45) (i2 := 0) dX10_pool_14 fX10_29 rfl (okK10 (by omega)) rfl ?_
    refine A_iload_n dX10_pool_17 rfl rfl ?_
    obtain ⟨j1, qj1, bj1, h⟩ := h
    refine A_iald (j := j1) dX10_pool_18 (by decide) rfl (okK45 (by omega)) qj1 bj1 ?_
    refine B_if_eq (tgt := 42) dX10_pool_19 (by decide) rfl ⟨fun q => ?_, fun q => ?_⟩
    · replace h := h.1 q
      refine A_aload_n dX10_pool_42 rfl rfl ?_
      refine A_getR (c2 := 41) (i2 := 0) dX10_pool_43 fX10_17 rfl (okK10 (by omega)) rfl ?_
      refine A_iload_n dX10_pool_46 rfl rfl ?_
      obtain ⟨j2, qj2, bj2, h⟩ := h
      refine A_iald (j := j2) dX10_pool_47 (by decide) rfl (okK41 (by omega)) qj2 bj2 ?_
      refine A_goto (tgt := 52) dX10_pool_48 (by decide) ?_
      refine A_iadd dX10_pool_52 ?_
      refine A_istore_n (ls' := [(1, _), (0, _), (2, _)]) dX10_pool_53 rfl (by decide) rfl ?_
      refine A_iinc (ls' := [(2, _), (1, _), (0, _)]) dX10_pool_54 (by decide) rfl rfl rfl ?_
      refine A_goto (tgt := 4) dX10_pool_57 (by decide) ?_
      exact A_pick [2, 1, 0] rfl h
    · replace h := h.2 q
      refine A_aload_n dX10_pool_22 rfl rfl ?_
      refine A_getR (c2 := 45) (i2 := 0) dX10_pool_23 fX10_29 rfl (okK10 (by omega)) rfl ?_
      refine A_iload_n dX10_pool_26 rfl rfl ?_
      obtain ⟨j3, qj3, bj3, h⟩ := h
      refine A_iald (j := j3) dX10_pool_27 (by decide) rfl (okK45 (by omega)) qj3 bj3 ?_
      refine A_iconst (v := 1) dX10_pool_28 rfl ?_
      refine B_icmp_eq (tgt := 42) dX10_pool_29 (by decide) rfl (wlitI (by decide) (by decide)) ⟨fun q => ?_, fun q => ?_⟩
      · replace h := h.1 q
        refine A_aload_n dX10_pool_42 rfl rfl ?_
        refine A_getR (c2 := 41) (i2 := 0) dX10_pool_43 fX10_17 rfl (okK10 (by omega)) rfl ?_
        refine A_iload_n dX10_pool_46 rfl rfl ?_
        obtain ⟨j4, qj4, bj4, h⟩ := h
        refine A_iald (j := j4) dX10_pool_47 (by decide) rfl (okK41 (by omega)) qj4 bj4 ?_
        refine A_goto (tgt := 52) dX10_pool_48 (by decide) ?_
        refine A_iadd dX10_pool_52 ?_
        refine A_istore_n (ls' := [(1, _), (0, _), (2, _)]) dX10_pool_53 rfl (by decide) rfl ?_
        refine A_iinc (ls' := [(2, _), (1, _), (0, _)]) dX10_pool_54 (by decide) rfl rfl rfl ?_
        refine A_goto (tgt := 4) dX10_pool_57 (by decide) ?_
        exact A_pick [2, 1, 0] rfl h
      · replace h := h.2 q
        refine A_aload_n dX10_pool_32 rfl rfl ?_
        refine A_getR (c2 := 45) (i2 := 0) dX10_pool_33 fX10_29 rfl (okK10 (by omega)) rfl ?_
        refine A_iload_n dX10_pool_36 rfl rfl ?_
        obtain ⟨j5, qj5, bj5, h⟩ := h
        refine A_iald (j := j5) dX10_pool_37 (by decide) rfl (okK45 (by omega)) qj5 bj5 ?_
        refine A_iconst (v := 3) dX10_pool_38 rfl ?_
        refine B_icmp_ne (tgt := 51) dX10_pool_39 (by decide) rfl (wlitI (by decide) (by decide)) ⟨fun q => ?_, fun q => ?_⟩
        · replace h := h.1 q
          refine A_iconst (v := 0) dX10_pool_51 rfl ?_
          refine A_iadd dX10_pool_52 ?_
          refine A_istore_n (ls' := [(1, _), (0, _), (2, _)]) dX10_pool_53 rfl (by decide) rfl ?_
          refine A_iinc (ls' := [(2, _), (1, _), (0, _)]) dX10_pool_54 (by decide) rfl rfl rfl ?_
          refine A_goto (tgt := 4) dX10_pool_57 (by decide) ?_
          exact A_pick [2, 1, 0] rfl h
        · replace h := h.2 q
          refine A_aload_n dX10_pool_42 rfl rfl ?_
          refine A_getR (c2 := 41) (i2 := 0) dX10_pool_43 fX10_17 rfl (okK10 (by omega)) rfl ?_
          refine A_iload_n dX10_pool_46 rfl rfl ?_
          obtain ⟨j6, qj6, bj6, h⟩ := h
          refine A_iald (j := j6) dX10_pool_47 (by decide) rfl (okK41 (by omega)) qj6 bj6 ?_
          refine A_goto (tgt := 52) dX10_pool_48 (by decide) ?_
          refine A_iadd dX10_pool_52 ?_
          refine A_istore_n (ls' := [(1, _), (0, _), (2, _)]) dX10_pool_53 rfl (by decide) rfl ?_
          refine A_iinc (ls' := [(2, _), (1, _), (0, _)]) dX10_pool_54 (by decide) rfl rfl rfl ?_
          refine A_goto (tgt := 4) dX10_pool_57 (by decide) ?_
          exact A_pick [2, 1, 0] rfl h
set_option maxRecDepth 100000 in
set_option maxHeartbeats 4000000 in
theorem vc_X10_principal {G : GT} {a1 : Int} {a2 : Int} {a3 : Int} {N : NN} {K : Int → NN → Prop}  (h : (∃ j1 : Nat, (wI a1) = (j1 : Int) ∧ j1 < 12 ∧ (∃ j2 : Nat, (wI a1) = (j2 : Int) ∧ j2 < 12 ∧ (((wI a2) ≠ (wI (N 43 0 j2)) → (∃ j3 : Nat, (wI a1) = (j3 : Int) ∧ j3 < 12 ∧ (C_X10_isFixed G (N 40 0 j3) N (fun x4 N4 => (((wI x4) = 0 → (∃ j5 : Nat, (wI a1) = (j5 : Int) ∧ j5 < 12 ∧ (((wI (N4 40 0 j5)) = 0 → (∃ j6 : Nat, (wI a1) = (j6 : Int) ∧ j6 < 12 ∧ ((wI (((N4 43 0 j6) + 1) - a2)) ≠ 0 ∧ W_X10_principal G K 106 [(4, vI (N 41 0 j1)), (5, vI (((wI (((N 41 0 j1) + (((N4 43 0 j6) + 1) - a2)) - 1))).tdiv ((wI (((N4 43 0 j6) + 1) - a2)))))] [] N4))) ∧ (¬ ((wI (N4 40 0 j5)) = 0) → (∃ j7 : Nat, (wI a1) = (j7 : Int) ∧ j7 < 12 ∧ (((wI (N4 40 0 j7)) ≠ 5 → W_X10_principal G K 106 [(4, vI (N 41 0 j1)), (5, vI 0)] [] N4) ∧ (¬ ((wI (N4 40 0 j7)) ≠ 5) → (∃ j8 : Nat, (wI a1) = (j8 : Int) ∧ j8 < 12 ∧ (((wI (3 * a2)) ≤ (wI (2 * (N4 43 0 j8))) → W_X10_principal G K 106 [(4, vI (N 41 0 j1)), (5, vI 0)] [] N4) ∧ (¬ ((wI (3 * a2)) ≤ (wI (2 * (N4 43 0 j8)))) → (∃ j9 : Nat, (wI a1) = (j9 : Int) ∧ j9 < 12 ∧ ((wI (((N4 43 0 j9) + 1) - a2)) ≠ 0 ∧ W_X10_principal G K 106 [(4, vI (N 41 0 j1)), (5, vI (((wI (((N 41 0 j1) + (((N4 43 0 j9) + 1) - a2)) - 1))).tdiv ((wI (((N4 43 0 j9) + 1) - a2)))))] [] N4)))))))))))) ∧ (¬ ((wI x4) = 0) → (∃ j10 : Nat, (wI a1) = (j10 : Int) ∧ j10 < 12 ∧ W_X10_principal G K 106 [(4, vI (N 41 0 j1)), (5, vI ((N4 46 0 j10) - a3))] [] N4))))))) ∧ (¬ ((wI a2) ≠ (wI (N 43 0 j2))) → K (N 41 0 j1) N))))) : C_X10_principal G a1 a2 a3 N K := by
  refine Ctr.ofAW RX10 false rfl (by decide +kernel) (fun q => by cases q) (Nat.le_of_ble_eq_true rfl) (Nat.le_refl _) ?_
  refine A_aload_n dX10_principal_0 rfl rfl ?_
  refine A_getR (c2 := 41) (i2 := 0) dX10_principal_1 fX10_17 rfl (okK10 (by omega)) rfl ?_
  refine A_iload_n dX10_principal_4 rfl rfl ?_
  obtain ⟨j1, qj1, bj1, h⟩ := h
  refine A_iald (j := j1) dX10_principal_5 (by decide) rfl (okK41 (by omega)) qj1 bj1 ?_
  refine A_istore (ls' := [(4, _), (0, _), (1, _), (2, _), (3, _)]) dX10_principal_6 (by decide) rfl ?_
  refine A_iload_n dX10_principal_8 rfl rfl ?_
  refine A_aload_n dX10_principal_9 rfl rfl ?_
  refine A_getR (c2 := 43) (i2 := 0) dX10_principal_10 fX10_23 rfl (okK10 (by omega)) rfl ?_
  refine A_iload_n dX10_principal_13 rfl rfl ?_
  obtain ⟨j2, qj2, bj2, h⟩ := h
  refine A_iald (j := j2) dX10_principal_14 (by decide) rfl (okK43 (by omega)) qj2 bj2 ?_
  refine B_icmp_ne (tgt := 21) dX10_principal_15 (by decide) rfl rfl ⟨fun q => ?_, fun q => ?_⟩
  · replace h := h.1 q
    refine A_iconst (v := 0) dX10_principal_21 rfl ?_
    refine A_istore (ls' := [(5, _), (4, _), (0, _), (1, _), (2, _), (3, _)]) dX10_principal_22 (by decide) rfl ?_
    refine A_aload_n dX10_principal_24 rfl rfl ?_
    refine A_getR (c2 := 40) (i2 := 0) dX10_principal_25 fX10_13 rfl (okK10 (by omega)) rfl ?_
    refine A_iload_n dX10_principal_28 rfl rfl ?_
    obtain ⟨j3, qj3, bj3, h⟩ := h
    refine A_iald (j := j3) dX10_principal_29 (by decide) rfl (okK40 (by omega)) qj3 bj3 ?_
    refine B_callS_I (av := [vI (N 40 0 j3)]) rfl dX10_principal_30 vX10_210 mX10_isFixed rfl (Nat.le_of_ble_eq_true rfl) (by decide) (by decide) rfl (BC_monoI h (fun x4 N4 h => ?_))
    refine B_if_eq (tgt := 49) dX10_principal_33 (by decide) rfl ⟨fun q => ?_, fun q => ?_⟩
    · replace h := h.1 q
      refine A_aload_n dX10_principal_49 rfl rfl ?_
      refine A_getR (c2 := 40) (i2 := 0) dX10_principal_50 fX10_13 rfl (okK10 (by omega)) rfl ?_
      refine A_iload_n dX10_principal_53 rfl rfl ?_
      obtain ⟨j5, qj5, bj5, h⟩ := h
      refine A_iald (j := j5) dX10_principal_54 (by decide) rfl (okK40 (by omega)) qj5 bj5 ?_
      refine B_if_eq (tgt := 82) dX10_principal_55 (by decide) rfl ⟨fun q => ?_, fun q => ?_⟩
      · replace h := h.1 q
        refine A_aload_n dX10_principal_82 rfl rfl ?_
        refine A_getR (c2 := 43) (i2 := 0) dX10_principal_83 fX10_23 rfl (okK10 (by omega)) rfl ?_
        refine A_iload_n dX10_principal_86 rfl rfl ?_
        obtain ⟨j6, qj6, bj6, h⟩ := h
        refine A_iald (j := j6) dX10_principal_87 (by decide) rfl (okK43 (by omega)) qj6 bj6 ?_
        refine A_iconst (v := 1) dX10_principal_88 rfl ?_
        refine A_iadd dX10_principal_89 ?_
        refine A_iload_n dX10_principal_90 rfl rfl ?_
        refine A_isub dX10_principal_91 ?_
        refine A_istore (ls' := [(6, _), (5, _), (4, _), (0, _), (1, _), (2, _), (3, _)]) dX10_principal_92 (by decide) rfl ?_
        refine A_iload dX10_principal_94 rfl ?_
        refine A_iload dX10_principal_96 rfl ?_
        refine A_iadd dX10_principal_98 ?_
        refine A_iconst (v := 1) dX10_principal_99 rfl ?_
        refine A_isub dX10_principal_100 ?_
        refine A_iload dX10_principal_101 rfl ?_
        refine B_idiv dX10_principal_103 rfl rfl h.1 ?_
        replace h := h.2
        refine A_istore (ls' := [(5, _), (6, _), (4, _), (0, _), (1, _), (2, _), (3, _)]) dX10_principal_104 (by decide) rfl ?_
        exact A_pick [2, 0] rfl h
      · replace h := h.2 q
        refine A_aload_n dX10_principal_58 rfl rfl ?_
        refine A_getR (c2 := 40) (i2 := 0) dX10_principal_59 fX10_13 rfl (okK10 (by omega)) rfl ?_
        refine A_iload_n dX10_principal_62 rfl rfl ?_
        obtain ⟨j7, qj7, bj7, h⟩ := h
        refine A_iald (j := j7) dX10_principal_63 (by decide) rfl (okK40 (by omega)) qj7 bj7 ?_
        refine A_iconst (v := 5) dX10_principal_64 rfl ?_
        refine B_icmp_ne (tgt := 106) dX10_principal_65 (by decide) rfl (wlitI (by decide) (by decide)) ⟨fun q => ?_, fun q => ?_⟩
        · replace h := h.1 q
          exact A_pick [1, 0] rfl h
        · replace h := h.2 q
          refine A_iconst (v := 3) dX10_principal_68 rfl ?_
          refine A_iload_n dX10_principal_69 rfl rfl ?_
          refine A_imul dX10_principal_70 ?_
          refine A_iconst (v := 2) dX10_principal_71 rfl ?_
          refine A_aload_n dX10_principal_72 rfl rfl ?_
          refine A_getR (c2 := 43) (i2 := 0) dX10_principal_73 fX10_23 rfl (okK10 (by omega)) rfl ?_
          refine A_iload_n dX10_principal_76 rfl rfl ?_
          obtain ⟨j8, qj8, bj8, h⟩ := h
          refine A_iald (j := j8) dX10_principal_77 (by decide) rfl (okK43 (by omega)) qj8 bj8 ?_
          refine A_imul dX10_principal_78 ?_
          refine B_icmp_le (tgt := 106) dX10_principal_79 (by decide) rfl rfl ⟨fun q => ?_, fun q => ?_⟩
          · replace h := h.1 q
            exact A_pick [1, 0] rfl h
          · replace h := h.2 q
            refine A_aload_n dX10_principal_82 rfl rfl ?_
            refine A_getR (c2 := 43) (i2 := 0) dX10_principal_83 fX10_23 rfl (okK10 (by omega)) rfl ?_
            refine A_iload_n dX10_principal_86 rfl rfl ?_
            obtain ⟨j9, qj9, bj9, h⟩ := h
            refine A_iald (j := j9) dX10_principal_87 (by decide) rfl (okK43 (by omega)) qj9 bj9 ?_
            refine A_iconst (v := 1) dX10_principal_88 rfl ?_
            refine A_iadd dX10_principal_89 ?_
            refine A_iload_n dX10_principal_90 rfl rfl ?_
            refine A_isub dX10_principal_91 ?_
            refine A_istore (ls' := [(6, _), (5, _), (4, _), (0, _), (1, _), (2, _), (3, _)]) dX10_principal_92 (by decide) rfl ?_
            refine A_iload dX10_principal_94 rfl ?_
            refine A_iload dX10_principal_96 rfl ?_
            refine A_iadd dX10_principal_98 ?_
            refine A_iconst (v := 1) dX10_principal_99 rfl ?_
            refine A_isub dX10_principal_100 ?_
            refine A_iload dX10_principal_101 rfl ?_
            refine B_idiv dX10_principal_103 rfl rfl h.1 ?_
            replace h := h.2
            refine A_istore (ls' := [(5, _), (6, _), (4, _), (0, _), (1, _), (2, _), (3, _)]) dX10_principal_104 (by decide) rfl ?_
            exact A_pick [2, 0] rfl h
    · replace h := h.2 q
      refine A_aload_n dX10_principal_36 rfl rfl ?_
      refine A_getR (c2 := 46) (i2 := 0) dX10_principal_37 fX10_32 rfl (okK10 (by omega)) rfl ?_
      refine A_iload_n dX10_principal_40 rfl rfl ?_
      obtain ⟨j10, qj10, bj10, h⟩ := h
      refine A_iald (j := j10) dX10_principal_41 (by decide) rfl (okK46 (by omega)) qj10 bj10 ?_
      refine A_iload_n dX10_principal_42 rfl rfl ?_
      refine A_isub dX10_principal_43 ?_
      refine A_istore (ls' := [(5, _), (4, _), (0, _), (1, _), (2, _), (3, _)]) dX10_principal_44 (by decide) rfl ?_
      refine A_goto (tgt := 106) dX10_principal_46 (by decide) ?_
      exact A_pick [1, 0] rfl h
  · replace h := h.2 q
    refine A_iload dX10_principal_18 rfl ?_
    exact A_iret dX10_principal_20 ⟨rfl, _, rfl, h⟩
set_option maxRecDepth 100000 in
set_option maxHeartbeats 4000000 in
theorem vc_X10_principal_106 {G : GT} {l4 : Int} {l5 : Int} {N : NN} {K : Int → NN → Prop}  (h : ((0 ≤ (wI l5) → (((wI l4) ≤ (wI l5) → K l4 N) ∧ (¬ ((wI l4) ≤ (wI l5)) → K l5 N))) ∧ (¬ (0 ≤ (wI l5)) → K 0 N))) : W_X10_principal G K 106 [(4, vI l4), (5, vI l5)] [] N := by
  refine A_iload dX10_principal_106 rfl ?_
  refine B_if_ge (tgt := 115) dX10_principal_108 (by decide) rfl ⟨fun q => ?_, fun q => ?_⟩
  · replace h := h.1 q
    refine A_iload dX10_principal_115 rfl ?_
    refine A_iload dX10_principal_117 rfl ?_
    refine B_icmp_ge (tgt := 127) dX10_principal_119 (by decide) rfl rfl ⟨fun q => ?_, fun q => ?_⟩
    · replace h := h.1 q
      refine A_iload dX10_principal_127 rfl ?_
      exact A_iret dX10_principal_129 ⟨rfl, _, rfl, h⟩
    · replace h := h.2 q
      refine A_iload dX10_principal_122 rfl ?_
      refine A_goto (tgt := 129) dX10_principal_124 (by decide) ?_
      exact A_iret dX10_principal_129 ⟨rfl, _, rfl, h⟩
  · replace h := h.2 q
    refine A_iconst (v := 0) dX10_principal_111 rfl ?_
    refine A_goto (tgt := 129) dX10_principal_112 (by decide) ?_
    exact A_iret dX10_principal_129 ⟨rfl, _, rfl, h⟩
set_option maxRecDepth 100000 in
set_option maxHeartbeats 4000000 in
theorem vc_X10_tell {G : GT} {a1 : Int} {a2 : Int} {N : NN} {K : Int → NN → Prop}  (h : (C_X10_in G a1 0 2 N (fun x1 N1 => (((wI x1) = 0 → K ((-2)) N1) ∧ (¬ ((wI x1) = 0) → (((wI a1) ≠ 0 → (((wI a1) ≠ 1 → W_X10_tell G K 31 [(0, vR 10 0), (1, vI a1), (2, vI a2)] [vI 1, vI 0, vI a2] N1) ∧ (¬ ((wI a1) ≠ 1) → W_X10_tell G K 31 [(0, vR 10 0), (1, vI a1), (2, vI a2)] [vI 100, vI 0, vI a2] N1))) ∧ (¬ ((wI a1) ≠ 0) → W_X10_tell G K 31 [(0, vR 10 0), (1, vI a1), (2, vI a2)] [vI 99999, vI 0, vI a2] N1))))))) : C_X10_tell G a1 a2 N K := by
  refine Ctr.ofAW RX10 false rfl (by decide +kernel) (fun q => by cases q) (Nat.le_of_ble_eq_true rfl) (Nat.le_refl _) ?_
  refine A_iload_n dX10_tell_0 rfl rfl ?_
  refine A_iconst (v := 0) dX10_tell_1 rfl ?_
  refine A_iconst (v := 2) dX10_tell_2 rfl ?_
  refine B_callS_I (av := [vI a1, vI 0, vI 2]) rfl dX10_tell_3 vX10_186 mX10_in rfl (Nat.le_of_ble_eq_true rfl) (by decide) (by decide) rfl (BC_monoI h (fun x1 N1 h => ?_))
  refine B_if_eq (tgt := 37) dX10_tell_6 (by decide) rfl ⟨fun q => ?_, fun q => ?_⟩
  · replace h := h.1 q
    refine A_bipush (v := (-2)) dX10_tell_37 (by decide +kernel) ?_
    exact A_iret dX10_tell_39 ⟨rfl, _, rfl, h⟩
  · replace h := h.2 q
    refine A_iload_n dX10_tell_9 rfl rfl ?_
    refine A_iconst (v := 0) dX10_tell_10 rfl ?_
    refine A_iload_n dX10_tell_11 rfl rfl ?_
    refine B_if_ne (tgt := 20) dX10_tell_12 (by decide) rfl ⟨fun q => ?_, fun q => ?_⟩
    · replace h := h.1 q
      refine A_iload_n dX10_tell_20 rfl rfl ?_
      refine A_iconst (v := 1) dX10_tell_21 rfl ?_
      refine B_icmp_ne (tgt := 30) dX10_tell_22 (by decide) rfl (wlitI (by decide) (by decide)) ⟨fun q => ?_, fun q => ?_⟩
      · replace h := h.1 q
        refine A_iconst (v := 1) dX10_tell_30 rfl ?_
        exact A_pick [0, 1, 2] rfl h
      · replace h := h.2 q
        refine A_bipush (v := 100) dX10_tell_25 (by decide +kernel) ?_
        refine A_goto (tgt := 31) dX10_tell_27 (by decide) ?_
        exact A_pick [0, 1, 2] rfl h
    · replace h := h.2 q
      refine A_ldc (x := 99999) dX10_tell_15 kX10_213 (by decide +kernel) ?_
      refine A_goto (tgt := 31) dX10_tell_17 (by decide) ?_
      exact A_pick [0, 1, 2] rfl h
set_option maxRecDepth 100000 in
set_option maxHeartbeats 4000000 in
theorem vc_X10_tell_31 {G : GT} {l1 : Int} {l2 : Int} {s0 : Int} {s1 : Int} {s2 : Int} {N : NN} {K : Int → NN → Prop}  (h : (C_X10_in G s2 s1 s0 N (fun x1 N1 => (((wI x1) ≠ 0 → (((wI l1) ≠ 0 → (((wI l1) ≠ 1 → W_X10_tell G K 67 [(0, vR 10 0), (1, vI l1), (2, vI l2)] [vI (N1 10 0 13)] N1) ∧ (¬ ((wI l1) ≠ 1) → W_X10_tell G K 67 [(0, vR 10 0), (1, vI l1), (2, vI l2)] [vI (N1 10 0 12)] N1))) ∧ (¬ ((wI l1) ≠ 0) → W_X10_tell G K 67 [(0, vR 10 0), (1, vI l1), (2, vI l2)] [vI (N1 10 0 11)] N1))) ∧ (¬ ((wI x1) ≠ 0) → K ((-2)) N1))))) : W_X10_tell G K 31 [(0, vR 10 0), (1, vI l1), (2, vI l2)] [vI s0, vI s1, vI s2] N := by
  refine B_callS_I (av := [vI s2, vI s1, vI s0]) rfl dX10_tell_31 vX10_186 mX10_in rfl (Nat.le_of_ble_eq_true rfl) (by decide) (by decide) rfl (BC_monoI h (fun x1 N1 h => ?_))
  refine B_if_ne (tgt := 40) dX10_tell_34 (by decide) rfl ⟨fun q => ?_, fun q => ?_⟩
  · replace h := h.1 q
    refine A_iload_n dX10_tell_40 rfl rfl ?_
    refine B_if_ne (tgt := 51) dX10_tell_41 (by decide) rfl ⟨fun q => ?_, fun q => ?_⟩
    · replace h := h.1 q
      refine A_iload_n dX10_tell_51 rfl rfl ?_
      refine A_iconst (v := 1) dX10_tell_52 rfl ?_
      refine B_icmp_ne (tgt := 63) dX10_tell_53 (by decide) rfl (wlitI (by decide) (by decide)) ⟨fun q => ?_, fun q => ?_⟩
      · replace h := h.1 q
        refine A_aload_n dX10_tell_63 rfl rfl ?_
        refine A_getI dX10_tell_64 fX10_217 rfl (okK10 (by omega)) ?_
        exact A_pick [0, 1, 2] rfl h
      · replace h := h.2 q
        refine A_aload_n dX10_tell_56 rfl rfl ?_
        refine A_getI dX10_tell_57 fX10_38 rfl (okK10 (by omega)) ?_
        refine A_goto (tgt := 67) dX10_tell_60 (by decide) ?_
        exact A_pick [0, 1, 2] rfl h
    · replace h := h.2 q
      refine A_aload_n dX10_tell_44 rfl rfl ?_
      refine A_getI dX10_tell_45 fX10_214 rfl (okK10 (by omega)) ?_
      refine A_goto (tgt := 67) dX10_tell_48 (by decide) ?_
      exact A_pick [0, 1, 2] rfl h
  · replace h := h.2 q
    refine A_bipush (v := (-2)) dX10_tell_37 (by decide +kernel) ?_
    exact A_iret dX10_tell_39 ⟨rfl, _, rfl, h⟩
set_option maxRecDepth 100000 in
set_option maxHeartbeats 4000000 in
theorem vc_X10_tell_67 {G : GT} {l1 : Int} {l2 : Int} {s0 : Int} {N : NN} {K : Int → NN → Prop}  (h : (((wI l1) ≠ 0 → (((wI l1) ≠ 1 → (((wI l1) ≠ 2 → K s0 N) ∧ (¬ ((wI l1) ≠ 2) → (∀ M1 : NN, M1 = up3 N 10 0 13 l2 → K s0 M1)))) ∧ (¬ ((wI l1) ≠ 1) → (∀ M2 : NN, M2 = up3 N 10 0 12 l2 → (((wI l1) ≠ 2 → K s0 M2) ∧ (¬ ((wI l1) ≠ 2) → (∀ M3 : NN, M3 = up3 M2 10 0 13 l2 → K s0 M3))))))) ∧ (¬ ((wI l1) ≠ 0) → (∀ M4 : NN, M4 = up3 N 10 0 11 l2 → (((wI l1) ≠ 1 → (((wI l1) ≠ 2 → K s0 M4) ∧ (¬ ((wI l1) ≠ 2) → (∀ M5 : NN, M5 = up3 M4 10 0 13 l2 → K s0 M5)))) ∧ (¬ ((wI l1) ≠ 1) → (∀ M6 : NN, M6 = up3 M4 10 0 12 l2 → (((wI l1) ≠ 2 → K s0 M6) ∧ (¬ ((wI l1) ≠ 2) → (∀ M7 : NN, M7 = up3 M6 10 0 13 l2 → K s0 M7)))))))))) : W_X10_tell G K 67 [(0, vR 10 0), (1, vI l1), (2, vI l2)] [vI s0] N := by
  refine A_istore_n (ls' := [(3, _), (0, _), (1, _), (2, _)]) dX10_tell_67 rfl (by decide) rfl ?_
  refine A_iload_n dX10_tell_68 rfl rfl ?_
  refine B_if_ne (tgt := 77) dX10_tell_69 (by decide) rfl ⟨fun q => ?_, fun q => ?_⟩
  · replace h := h.1 q
    refine A_iload_n dX10_tell_77 rfl rfl ?_
    refine A_iconst (v := 1) dX10_tell_78 rfl ?_
    refine B_icmp_ne (tgt := 87) dX10_tell_79 (by decide) rfl (wlitI (by decide) (by decide)) ⟨fun q => ?_, fun q => ?_⟩
    · replace h := h.1 q
      refine A_iload_n dX10_tell_87 rfl rfl ?_
      refine A_iconst (v := 2) dX10_tell_88 rfl ?_
      refine B_icmp_ne (tgt := 97) dX10_tell_89 (by decide) rfl (wlitI (by decide) (by decide)) ⟨fun q => ?_, fun q => ?_⟩
      · replace h := h.1 q
        refine A_iload_n dX10_tell_97 rfl rfl ?_
        exact A_iret dX10_tell_98 ⟨rfl, _, rfl, h⟩
      · replace h := h.2 q
        refine A_aload_n dX10_tell_92 rfl rfl ?_
        refine A_iload_n dX10_tell_93 rfl rfl ?_
        refine B_putI dX10_tell_94 fX10_217 (by decide) (okK10 (by omega)) (fun M1 eM1 => ?_)
        replace h := h M1 eM1
        refine A_iload_n dX10_tell_97 rfl rfl ?_
        exact A_iret dX10_tell_98 ⟨rfl, _, rfl, h⟩
    · replace h := h.2 q
      refine A_aload_n dX10_tell_82 rfl rfl ?_
      refine A_iload_n dX10_tell_83 rfl rfl ?_
      refine B_putI dX10_tell_84 fX10_38 (by decide) (okK10 (by omega)) (fun M2 eM2 => ?_)
      replace h := h M2 eM2
      refine A_iload_n dX10_tell_87 rfl rfl ?_
      refine A_iconst (v := 2) dX10_tell_88 rfl ?_
      refine B_icmp_ne (tgt := 97) dX10_tell_89 (by decide) rfl (wlitI (by decide) (by decide)) ⟨fun q => ?_, fun q => ?_⟩
      · replace h := h.1 q
        refine A_iload_n dX10_tell_97 rfl rfl ?_
        exact A_iret dX10_tell_98 ⟨rfl, _, rfl, h⟩
      · replace h := h.2 q
        refine A_aload_n dX10_tell_92 rfl rfl ?_
        refine A_iload_n dX10_tell_93 rfl rfl ?_
        refine B_putI dX10_tell_94 fX10_217 (by decide) (okK10 (by omega)) (fun M3 eM3 => ?_)
        replace h := h M3 eM3
        refine A_iload_n dX10_tell_97 rfl rfl ?_
        exact A_iret dX10_tell_98 ⟨rfl, _, rfl, h⟩
  · replace h := h.2 q
    refine A_aload_n dX10_tell_72 rfl rfl ?_
    refine A_iload_n dX10_tell_73 rfl rfl ?_
    refine B_putI dX10_tell_74 fX10_214 (by decide) (okK10 (by omega)) (fun M4 eM4 => ?_)
    replace h := h M4 eM4
    refine A_iload_n dX10_tell_77 rfl rfl ?_
    refine A_iconst (v := 1) dX10_tell_78 rfl ?_
    refine B_icmp_ne (tgt := 87) dX10_tell_79 (by decide) rfl (wlitI (by decide) (by decide)) ⟨fun q => ?_, fun q => ?_⟩
    · replace h := h.1 q
      refine A_iload_n dX10_tell_87 rfl rfl ?_
      refine A_iconst (v := 2) dX10_tell_88 rfl ?_
      refine B_icmp_ne (tgt := 97) dX10_tell_89 (by decide) rfl (wlitI (by decide) (by decide)) ⟨fun q => ?_, fun q => ?_⟩
      · replace h := h.1 q
        refine A_iload_n dX10_tell_97 rfl rfl ?_
        exact A_iret dX10_tell_98 ⟨rfl, _, rfl, h⟩
      · replace h := h.2 q
        refine A_aload_n dX10_tell_92 rfl rfl ?_
        refine A_iload_n dX10_tell_93 rfl rfl ?_
        refine B_putI dX10_tell_94 fX10_217 (by decide) (okK10 (by omega)) (fun M5 eM5 => ?_)
        replace h := h M5 eM5
        refine A_iload_n dX10_tell_97 rfl rfl ?_
        exact A_iret dX10_tell_98 ⟨rfl, _, rfl, h⟩
    · replace h := h.2 q
      refine A_aload_n dX10_tell_82 rfl rfl ?_
      refine A_iload_n dX10_tell_83 rfl rfl ?_
      refine B_putI dX10_tell_84 fX10_38 (by decide) (okK10 (by omega)) (fun M6 eM6 => ?_)
      replace h := h M6 eM6
      refine A_iload_n dX10_tell_87 rfl rfl ?_
      refine A_iconst (v := 2) dX10_tell_88 rfl ?_
      refine B_icmp_ne (tgt := 97) dX10_tell_89 (by decide) rfl (wlitI (by decide) (by decide)) ⟨fun q => ?_, fun q => ?_⟩
      · replace h := h.1 q
        refine A_iload_n dX10_tell_97 rfl rfl ?_
        exact A_iret dX10_tell_98 ⟨rfl, _, rfl, h⟩
      · replace h := h.2 q
        refine A_aload_n dX10_tell_92 rfl rfl ?_
        refine A_iload_n dX10_tell_93 rfl rfl ?_
        refine B_putI dX10_tell_94 fX10_217 (by decide) (okK10 (by omega)) (fun M7 eM7 => ?_)
        replace h := h M7 eM7
        refine A_iload_n dX10_tell_97 rfl rfl ?_
        exact A_iret dX10_tell_98 ⟨rfl, _, rfl, h⟩
set_option maxRecDepth 100000 in
set_option maxHeartbeats 4000000 in
theorem vc_X10_buy {G : GT} {a1 : Int} {N : NN} {K : Int → NN → Prop}  (h : (C_X10_isLoan G a1 N (fun x1 N1 => (((wI x1) ≠ 0 → (∃ j2 : Nat, (wI a1) = (j2 : Int) ∧ j2 < 12 ∧ (((wI (N1 45 0 j2)) = 0 → (∃ j3 : Nat, (wI a1) = (j3 : Int) ∧ j3 < 12 ∧ (∀ M4 : NN, M4 = up3 N1 45 0 j3 6 → (∃ j5 : Nat, (wI a1) = (j5 : Int) ∧ j5 < 12 ∧ (∃ j6 : Nat, (wI a1) = (j6 : Int) ∧ j6 < 12 ∧ K ((M4 41 0 j5) + (M4 44 0 j6)) M4))))) ∧ (¬ ((wI (N1 45 0 j2)) = 0) → (∃ j7 : Nat, (wI a1) = (j7 : Int) ∧ j7 < 12 ∧ (((wI (N1 45 0 j7)) = 1 → (∃ j8 : Nat, (wI a1) = (j8 : Int) ∧ j8 < 12 ∧ (∀ M9 : NN, M9 = up3 N1 45 0 j8 6 → (∃ j10 : Nat, (wI a1) = (j10 : Int) ∧ j10 < 12 ∧ (∃ j11 : Nat, (wI a1) = (j11 : Int) ∧ j11 < 12 ∧ K ((M9 41 0 j10) + (M9 44 0 j11)) M9))))) ∧ (¬ ((wI (N1 45 0 j7)) = 1) → K ((-3)) N1))))))) ∧ (¬ ((wI x1) ≠ 0) → K ((-2)) N1))))) : C_X10_buy G a1 N K := by
  refine Ctr.ofAW RX10 false rfl (by decide +kernel) (fun q => by cases q) (Nat.le_of_ble_eq_true rfl) (Nat.le_refl _) ?_
  refine A_aload_n dX10_buy_0 rfl rfl ?_
  refine A_iload_n dX10_buy_1 rfl rfl ?_
  refine B_callV_I (av := [vI a1]) rfl dX10_buy_2 vX10_198 mX10_isLoan ⟨rfl, rfl, by decide⟩ (okK10 (by omega)) rfl (Nat.le_of_ble_eq_true rfl) (by decide) (by decide) rfl (BC_monoI h (fun x1 N1 h => ?_))
  refine B_if_ne (tgt := 11) dX10_buy_5 (by decide) rfl ⟨fun q => ?_, fun q => ?_⟩
  · replace h := h.1 q
    refine A_aload_n dX10_buy_11 rfl rfl ?_
    refine A_getR (c2 := 45) (i2 := 0) dX10_buy_12 fX10_29 rfl (okK10 (by omega)) rfl ?_
    refine A_iload_n dX10_buy_15 rfl rfl ?_
    obtain ⟨j2, qj2, bj2, h⟩ := h
    refine A_iald (j := j2) dX10_buy_16 (by decide) rfl (okK45 (by omega)) qj2 bj2 ?_
    refine B_if_eq (tgt := 33) dX10_buy_17 (by decide) rfl ⟨fun q => ?_, fun q => ?_⟩
    · replace h := h.1 q
      refine A_aload_n dX10_buy_33 rfl rfl ?_
      refine A_getR (c2 := 45) (i2 := 0) dX10_buy_34 fX10_29 rfl (okK10 (by omega)) rfl ?_
      refine A_iload_n dX10_buy_37 rfl rfl ?_
      refine A_bipush (v := 6) dX10_buy_38 (by decide +kernel) ?_
      obtain ⟨j3, qj3, bj3, h⟩ := h
      refine B_iast (j := j3) dX10_buy_40 (by decide) rfl (okK45 (by omega)) qj3 bj3 (fun M4 eM4 => ?_)
      replace h := h M4 eM4
      refine A_aload_n dX10_buy_41 rfl rfl ?_
      refine A_getR (c2 := 41) (i2 := 0) dX10_buy_42 fX10_17 rfl (okK10 (by omega)) rfl ?_
      refine A_iload_n dX10_buy_45 rfl rfl ?_
      obtain ⟨j5, qj5, bj5, h⟩ := h
      refine A_iald (j := j5) dX10_buy_46 (by decide) rfl (okK41 (by omega)) qj5 bj5 ?_
      refine A_aload_n dX10_buy_47 rfl rfl ?_
      refine A_getR (c2 := 44) (i2 := 0) dX10_buy_48 fX10_26 rfl (okK10 (by omega)) rfl ?_
      refine A_iload_n dX10_buy_51 rfl rfl ?_
      obtain ⟨j6, qj6, bj6, h⟩ := h
      refine A_iald (j := j6) dX10_buy_52 (by decide) rfl (okK44 (by omega)) qj6 bj6 ?_
      refine A_iadd dX10_buy_53 ?_
      exact A_iret dX10_buy_54 ⟨rfl, _, rfl, h⟩
    · replace h := h.2 q
      refine A_aload_n dX10_buy_20 rfl rfl ?_
      refine A_getR (c2 := 45) (i2 := 0) dX10_buy_21 fX10_29 rfl (okK10 (by omega)) rfl ?_
      refine A_iload_n dX10_buy_24 rfl rfl ?_
      obtain ⟨j7, qj7, bj7, h⟩ := h
      refine A_iald (j := j7) dX10_buy_25 (by decide) rfl (okK45 (by omega)) qj7 bj7 ?_
      refine A_iconst (v := 1) dX10_buy_26 rfl ?_
      refine B_icmp_eq (tgt := 33) dX10_buy_27 (by decide) rfl (wlitI (by decide) (by decide)) ⟨fun q => ?_, fun q => ?_⟩
      · replace h := h.1 q
        refine A_aload_n dX10_buy_33 rfl rfl ?_
        refine A_getR (c2 := 45) (i2 := 0) dX10_buy_34 fX10_29 rfl (okK10 (by omega)) rfl ?_
        refine A_iload_n dX10_buy_37 rfl rfl ?_
        refine A_bipush (v := 6) dX10_buy_38 (by decide +kernel) ?_
        obtain ⟨j8, qj8, bj8, h⟩ := h
        refine B_iast (j := j8) dX10_buy_40 (by decide) rfl (okK45 (by omega)) qj8 bj8 (fun M9 eM9 => ?_)
        replace h := h M9 eM9
        refine A_aload_n dX10_buy_41 rfl rfl ?_
        refine A_getR (c2 := 41) (i2 := 0) dX10_buy_42 fX10_17 rfl (okK10 (by omega)) rfl ?_
        refine A_iload_n dX10_buy_45 rfl rfl ?_
        obtain ⟨j10, qj10, bj10, h⟩ := h
        refine A_iald (j := j10) dX10_buy_46 (by decide) rfl (okK41 (by omega)) qj10 bj10 ?_
        refine A_aload_n dX10_buy_47 rfl rfl ?_
        refine A_getR (c2 := 44) (i2 := 0) dX10_buy_48 fX10_26 rfl (okK10 (by omega)) rfl ?_
        refine A_iload_n dX10_buy_51 rfl rfl ?_
        obtain ⟨j11, qj11, bj11, h⟩ := h
        refine A_iald (j := j11) dX10_buy_52 (by decide) rfl (okK44 (by omega)) qj11 bj11 ?_
        refine A_iadd dX10_buy_53 ?_
        exact A_iret dX10_buy_54 ⟨rfl, _, rfl, h⟩
      · replace h := h.2 q
        refine A_bipush (v := (-3)) dX10_buy_30 (by decide +kernel) ?_
        exact A_iret dX10_buy_32 ⟨rfl, _, rfl, h⟩
  · replace h := h.2 q
    refine A_bipush (v := (-2)) dX10_buy_8 (by decide +kernel) ?_
    exact A_iret dX10_buy_10 ⟨rfl, _, rfl, h⟩
set_option maxRecDepth 100000 in
set_option maxHeartbeats 4000000 in
theorem vc_X10_within {G : GT} {a0 : Int} {N : NN} {K : Int → NN → Prop}  (h : ((0 ≤ (wI a0) → (((wI a0) ≤ 1000 → K a0 N) ∧ (¬ ((wI a0) ≤ 1000) → K 1000 N))) ∧ (¬ (0 ≤ (wI a0)) → K 0 N))) : C_X10_within G a0 N K := by
  refine Ctr.ofAW RX10 false rfl (by decide +kernel) (fun q => by cases q) (Nat.le_of_ble_eq_true rfl) (Nat.le_refl _) ?_
  refine A_iload_n dX10_within_0 rfl rfl ?_
  refine B_if_ge (tgt := 8) dX10_within_1 (by decide) rfl ⟨fun q => ?_, fun q => ?_⟩
  · replace h := h.1 q
    refine A_iload_n dX10_within_8 rfl rfl ?_
    refine A_sipush (v := 1000) dX10_within_9 (by decide +kernel) ?_
    refine B_icmp_le (tgt := 21) dX10_within_12 (by decide) rfl (wlitI (by decide) (by decide)) ⟨fun q => ?_, fun q => ?_⟩
    · replace h := h.1 q
      refine A_iload_n dX10_within_21 rfl rfl ?_
      exact A_iret dX10_within_22 ⟨rfl, _, rfl, h⟩
    · replace h := h.2 q
      refine A_sipush (v := 1000) dX10_within_15 (by decide +kernel) ?_
      refine A_goto (tgt := 22) dX10_within_18 (by decide) ?_
      exact A_iret dX10_within_22 ⟨rfl, _, rfl, h⟩
  · replace h := h.2 q
    refine A_iconst (v := 0) dX10_within_4 rfl ?_
    refine A_goto (tgt := 22) dX10_within_5 (by decide) ?_
    exact A_iret dX10_within_22 ⟨rfl, _, rfl, h⟩
set_option maxRecDepth 100000 in
set_option maxHeartbeats 4000000 in
theorem vc_X10_lot {G : GT} {a1 : Int} {a2 : Int} {N : NN} {K : Int → NN → Prop}  (h : K (((wL (((wL (((((wI (N 10 0 11))) + (7919 * ((wI a1)))) + (104729 * ((wI a2)))) * 48271))).tmod 2147483647))).tmod 1000) N) : C_X10_lot G a1 a2 N K := by
  refine Ctr.ofAW RX10 false rfl (by decide +kernel) (fun q => by cases q) (Nat.le_of_ble_eq_true rfl) (Nat.le_refl _) ?_
  refine A_aload_n dX10_lot_0 rfl rfl ?_
  refine A_getI dX10_lot_1 fX10_214 rfl (okK10 (by omega)) ?_
  refine B_i2l dX10_lot_4 rfl ?_
  refine A_ldc2 (x := 7919) dX10_lot_5 kX10_220 (by decide +kernel) ?_
  refine A_iload_n dX10_lot_8 rfl rfl ?_
  refine B_i2l dX10_lot_9 rfl ?_
  refine A_lmul dX10_lot_10 ?_
  refine A_ladd dX10_lot_11 ?_
  refine A_ldc2 (x := 104729) dX10_lot_12 kX10_222 (by decide +kernel) ?_
  refine A_iload_n dX10_lot_15 rfl rfl ?_
  refine B_i2l dX10_lot_16 rfl ?_
  refine A_lmul dX10_lot_17 ?_
  refine A_ladd dX10_lot_18 ?_
  refine A_ldc2 (x := 48271) dX10_lot_19 kX10_224 (by decide +kernel) ?_
  refine A_lmul dX10_lot_22 ?_
  refine A_ldc2 (x := 2147483647) dX10_lot_23 kX10_226 (by decide +kernel) ?_
  refine B_lrem dX10_lot_26 rfl (wlitL (by decide) (by decide)) (by decide) ?_
  refine A_ldc2 (x := 1000) dX10_lot_27 kX10_228 (by decide +kernel) ?_
  refine B_lrem dX10_lot_30 rfl (wlitL (by decide) (by decide)) (by decide) ?_
  refine A_l2i dX10_lot_31 ?_
  exact A_iret dX10_lot_32 ⟨rfl, _, rfl, h⟩
set_option maxRecDepth 100000 in
set_option maxHeartbeats 4000000 in
theorem vc_X10_paysOff {G : GT} {a1 : Int} {a2 : Int} {a3 : Int} {a4 : Int} {N : NN} {K : NN → Prop}  (h : (∃ j1 : Nat, (wI a2) = (j1 : Int) ∧ j1 < 61 ∧ (∃ j2 : Nat, (wI a1) = (j2 : Int) ∧ j2 < 12 ∧ (∃ j3 : Nat, (wI a2) = (j3 : Int) ∧ j3 < 61 ∧ (∀ M4 : NN, M4 = up3 N 48 0 j3 ((N 48 0 j1) + ((wI (a3 + (N 44 0 j2))))) → (∃ j5 : Nat, (wI a2) = (j5 : Int) ∧ j5 < 61 ∧ (∃ j6 : Nat, (wI a1) = (j6 : Int) ∧ j6 < 12 ∧ (∃ j7 : Nat, (wI a2) = (j7 : Int) ∧ j7 < 61 ∧ (∀ M8 : NN, M8 = up3 M4 49 0 j7 ((M4 49 0 j5) + ((wI (M4 41 0 j6)))) → (∃ j9 : Nat, (wI a1) = (j9 : Int) ∧ j9 < 12 ∧ (∀ M10 : NN, M10 = up3 M8 44 0 j9 0 → (∃ j11 : Nat, (wI a1) = (j11 : Int) ∧ j11 < 12 ∧ (∀ M12 : NN, M12 = up3 M10 41 0 j11 0 → (∃ j13 : Nat, (wI a1) = (j13 : Int) ∧ j13 < 12 ∧ (∀ M14 : NN, M14 = up3 M12 45 0 j13 a4 → K M14))))))))))))))) : C_X10_paysOff G a1 a2 a3 a4 N K := by
  refine Ctr.ofAW RX10 false rfl (by decide +kernel) (fun q => by cases q) (Nat.le_of_ble_eq_true rfl) (Nat.le_refl _) ?_
  refine A_aload_n dX10_paysOff_0 rfl rfl ?_
  refine A_getR (c2 := 48) (i2 := 0) dX10_paysOff_1 fX10_41 rfl (okK10 (by omega)) rfl ?_
  refine A_iload_n dX10_paysOff_4 rfl rfl ?_
  refine A_dup2 dX10_paysOff_5 rfl rfl ?_
  obtain ⟨j1, qj1, bj1, h⟩ := h
  refine A_lald (j := j1) dX10_paysOff_6 (by decide) rfl (okK48 (by omega)) qj1 bj1 ?_
  refine A_iload_n dX10_paysOff_7 rfl rfl ?_
  refine A_aload_n dX10_paysOff_8 rfl rfl ?_
  refine A_getR (c2 := 44) (i2 := 0) dX10_paysOff_9 fX10_26 rfl (okK10 (by omega)) rfl ?_
  refine A_iload_n dX10_paysOff_12 rfl rfl ?_
  obtain ⟨j2, qj2, bj2, h⟩ := h
  refine A_iald (j := j2) dX10_paysOff_13 (by decide) rfl (okK44 (by omega)) qj2 bj2 ?_
  refine A_iadd dX10_paysOff_14 ?_
  refine B_i2l dX10_paysOff_15 rfl ?_
  refine A_ladd dX10_paysOff_16 ?_
  obtain ⟨j3, qj3, bj3, h⟩ := h
  refine B_last (j := j3) dX10_paysOff_17 (by decide) rfl (okK48 (by omega)) qj3 bj3 (fun M4 eM4 => ?_)
  replace h := h M4 eM4
  refine A_aload_n dX10_paysOff_18 rfl rfl ?_
  refine A_getR (c2 := 49) (i2 := 0) dX10_paysOff_19 fX10_45 rfl (okK10 (by omega)) rfl ?_
  refine A_iload_n dX10_paysOff_22 rfl rfl ?_
  refine A_dup2 dX10_paysOff_23 rfl rfl ?_
  obtain ⟨j5, qj5, bj5, h⟩ := h
  refine A_lald (j := j5) dX10_paysOff_24 (by decide) rfl (okK49 (by omega)) qj5 bj5 ?_
  refine A_aload_n dX10_paysOff_25 rfl rfl ?_
  refine A_getR (c2 := 41) (i2 := 0) dX10_paysOff_26 fX10_17 rfl (okK10 (by omega)) rfl ?_
  refine A_iload_n dX10_paysOff_29 rfl rfl ?_
  obtain ⟨j6, qj6, bj6, h⟩ := h
  refine A_iald (j := j6) dX10_paysOff_30 (by decide) rfl (okK41 (by omega)) qj6 bj6 ?_
  refine B_i2l dX10_paysOff_31 rfl ?_
  refine A_ladd dX10_paysOff_32 ?_
  obtain ⟨j7, qj7, bj7, h⟩ := h
  refine B_last (j := j7) dX10_paysOff_33 (by decide) rfl (okK49 (by omega)) qj7 bj7 (fun M8 eM8 => ?_)
  replace h := h M8 eM8
  refine A_aload_n dX10_paysOff_34 rfl rfl ?_
  refine A_getR (c2 := 44) (i2 := 0) dX10_paysOff_35 fX10_26 rfl (okK10 (by omega)) rfl ?_
  refine A_iload_n dX10_paysOff_38 rfl rfl ?_
  refine A_iconst (v := 0) dX10_paysOff_39 rfl ?_
  obtain ⟨j9, qj9, bj9, h⟩ := h
  refine B_iast (j := j9) dX10_paysOff_40 (by decide) rfl (okK44 (by omega)) qj9 bj9 (fun M10 eM10 => ?_)
  replace h := h M10 eM10
  refine A_aload_n dX10_paysOff_41 rfl rfl ?_
  refine A_getR (c2 := 41) (i2 := 0) dX10_paysOff_42 fX10_17 rfl (okK10 (by omega)) rfl ?_
  refine A_iload_n dX10_paysOff_45 rfl rfl ?_
  refine A_iconst (v := 0) dX10_paysOff_46 rfl ?_
  obtain ⟨j11, qj11, bj11, h⟩ := h
  refine B_iast (j := j11) dX10_paysOff_47 (by decide) rfl (okK41 (by omega)) qj11 bj11 (fun M12 eM12 => ?_)
  replace h := h M12 eM12
  refine A_aload_n dX10_paysOff_48 rfl rfl ?_
  refine A_getR (c2 := 45) (i2 := 0) dX10_paysOff_49 fX10_29 rfl (okK10 (by omega)) rfl ?_
  refine A_iload_n dX10_paysOff_52 rfl rfl ?_
  refine A_iload dX10_paysOff_53 rfl ?_
  obtain ⟨j13, qj13, bj13, h⟩ := h
  refine B_iast (j := j13) dX10_paysOff_55 (by decide) rfl (okK45 (by omega)) qj13 bj13 (fun M14 eM14 => ?_)
  replace h := h M14 eM14
  exact A_vret dX10_paysOff_56 ⟨rfl, rfl, h⟩
set_option maxRecDepth 100000 in
set_option maxHeartbeats 4000000 in
theorem vc_X10_goes {G : GT} {a1 : Int} {a2 : Int} {N : NN} {K : NN → Prop}  (h : (C_X10_saysOf G a1 a2 0 N (fun x1 N1 => (C_X10_within G x1 N1 (fun x2 N2 => (C_X10_saysOf G a1 a2 1 N2 (fun x3 N3 => (C_X10_within G x3 N3 (fun x4 N4 => (C_X10_saysOf G a1 a2 2 N4 (fun x5 N5 => (C_X10_within G x5 N5 (fun x6 N6 => (C_X10_lot G a1 a2 N6 (fun x7 N7 => (∃ j8 : Nat, (wI a1) = (j8 : Int) ∧ j8 < 12 ∧ (∃ j9 : Nat, (wI a1) = (j9 : Int) ∧ j9 < 12 ∧ (C_X10_interest G (N7 41 0 j8) (N7 42 0 j9) N7 (fun x10 N10 => (∃ j11 : Nat, (wI a1) = (j11 : Int) ∧ j11 < 12 ∧ (((wI a2) ≠ (wI (N10 43 0 j11)) → W_X10_goes G K 75 [(0, vR 10 0), (1, vI a1), (2, vI a2), (3, vI x2), (4, vI x4), (5, vI x6), (6, vI x7), (7, vI x10)] [vI 0] N10) ∧ (¬ ((wI a2) ≠ (wI (N10 43 0 j11))) → W_X10_goes G K 75 [(0, vR 10 0), (1, vI a1), (2, vI a2), (3, vI x2), (4, vI x4), (5, vI x6), (6, vI x7), (7, vI x10)] [vI 1] N10)))))))))))))))))))))) : C_X10_goes G a1 a2 N K := by
  refine Ctr.ofAW RX10 false rfl (by decide +kernel) (fun q => by cases q) (Nat.le_of_ble_eq_true rfl) (Nat.le_refl _) ?_
  refine A_aload_n dX10_goes_0 rfl rfl ?_
  refine A_iload_n dX10_goes_1 rfl rfl ?_
  refine A_iload_n dX10_goes_2 rfl rfl ?_
  refine A_iconst (v := 0) dX10_goes_3 rfl ?_
  refine B_callV_I (av := [vI a1, vI a2, vI 0]) rfl dX10_goes_4 vX10_230 mX10_saysOf ⟨rfl, rfl, by decide⟩ (okK10 (by omega)) rfl (Nat.le_of_ble_eq_true rfl) (by decide) (by decide) rfl (BC_monoI h (fun x1 N1 h => ?_))
  refine B_callS_I (av := [vI x1]) rfl dX10_goes_7 vX10_234 mX10_within rfl (Nat.le_of_ble_eq_true rfl) (by decide) (by decide) rfl (BC_monoI h (fun x2 N2 h => ?_))
  refine A_istore_n (ls' := [(3, _), (0, _), (1, _), (2, _)]) dX10_goes_10 rfl (by decide) rfl ?_
  refine A_aload_n dX10_goes_11 rfl rfl ?_
  refine A_iload_n dX10_goes_12 rfl rfl ?_
  refine A_iload_n dX10_goes_13 rfl rfl ?_
  refine A_iconst (v := 1) dX10_goes_14 rfl ?_
  refine B_callV_I (av := [vI a1, vI a2, vI 1]) rfl dX10_goes_15 vX10_230 mX10_saysOf ⟨rfl, rfl, by decide⟩ (okK10 (by omega)) rfl (Nat.le_of_ble_eq_true rfl) (by decide) (by decide) rfl (BC_monoI h (fun x3 N3 h => ?_))
  refine B_callS_I (av := [vI x3]) rfl dX10_goes_18 vX10_234 mX10_within rfl (Nat.le_of_ble_eq_true rfl) (by decide) (by decide) rfl (BC_monoI h (fun x4 N4 h => ?_))
  refine A_istore (ls' := [(4, _), (3, _), (0, _), (1, _), (2, _)]) dX10_goes_21 (by decide) rfl ?_
  refine A_aload_n dX10_goes_23 rfl rfl ?_
  refine A_iload_n dX10_goes_24 rfl rfl ?_
  refine A_iload_n dX10_goes_25 rfl rfl ?_
  refine A_iconst (v := 2) dX10_goes_26 rfl ?_
  refine B_callV_I (av := [vI a1, vI a2, vI 2]) rfl dX10_goes_27 vX10_230 mX10_saysOf ⟨rfl, rfl, by decide⟩ (okK10 (by omega)) rfl (Nat.le_of_ble_eq_true rfl) (by decide) (by decide) rfl (BC_monoI h (fun x5 N5 h => ?_))
  refine B_callS_I (av := [vI x5]) rfl dX10_goes_30 vX10_234 mX10_within rfl (Nat.le_of_ble_eq_true rfl) (by decide) (by decide) rfl (BC_monoI h (fun x6 N6 h => ?_))
  refine A_istore (ls' := [(5, _), (4, _), (3, _), (0, _), (1, _), (2, _)]) dX10_goes_33 (by decide) rfl ?_
  refine A_aload_n dX10_goes_35 rfl rfl ?_
  refine A_iload_n dX10_goes_36 rfl rfl ?_
  refine A_iload_n dX10_goes_37 rfl rfl ?_
  refine B_callV_I (av := [vI a1, vI a2]) rfl dX10_goes_38 vX10_238 mX10_lot ⟨rfl, rfl, by decide⟩ (okK10 (by omega)) rfl (Nat.le_of_ble_eq_true rfl) (by decide) (by decide) rfl (BC_monoI h (fun x7 N7 h => ?_))
  refine A_istore (ls' := [(6, _), (5, _), (4, _), (3, _), (0, _), (1, _), (2, _)]) dX10_goes_41 (by decide) rfl ?_
  refine A_aload_n dX10_goes_43 rfl rfl ?_
  refine A_getR (c2 := 41) (i2 := 0) dX10_goes_44 fX10_17 rfl (okK10 (by omega)) rfl ?_
  refine A_iload_n dX10_goes_47 rfl rfl ?_
  obtain ⟨j8, qj8, bj8, h⟩ := h
  refine A_iald (j := j8) dX10_goes_48 (by decide) rfl (okK41 (by omega)) qj8 bj8 ?_
  refine A_aload_n dX10_goes_49 rfl rfl ?_
  refine A_getR (c2 := 42) (i2 := 0) dX10_goes_50 fX10_20 rfl (okK10 (by omega)) rfl ?_
  refine A_iload_n dX10_goes_53 rfl rfl ?_
  obtain ⟨j9, qj9, bj9, h⟩ := h
  refine A_iald (j := j9) dX10_goes_54 (by decide) rfl (okK42 (by omega)) qj9 bj9 ?_
  refine B_callS_I (av := [vI (N7 41 0 j8), vI (N7 42 0 j9)]) rfl dX10_goes_55 vX10_202 mX10_interest rfl (Nat.le_of_ble_eq_true rfl) (by decide) (by decide) rfl (BC_monoI h (fun x10 N10 h => ?_))
  refine A_istore (ls' := [(7, _), (6, _), (5, _), (4, _), (3, _), (0, _), (1, _), (2, _)]) dX10_goes_58 (by decide) rfl ?_
  refine A_iload_n dX10_goes_60 rfl rfl ?_
  refine A_aload_n dX10_goes_61 rfl rfl ?_
  refine A_getR (c2 := 43) (i2 := 0) dX10_goes_62 fX10_23 rfl (okK10 (by omega)) rfl ?_
  refine A_iload_n dX10_goes_65 rfl rfl ?_
  obtain ⟨j11, qj11, bj11, h⟩ := h
  refine A_iald (j := j11) dX10_goes_66 (by decide) rfl (okK43 (by omega)) qj11 bj11 ?_
  refine B_icmp_ne (tgt := 74) dX10_goes_67 (by decide) rfl rfl ⟨fun q => ?_, fun q => ?_⟩
  · replace h := h.1 q
    refine A_iconst (v := 0) dX10_goes_74 rfl ?_
    exact A_pick [5, 6, 7, 4, 3, 2, 1, 0] rfl h
  · replace h := h.2 q
    refine A_iconst (v := 1) dX10_goes_70 rfl ?_
    refine A_goto (tgt := 75) dX10_goes_71 (by decide) ?_
    exact A_pick [5, 6, 7, 4, 3, 2, 1, 0] rfl h
set_option maxRecDepth 100000 in
set_option maxHeartbeats 4000000 in
theorem vc_X10_goes_75 {G : GT} {l1 : Int} {l2 : Int} {l3 : Int} {l4 : Int} {l5 : Int} {l6 : Int} {l7 : Int} {s0 : Int} {N : NN} {K : NN → Prop}  (h : (∃ j1 : Nat, (wI l1) = (j1 : Int) ∧ j1 < 12 ∧ (((wI (N 40 0 j1)) ≠ 4 → W_X10_goes G K 103 [(0, vR 10 0), (1, vI l1), (2, vI l2), (3, vI l3), (4, vI l4), (5, vI l5), (6, vI l6), (7, vI l7), (8, vI s0)] [] N) ∧ (¬ ((wI (N 40 0 j1)) ≠ 4) → (((wI (((wI l2)).tmod 6)) ≠ 0 → W_X10_goes G K 103 [(0, vR 10 0), (1, vI l1), (2, vI l2), (3, vI l3), (4, vI l4), (5, vI l5), (6, vI l6), (7, vI l7), (8, vI s0)] [] N) ∧ (¬ ((wI (((wI l2)).tmod 6)) ≠ 0) → (((wI s0) ≠ 0 → W_X10_goes G K 103 [(0, vR 10 0), (1, vI l1), (2, vI l2), (3, vI l3), (4, vI l4), (5, vI l5), (6, vI l6), (7, vI l7), (8, vI s0)] [] N) ∧ (¬ ((wI s0) ≠ 0) → W_X10_goes G K 104 [(0, vR 10 0), (1, vI l1), (2, vI l2), (3, vI l3), (4, vI l4), (5, vI l5), (6, vI l6), (7, vI l7), (8, vI s0)] [vI 1] N)))))))) : W_X10_goes G K 75 [(0, vR 10 0), (1, vI l1), (2, vI l2), (3, vI l3), (4, vI l4), (5, vI l5), (6, vI l6), (7, vI l7)] [vI s0] N := by
  refine A_istore (ls' := [(8, _), (0, _), (1, _), (2, _), (3, _), (4, _), (5, _), (6, _), (7, _)]) dX10_goes_75 (by decide) rfl ?_
  refine A_aload_n dX10_goes_77 rfl rfl ?_
  refine A_getR (c2 := 40) (i2 := 0) dX10_goes_78 fX10_13 rfl (okK10 (by omega)) rfl ?_
  refine A_iload_n dX10_goes_81 rfl rfl ?_
  obtain ⟨j1, qj1, bj1, h⟩ := h
  refine A_iald (j := j1) dX10_goes_82 (by decide) rfl (okK40 (by omega)) qj1 bj1 ?_
  refine A_iconst (v := 4) dX10_goes_83 rfl ?_
  refine B_icmp_ne (tgt := 103) dX10_goes_84 (by decide) rfl (wlitI (by decide) (by decide)) ⟨fun q => ?_, fun q => ?_⟩
  · replace h := h.1 q
    exact A_pick [1, 2, 3, 4, 5, 6, 7, 8, 0] rfl h
  · replace h := h.2 q
    refine A_iload_n dX10_goes_87 rfl rfl ?_
    refine A_bipush (v := 6) dX10_goes_88 (by decide +kernel) ?_
    refine B_irem dX10_goes_90 rfl (wlitI (by decide) (by decide)) (by decide) ?_
    refine B_if_ne (tgt := 103) dX10_goes_91 (by decide) rfl ⟨fun q => ?_, fun q => ?_⟩
    · replace h := h.1 q
      exact A_pick [1, 2, 3, 4, 5, 6, 7, 8, 0] rfl h
    · replace h := h.2 q
      refine A_iload dX10_goes_94 rfl ?_
      refine B_if_ne (tgt := 103) dX10_goes_96 (by decide) rfl ⟨fun q => ?_, fun q => ?_⟩
      · replace h := h.1 q
        exact A_pick [1, 2, 3, 4, 5, 6, 7, 8, 0] rfl h
      · replace h := h.2 q
        refine A_iconst (v := 1) dX10_goes_99 rfl ?_
        refine A_goto (tgt := 104) dX10_goes_100 (by decide) ?_
        exact A_pick [1, 2, 3, 4, 5, 6, 7, 8, 0] rfl h
set_option maxRecDepth 100000 in
set_option maxHeartbeats 4000000 in
theorem vc_X10_goes_103 {G : GT} {l1 : Int} {l2 : Int} {l3 : Int} {l4 : Int} {l5 : Int} {l6 : Int} {l7 : Int} {l8 : Int} {N : NN} {K : NN → Prop}  (h : W_X10_goes G K 104 [(0, vR 10 0), (1, vI l1), (2, vI l2), (3, vI l3), (4, vI l4), (5, vI l5), (6, vI l6), (7, vI l7), (8, vI l8)] [vI 0] N) : W_X10_goes G K 103 [(0, vR 10 0), (1, vI l1), (2, vI l2), (3, vI l3), (4, vI l4), (5, vI l5), (6, vI l6), (7, vI l7), (8, vI l8)] [] N := by
  refine A_iconst (v := 0) dX10_goes_103 rfl ?_
  exact A_pick [0, 1, 2, 3, 4, 5, 6, 7, 8] rfl h
set_option maxRecDepth 100000 in
set_option maxHeartbeats 4000000 in
theorem vc_X10_goes_104 {G : GT} {l1 : Int} {l2 : Int} {l3 : Int} {l4 : Int} {l5 : Int} {l6 : Int} {l7 : Int} {l8 : Int} {s0 : Int} {N : NN} {K : NN → Prop}  (h : (((wI l3) ≤ (wI l6) → (((wI (l3 + l4)) ≤ (wI l6) → W_X10_goes G K 210 [(0, vR 10 0), (1, vI l1), (2, vI l2), (3, vI l3), (4, vI l4), (5, vI l5), (6, vI l6), (7, vI l7), (8, vI l8), (9, vI s0)] [] N) ∧ (¬ ((wI (l3 + l4)) ≤ (wI l6)) → (((wI s0) ≠ 0 → W_X10_goes G K 210 [(0, vR 10 0), (1, vI l1), (2, vI l2), (3, vI l3), (4, vI l4), (5, vI l5), (6, vI l6), (7, vI l7), (8, vI l8), (9, vI s0)] [] N) ∧ (¬ ((wI s0) ≠ 0) → (∃ j1 : Nat, (wI l1) = (j1 : Int) ∧ j1 < 12 ∧ (∀ M2 : NN, M2 = up3 N 45 0 j1 1 → (∃ j3 : Nat, (wI l1) = (j3 : Int) ∧ j3 < 12 ∧ (∃ j4 : Nat, (wI l1) = (j4 : Int) ∧ j4 < 12 ∧ (∀ M5 : NN, M5 = up3 M2 44 0 j4 ((M2 44 0 j3) + l7) → (∃ j6 : Nat, (wI l2) = (j6 : Int) ∧ j6 < 61 ∧ (((wI (M5 10 0 13)) ≠ 1 → (∃ j7 : Nat, (wI l2) = (j7 : Int) ∧ j7 < 61 ∧ (∀ M8 : NN, M8 = up3 M5 51 0 j7 ((M5 51 0 j6) + 0) → (∃ j9 : Nat, (wI l1) = (j9 : Int) ∧ j9 < 12 ∧ (((wI l8) = 0 → (∃ j10 : Nat, (wI l1) = (j10 : Int) ∧ j10 < 12 ∧ (∀ M11 : NN, M11 = up3 M8 43 0 j10 ((M8 43 0 j9) + 0) → K M11))) ∧ (¬ ((wI l8) = 0) → (∃ j12 : Nat, (wI l1) = (j12 : Int) ∧ j12 < 12 ∧ (∀ M13 : NN, M13 = up3 M8 43 0 j12 ((M8 43 0 j9) + 1) → K M13)))))))) ∧ (¬ ((wI (M5 10 0 13)) ≠ 1) → (∃ j14 : Nat, (wI l2) = (j14 : Int) ∧ j14 < 61 ∧ (∀ M15 : NN, M15 = up3 M5 51 0 j14 ((M5 51 0 j6) + ((wI l7))) → (∃ j16 : Nat, (wI l1) = (j16 : Int) ∧ j16 < 12 ∧ (((wI l8) = 0 → (∃ j17 : Nat, (wI l1) = (j17 : Int) ∧ j17 < 12 ∧ (∀ M18 : NN, M18 = up3 M15 43 0 j17 ((M15 43 0 j16) + 0) → K M18))) ∧ (¬ ((wI l8) = 0) → (∃ j19 : Nat, (wI l1) = (j19 : Int) ∧ j19 < 12 ∧ (∀ M20 : NN, M20 = up3 M15 43 0 j19 ((M15 43 0 j16) + 1) → K M20)))))))))))))))))))) ∧ (¬ ((wI l3) ≤ (wI l6)) → (∃ j21 : Nat, (wI l1) = (j21 : Int) ∧ j21 < 12 ∧ (∀ M22 : NN, M22 = up3 N 45 0 j21 3 → (∃ j23 : Nat, (wI l1) = (j23 : Int) ∧ j23 < 12 ∧ (∀ M24 : NN, M24 = up3 M22 47 0 j23 l2 → (∃ j25 : Nat, (wI l1) = (j25 : Int) ∧ j25 < 12 ∧ (∀ M26 : NN, M26 = up3 M24 44 0 j25 0 → K M26))))))))) : W_X10_goes G K 104 [(0, vR 10 0), (1, vI l1), (2, vI l2), (3, vI l3), (4, vI l4), (5, vI l5), (6, vI l6), (7, vI l7), (8, vI l8)] [vI s0] N := by
  refine A_istore (ls' := [(9, _), (0, _), (1, _), (2, _), (3, _), (4, _), (5, _), (6, _), (7, _), (8, _)]) dX10_goes_104 (by decide) rfl ?_
  refine A_iload dX10_goes_106 rfl ?_
  refine A_iload_n dX10_goes_108 rfl rfl ?_
  refine B_icmp_ge (tgt := 134) dX10_goes_109 (by decide) rfl rfl ⟨fun q => ?_, fun q => ?_⟩
  · replace h := h.1 q
    refine A_iload dX10_goes_134 rfl ?_
    refine A_iload_n dX10_goes_136 rfl rfl ?_
    refine A_iload dX10_goes_137 rfl ?_
    refine A_iadd dX10_goes_139 ?_
    refine B_icmp_ge (tgt := 210) dX10_goes_140 (by decide) rfl rfl ⟨fun q => ?_, fun q => ?_⟩
    · replace h := h.1 q
      exact A_pick [1, 2, 3, 4, 5, 6, 7, 8, 9, 0] rfl h
    · replace h := h.2 q
      refine A_iload dX10_goes_143 rfl ?_
      refine B_if_ne (tgt := 210) dX10_goes_145 (by decide) rfl ⟨fun q => ?_, fun q => ?_⟩
      · replace h := h.1 q
        exact A_pick [1, 2, 3, 4, 5, 6, 7, 8, 9, 0] rfl h
      · replace h := h.2 q
        refine A_aload_n dX10_goes_148 rfl rfl ?_
        refine A_getR (c2 := 45) (i2 := 0) dX10_goes_149 fX10_29 rfl (okK10 (by omega)) rfl ?_
        refine A_iload_n dX10_goes_152 rfl rfl ?_
        refine A_iconst (v := 1) dX10_goes_153 rfl ?_
        obtain ⟨j1, qj1, bj1, h⟩ := h
        refine B_iast (j := j1) dX10_goes_154 (by decide) rfl (okK45 (by omega)) qj1 bj1 (fun M2 eM2 => ?_)
        replace h := h M2 eM2
        refine A_aload_n dX10_goes_155 rfl rfl ?_
        refine A_getR (c2 := 44) (i2 := 0) dX10_goes_156 fX10_26 rfl (okK10 (by omega)) rfl ?_
        refine A_iload_n dX10_goes_159 rfl rfl ?_
        refine A_dup2 dX10_goes_160 rfl rfl ?_
        obtain ⟨j3, qj3, bj3, h⟩ := h
        refine A_iald (j := j3) dX10_goes_161 (by decide) rfl (okK44 (by omega)) qj3 bj3 ?_
        refine A_iload dX10_goes_162 rfl ?_
        refine A_iadd dX10_goes_164 ?_
        obtain ⟨j4, qj4, bj4, h⟩ := h
        refine B_iast (j := j4) dX10_goes_165 (by decide) rfl (okK44 (by omega)) qj4 bj4 (fun M5 eM5 => ?_)
        replace h := h M5 eM5
        refine A_aload_n dX10_goes_166 rfl rfl ?_
        refine A_getR (c2 := 51) (i2 := 0) dX10_goes_167 fX10_51 rfl (okK10 (by omega)) rfl ?_
        refine A_iload_n dX10_goes_170 rfl rfl ?_
        refine A_dup2 dX10_goes_171 rfl rfl ?_
        obtain ⟨j6, qj6, bj6, h⟩ := h
        refine A_lald (j := j6) dX10_goes_172 (by decide) rfl (okK51 (by omega)) qj6 bj6 ?_
        refine A_aload_n dX10_goes_173 rfl rfl ?_
        refine A_getI dX10_goes_174 fX10_217 rfl (okK10 (by omega)) ?_
        refine A_iconst (v := 1) dX10_goes_177 rfl ?_
        refine B_icmp_ne (tgt := 187) dX10_goes_178 (by decide) rfl (wlitI (by decide) (by decide)) ⟨fun q => ?_, fun q => ?_⟩
        · replace h := h.1 q
          refine A_lconst (v := 0) dX10_goes_187 (by decide +kernel) ?_
          refine A_ladd dX10_goes_188 ?_
          obtain ⟨j7, qj7, bj7, h⟩ := h
          refine B_last (j := j7) dX10_goes_189 (by decide) rfl (okK51 (by omega)) qj7 bj7 (fun M8 eM8 => ?_)
          replace h := h M8 eM8
          refine A_aload_n dX10_goes_190 rfl rfl ?_
          refine A_getR (c2 := 43) (i2 := 0) dX10_goes_191 fX10_23 rfl (okK10 (by omega)) rfl ?_
          refine A_iload_n dX10_goes_194 rfl rfl ?_
          refine A_dup2 dX10_goes_195 rfl rfl ?_
          obtain ⟨j9, qj9, bj9, h⟩ := h
          refine A_iald (j := j9) dX10_goes_196 (by decide) rfl (okK43 (by omega)) qj9 bj9 ?_
          refine A_iload dX10_goes_197 rfl ?_
          refine B_if_eq (tgt := 206) dX10_goes_199 (by decide) rfl ⟨fun q => ?_, fun q => ?_⟩
          · replace h := h.1 q
            refine A_iconst (v := 0) dX10_goes_206 rfl ?_
            refine A_iadd dX10_goes_207 ?_
            obtain ⟨j10, qj10, bj10, h⟩ := h
            refine B_iast (j := j10) dX10_goes_208 (by decide) rfl (okK43 (by omega)) qj10 bj10 (fun M11 eM11 => ?_)
            replace h := h M11 eM11
            exact A_vret dX10_goes_209 ⟨rfl, rfl, h⟩
          · replace h := h.2 q
            refine A_iconst (v := 1) dX10_goes_202 rfl ?_
            refine A_goto (tgt := 207) dX10_goes_203 (by decide) ?_
            refine A_iadd dX10_goes_207 ?_
            obtain ⟨j12, qj12, bj12, h⟩ := h
            refine B_iast (j := j12) dX10_goes_208 (by decide) rfl (okK43 (by omega)) qj12 bj12 (fun M13 eM13 => ?_)
            replace h := h M13 eM13
            exact A_vret dX10_goes_209 ⟨rfl, rfl, h⟩
        · replace h := h.2 q
          refine A_iload dX10_goes_181 rfl ?_
          refine B_i2l dX10_goes_183 rfl ?_
          refine A_goto (tgt := 188) dX10_goes_184 (by decide) ?_
          refine A_ladd dX10_goes_188 ?_
          obtain ⟨j14, qj14, bj14, h⟩ := h
          refine B_last (j := j14) dX10_goes_189 (by decide) rfl (okK51 (by omega)) qj14 bj14 (fun M15 eM15 => ?_)
          replace h := h M15 eM15
          refine A_aload_n dX10_goes_190 rfl rfl ?_
          refine A_getR (c2 := 43) (i2 := 0) dX10_goes_191 fX10_23 rfl (okK10 (by omega)) rfl ?_
          refine A_iload_n dX10_goes_194 rfl rfl ?_
          refine A_dup2 dX10_goes_195 rfl rfl ?_
          obtain ⟨j16, qj16, bj16, h⟩ := h
          refine A_iald (j := j16) dX10_goes_196 (by decide) rfl (okK43 (by omega)) qj16 bj16 ?_
          refine A_iload dX10_goes_197 rfl ?_
          refine B_if_eq (tgt := 206) dX10_goes_199 (by decide) rfl ⟨fun q => ?_, fun q => ?_⟩
          · replace h := h.1 q
            refine A_iconst (v := 0) dX10_goes_206 rfl ?_
            refine A_iadd dX10_goes_207 ?_
            obtain ⟨j17, qj17, bj17, h⟩ := h
            refine B_iast (j := j17) dX10_goes_208 (by decide) rfl (okK43 (by omega)) qj17 bj17 (fun M18 eM18 => ?_)
            replace h := h M18 eM18
            exact A_vret dX10_goes_209 ⟨rfl, rfl, h⟩
          · replace h := h.2 q
            refine A_iconst (v := 1) dX10_goes_202 rfl ?_
            refine A_goto (tgt := 207) dX10_goes_203 (by decide) ?_
            refine A_iadd dX10_goes_207 ?_
            obtain ⟨j19, qj19, bj19, h⟩ := h
            refine B_iast (j := j19) dX10_goes_208 (by decide) rfl (okK43 (by omega)) qj19 bj19 (fun M20 eM20 => ?_)
            replace h := h M20 eM20
            exact A_vret dX10_goes_209 ⟨rfl, rfl, h⟩
  · replace h := h.2 q
    refine A_aload_n dX10_goes_112 rfl rfl ?_
    refine A_getR (c2 := 45) (i2 := 0) dX10_goes_113 fX10_29 rfl (okK10 (by omega)) rfl ?_
    refine A_iload_n dX10_goes_116 rfl rfl ?_
    refine A_iconst (v := 3) dX10_goes_117 rfl ?_
    obtain ⟨j21, qj21, bj21, h⟩ := h
    refine B_iast (j := j21) dX10_goes_118 (by decide) rfl (okK45 (by omega)) qj21 bj21 (fun M22 eM22 => ?_)
    replace h := h M22 eM22
    refine A_aload_n dX10_goes_119 rfl rfl ?_
    refine A_getR (c2 := 47) (i2 := 0) dX10_goes_120 fX10_35 rfl (okK10 (by omega)) rfl ?_
    refine A_iload_n dX10_goes_123 rfl rfl ?_
    refine A_iload_n dX10_goes_124 rfl rfl ?_
    obtain ⟨j23, qj23, bj23, h⟩ := h
    refine B_iast (j := j23) dX10_goes_125 (by decide) rfl (okK47 (by omega)) qj23 bj23 (fun M24 eM24 => ?_)
    replace h := h M24 eM24
    refine A_aload_n dX10_goes_126 rfl rfl ?_
    refine A_getR (c2 := 44) (i2 := 0) dX10_goes_127 fX10_26 rfl (okK10 (by omega)) rfl ?_
    refine A_iload_n dX10_goes_130 rfl rfl ?_
    refine A_iconst (v := 0) dX10_goes_131 rfl ?_
    obtain ⟨j25, qj25, bj25, h⟩ := h
    refine B_iast (j := j25) dX10_goes_132 (by decide) rfl (okK44 (by omega)) qj25 bj25 (fun M26 eM26 => ?_)
    replace h := h M26 eM26
    exact A_vret dX10_goes_133 ⟨rfl, rfl, h⟩
set_option maxRecDepth 100000 in
set_option maxHeartbeats 4000000 in
theorem vc_X10_goes_210 {G : GT} {l1 : Int} {l2 : Int} {l3 : Int} {l4 : Int} {l5 : Int} {l6 : Int} {l7 : Int} {l8 : Int} {l9 : Int} {N : NN} {K : NN → Prop}  (h : (((wI l6) < (wI (l3 + l4)) → (∃ j1 : Nat, (wI l2) = (j1 : Int) ∧ j1 < 61 ∧ (∃ j2 : Nat, (wI l1) = (j2 : Int) ∧ j2 < 12 ∧ (∃ j3 : Nat, (wI l2) = (j3 : Int) ∧ j3 < 61 ∧ (∀ M4 : NN, M4 = up3 N 48 0 j3 ((N 48 0 j1) + ((wI (N 44 0 j2)))) → (∃ j5 : Nat, (wI l1) = (j5 : Int) ∧ j5 < 12 ∧ (∀ M6 : NN, M6 = up3 M4 44 0 j5 0 → (∃ j7 : Nat, (wI l1) = (j7 : Int) ∧ j7 < 12 ∧ (∀ M8 : NN, M8 = up3 M6 45 0 j7 0 → (((wI l9) = 0 → (C_X10_principal G l1 l2 l7 M8 (fun x9 N9 => (∃ j10 : Nat, (wI l2) = (j10 : Int) ∧ j10 < 61 ∧ (∃ j11 : Nat, (wI l2) = (j11 : Int) ∧ j11 < 61 ∧ (∀ M12 : NN, M12 = up3 N9 48 0 j11 ((N9 48 0 j10) + ((wI l7))) → (∃ j13 : Nat, (wI l2) = (j13 : Int) ∧ j13 < 61 ∧ (∃ j14 : Nat, (wI l2) = (j14 : Int) ∧ j14 < 61 ∧ (∀ M15 : NN, M15 = up3 M12 49 0 j14 ((M12 49 0 j13) + ((wI x9))) → (∃ j16 : Nat, (wI l1) = (j16 : Int) ∧ j16 < 12 ∧ (∃ j17 : Nat, (wI l1) = (j17 : Int) ∧ j17 < 12 ∧ (∀ M18 : NN, M18 = up3 M15 41 0 j17 ((M15 41 0 j16) - x9) → (((wI l8) = 0 → K M18) ∧ (¬ ((wI l8) = 0) → (∃ j19 : Nat, (wI l1) = (j19 : Int) ∧ j19 < 12 ∧ (∀ M20 : NN, M20 = up3 M18 45 0 j19 5 → K M20)))))))))))))))) ∧ (¬ ((wI l9) = 0) → (∃ j21 : Nat, (wI l1) = (j21 : Int) ∧ j21 < 12 ∧ (∃ j22 : Nat, (wI l1) = (j22 : Int) ∧ j22 < 12 ∧ (∀ M23 : NN, M23 = up3 M8 41 0 j22 ((M8 41 0 j21) + l7) → K M23)))))))))))))) ∧ (¬ ((wI l6) < (wI (l3 + l4))) → (((wI ((l3 + l4) + l5)) ≤ (wI l6) → (∃ j24 : Nat, (wI l2) = (j24 : Int) ∧ j24 < 61 ∧ (∃ j25 : Nat, (wI l1) = (j25 : Int) ∧ j25 < 12 ∧ (∃ j26 : Nat, (wI l2) = (j26 : Int) ∧ j26 < 61 ∧ (∀ M27 : NN, M27 = up3 N 48 0 j26 ((N 48 0 j24) + ((wI (N 44 0 j25)))) → (∃ j28 : Nat, (wI l1) = (j28 : Int) ∧ j28 < 12 ∧ (∀ M29 : NN, M29 = up3 M27 44 0 j28 0 → (∃ j30 : Nat, (wI l1) = (j30 : Int) ∧ j30 < 12 ∧ (∀ M31 : NN, M31 = up3 M29 45 0 j30 0 → (((wI l9) = 0 → (C_X10_principal G l1 l2 l7 M31 (fun x32 N32 => (∃ j33 : Nat, (wI l2) = (j33 : Int) ∧ j33 < 61 ∧ (∃ j34 : Nat, (wI l2) = (j34 : Int) ∧ j34 < 61 ∧ (∀ M35 : NN, M35 = up3 N32 48 0 j34 ((N32 48 0 j33) + ((wI l7))) → (∃ j36 : Nat, (wI l2) = (j36 : Int) ∧ j36 < 61 ∧ (∃ j37 : Nat, (wI l2) = (j37 : Int) ∧ j37 < 61 ∧ (∀ M38 : NN, M38 = up3 M35 49 0 j37 ((M35 49 0 j36) + ((wI x32))) → (∃ j39 : Nat, (wI l1) = (j39 : Int) ∧ j39 < 12 ∧ (∃ j40 : Nat, (wI l1) = (j40 : Int) ∧ j40 < 12 ∧ (∀ M41 : NN, M41 = up3 M38 41 0 j40 ((M38 41 0 j39) - x32) → (((wI l8) = 0 → K M41) ∧ (¬ ((wI l8) = 0) → (∃ j42 : Nat, (wI l1) = (j42 : Int) ∧ j42 < 12 ∧ (∀ M43 : NN, M43 = up3 M41 45 0 j42 5 → K M43)))))))))))))))) ∧ (¬ ((wI l9) = 0) → (∃ j44 : Nat, (wI l1) = (j44 : Int) ∧ j44 < 12 ∧ (∃ j45 : Nat, (wI l1) = (j45 : Int) ∧ j45 < 12 ∧ (∀ M46 : NN, M46 = up3 M31 41 0 j45 ((M31 41 0 j44) + l7) → K M46)))))))))))))) ∧ (¬ ((wI ((l3 + l4) + l5)) ≤ (wI l6)) → (((wI l8) = 0 → (C_X10_paysOff G l1 l2 l7 2 N (fun N47 => K N47))) ∧ (¬ ((wI l8) = 0) → (C_X10_paysOff G l1 l2 l7 5 N (fun N48 => K N48))))))))) : W_X10_goes G K 210 [(0, vR 10 0), (1, vI l1), (2, vI l2), (3, vI l3), (4, vI l4), (5, vI l5), (6, vI l6), (7, vI l7), (8, vI l8), (9, vI l9)] [] N := by
  refine A_iload dX10_goes_210 rfl ?_
  refine A_iload_n dX10_goes_212 rfl rfl ?_
  refine A_iload dX10_goes_213 rfl ?_
  refine A_iadd dX10_goes_215 ?_
  refine B_icmp_lt (tgt := 250) dX10_goes_216 (by decide) rfl rfl ⟨fun q => ?_, fun q => ?_⟩
  · replace h := h.1 q
    refine A_aload_n dX10_goes_250 rfl rfl ?_
    refine A_getR (c2 := 48) (i2 := 0) dX10_goes_251 fX10_41 rfl (okK10 (by omega)) rfl ?_
    refine A_iload_n dX10_goes_254 rfl rfl ?_
    refine A_dup2 dX10_goes_255 rfl rfl ?_
    obtain ⟨j1, qj1, bj1, h⟩ := h
    refine A_lald (j := j1) dX10_goes_256 (by decide) rfl (okK48 (by omega)) qj1 bj1 ?_
    refine A_aload_n dX10_goes_257 rfl rfl ?_
    refine A_getR (c2 := 44) (i2 := 0) dX10_goes_258 fX10_26 rfl (okK10 (by omega)) rfl ?_
    refine A_iload_n dX10_goes_261 rfl rfl ?_
    obtain ⟨j2, qj2, bj2, h⟩ := h
    refine A_iald (j := j2) dX10_goes_262 (by decide) rfl (okK44 (by omega)) qj2 bj2 ?_
    refine B_i2l dX10_goes_263 rfl ?_
    refine A_ladd dX10_goes_264 ?_
    obtain ⟨j3, qj3, bj3, h⟩ := h
    refine B_last (j := j3) dX10_goes_265 (by decide) rfl (okK48 (by omega)) qj3 bj3 (fun M4 eM4 => ?_)
    replace h := h M4 eM4
    refine A_aload_n dX10_goes_266 rfl rfl ?_
    refine A_getR (c2 := 44) (i2 := 0) dX10_goes_267 fX10_26 rfl (okK10 (by omega)) rfl ?_
    refine A_iload_n dX10_goes_270 rfl rfl ?_
    refine A_iconst (v := 0) dX10_goes_271 rfl ?_
    obtain ⟨j5, qj5, bj5, h⟩ := h
    refine B_iast (j := j5) dX10_goes_272 (by decide) rfl (okK44 (by omega)) qj5 bj5 (fun M6 eM6 => ?_)
    replace h := h M6 eM6
    refine A_aload_n dX10_goes_273 rfl rfl ?_
    refine A_getR (c2 := 45) (i2 := 0) dX10_goes_274 fX10_29 rfl (okK10 (by omega)) rfl ?_
    refine A_iload_n dX10_goes_277 rfl rfl ?_
    refine A_iconst (v := 0) dX10_goes_278 rfl ?_
    obtain ⟨j7, qj7, bj7, h⟩ := h
    refine B_iast (j := j7) dX10_goes_279 (by decide) rfl (okK45 (by omega)) qj7 bj7 (fun M8 eM8 => ?_)
    replace h := h M8 eM8
    refine A_iload dX10_goes_280 rfl ?_
    refine B_if_eq (tgt := 297) dX10_goes_282 (by decide) rfl ⟨fun q => ?_, fun q => ?_⟩
    · replace h := h.1 q
      refine A_aload_n dX10_goes_297 rfl rfl ?_
      refine A_iload_n dX10_goes_298 rfl rfl ?_
      refine A_iload_n dX10_goes_299 rfl rfl ?_
      refine A_iload dX10_goes_300 rfl ?_
      refine B_callV_I (av := [vI l1, vI l2, vI l7]) rfl dX10_goes_302 vX10_245 mX10_principal ⟨rfl, rfl, by decide⟩ (okK10 (by omega)) rfl (Nat.le_of_ble_eq_true rfl) (by decide) (by decide) rfl (BC_monoI h (fun x9 N9 h => ?_))
      refine A_istore (ls' := [(10, _), (0, _), (1, _), (2, _), (3, _), (4, _), (5, _), (6, _), (7, _), (8, _), (9, _)]) dX10_goes_305 (by decide) rfl ?_
      refine A_aload_n dX10_goes_307 rfl rfl ?_
      refine A_getR (c2 := 48) (i2 := 0) dX10_goes_308 fX10_41 rfl (okK10 (by omega)) rfl ?_
      refine A_iload_n dX10_goes_311 rfl rfl ?_
      refine A_dup2 dX10_goes_312 rfl rfl ?_
      obtain ⟨j10, qj10, bj10, h⟩ := h
      refine A_lald (j := j10) dX10_goes_313 (by decide) rfl (okK48 (by omega)) qj10 bj10 ?_
      refine A_iload dX10_goes_314 rfl ?_
      refine B_i2l dX10_goes_316 rfl ?_
      refine A_ladd dX10_goes_317 ?_
      obtain ⟨j11, qj11, bj11, h⟩ := h
      refine B_last (j := j11) dX10_goes_318 (by decide) rfl (okK48 (by omega)) qj11 bj11 (fun M12 eM12 => ?_)
      replace h := h M12 eM12
      refine A_aload_n dX10_goes_319 rfl rfl ?_
      refine A_getR (c2 := 49) (i2 := 0) dX10_goes_320 fX10_45 rfl (okK10 (by omega)) rfl ?_
      refine A_iload_n dX10_goes_323 rfl rfl ?_
      refine A_dup2 dX10_goes_324 rfl rfl ?_
      obtain ⟨j13, qj13, bj13, h⟩ := h
      refine A_lald (j := j13) dX10_goes_325 (by decide) rfl (okK49 (by omega)) qj13 bj13 ?_
      refine A_iload dX10_goes_326 rfl ?_
      refine B_i2l dX10_goes_328 rfl ?_
      refine A_ladd dX10_goes_329 ?_
      obtain ⟨j14, qj14, bj14, h⟩ := h
      refine B_last (j := j14) dX10_goes_330 (by decide) rfl (okK49 (by omega)) qj14 bj14 (fun M15 eM15 => ?_)
      replace h := h M15 eM15
      refine A_aload_n dX10_goes_331 rfl rfl ?_
      refine A_getR (c2 := 41) (i2 := 0) dX10_goes_332 fX10_17 rfl (okK10 (by omega)) rfl ?_
      refine A_iload_n dX10_goes_335 rfl rfl ?_
      refine A_dup2 dX10_goes_336 rfl rfl ?_
      obtain ⟨j16, qj16, bj16, h⟩ := h
      refine A_iald (j := j16) dX10_goes_337 (by decide) rfl (okK41 (by omega)) qj16 bj16 ?_
      refine A_iload dX10_goes_338 rfl ?_
      refine A_isub dX10_goes_340 ?_
      obtain ⟨j17, qj17, bj17, h⟩ := h
      refine B_iast (j := j17) dX10_goes_341 (by decide) rfl (okK41 (by omega)) qj17 bj17 (fun M18 eM18 => ?_)
      replace h := h M18 eM18
      refine A_iload dX10_goes_342 rfl ?_
      refine B_if_eq (tgt := 354) dX10_goes_344 (by decide) rfl ⟨fun q => ?_, fun q => ?_⟩
      · replace h := h.1 q
        exact A_vret dX10_goes_354 ⟨rfl, rfl, h⟩
      · replace h := h.2 q
        refine A_aload_n dX10_goes_347 rfl rfl ?_
        refine A_getR (c2 := 45) (i2 := 0) dX10_goes_348 fX10_29 rfl (okK10 (by omega)) rfl ?_
        refine A_iload_n dX10_goes_351 rfl rfl ?_
        refine A_iconst (v := 5) dX10_goes_352 rfl ?_
        obtain ⟨j19, qj19, bj19, h⟩ := h
        refine B_iast (j := j19) dX10_goes_353 (by decide) rfl (okK45 (by omega)) qj19 bj19 (fun M20 eM20 => ?_)
        replace h := h M20 eM20
        exact A_vret dX10_goes_354 ⟨rfl, rfl, h⟩
    · replace h := h.2 q
      refine A_aload_n dX10_goes_285 rfl rfl ?_
      refine A_getR (c2 := 41) (i2 := 0) dX10_goes_286 fX10_17 rfl (okK10 (by omega)) rfl ?_
      refine A_iload_n dX10_goes_289 rfl rfl ?_
      refine A_dup2 dX10_goes_290 rfl rfl ?_
      obtain ⟨j21, qj21, bj21, h⟩ := h
      refine A_iald (j := j21) dX10_goes_291 (by decide) rfl (okK41 (by omega)) qj21 bj21 ?_
      refine A_iload dX10_goes_292 rfl ?_
      refine A_iadd dX10_goes_294 ?_
      obtain ⟨j22, qj22, bj22, h⟩ := h
      refine B_iast (j := j22) dX10_goes_295 (by decide) rfl (okK41 (by omega)) qj22 bj22 (fun M23 eM23 => ?_)
      replace h := h M23 eM23
      exact A_vret dX10_goes_296 ⟨rfl, rfl, h⟩
  · replace h := h.2 q
    refine A_iload dX10_goes_219 rfl ?_
    refine A_iload_n dX10_goes_221 rfl rfl ?_
    refine A_iload dX10_goes_222 rfl ?_
    refine A_iadd dX10_goes_224 ?_
    refine A_iload dX10_goes_225 rfl ?_
    refine A_iadd dX10_goes_227 ?_
    refine B_icmp_ge (tgt := 250) dX10_goes_228 (by decide) rfl rfl ⟨fun q => ?_, fun q => ?_⟩
    · replace h := h.1 q
      refine A_aload_n dX10_goes_250 rfl rfl ?_
      refine A_getR (c2 := 48) (i2 := 0) dX10_goes_251 fX10_41 rfl (okK10 (by omega)) rfl ?_
      refine A_iload_n dX10_goes_254 rfl rfl ?_
      refine A_dup2 dX10_goes_255 rfl rfl ?_
      obtain ⟨j24, qj24, bj24, h⟩ := h
      refine A_lald (j := j24) dX10_goes_256 (by decide) rfl (okK48 (by omega)) qj24 bj24 ?_
      refine A_aload_n dX10_goes_257 rfl rfl ?_
      refine A_getR (c2 := 44) (i2 := 0) dX10_goes_258 fX10_26 rfl (okK10 (by omega)) rfl ?_
      refine A_iload_n dX10_goes_261 rfl rfl ?_
      obtain ⟨j25, qj25, bj25, h⟩ := h
      refine A_iald (j := j25) dX10_goes_262 (by decide) rfl (okK44 (by omega)) qj25 bj25 ?_
      refine B_i2l dX10_goes_263 rfl ?_
      refine A_ladd dX10_goes_264 ?_
      obtain ⟨j26, qj26, bj26, h⟩ := h
      refine B_last (j := j26) dX10_goes_265 (by decide) rfl (okK48 (by omega)) qj26 bj26 (fun M27 eM27 => ?_)
      replace h := h M27 eM27
      refine A_aload_n dX10_goes_266 rfl rfl ?_
      refine A_getR (c2 := 44) (i2 := 0) dX10_goes_267 fX10_26 rfl (okK10 (by omega)) rfl ?_
      refine A_iload_n dX10_goes_270 rfl rfl ?_
      refine A_iconst (v := 0) dX10_goes_271 rfl ?_
      obtain ⟨j28, qj28, bj28, h⟩ := h
      refine B_iast (j := j28) dX10_goes_272 (by decide) rfl (okK44 (by omega)) qj28 bj28 (fun M29 eM29 => ?_)
      replace h := h M29 eM29
      refine A_aload_n dX10_goes_273 rfl rfl ?_
      refine A_getR (c2 := 45) (i2 := 0) dX10_goes_274 fX10_29 rfl (okK10 (by omega)) rfl ?_
      refine A_iload_n dX10_goes_277 rfl rfl ?_
      refine A_iconst (v := 0) dX10_goes_278 rfl ?_
      obtain ⟨j30, qj30, bj30, h⟩ := h
      refine B_iast (j := j30) dX10_goes_279 (by decide) rfl (okK45 (by omega)) qj30 bj30 (fun M31 eM31 => ?_)
      replace h := h M31 eM31
      refine A_iload dX10_goes_280 rfl ?_
      refine B_if_eq (tgt := 297) dX10_goes_282 (by decide) rfl ⟨fun q => ?_, fun q => ?_⟩
      · replace h := h.1 q
        refine A_aload_n dX10_goes_297 rfl rfl ?_
        refine A_iload_n dX10_goes_298 rfl rfl ?_
        refine A_iload_n dX10_goes_299 rfl rfl ?_
        refine A_iload dX10_goes_300 rfl ?_
        refine B_callV_I (av := [vI l1, vI l2, vI l7]) rfl dX10_goes_302 vX10_245 mX10_principal ⟨rfl, rfl, by decide⟩ (okK10 (by omega)) rfl (Nat.le_of_ble_eq_true rfl) (by decide) (by decide) rfl (BC_monoI h (fun x32 N32 h => ?_))
        refine A_istore (ls' := [(10, _), (0, _), (1, _), (2, _), (3, _), (4, _), (5, _), (6, _), (7, _), (8, _), (9, _)]) dX10_goes_305 (by decide) rfl ?_
        refine A_aload_n dX10_goes_307 rfl rfl ?_
        refine A_getR (c2 := 48) (i2 := 0) dX10_goes_308 fX10_41 rfl (okK10 (by omega)) rfl ?_
        refine A_iload_n dX10_goes_311 rfl rfl ?_
        refine A_dup2 dX10_goes_312 rfl rfl ?_
        obtain ⟨j33, qj33, bj33, h⟩ := h
        refine A_lald (j := j33) dX10_goes_313 (by decide) rfl (okK48 (by omega)) qj33 bj33 ?_
        refine A_iload dX10_goes_314 rfl ?_
        refine B_i2l dX10_goes_316 rfl ?_
        refine A_ladd dX10_goes_317 ?_
        obtain ⟨j34, qj34, bj34, h⟩ := h
        refine B_last (j := j34) dX10_goes_318 (by decide) rfl (okK48 (by omega)) qj34 bj34 (fun M35 eM35 => ?_)
        replace h := h M35 eM35
        refine A_aload_n dX10_goes_319 rfl rfl ?_
        refine A_getR (c2 := 49) (i2 := 0) dX10_goes_320 fX10_45 rfl (okK10 (by omega)) rfl ?_
        refine A_iload_n dX10_goes_323 rfl rfl ?_
        refine A_dup2 dX10_goes_324 rfl rfl ?_
        obtain ⟨j36, qj36, bj36, h⟩ := h
        refine A_lald (j := j36) dX10_goes_325 (by decide) rfl (okK49 (by omega)) qj36 bj36 ?_
        refine A_iload dX10_goes_326 rfl ?_
        refine B_i2l dX10_goes_328 rfl ?_
        refine A_ladd dX10_goes_329 ?_
        obtain ⟨j37, qj37, bj37, h⟩ := h
        refine B_last (j := j37) dX10_goes_330 (by decide) rfl (okK49 (by omega)) qj37 bj37 (fun M38 eM38 => ?_)
        replace h := h M38 eM38
        refine A_aload_n dX10_goes_331 rfl rfl ?_
        refine A_getR (c2 := 41) (i2 := 0) dX10_goes_332 fX10_17 rfl (okK10 (by omega)) rfl ?_
        refine A_iload_n dX10_goes_335 rfl rfl ?_
        refine A_dup2 dX10_goes_336 rfl rfl ?_
        obtain ⟨j39, qj39, bj39, h⟩ := h
        refine A_iald (j := j39) dX10_goes_337 (by decide) rfl (okK41 (by omega)) qj39 bj39 ?_
        refine A_iload dX10_goes_338 rfl ?_
        refine A_isub dX10_goes_340 ?_
        obtain ⟨j40, qj40, bj40, h⟩ := h
        refine B_iast (j := j40) dX10_goes_341 (by decide) rfl (okK41 (by omega)) qj40 bj40 (fun M41 eM41 => ?_)
        replace h := h M41 eM41
        refine A_iload dX10_goes_342 rfl ?_
        refine B_if_eq (tgt := 354) dX10_goes_344 (by decide) rfl ⟨fun q => ?_, fun q => ?_⟩
        · replace h := h.1 q
          exact A_vret dX10_goes_354 ⟨rfl, rfl, h⟩
        · replace h := h.2 q
          refine A_aload_n dX10_goes_347 rfl rfl ?_
          refine A_getR (c2 := 45) (i2 := 0) dX10_goes_348 fX10_29 rfl (okK10 (by omega)) rfl ?_
          refine A_iload_n dX10_goes_351 rfl rfl ?_
          refine A_iconst (v := 5) dX10_goes_352 rfl ?_
          obtain ⟨j42, qj42, bj42, h⟩ := h
          refine B_iast (j := j42) dX10_goes_353 (by decide) rfl (okK45 (by omega)) qj42 bj42 (fun M43 eM43 => ?_)
          replace h := h M43 eM43
          exact A_vret dX10_goes_354 ⟨rfl, rfl, h⟩
      · replace h := h.2 q
        refine A_aload_n dX10_goes_285 rfl rfl ?_
        refine A_getR (c2 := 41) (i2 := 0) dX10_goes_286 fX10_17 rfl (okK10 (by omega)) rfl ?_
        refine A_iload_n dX10_goes_289 rfl rfl ?_
        refine A_dup2 dX10_goes_290 rfl rfl ?_
        obtain ⟨j44, qj44, bj44, h⟩ := h
        refine A_iald (j := j44) dX10_goes_291 (by decide) rfl (okK41 (by omega)) qj44 bj44 ?_
        refine A_iload dX10_goes_292 rfl ?_
        refine A_iadd dX10_goes_294 ?_
        obtain ⟨j45, qj45, bj45, h⟩ := h
        refine B_iast (j := j45) dX10_goes_295 (by decide) rfl (okK41 (by omega)) qj45 bj45 (fun M46 eM46 => ?_)
        replace h := h M46 eM46
        exact A_vret dX10_goes_296 ⟨rfl, rfl, h⟩
    · replace h := h.2 q
      refine A_aload_n dX10_goes_231 rfl rfl ?_
      refine A_iload_n dX10_goes_232 rfl rfl ?_
      refine A_iload_n dX10_goes_233 rfl rfl ?_
      refine A_iload dX10_goes_234 rfl ?_
      refine A_iload dX10_goes_236 rfl ?_
      refine B_if_eq (tgt := 245) dX10_goes_238 (by decide) rfl ⟨fun q => ?_, fun q => ?_⟩
      · replace h := h.1 q
        refine A_iconst (v := 2) dX10_goes_245 rfl ?_
        refine B_callV_V (av := [vI l1, vI l2, vI l7, vI 2]) rfl dX10_goes_246 vX10_241 mX10_paysOff ⟨rfl, rfl, by decide⟩ (okK10 (by omega)) rfl (Nat.le_of_ble_eq_true rfl) (by decide) (by decide) rfl (BC_monoV h (fun N47 h => ?_))
        exact A_vret dX10_goes_249 ⟨rfl, rfl, h⟩
      · replace h := h.2 q
        refine A_iconst (v := 5) dX10_goes_241 rfl ?_
        refine A_goto (tgt := 246) dX10_goes_242 (by decide) ?_
        refine B_callV_V (av := [vI l1, vI l2, vI l7, vI 5]) rfl dX10_goes_246 vX10_241 mX10_paysOff ⟨rfl, rfl, by decide⟩ (okK10 (by omega)) rfl (Nat.le_of_ble_eq_true rfl) (by decide) (by decide) rfl (BC_monoV h (fun N48 h => ?_))
        exact A_vret dX10_goes_249 ⟨rfl, rfl, h⟩
set_option maxRecDepth 100000 in
set_option maxHeartbeats 4000000 in
theorem vc_X10_collect {G : GT} {a1 : Int} {N : NN} {K : NN → Prop}  (h : (∃ j1 : Nat, (wI a1) = (j1 : Int) ∧ j1 < 61 ∧ (∀ M2 : NN, M2 = up3 N 48 0 j1 0 → (∃ j3 : Nat, (wI a1) = (j3 : Int) ∧ j3 < 61 ∧ (∀ M4 : NN, M4 = up3 M2 49 0 j3 0 → (∃ j5 : Nat, (wI a1) = (j5 : Int) ∧ j5 < 61 ∧ (∀ M6 : NN, M6 = up3 M4 50 0 j5 0 → (∃ j7 : Nat, (wI a1) = (j7 : Int) ∧ j7 < 61 ∧ (∀ M8 : NN, M8 = up3 M6 51 0 j7 0 → (∃ j9 : Nat, (wI a1) = (j9 : Int) ∧ j9 < 61 ∧ (∀ M10 : NN, M10 = up3 M8 55 0 j9 0 → (C_X10_pool G  M10 (fun x11 N11 => (∃ j12 : Nat, (wI a1) = (j12 : Int) ∧ j12 < 61 ∧ (∀ M13 : NN, M13 = up3 N11 53 0 j12 ((wI x11)) → W_X10_collect G K 48 [(0, vR 10 0), (1, vI a1), (2, vI 0)] [] M13))))))))))))))) : C_X10_collect G a1 N K := by
  refine Ctr.ofAW RX10 false rfl (by decide +kernel) (fun q => by cases q) (Nat.le_of_ble_eq_true rfl) (Nat.le_refl _) ?_
  refine A_aload_n dX10_collect_0 rfl rfl ?_
  refine A_getR (c2 := 48) (i2 := 0) dX10_collect_1 fX10_41 rfl (okK10 (by omega)) rfl ?_
  refine A_iload_n dX10_collect_4 rfl rfl ?_
  refine A_lconst (v := 0) dX10_collect_5 (by decide +kernel) ?_
  obtain ⟨j1, qj1, bj1, h⟩ := h
  refine B_last (j := j1) dX10_collect_6 (by decide) rfl (okK48 (by omega)) qj1 bj1 (fun M2 eM2 => ?_)
  replace h := h M2 eM2
  refine A_aload_n dX10_collect_7 rfl rfl ?_
  refine A_getR (c2 := 49) (i2 := 0) dX10_collect_8 fX10_45 rfl (okK10 (by omega)) rfl ?_
  refine A_iload_n dX10_collect_11 rfl rfl ?_
  refine A_lconst (v := 0) dX10_collect_12 (by decide +kernel) ?_
  obtain ⟨j3, qj3, bj3, h⟩ := h
  refine B_last (j := j3) dX10_collect_13 (by decide) rfl (okK49 (by omega)) qj3 bj3 (fun M4 eM4 => ?_)
  replace h := h M4 eM4
  refine A_aload_n dX10_collect_14 rfl rfl ?_
  refine A_getR (c2 := 50) (i2 := 0) dX10_collect_15 fX10_48 rfl (okK10 (by omega)) rfl ?_
  refine A_iload_n dX10_collect_18 rfl rfl ?_
  refine A_lconst (v := 0) dX10_collect_19 (by decide +kernel) ?_
  obtain ⟨j5, qj5, bj5, h⟩ := h
  refine B_last (j := j5) dX10_collect_20 (by decide) rfl (okK50 (by omega)) qj5 bj5 (fun M6 eM6 => ?_)
  replace h := h M6 eM6
  refine A_aload_n dX10_collect_21 rfl rfl ?_
  refine A_getR (c2 := 51) (i2 := 0) dX10_collect_22 fX10_51 rfl (okK10 (by omega)) rfl ?_
  refine A_iload_n dX10_collect_25 rfl rfl ?_
  refine A_lconst (v := 0) dX10_collect_26 (by decide +kernel) ?_
  obtain ⟨j7, qj7, bj7, h⟩ := h
  refine B_last (j := j7) dX10_collect_27 (by decide) rfl (okK51 (by omega)) qj7 bj7 (fun M8 eM8 => ?_)
  replace h := h M8 eM8
  refine A_aload_n dX10_collect_28 rfl rfl ?_
  refine A_getR (c2 := 55) (i2 := 0) dX10_collect_29 fX10_63 rfl (okK10 (by omega)) rfl ?_
  refine A_iload_n dX10_collect_32 rfl rfl ?_
  refine A_lconst (v := 0) dX10_collect_33 (by decide +kernel) ?_
  obtain ⟨j9, qj9, bj9, h⟩ := h
  refine B_last (j := j9) dX10_collect_34 (by decide) rfl (okK55 (by omega)) qj9 bj9 (fun M10 eM10 => ?_)
  replace h := h M10 eM10
  refine A_aload_n dX10_collect_35 rfl rfl ?_
  refine A_getR (c2 := 53) (i2 := 0) dX10_collect_36 fX10_57 rfl (okK10 (by omega)) rfl ?_
  refine A_iload_n dX10_collect_39 rfl rfl ?_
  refine A_aload_n dX10_collect_40 rfl rfl ?_
  refine B_callV_I (av := []) rfl dX10_collect_41 vX10_248 mX10_pool ⟨rfl, rfl, by decide⟩ (okK10 (by omega)) rfl (Nat.le_of_ble_eq_true rfl) (by decide) (by decide) rfl (BC_monoI h (fun x11 N11 h => ?_))
  refine B_i2l dX10_collect_44 rfl ?_
  obtain ⟨j12, qj12, bj12, h⟩ := h
  refine B_last (j := j12) dX10_collect_45 (by decide) rfl (okK53 (by omega)) qj12 bj12 (fun M13 eM13 => ?_)
  replace h := h M13 eM13
  refine A_iconst (v := 0) dX10_collect_46 rfl ?_
  refine A_istore_n (ls' := [(2, _), (0, _), (1, _)]) dX10_collect_47 rfl (by decide) rfl ?_
  exact A_pick [1, 2, 0] rfl h
set_option maxRecDepth 100000 in
set_option maxHeartbeats 4000000 in
theorem vc_X10_collect_48 {G : GT} {l1 : Int} {l2 : Int} {N : NN} {K : NN → Prop}  (h : (((wI (N 10 0 2)) ≤ (wI l2) → W_X10_collect G K 215 [(0, vR 10 0), (1, vI l1), (2, vI 0)] [] N) ∧ (¬ ((wI (N 10 0 2)) ≤ (wI l2)) → (∃ j1 : Nat, (wI l2) = (j1 : Int) ∧ j1 < 12 ∧ (((wI (N 45 0 j1)) = 0 → W_X10_collect G K 75 [(0, vR 10 0), (1, vI l1), (2, vI l2)] [] N) ∧ (¬ ((wI (N 45 0 j1)) = 0) → (∃ j2 : Nat, (wI l2) = (j2 : Int) ∧ j2 < 12 ∧ (((wI (N 45 0 j2)) ≠ 1 → W_X10_collect G K 137 [(0, vR 10 0), (1, vI l1), (2, vI l2), (3, vI 0)] [] N) ∧ (¬ ((wI (N 45 0 j2)) ≠ 1) → W_X10_collect G K 75 [(0, vR 10 0), (1, vI l1), (2, vI l2)] [] N))))))))) : W_X10_collect G K 48 [(0, vR 10 0), (1, vI l1), (2, vI l2)] [] N := by
  refine A_iload_n dX10_collect_48 rfl rfl ?_
  refine A_aload_n dX10_collect_49 rfl rfl ?_
  refine A_getI dX10_collect_50 fX10_183 rfl (okK10 (by omega)) ?_
  refine B_icmp_ge (tgt := 213) dX10_collect_53 (by decide) rfl rfl ⟨fun q => ?_, fun q => ?_⟩
  · replace h := h.1 q
    refine A_iconst (v := 0) dX10_collect_213 rfl ?_
    refine A_istore_n (ls' := [(2, _), (0, _), (1, _)]) dX10_collect_214 rfl (by decide) rfl ?_
    exact A_pick [1, 2, 0] rfl h
  · replace h := h.2 q
    refine A_aload_n dX10_collect_56 rfl rfl ?_
    refine A_getR (c2 := 45) (i2 := 0) dX10_collect_57 fX10_29 rfl (okK10 (by omega)) rfl ?_
    refine A_iload_n dX10_collect_60 rfl rfl ?_
    obtain ⟨j1, qj1, bj1, h⟩ := h
    refine A_iald (j := j1) dX10_collect_61 (by decide) rfl (okK45 (by omega)) qj1 bj1 ?_
    refine B_if_eq (tgt := 75) dX10_collect_62 (by decide) rfl ⟨fun q => ?_, fun q => ?_⟩
    · replace h := h.1 q
      exact A_pick [0, 1, 2] rfl h
    · replace h := h.2 q
      refine A_aload_n dX10_collect_65 rfl rfl ?_
      refine A_getR (c2 := 45) (i2 := 0) dX10_collect_66 fX10_29 rfl (okK10 (by omega)) rfl ?_
      refine A_iload_n dX10_collect_69 rfl rfl ?_
      obtain ⟨j2, qj2, bj2, h⟩ := h
      refine A_iald (j := j2) dX10_collect_70 (by decide) rfl (okK45 (by omega)) qj2 bj2 ?_
      refine A_iconst (v := 1) dX10_collect_71 rfl ?_
      refine B_icmp_ne (tgt := 79) dX10_collect_72 (by decide) rfl (wlitI (by decide) (by decide)) ⟨fun q => ?_, fun q => ?_⟩
      · replace h := h.1 q
        refine A_iconst (v := 0) dX10_collect_79 rfl ?_
        refine A_istore_n (ls' := [(3, _), (0, _), (1, _), (2, _)]) dX10_collect_80 rfl (by decide) rfl ?_
        refine A_iload_n dX10_collect_81 rfl rfl ?_
        refine B_if_eq (tgt := 137) dX10_collect_82 (by decide) (wlitI (by decide) (by decide)) ⟨fun q => ?_, fun q => absurd (by decide) q⟩
        exact A_pick [1, 2, 3, 0] rfl h
      · replace h := h.2 q
        exact A_pick [0, 1, 2] rfl h
set_option maxRecDepth 100000 in
set_option maxHeartbeats 4000000 in
theorem vc_X10_collect_75 {G : GT} {l1 : Int} {l2 : Int} {N : NN} {K : NN → Prop}  (h : (((wI l1) ≠ 13 → W_X10_collect G K 137 [(0, vR 10 0), (1, vI l1), (2, vI l2), (3, vI 1)] [] N) ∧ (¬ ((wI l1) ≠ 13) → (∃ j1 : Nat, (wI l2) = (j1 : Int) ∧ j1 < 12 ∧ (C_X10_isReset G (N 40 0 j1) N (fun x2 N2 => (((wI x2) = 0 → W_X10_collect G K 137 [(0, vR 10 0), (1, vI l1), (2, vI l2), (3, vI 1)] [] N2) ∧ (¬ ((wI x2) = 0) → (∃ j3 : Nat, (wI l2) = (j3 : Int) ∧ j3 < 12 ∧ (((wI (2 * (N2 42 0 j3))) ≤ 200 → (∃ j4 : Nat, (wI l2) = (j4 : Int) ∧ j4 < 12 ∧ (∃ j5 : Nat, (wI l2) = (j5 : Int) ∧ j5 < 12 ∧ (∀ M6 : NN, M6 = up3 N2 42 0 j5 (2 * (N2 42 0 j4)) → W_X10_collect G K 137 [(0, vR 10 0), (1, vI l1), (2, vI l2), (3, vI 1)] [] M6)))) ∧ (¬ ((wI (2 * (N2 42 0 j3))) ≤ 200) → (∃ j7 : Nat, (wI l2) = (j7 : Int) ∧ j7 < 12 ∧ (∀ M8 : NN, M8 = up3 N2 42 0 j7 200 → W_X10_collect G K 137 [(0, vR 10 0), (1, vI l1), (2, vI l2), (3, vI 1)] [] M8))))))))))))) : W_X10_collect G K 75 [(0, vR 10 0), (1, vI l1), (2, vI l2)] [] N := by
  refine A_iconst (v := 1) dX10_collect_75 rfl ?_
  refine A_goto (tgt := 80) dX10_collect_76 (by decide) ?_
  refine A_istore_n (ls' := [(3, _), (0, _), (1, _), (2, _)]) dX10_collect_80 rfl (by decide) rfl ?_
  refine A_iload_n dX10_collect_81 rfl rfl ?_
  refine B_if_eq (tgt := 137) dX10_collect_82 (by decide) (wlitI (by decide) (by decide)) ⟨fun q => absurd q (by decide), fun q => ?_⟩
  refine A_iload_n dX10_collect_85 rfl rfl ?_
  refine A_bipush (v := 13) dX10_collect_86 (by decide +kernel) ?_
  refine B_icmp_ne (tgt := 137) dX10_collect_88 (by decide) rfl (wlitI (by decide) (by decide)) ⟨fun q => ?_, fun q => ?_⟩
  · replace h := h.1 q
    exact A_pick [1, 2, 3, 0] rfl h
  · replace h := h.2 q
    refine A_aload_n dX10_collect_91 rfl rfl ?_
    refine A_getR (c2 := 40) (i2 := 0) dX10_collect_92 fX10_13 rfl (okK10 (by omega)) rfl ?_
    refine A_iload_n dX10_collect_95 rfl rfl ?_
    obtain ⟨j1, qj1, bj1, h⟩ := h
    refine A_iald (j := j1) dX10_collect_96 (by decide) rfl (okK40 (by omega)) qj1 bj1 ?_
    refine B_callS_I (av := [vI (N 40 0 j1)]) rfl dX10_collect_97 vX10_252 mX10_isReset rfl (Nat.le_of_ble_eq_true rfl) (by decide) (by decide) rfl (BC_monoI h (fun x2 N2 h => ?_))
    refine B_if_eq (tgt := 137) dX10_collect_100 (by decide) rfl ⟨fun q => ?_, fun q => ?_⟩
    · replace h := h.1 q
      exact A_pick [1, 2, 3, 0] rfl h
    · replace h := h.2 q
      refine A_aload_n dX10_collect_103 rfl rfl ?_
      refine A_getR (c2 := 42) (i2 := 0) dX10_collect_104 fX10_20 rfl (okK10 (by omega)) rfl ?_
      refine A_iload_n dX10_collect_107 rfl rfl ?_
      refine A_iconst (v := 2) dX10_collect_108 rfl ?_
      refine A_aload_n dX10_collect_109 rfl rfl ?_
      refine A_getR (c2 := 42) (i2 := 0) dX10_collect_110 fX10_20 rfl (okK10 (by omega)) rfl ?_
      refine A_iload_n dX10_collect_113 rfl rfl ?_
      obtain ⟨j3, qj3, bj3, h⟩ := h
      refine A_iald (j := j3) dX10_collect_114 (by decide) rfl (okK42 (by omega)) qj3 bj3 ?_
      refine A_imul dX10_collect_115 ?_
      refine A_sipush (v := 200) dX10_collect_116 (by decide +kernel) ?_
      refine B_icmp_le (tgt := 128) dX10_collect_119 (by decide) rfl (wlitI (by decide) (by decide)) ⟨fun q => ?_, fun q => ?_⟩
      · replace h := h.1 q
        refine A_iconst (v := 2) dX10_collect_128 rfl ?_
        refine A_aload_n dX10_collect_129 rfl rfl ?_
        refine A_getR (c2 := 42) (i2 := 0) dX10_collect_130 fX10_20 rfl (okK10 (by omega)) rfl ?_
        refine A_iload_n dX10_collect_133 rfl rfl ?_
        obtain ⟨j4, qj4, bj4, h⟩ := h
        refine A_iald (j := j4) dX10_collect_134 (by decide) rfl (okK42 (by omega)) qj4 bj4 ?_
        refine A_imul dX10_collect_135 ?_
        obtain ⟨j5, qj5, bj5, h⟩ := h
        refine B_iast (j := j5) dX10_collect_136 (by decide) rfl (okK42 (by omega)) qj5 bj5 (fun M6 eM6 => ?_)
        replace h := h M6 eM6
        exact A_pick [1, 2, 3, 0] rfl h
      · replace h := h.2 q
        refine A_sipush (v := 200) dX10_collect_122 (by decide +kernel) ?_
        refine A_goto (tgt := 136) dX10_collect_125 (by decide) ?_
        obtain ⟨j7, qj7, bj7, h⟩ := h
        refine B_iast (j := j7) dX10_collect_136 (by decide) rfl (okK42 (by omega)) qj7 bj7 (fun M8 eM8 => ?_)
        replace h := h M8 eM8
        exact A_pick [1, 2, 3, 0] rfl h
set_option maxRecDepth 100000 in
set_option maxHeartbeats 4000000 in
theorem vc_X10_collect_137 {G : GT} {l1 : Int} {l2 : Int} {l3 : Int} {N : NN} {K : NN → Prop}  (h : (∃ j1 : Nat, (wI l2) = (j1 : Int) ∧ j1 < 12 ∧ (C_X10_isFixed G (N 40 0 j1) N (fun x2 N2 => (((wI x2) = 0 → W_X10_collect G K 48 [(0, vR 10 0), (1, vI l1), (2, vI (l2 + 1))] [] N2) ∧ (¬ ((wI x2) = 0) → (((wI l1) = 1 → (∃ j3 : Nat, (wI l2) = (j3 : Int) ∧ j3 < 12 ∧ (∃ j4 : Nat, (wI l2) = (j4 : Int) ∧ j4 < 12 ∧ (∃ j5 : Nat, (wI l2) = (j5 : Int) ∧ j5 < 12 ∧ (C_X10_payFor G (N2 41 0 j3) (N2 42 0 j4) (((N2 43 0 j5) + 1) - l1) N2 (fun x6 N6 => (∃ j7 : Nat, (wI l2) = (j7 : Int) ∧ j7 < 12 ∧ (∀ M8 : NN, M8 = up3 N6 46 0 j7 x6 → W_X10_collect G K 48 [(0, vR 10 0), (1, vI l1), (2, vI (l2 + 1))] [] M8)))))))) ∧ (¬ ((wI l1) = 1) → (((wI l3) = 0 → W_X10_collect G K 48 [(0, vR 10 0), (1, vI l1), (2, vI (l2 + 1))] [] N2) ∧ (¬ ((wI l3) = 0) → (((wI l1) ≠ 13 → W_X10_collect G K 48 [(0, vR 10 0), (1, vI l1), (2, vI (l2 + 1))] [] N2) ∧ (¬ ((wI l1) ≠ 13) → (∃ j9 : Nat, (wI l2) = (j9 : Int) ∧ j9 < 12 ∧ (C_X10_isReset G (N2 40 0 j9) N2 (fun x10 N10 => (((wI x10) = 0 → W_X10_collect G K 48 [(0, vR 10 0), (1, vI l1), (2, vI (l2 + 1))] [] N10) ∧ (¬ ((wI x10) = 0) → (∃ j11 : Nat, (wI l2) = (j11 : Int) ∧ j11 < 12 ∧ (∃ j12 : Nat, (wI l2) = (j12 : Int) ∧ j12 < 12 ∧ (∃ j13 : Nat, (wI l2) = (j13 : Int) ∧ j13 < 12 ∧ (C_X10_payFor G (N10 41 0 j11) (N10 42 0 j12) (((N10 43 0 j13) + 1) - l1) N10 (fun x14 N14 => (∃ j15 : Nat, (wI l2) = (j15 : Int) ∧ j15 < 12 ∧ (∀ M16 : NN, M16 = up3 N14 46 0 j15 x14 → W_X10_collect G K 48 [(0, vR 10 0), (1, vI l1), (2, vI (l2 + 1))] [] M16)))))))))))))))))))))))) : W_X10_collect G K 137 [(0, vR 10 0), (1, vI l1), (2, vI l2), (3, vI l3)] [] N := by
  refine A_aload_n dX10_collect_137 rfl rfl ?_
  refine A_getR (c2 := 40) (i2 := 0) dX10_collect_138 fX10_13 rfl (okK10 (by omega)) rfl ?_
  refine A_iload_n dX10_collect_141 rfl rfl ?_
  obtain ⟨j1, qj1, bj1, h⟩ := h
  refine A_iald (j := j1) dX10_collect_142 (by decide) rfl (okK40 (by omega)) qj1 bj1 ?_
  refine B_callS_I (av := [vI (N 40 0 j1)]) rfl dX10_collect_143 vX10_210 mX10_isFixed rfl (Nat.le_of_ble_eq_true rfl) (by decide) (by decide) rfl (BC_monoI h (fun x2 N2 h => ?_))
  refine B_if_eq (tgt := 207) dX10_collect_146 (by decide) rfl ⟨fun q => ?_, fun q => ?_⟩
  · replace h := h.1 q
    refine A_iinc (ls' := [(2, _), (0, _), (1, _), (3, _)]) dX10_collect_207 (by decide) rfl rfl rfl ?_
    refine A_goto (tgt := 48) dX10_collect_210 (by decide) ?_
    exact A_pick [1, 2, 0] rfl h
  · replace h := h.2 q
    refine A_iload_n dX10_collect_149 rfl rfl ?_
    refine A_iconst (v := 1) dX10_collect_150 rfl ?_
    refine B_icmp_eq (tgt := 176) dX10_collect_151 (by decide) rfl (wlitI (by decide) (by decide)) ⟨fun q => ?_, fun q => ?_⟩
    · replace h := h.1 q
      refine A_aload_n dX10_collect_176 rfl rfl ?_
      refine A_getR (c2 := 46) (i2 := 0) dX10_collect_177 fX10_32 rfl (okK10 (by omega)) rfl ?_
      refine A_iload_n dX10_collect_180 rfl rfl ?_
      refine A_aload_n dX10_collect_181 rfl rfl ?_
      refine A_getR (c2 := 41) (i2 := 0) dX10_collect_182 fX10_17 rfl (okK10 (by omega)) rfl ?_
      refine A_iload_n dX10_collect_185 rfl rfl ?_
      obtain ⟨j3, qj3, bj3, h⟩ := h
      refine A_iald (j := j3) dX10_collect_186 (by decide) rfl (okK41 (by omega)) qj3 bj3 ?_
      refine A_aload_n dX10_collect_187 rfl rfl ?_
      refine A_getR (c2 := 42) (i2 := 0) dX10_collect_188 fX10_20 rfl (okK10 (by omega)) rfl ?_
      refine A_iload_n dX10_collect_191 rfl rfl ?_
      obtain ⟨j4, qj4, bj4, h⟩ := h
      refine A_iald (j := j4) dX10_collect_192 (by decide) rfl (okK42 (by omega)) qj4 bj4 ?_
      refine A_aload_n dX10_collect_193 rfl rfl ?_
      refine A_getR (c2 := 43) (i2 := 0) dX10_collect_194 fX10_23 rfl (okK10 (by omega)) rfl ?_
      refine A_iload_n dX10_collect_197 rfl rfl ?_
      obtain ⟨j5, qj5, bj5, h⟩ := h
      refine A_iald (j := j5) dX10_collect_198 (by decide) rfl (okK43 (by omega)) qj5 bj5 ?_
      refine A_iconst (v := 1) dX10_collect_199 rfl ?_
      refine A_iadd dX10_collect_200 ?_
      refine A_iload_n dX10_collect_201 rfl rfl ?_
      refine A_isub dX10_collect_202 ?_
      refine B_callS_I (av := [vI (N2 41 0 j3), vI (N2 42 0 j4), vI (((N2 43 0 j5) + 1) - l1)]) rfl dX10_collect_203 vX10_255 mX10_payFor rfl (Nat.le_of_ble_eq_true rfl) (by decide) (by decide) rfl (BC_monoI h (fun x6 N6 h => ?_))
      obtain ⟨j7, qj7, bj7, h⟩ := h
      refine B_iast (j := j7) dX10_collect_206 (by decide) rfl (okK46 (by omega)) qj7 bj7 (fun M8 eM8 => ?_)
      replace h := h M8 eM8
      refine A_iinc (ls' := [(2, _), (0, _), (1, _), (3, _)]) dX10_collect_207 (by decide) rfl rfl rfl ?_
      refine A_goto (tgt := 48) dX10_collect_210 (by decide) ?_
      exact A_pick [1, 2, 0] rfl h
    · replace h := h.2 q
      refine A_iload_n dX10_collect_154 rfl rfl ?_
      refine B_if_eq (tgt := 207) dX10_collect_155 (by decide) rfl ⟨fun q => ?_, fun q => ?_⟩
      · replace h := h.1 q
        refine A_iinc (ls' := [(2, _), (0, _), (1, _), (3, _)]) dX10_collect_207 (by decide) rfl rfl rfl ?_
        refine A_goto (tgt := 48) dX10_collect_210 (by decide) ?_
        exact A_pick [1, 2, 0] rfl h
      · replace h := h.2 q
        refine A_iload_n dX10_collect_158 rfl rfl ?_
        refine A_bipush (v := 13) dX10_collect_159 (by decide +kernel) ?_
        refine B_icmp_ne (tgt := 207) dX10_collect_161 (by decide) rfl (wlitI (by decide) (by decide)) ⟨fun q => ?_, fun q => ?_⟩
        · replace h := h.1 q
          refine A_iinc (ls' := [(2, _), (0, _), (1, _), (3, _)]) dX10_collect_207 (by decide) rfl rfl rfl ?_
          refine A_goto (tgt := 48) dX10_collect_210 (by decide) ?_
          exact A_pick [1, 2, 0] rfl h
        · replace h := h.2 q
          refine A_aload_n dX10_collect_164 rfl rfl ?_
          refine A_getR (c2 := 40) (i2 := 0) dX10_collect_165 fX10_13 rfl (okK10 (by omega)) rfl ?_
          refine A_iload_n dX10_collect_168 rfl rfl ?_
          obtain ⟨j9, qj9, bj9, h⟩ := h
          refine A_iald (j := j9) dX10_collect_169 (by decide) rfl (okK40 (by omega)) qj9 bj9 ?_
          refine B_callS_I (av := [vI (N2 40 0 j9)]) rfl dX10_collect_170 vX10_252 mX10_isReset rfl (Nat.le_of_ble_eq_true rfl) (by decide) (by decide) rfl (BC_monoI h (fun x10 N10 h => ?_))
          refine B_if_eq (tgt := 207) dX10_collect_173 (by decide) rfl ⟨fun q => ?_, fun q => ?_⟩
          · replace h := h.1 q
            refine A_iinc (ls' := [(2, _), (0, _), (1, _), (3, _)]) dX10_collect_207 (by decide) rfl rfl rfl ?_
            refine A_goto (tgt := 48) dX10_collect_210 (by decide) ?_
            exact A_pick [1, 2, 0] rfl h
          · replace h := h.2 q
            refine A_aload_n dX10_collect_176 rfl rfl ?_
            refine A_getR (c2 := 46) (i2 := 0) dX10_collect_177 fX10_32 rfl (okK10 (by omega)) rfl ?_
            refine A_iload_n dX10_collect_180 rfl rfl ?_
            refine A_aload_n dX10_collect_181 rfl rfl ?_
            refine A_getR (c2 := 41) (i2 := 0) dX10_collect_182 fX10_17 rfl (okK10 (by omega)) rfl ?_
            refine A_iload_n dX10_collect_185 rfl rfl ?_
            obtain ⟨j11, qj11, bj11, h⟩ := h
            refine A_iald (j := j11) dX10_collect_186 (by decide) rfl (okK41 (by omega)) qj11 bj11 ?_
            refine A_aload_n dX10_collect_187 rfl rfl ?_
            refine A_getR (c2 := 42) (i2 := 0) dX10_collect_188 fX10_20 rfl (okK10 (by omega)) rfl ?_
            refine A_iload_n dX10_collect_191 rfl rfl ?_
            obtain ⟨j12, qj12, bj12, h⟩ := h
            refine A_iald (j := j12) dX10_collect_192 (by decide) rfl (okK42 (by omega)) qj12 bj12 ?_
            refine A_aload_n dX10_collect_193 rfl rfl ?_
            refine A_getR (c2 := 43) (i2 := 0) dX10_collect_194 fX10_23 rfl (okK10 (by omega)) rfl ?_
            refine A_iload_n dX10_collect_197 rfl rfl ?_
            obtain ⟨j13, qj13, bj13, h⟩ := h
            refine A_iald (j := j13) dX10_collect_198 (by decide) rfl (okK43 (by omega)) qj13 bj13 ?_
            refine A_iconst (v := 1) dX10_collect_199 rfl ?_
            refine A_iadd dX10_collect_200 ?_
            refine A_iload_n dX10_collect_201 rfl rfl ?_
            refine A_isub dX10_collect_202 ?_
            refine B_callS_I (av := [vI (N10 41 0 j11), vI (N10 42 0 j12), vI (((N10 43 0 j13) + 1) - l1)]) rfl dX10_collect_203 vX10_255 mX10_payFor rfl (Nat.le_of_ble_eq_true rfl) (by decide) (by decide) rfl (BC_monoI h (fun x14 N14 h => ?_))
            obtain ⟨j15, qj15, bj15, h⟩ := h
            refine B_iast (j := j15) dX10_collect_206 (by decide) rfl (okK46 (by omega)) qj15 bj15 (fun M16 eM16 => ?_)
            replace h := h M16 eM16
            refine A_iinc (ls' := [(2, _), (0, _), (1, _), (3, _)]) dX10_collect_207 (by decide) rfl rfl rfl ?_
            refine A_goto (tgt := 48) dX10_collect_210 (by decide) ?_
            exact A_pick [1, 2, 0] rfl h
set_option maxRecDepth 100000 in
set_option maxHeartbeats 4000000 in
theorem vc_X10_collect_215 {G : GT} {l1 : Int} {l2 : Int} {N : NN} {K : NN → Prop}  (h : (((wI (N 10 0 2)) ≤ (wI l2) → (∃ j1 : Nat, (wI l1) = (j1 : Int) ∧ j1 < 61 ∧ (∀ M2 : NN, M2 = up3 N 56 0 j1 0 → W_X10_collect G K 373 [(0, vR 10 0), (1, vI l1), (2, vI 0)] [] M2))) ∧ (¬ ((wI (N 10 0 2)) ≤ (wI l2)) → (∃ j3 : Nat, (wI l2) = (j3 : Int) ∧ j3 < 12 ∧ (((wI (N 45 0 j3)) = 0 → (C_X10_goes G l2 l1 N (fun N4 => W_X10_collect G K 215 [(0, vR 10 0), (1, vI l1), (2, vI (l2 + 1))] [] N4))) ∧ (¬ ((wI (N 45 0 j3)) = 0) → (∃ j5 : Nat, (wI l2) = (j5 : Int) ∧ j5 < 12 ∧ (((wI (N 45 0 j5)) ≠ 1 → (∃ j6 : Nat, (wI l2) = (j6 : Int) ∧ j6 < 12 ∧ (((wI (N 45 0 j6)) ≠ 6 → (∃ j7 : Nat, (wI l2) = (j7 : Int) ∧ j7 < 12 ∧ (((wI (N 45 0 j7)) ≠ 3 → W_X10_collect G K 215 [(0, vR 10 0), (1, vI l1), (2, vI (l2 + 1))] [] N) ∧ (¬ ((wI (N 45 0 j7)) ≠ 3) → (∃ j8 : Nat, (wI l2) = (j8 : Int) ∧ j8 < 12 ∧ (((wI ((N 47 0 j8) + 3)) ≠ (wI l1) → W_X10_collect G K 215 [(0, vR 10 0), (1, vI l1), (2, vI (l2 + 1))] [] N) ∧ (¬ ((wI ((N 47 0 j8) + 3)) ≠ (wI l1)) → (∃ j9 : Nat, (wI l2) = (j9 : Int) ∧ j9 < 12 ∧ (∃ j10 : Nat, (wI l1) = (j10 : Int) ∧ j10 < 61 ∧ (∃ j11 : Nat, (wI l1) = (j11 : Int) ∧ j11 < 61 ∧ (∀ M12 : NN, M12 = up3 N 50 0 j11 ((N 50 0 j10) + ((wI (((wL (((wI (N 41 0 j9))) * ((wI (N 10 0 12)))))).tdiv 100)))) → (∃ j13 : Nat, (wI l1) = (j13 : Int) ∧ j13 < 61 ∧ (∃ j14 : Nat, (wI l2) = (j14 : Int) ∧ j14 < 12 ∧ (∃ j15 : Nat, (wI l1) = (j15 : Int) ∧ j15 < 61 ∧ (∀ M16 : NN, M16 = up3 M12 55 0 j15 ((M12 55 0 j13) + ((wI ((M12 41 0 j14) - (((wL (((wI (N 41 0 j9))) * ((wI (N 10 0 12)))))).tdiv 100))))) → (∃ j17 : Nat, (wI l2) = (j17 : Int) ∧ j17 < 12 ∧ (∀ M18 : NN, M18 = up3 M16 41 0 j17 0 → (∃ j19 : Nat, (wI l2) = (j19 : Int) ∧ j19 < 12 ∧ (∀ M20 : NN, M20 = up3 M18 45 0 j19 4 → W_X10_collect G K 215 [(0, vR 10 0), (1, vI l1), (2, vI (l2 + 1))] [] M20))))))))))))))))))) ∧ (¬ ((wI (N 45 0 j6)) ≠ 6) → (C_X10_paysOff G l2 l1 0 6 N (fun N21 => W_X10_collect G K 215 [(0, vR 10 0), (1, vI l1), (2, vI (l2 + 1))] [] N21)))))) ∧ (¬ ((wI (N 45 0 j5)) ≠ 1) → (C_X10_goes G l2 l1 N (fun N22 => W_X10_collect G K 215 [(0, vR 10 0), (1, vI l1), (2, vI (l2 + 1))] [] N22))))))))))) : W_X10_collect G K 215 [(0, vR 10 0), (1, vI l1), (2, vI l2)] [] N := by
  refine A_iload_n dX10_collect_215 rfl rfl ?_
  refine A_aload_n dX10_collect_216 rfl rfl ?_
  refine A_getI dX10_collect_217 fX10_183 rfl (okK10 (by omega)) ?_
  refine B_icmp_ge (tgt := 364) dX10_collect_220 (by decide) rfl rfl ⟨fun q => ?_, fun q => ?_⟩
  · replace h := h.1 q
    refine A_aload_n dX10_collect_364 rfl rfl ?_
    refine A_getR (c2 := 56) (i2 := 0) dX10_collect_365 fX10_66 rfl (okK10 (by omega)) rfl ?_
    refine A_iload_n dX10_collect_368 rfl rfl ?_
    refine A_iconst (v := 0) dX10_collect_369 rfl ?_
    obtain ⟨j1, qj1, bj1, h⟩ := h
    refine B_iast (j := j1) dX10_collect_370 (by decide) rfl (okK56 (by omega)) qj1 bj1 (fun M2 eM2 => ?_)
    replace h := h M2 eM2
    refine A_iconst (v := 0) dX10_collect_371 rfl ?_
    refine A_istore_n (ls' := [(2, _), (0, _), (1, _)]) dX10_collect_372 rfl (by decide) rfl ?_
    exact A_pick [1, 2, 0] rfl h
  · replace h := h.2 q
    refine A_aload_n dX10_collect_223 rfl rfl ?_
    refine A_getR (c2 := 45) (i2 := 0) dX10_collect_224 fX10_29 rfl (okK10 (by omega)) rfl ?_
    refine A_iload_n dX10_collect_227 rfl rfl ?_
    obtain ⟨j3, qj3, bj3, h⟩ := h
    refine A_iald (j := j3) dX10_collect_228 (by decide) rfl (okK45 (by omega)) qj3 bj3 ?_
    refine B_if_eq (tgt := 242) dX10_collect_229 (by decide) rfl ⟨fun q => ?_, fun q => ?_⟩
    · replace h := h.1 q
      refine A_aload_n dX10_collect_242 rfl rfl ?_
      refine A_iload_n dX10_collect_243 rfl rfl ?_
      refine A_iload_n dX10_collect_244 rfl rfl ?_
      refine B_callV_V (av := [vI l2, vI l1]) rfl dX10_collect_245 vX10_258 mX10_goes ⟨rfl, rfl, by decide⟩ (okK10 (by omega)) rfl (Nat.le_of_ble_eq_true rfl) (by decide) (by decide) rfl (BC_monoV h (fun N4 h => ?_))
      refine A_goto (tgt := 358) dX10_collect_248 (by decide) ?_
      refine A_iinc (ls' := [(2, _), (0, _), (1, _)]) dX10_collect_358 (by decide) rfl rfl rfl ?_
      refine A_goto (tgt := 215) dX10_collect_361 (by decide) ?_
      exact A_pick [1, 2, 0] rfl h
    · replace h := h.2 q
      refine A_aload_n dX10_collect_232 rfl rfl ?_
      refine A_getR (c2 := 45) (i2 := 0) dX10_collect_233 fX10_29 rfl (okK10 (by omega)) rfl ?_
      refine A_iload_n dX10_collect_236 rfl rfl ?_
      obtain ⟨j5, qj5, bj5, h⟩ := h
      refine A_iald (j := j5) dX10_collect_237 (by decide) rfl (okK45 (by omega)) qj5 bj5 ?_
      refine A_iconst (v := 1) dX10_collect_238 rfl ?_
      refine B_icmp_ne (tgt := 251) dX10_collect_239 (by decide) rfl (wlitI (by decide) (by decide)) ⟨fun q => ?_, fun q => ?_⟩
      · replace h := h.1 q
        refine A_aload_n dX10_collect_251 rfl rfl ?_
        refine A_getR (c2 := 45) (i2 := 0) dX10_collect_252 fX10_29 rfl (okK10 (by omega)) rfl ?_
        refine A_iload_n dX10_collect_255 rfl rfl ?_
        obtain ⟨j6, qj6, bj6, h⟩ := h
        refine A_iald (j := j6) dX10_collect_256 (by decide) rfl (okK45 (by omega)) qj6 bj6 ?_
        refine A_bipush (v := 6) dX10_collect_257 (by decide +kernel) ?_
        refine B_icmp_ne (tgt := 274) dX10_collect_259 (by decide) rfl (wlitI (by decide) (by decide)) ⟨fun q => ?_, fun q => ?_⟩
        · replace h := h.1 q
          refine A_aload_n dX10_collect_274 rfl rfl ?_
          refine A_getR (c2 := 45) (i2 := 0) dX10_collect_275 fX10_29 rfl (okK10 (by omega)) rfl ?_
          refine A_iload_n dX10_collect_278 rfl rfl ?_
          obtain ⟨j7, qj7, bj7, h⟩ := h
          refine A_iald (j := j7) dX10_collect_279 (by decide) rfl (okK45 (by omega)) qj7 bj7 ?_
          refine A_iconst (v := 3) dX10_collect_280 rfl ?_
          refine B_icmp_ne (tgt := 358) dX10_collect_281 (by decide) rfl (wlitI (by decide) (by decide)) ⟨fun q => ?_, fun q => ?_⟩
          · replace h := h.1 q
            refine A_iinc (ls' := [(2, _), (0, _), (1, _)]) dX10_collect_358 (by decide) rfl rfl rfl ?_
            refine A_goto (tgt := 215) dX10_collect_361 (by decide) ?_
            exact A_pick [1, 2, 0] rfl h
          · replace h := h.2 q
            refine A_aload_n dX10_collect_284 rfl rfl ?_
            refine A_getR (c2 := 47) (i2 := 0) dX10_collect_285 fX10_35 rfl (okK10 (by omega)) rfl ?_
            refine A_iload_n dX10_collect_288 rfl rfl ?_
            obtain ⟨j8, qj8, bj8, h⟩ := h
            refine A_iald (j := j8) dX10_collect_289 (by decide) rfl (okK47 (by omega)) qj8 bj8 ?_
            refine A_iconst (v := 3) dX10_collect_290 rfl ?_
            refine A_iadd dX10_collect_291 ?_
            refine A_iload_n dX10_collect_292 rfl rfl ?_
            refine B_icmp_ne (tgt := 358) dX10_collect_293 (by decide) rfl rfl ⟨fun q => ?_, fun q => ?_⟩
            · replace h := h.1 q
              refine A_iinc (ls' := [(2, _), (0, _), (1, _)]) dX10_collect_358 (by decide) rfl rfl rfl ?_
              refine A_goto (tgt := 215) dX10_collect_361 (by decide) ?_
              exact A_pick [1, 2, 0] rfl h
            · replace h := h.2 q
              refine A_aload_n dX10_collect_296 rfl rfl ?_
              refine A_getR (c2 := 41) (i2 := 0) dX10_collect_297 fX10_17 rfl (okK10 (by omega)) rfl ?_
              refine A_iload_n dX10_collect_300 rfl rfl ?_
              obtain ⟨j9, qj9, bj9, h⟩ := h
              refine A_iald (j := j9) dX10_collect_301 (by decide) rfl (okK41 (by omega)) qj9 bj9 ?_
              refine B_i2l dX10_collect_302 rfl ?_
              refine A_aload_n dX10_collect_303 rfl rfl ?_
              refine A_getI dX10_collect_304 fX10_38 rfl (okK10 (by omega)) ?_
              refine B_i2l dX10_collect_307 rfl ?_
              refine A_lmul dX10_collect_308 ?_
              refine A_ldc2 (x := 100) dX10_collect_309 kX10_262 (by decide +kernel) ?_
              refine B_ldiv dX10_collect_312 rfl (wlitL (by decide) (by decide)) (by decide) ?_
              refine A_l2i dX10_collect_313 ?_
              refine A_istore_n (ls' := [(3, _), (0, _), (1, _), (2, _)]) dX10_collect_314 rfl (by decide) rfl ?_
              refine A_aload_n dX10_collect_315 rfl rfl ?_
              refine A_getR (c2 := 50) (i2 := 0) dX10_collect_316 fX10_48 rfl (okK10 (by omega)) rfl ?_
              refine A_iload_n dX10_collect_319 rfl rfl ?_
              refine A_dup2 dX10_collect_320 rfl rfl ?_
              obtain ⟨j10, qj10, bj10, h⟩ := h
              refine A_lald (j := j10) dX10_collect_321 (by decide) rfl (okK50 (by omega)) qj10 bj10 ?_
              refine A_iload_n dX10_collect_322 rfl rfl ?_
              refine B_i2l dX10_collect_323 rfl ?_
              refine A_ladd dX10_collect_324 ?_
              obtain ⟨j11, qj11, bj11, h⟩ := h
              refine B_last (j := j11) dX10_collect_325 (by decide) rfl (okK50 (by omega)) qj11 bj11 (fun M12 eM12 => ?_)
              replace h := h M12 eM12
              refine A_aload_n dX10_collect_326 rfl rfl ?_
              refine A_getR (c2 := 55) (i2 := 0) dX10_collect_327 fX10_63 rfl (okK10 (by omega)) rfl ?_
              refine A_iload_n dX10_collect_330 rfl rfl ?_
              refine A_dup2 dX10_collect_331 rfl rfl ?_
              obtain ⟨j13, qj13, bj13, h⟩ := h
              refine A_lald (j := j13) dX10_collect_332 (by decide) rfl (okK55 (by omega)) qj13 bj13 ?_
              refine A_aload_n dX10_collect_333 rfl rfl ?_
              refine A_getR (c2 := 41) (i2 := 0) dX10_collect_334 fX10_17 rfl (okK10 (by omega)) rfl ?_
              refine A_iload_n dX10_collect_337 rfl rfl ?_
              obtain ⟨j14, qj14, bj14, h⟩ := h
              refine A_iald (j := j14) dX10_collect_338 (by decide) rfl (okK41 (by omega)) qj14 bj14 ?_
              refine A_iload_n dX10_collect_339 rfl rfl ?_
              refine A_isub dX10_collect_340 ?_
              refine B_i2l dX10_collect_341 rfl ?_
              refine A_ladd dX10_collect_342 ?_
              obtain ⟨j15, qj15, bj15, h⟩ := h
              refine B_last (j := j15) dX10_collect_343 (by decide) rfl (okK55 (by omega)) qj15 bj15 (fun M16 eM16 => ?_)
              replace h := h M16 eM16
              refine A_aload_n dX10_collect_344 rfl rfl ?_
              refine A_getR (c2 := 41) (i2 := 0) dX10_collect_345 fX10_17 rfl (okK10 (by omega)) rfl ?_
              refine A_iload_n dX10_collect_348 rfl rfl ?_
              refine A_iconst (v := 0) dX10_collect_349 rfl ?_
              obtain ⟨j17, qj17, bj17, h⟩ := h
              refine B_iast (j := j17) dX10_collect_350 (by decide) rfl (okK41 (by omega)) qj17 bj17 (fun M18 eM18 => ?_)
              replace h := h M18 eM18
              refine A_aload_n dX10_collect_351 rfl rfl ?_
              refine A_getR (c2 := 45) (i2 := 0) dX10_collect_352 fX10_29 rfl (okK10 (by omega)) rfl ?_
              refine A_iload_n dX10_collect_355 rfl rfl ?_
              refine A_iconst (v := 4) dX10_collect_356 rfl ?_
              obtain ⟨j19, qj19, bj19, h⟩ := h
              refine B_iast (j := j19) dX10_collect_357 (by decide) rfl (okK45 (by omega)) qj19 bj19 (fun M20 eM20 => ?_)
              replace h := h M20 eM20
              refine A_iinc (ls' := [(2, _), (3, _), (0, _), (1, _)]) dX10_collect_358 (by decide) rfl rfl rfl ?_
              refine A_goto (tgt := 215) dX10_collect_361 (by decide) ?_
              exact A_pick [2, 3, 0] rfl h
        · replace h := h.2 q
          refine A_aload_n dX10_collect_262 rfl rfl ?_
          refine A_iload_n dX10_collect_263 rfl rfl ?_
          refine A_iload_n dX10_collect_264 rfl rfl ?_
          refine A_iconst (v := 0) dX10_collect_265 rfl ?_
          refine A_bipush (v := 6) dX10_collect_266 (by decide +kernel) ?_
          refine B_callV_V (av := [vI l2, vI l1, vI 0, vI 6]) rfl dX10_collect_268 vX10_241 mX10_paysOff ⟨rfl, rfl, by decide⟩ (okK10 (by omega)) rfl (Nat.le_of_ble_eq_true rfl) (by decide) (by decide) rfl (BC_monoV h (fun N21 h => ?_))
          refine A_goto (tgt := 358) dX10_collect_271 (by decide) ?_
          refine A_iinc (ls' := [(2, _), (0, _), (1, _)]) dX10_collect_358 (by decide) rfl rfl rfl ?_
          refine A_goto (tgt := 215) dX10_collect_361 (by decide) ?_
          exact A_pick [1, 2, 0] rfl h
      · replace h := h.2 q
        refine A_aload_n dX10_collect_242 rfl rfl ?_
        refine A_iload_n dX10_collect_243 rfl rfl ?_
        refine A_iload_n dX10_collect_244 rfl rfl ?_
        refine B_callV_V (av := [vI l2, vI l1]) rfl dX10_collect_245 vX10_258 mX10_goes ⟨rfl, rfl, by decide⟩ (okK10 (by omega)) rfl (Nat.le_of_ble_eq_true rfl) (by decide) (by decide) rfl (BC_monoV h (fun N22 h => ?_))
        refine A_goto (tgt := 358) dX10_collect_248 (by decide) ?_
        refine A_iinc (ls' := [(2, _), (0, _), (1, _)]) dX10_collect_358 (by decide) rfl rfl rfl ?_
        refine A_goto (tgt := 215) dX10_collect_361 (by decide) ?_
        exact A_pick [1, 2, 0] rfl h
set_option maxRecDepth 100000 in
set_option maxHeartbeats 4000000 in
theorem vc_X10_collect_373 {G : GT} {l1 : Int} {l2 : Int} {N : NN} {K : NN → Prop}  (h : (((wI (N 10 0 2)) ≤ (wI l2) → (∃ j1 : Nat, (wI l1) = (j1 : Int) ∧ j1 < 61 ∧ (∀ M2 : NN, M2 = up3 N 10 0 14 ((N 10 0 14) + (N 51 0 j1)) → (∃ j3 : Nat, (wI l1) = (j3 : Int) ∧ j3 < 61 ∧ (((wL ((wI (M2 10 0 14)))) ≤ (wL (M2 48 0 j3)) → (∃ j4 : Nat, (wI l1) = (j4 : Int) ∧ j4 < 61 ∧ (∀ M5 : NN, M5 = up3 M2 52 0 j4 ((wI (M2 10 0 14))) → (∃ j6 : Nat, (wI l1) = (j6 : Int) ∧ j6 < 61 ∧ (∀ M7 : NN, M7 = up3 M5 10 0 14 ((M5 10 0 14) - (M5 52 0 j6)) → (C_X10_pool G  M7 (fun x8 N8 => (∃ j9 : Nat, (wI l1) = (j9 : Int) ∧ j9 < 61 ∧ (∀ M10 : NN, M10 = up3 N8 54 0 j9 ((wI x8)) → K M10))))))))) ∧ (¬ ((wL ((wI (M2 10 0 14)))) ≤ (wL (M2 48 0 j3))) → (∃ j11 : Nat, (wI l1) = (j11 : Int) ∧ j11 < 61 ∧ (∃ j12 : Nat, (wI l1) = (j12 : Int) ∧ j12 < 61 ∧ (∀ M13 : NN, M13 = up3 M2 52 0 j12 (M2 48 0 j11) → (∃ j14 : Nat, (wI l1) = (j14 : Int) ∧ j14 < 61 ∧ (∀ M15 : NN, M15 = up3 M13 10 0 14 ((M13 10 0 14) - (M13 52 0 j14)) → (C_X10_pool G  M15 (fun x16 N16 => (∃ j17 : Nat, (wI l1) = (j17 : Int) ∧ j17 < 61 ∧ (∀ M18 : NN, M18 = up3 N16 54 0 j17 ((wI x16)) → K M18))))))))))))))) ∧ (¬ ((wI (N 10 0 2)) ≤ (wI l2)) → (∃ j19 : Nat, (wI l1) = (j19 : Int) ∧ j19 < 61 ∧ (∃ j20 : Nat, (wI l2) = (j20 : Int) ∧ j20 < 12 ∧ (((wI (N 45 0 j20)) ≠ 1 → (∃ j21 : Nat, (wI l1) = (j21 : Int) ∧ j21 < 61 ∧ (∀ M22 : NN, M22 = up3 N 56 0 j21 ((N 56 0 j19) + 0) → W_X10_collect G K 373 [(0, vR 10 0), (1, vI l1), (2, vI (l2 + 1))] [] M22))) ∧ (¬ ((wI (N 45 0 j20)) ≠ 1) → (∃ j23 : Nat, (wI l1) = (j23 : Int) ∧ j23 < 61 ∧ (∀ M24 : NN, M24 = up3 N 56 0 j23 ((N 56 0 j19) + 1) → W_X10_collect G K 373 [(0, vR 10 0), (1, vI l1), (2, vI (l2 + 1))] [] M24))))))))) : W_X10_collect G K 373 [(0, vR 10 0), (1, vI l1), (2, vI l2)] [] N := by
  refine A_iload_n dX10_collect_373 rfl rfl ?_
  refine A_aload_n dX10_collect_374 rfl rfl ?_
  refine A_getI dX10_collect_375 fX10_183 rfl (okK10 (by omega)) ?_
  refine B_icmp_ge (tgt := 411) dX10_collect_378 (by decide) rfl rfl ⟨fun q => ?_, fun q => ?_⟩
  · replace h := h.1 q
    refine A_aload_n dX10_collect_411 rfl rfl ?_
    refine A_dup dX10_collect_412 rfl ?_
    refine A_getI dX10_collect_413 fX10_264 rfl (okK10 (by omega)) ?_
    refine A_aload_n dX10_collect_416 rfl rfl ?_
    refine A_getR (c2 := 51) (i2 := 0) dX10_collect_417 fX10_51 rfl (okK10 (by omega)) rfl ?_
    refine A_iload_n dX10_collect_420 rfl rfl ?_
    obtain ⟨j1, qj1, bj1, h⟩ := h
    refine A_lald (j := j1) dX10_collect_421 (by decide) rfl (okK51 (by omega)) qj1 bj1 ?_
    refine A_l2i dX10_collect_422 ?_
    refine A_iadd dX10_collect_423 ?_
    refine B_putI dX10_collect_424 fX10_264 (by decide) (okK10 (by omega)) (fun M2 eM2 => ?_)
    replace h := h M2 eM2
    refine A_aload_n dX10_collect_427 rfl rfl ?_
    refine A_getR (c2 := 52) (i2 := 0) dX10_collect_428 fX10_54 rfl (okK10 (by omega)) rfl ?_
    refine A_iload_n dX10_collect_431 rfl rfl ?_
    refine A_aload_n dX10_collect_432 rfl rfl ?_
    refine A_getR (c2 := 48) (i2 := 0) dX10_collect_433 fX10_41 rfl (okK10 (by omega)) rfl ?_
    refine A_iload_n dX10_collect_436 rfl rfl ?_
    obtain ⟨j3, qj3, bj3, h⟩ := h
    refine A_lald (j := j3) dX10_collect_437 (by decide) rfl (okK48 (by omega)) qj3 bj3 ?_
    refine A_aload_n dX10_collect_438 rfl rfl ?_
    refine A_getI dX10_collect_439 fX10_264 rfl (okK10 (by omega)) ?_
    refine B_i2l dX10_collect_442 rfl ?_
    refine B_lcmp_ge (tgt := 456) dX10_collect_443 rfl dX10_collect_444 (by decide) rfl rfl ⟨fun q => ?_, fun q => ?_⟩
    · replace h := h.1 q
      refine A_aload_n dX10_collect_456 rfl rfl ?_
      refine A_getI dX10_collect_457 fX10_264 rfl (okK10 (by omega)) ?_
      refine B_i2l dX10_collect_460 rfl ?_
      obtain ⟨j4, qj4, bj4, h⟩ := h
      refine B_last (j := j4) dX10_collect_461 (by decide) rfl (okK52 (by omega)) qj4 bj4 (fun M5 eM5 => ?_)
      replace h := h M5 eM5
      refine A_aload_n dX10_collect_462 rfl rfl ?_
      refine A_dup dX10_collect_463 rfl ?_
      refine A_getI dX10_collect_464 fX10_264 rfl (okK10 (by omega)) ?_
      refine A_aload_n dX10_collect_467 rfl rfl ?_
      refine A_getR (c2 := 52) (i2 := 0) dX10_collect_468 fX10_54 rfl (okK10 (by omega)) rfl ?_
      refine A_iload_n dX10_collect_471 rfl rfl ?_
      obtain ⟨j6, qj6, bj6, h⟩ := h
      refine A_lald (j := j6) dX10_collect_472 (by decide) rfl (okK52 (by omega)) qj6 bj6 ?_
      refine A_l2i dX10_collect_473 ?_
      refine A_isub dX10_collect_474 ?_
      refine B_putI dX10_collect_475 fX10_264 (by decide) (okK10 (by omega)) (fun M7 eM7 => ?_)
      replace h := h M7 eM7
      refine A_aload_n dX10_collect_478 rfl rfl ?_
      refine A_getR (c2 := 54) (i2 := 0) dX10_collect_479 fX10_60 rfl (okK10 (by omega)) rfl ?_
      refine A_iload_n dX10_collect_482 rfl rfl ?_
      refine A_aload_n dX10_collect_483 rfl rfl ?_
      refine B_callV_I (av := []) rfl dX10_collect_484 vX10_248 mX10_pool ⟨rfl, rfl, by decide⟩ (okK10 (by omega)) rfl (Nat.le_of_ble_eq_true rfl) (by decide) (by decide) rfl (BC_monoI h (fun x8 N8 h => ?_))
      refine B_i2l dX10_collect_487 rfl ?_
      obtain ⟨j9, qj9, bj9, h⟩ := h
      refine B_last (j := j9) dX10_collect_488 (by decide) rfl (okK54 (by omega)) qj9 bj9 (fun M10 eM10 => ?_)
      replace h := h M10 eM10
      exact A_vret dX10_collect_489 ⟨rfl, rfl, h⟩
    · replace h := h.2 q
      refine A_aload_n dX10_collect_447 rfl rfl ?_
      refine A_getR (c2 := 48) (i2 := 0) dX10_collect_448 fX10_41 rfl (okK10 (by omega)) rfl ?_
      refine A_iload_n dX10_collect_451 rfl rfl ?_
      obtain ⟨j11, qj11, bj11, h⟩ := h
      refine A_lald (j := j11) dX10_collect_452 (by decide) rfl (okK48 (by omega)) qj11 bj11 ?_
      refine A_goto (tgt := 461) dX10_collect_453 (by decide) ?_
      obtain ⟨j12, qj12, bj12, h⟩ := h
      refine B_last (j := j12) dX10_collect_461 (by decide) rfl (okK52 (by omega)) qj12 bj12 (fun M13 eM13 => ?_)
      replace h := h M13 eM13
      refine A_aload_n dX10_collect_462 rfl rfl ?_
      refine A_dup dX10_collect_463 rfl ?_
      refine A_getI dX10_collect_464 fX10_264 rfl (okK10 (by omega)) ?_
      refine A_aload_n dX10_collect_467 rfl rfl ?_
      refine A_getR (c2 := 52) (i2 := 0) dX10_collect_468 fX10_54 rfl (okK10 (by omega)) rfl ?_
      refine A_iload_n dX10_collect_471 rfl rfl ?_
      obtain ⟨j14, qj14, bj14, h⟩ := h
      refine A_lald (j := j14) dX10_collect_472 (by decide) rfl (okK52 (by omega)) qj14 bj14 ?_
      refine A_l2i dX10_collect_473 ?_
      refine A_isub dX10_collect_474 ?_
      refine B_putI dX10_collect_475 fX10_264 (by decide) (okK10 (by omega)) (fun M15 eM15 => ?_)
      replace h := h M15 eM15
      refine A_aload_n dX10_collect_478 rfl rfl ?_
      refine A_getR (c2 := 54) (i2 := 0) dX10_collect_479 fX10_60 rfl (okK10 (by omega)) rfl ?_
      refine A_iload_n dX10_collect_482 rfl rfl ?_
      refine A_aload_n dX10_collect_483 rfl rfl ?_
      refine B_callV_I (av := []) rfl dX10_collect_484 vX10_248 mX10_pool ⟨rfl, rfl, by decide⟩ (okK10 (by omega)) rfl (Nat.le_of_ble_eq_true rfl) (by decide) (by decide) rfl (BC_monoI h (fun x16 N16 h => ?_))
      refine B_i2l dX10_collect_487 rfl ?_
      obtain ⟨j17, qj17, bj17, h⟩ := h
      refine B_last (j := j17) dX10_collect_488 (by decide) rfl (okK54 (by omega)) qj17 bj17 (fun M18 eM18 => ?_)
      replace h := h M18 eM18
      exact A_vret dX10_collect_489 ⟨rfl, rfl, h⟩
  · replace h := h.2 q
    refine A_aload_n dX10_collect_381 rfl rfl ?_
    refine A_getR (c2 := 56) (i2 := 0) dX10_collect_382 fX10_66 rfl (okK10 (by omega)) rfl ?_
    refine A_iload_n dX10_collect_385 rfl rfl ?_
    refine A_dup2 dX10_collect_386 rfl rfl ?_
    obtain ⟨j19, qj19, bj19, h⟩ := h
    refine A_iald (j := j19) dX10_collect_387 (by decide) rfl (okK56 (by omega)) qj19 bj19 ?_
    refine A_aload_n dX10_collect_388 rfl rfl ?_
    refine A_getR (c2 := 45) (i2 := 0) dX10_collect_389 fX10_29 rfl (okK10 (by omega)) rfl ?_
    refine A_iload_n dX10_collect_392 rfl rfl ?_
    obtain ⟨j20, qj20, bj20, h⟩ := h
    refine A_iald (j := j20) dX10_collect_393 (by decide) rfl (okK45 (by omega)) qj20 bj20 ?_
    refine A_iconst (v := 1) dX10_collect_394 rfl ?_
    refine B_icmp_ne (tgt := 402) dX10_collect_395 (by decide) rfl (wlitI (by decide) (by decide)) ⟨fun q => ?_, fun q => ?_⟩
    · replace h := h.1 q
      refine A_iconst (v := 0) dX10_collect_402 rfl ?_
      refine A_iadd dX10_collect_403 ?_
      obtain ⟨j21, qj21, bj21, h⟩ := h
      refine B_iast (j := j21) dX10_collect_404 (by decide) rfl (okK56 (by omega)) qj21 bj21 (fun M22 eM22 => ?_)
      replace h := h M22 eM22
      refine A_iinc (ls' := [(2, _), (0, _), (1, _)]) dX10_collect_405 (by decide) rfl rfl rfl ?_
      refine A_goto (tgt := 373) dX10_collect_408 (by decide) ?_
      exact A_pick [1, 2, 0] rfl h
    · replace h := h.2 q
      refine A_iconst (v := 1) dX10_collect_398 rfl ?_
      refine A_goto (tgt := 403) dX10_collect_399 (by decide) ?_
      refine A_iadd dX10_collect_403 ?_
      obtain ⟨j23, qj23, bj23, h⟩ := h
      refine B_iast (j := j23) dX10_collect_404 (by decide) rfl (okK56 (by omega)) qj23 bj23 (fun M24 eM24 => ?_)
      replace h := h M24 eM24
      refine A_iinc (ls' := [(2, _), (0, _), (1, _)]) dX10_collect_405 (by decide) rfl rfl rfl ?_
      refine A_goto (tgt := 373) dX10_collect_408 (by decide) ?_
      exact A_pick [1, 2, 0] rfl h
set_option maxRecDepth 100000 in
set_option maxHeartbeats 4000000 in
theorem vc_X10_feed {G : GT} {a1 : Int} {a2 : Int} {N : NN} {K : Int → NN → Prop}  (h : (C_X10_in G a1 1 8 N (fun x1 N1 => (((wI x1) ≠ 0 → (((wI ((N1 10 0 29) + a1)) ≤ 160 → W_X10_feed G K 31 [(0, vR 10 0), (1, vI a1), (2, vL a2), (4, vI 0)] [] N1) ∧ (¬ ((wI ((N1 10 0 29) + a1)) ≤ 160) → K ((-4)) N1))) ∧ (¬ ((wI x1) ≠ 0) → K ((-2)) N1))))) : C_X10_feed G a1 a2 N K := by
  refine Ctr.ofAW RX10 false rfl (by decide +kernel) (fun q => by cases q) (Nat.le_of_ble_eq_true rfl) (Nat.le_refl _) ?_
  refine A_iload_n dX10_feed_0 rfl rfl ?_
  refine A_iconst (v := 1) dX10_feed_1 rfl ?_
  refine A_bipush (v := 8) dX10_feed_2 (by decide +kernel) ?_
  refine B_callS_I (av := [vI a1, vI 1, vI 8]) rfl dX10_feed_4 vX10_186 mX10_in rfl (Nat.le_of_ble_eq_true rfl) (by decide) (by decide) rfl (BC_monoI h (fun x1 N1 h => ?_))
  refine B_if_ne (tgt := 13) dX10_feed_7 (by decide) rfl ⟨fun q => ?_, fun q => ?_⟩
  · replace h := h.1 q
    refine A_aload_n dX10_feed_13 rfl rfl ?_
    refine A_getI dX10_feed_14 fX10_267 rfl (okK10 (by omega)) ?_
    refine A_iload_n dX10_feed_17 rfl rfl ?_
    refine A_iadd dX10_feed_18 ?_
    refine A_sipush (v := 160) dX10_feed_19 (by decide +kernel) ?_
    refine B_icmp_le (tgt := 28) dX10_feed_22 (by decide) rfl (wlitI (by decide) (by decide)) ⟨fun q => ?_, fun q => ?_⟩
    · replace h := h.1 q
      refine A_iconst (v := 0) dX10_feed_28 rfl ?_
      refine A_istore (ls' := [(4, _), (0, _), (1, _), (2, _)]) dX10_feed_29 (by decide) rfl ?_
      exact A_pick [1, 2, 3, 0] rfl h
    · replace h := h.2 q
      refine A_bipush (v := (-4)) dX10_feed_25 (by decide +kernel) ?_
      exact A_iret dX10_feed_27 ⟨rfl, _, rfl, h⟩
  · replace h := h.2 q
    refine A_bipush (v := (-2)) dX10_feed_10 (by decide +kernel) ?_
    exact A_iret dX10_feed_12 ⟨rfl, _, rfl, h⟩
set_option maxRecDepth 100000 in
set_option maxHeartbeats 4000000 in
theorem vc_X10_feed_31 {G : GT} {l1 : Int} {l2 : Int} {l4 : Int} {N : NN} {K : Int → NN → Prop}  (h : (((wI l1) ≤ (wI l4) → K (N 10 0 29) N) ∧ (¬ ((wI l1) ≤ (wI l4)) → (∃ j1 : Nat, (wI (N 10 0 29)) = (j1 : Int) ∧ j1 < 160 ∧ (∀ M2 : NN, M2 = up3 N 59 0 j1 (andL (shrL l2 (8 * l4)) 255) → (∀ M3 : NN, M3 = up3 M2 10 0 29 ((M2 10 0 29) + 1) → W_X10_feed G K 31 [(0, vR 10 0), (1, vI l1), (2, vL l2), (4, vI (l4 + 1))] [] M3)))))) : W_X10_feed G K 31 [(0, vR 10 0), (1, vI l1), (2, vL l2), (4, vI l4)] [] N := by
  refine A_iload dX10_feed_31 rfl ?_
  refine A_iload_n dX10_feed_33 rfl rfl ?_
  refine B_icmp_ge (tgt := 74) dX10_feed_34 (by decide) rfl rfl ⟨fun q => ?_, fun q => ?_⟩
  · replace h := h.1 q
    refine A_aload_n dX10_feed_74 rfl rfl ?_
    refine A_getI dX10_feed_75 fX10_267 rfl (okK10 (by omega)) ?_
    exact A_iret dX10_feed_78 ⟨rfl, _, rfl, h⟩
  · replace h := h.2 q
    refine A_aload_n dX10_feed_37 rfl rfl ?_
    refine A_getR (c2 := 59) (i2 := 0) dX10_feed_38 fX10_75 rfl (okK10 (by omega)) rfl ?_
    refine A_aload_n dX10_feed_41 rfl rfl ?_
    refine A_getI dX10_feed_42 fX10_267 rfl (okK10 (by omega)) ?_
    refine A_lload_n dX10_feed_45 rfl rfl ?_
    refine A_bipush (v := 8) dX10_feed_46 (by decide +kernel) ?_
    refine A_iload dX10_feed_48 rfl ?_
    refine A_imul dX10_feed_50 ?_
    refine A_lshr dX10_feed_51 ?_
    refine A_ldc2 (x := 255) dX10_feed_52 kX10_181 (by decide +kernel) ?_
    refine A_land dX10_feed_55 ?_
    refine A_l2i dX10_feed_56 ?_
    obtain ⟨j1, qj1, bj1, h⟩ := h
    refine B_iast (j := j1) dX10_feed_57 (by decide) rfl (okK59 (by omega)) qj1 bj1 (fun M2 eM2 => ?_)
    replace h := h M2 eM2
    refine A_aload_n dX10_feed_58 rfl rfl ?_
    refine A_dup dX10_feed_59 rfl ?_
    refine A_getI dX10_feed_60 fX10_267 rfl (okK10 (by omega)) ?_
    refine A_iconst (v := 1) dX10_feed_63 rfl ?_
    refine A_iadd dX10_feed_64 ?_
    refine B_putI dX10_feed_65 fX10_267 (by decide) (okK10 (by omega)) (fun M3 eM3 => ?_)
    replace h := h M3 eM3
    refine A_iinc (ls' := [(4, _), (0, _), (1, _), (2, _)]) dX10_feed_68 (by decide) rfl rfl rfl ?_
    refine A_goto (tgt := 31) dX10_feed_71 (by decide) ?_
    exact A_pick [1, 2, 3, 0] rfl h
set_option maxRecDepth 100000 in
set_option maxHeartbeats 4000000 in
theorem vc_X10_byteAt {G : GT} {a1 : Int} {N : NN} {K : Int → NN → Prop}  (h : (((wI (N 10 0 31)) ≤ (wI a1) → K ((-1)) N) ∧ (¬ ((wI (N 10 0 31)) ≤ (wI a1)) → (∃ j1 : Nat, (wI ((N 10 0 30) + a1)) = (j1 : Int) ∧ j1 < 1120 ∧ K (N 57 0 j1) N)))) : C_X10_byteAt G a1 N K := by
  refine Ctr.ofAW RX10 false rfl (by decide +kernel) (fun q => by cases q) (Nat.le_of_ble_eq_true rfl) (Nat.le_refl _) ?_
  refine A_iload_n dX10_byteAt_0 rfl rfl ?_
  refine A_aload_n dX10_byteAt_1 rfl rfl ?_
  refine A_getI dX10_byteAt_2 fX10_270 rfl (okK10 (by omega)) ?_
  refine B_icmp_ge (tgt := 22) dX10_byteAt_5 (by decide) rfl rfl ⟨fun q => ?_, fun q => ?_⟩
  · replace h := h.1 q
    refine A_iconst (v := (-1)) dX10_byteAt_22 rfl ?_
    exact A_iret dX10_byteAt_23 ⟨rfl, _, rfl, h⟩
  · replace h := h.2 q
    refine A_aload_n dX10_byteAt_8 rfl rfl ?_
    refine A_getR (c2 := 57) (i2 := 0) dX10_byteAt_9 fX10_69 rfl (okK10 (by omega)) rfl ?_
    refine A_aload_n dX10_byteAt_12 rfl rfl ?_
    refine A_getI dX10_byteAt_13 fX10_273 rfl (okK10 (by omega)) ?_
    refine A_iload_n dX10_byteAt_16 rfl rfl ?_
    refine A_iadd dX10_byteAt_17 ?_
    obtain ⟨j1, qj1, bj1, h⟩ := h
    refine A_iald (j := j1) dX10_byteAt_18 (by decide) rfl (okK57 (by omega)) qj1 bj1 ?_
    refine A_goto (tgt := 23) dX10_byteAt_19 (by decide) ?_
    exact A_iret dX10_byteAt_23 ⟨rfl, _, rfl, h⟩
set_option maxRecDepth 100000 in
set_option maxHeartbeats 4000000 in
theorem vc_X10_next {G : GT} {N : NN} {K : NN → Prop}  (h : (C_X10_byteAt G (N 10 0 35) N (fun x1 N1 => (((wI x1) = 32 → (∀ M2 : NN, M2 = up3 N1 10 0 35 ((N1 10 0 35) + 1) → W_X10_next G K 0 [(0, vR 10 0)] [] M2)) ∧ (¬ ((wI x1) = 32) → (C_X10_byteAt G (N1 10 0 35) N1 (fun x3 N3 => (((wI x3) ≠ 10 → (∀ M4 : NN, M4 = up3 N3 10 0 33 (N3 10 0 35) → (C_X10_byteAt G (M4 10 0 35) M4 (fun x5 N5 => (∀ M6 : NN, M6 = up3 N5 10 0 32 4 → ((0 ≤ (wI x5) → (C_X10_in G x5 97 122 M6 (fun x7 N7 => (((wI x7) = 0 → (C_X10_in G x5 48 57 N7 (fun x8 N8 => (((wI x8) = 0 → (((wI x5) = 40 → (∀ M9 : NN, M9 = up3 N8 10 0 32 3 → (∀ M10 : NN, M10 = up3 M9 10 0 34 ((wI x5)) → (∀ M11 : NN, M11 = up3 M10 10 0 35 ((M10 10 0 35) + 1) → K M11)))) ∧ (¬ ((wI x5) = 40) → (((wI x5) = 41 → (∀ M12 : NN, M12 = up3 N8 10 0 32 3 → (∀ M13 : NN, M13 = up3 M12 10 0 34 ((wI x5)) → (∀ M14 : NN, M14 = up3 M13 10 0 35 ((M13 10 0 35) + 1) → K M14)))) ∧ (¬ ((wI x5) = 41) → (((wI x5) = 59 → (∀ M15 : NN, M15 = up3 N8 10 0 32 3 → (∀ M16 : NN, M16 = up3 M15 10 0 34 ((wI x5)) → (∀ M17 : NN, M17 = up3 M16 10 0 35 ((M16 10 0 35) + 1) → K M17)))) ∧ (¬ ((wI x5) = 59) → (((wI x5) = 43 → (∀ M18 : NN, M18 = up3 N8 10 0 32 3 → (∀ M19 : NN, M19 = up3 M18 10 0 34 ((wI x5)) → (∀ M20 : NN, M20 = up3 M19 10 0 35 ((M19 10 0 35) + 1) → K M20)))) ∧ (¬ ((wI x5) = 43) → (((wI x5) = 45 → (∀ M21 : NN, M21 = up3 N8 10 0 32 3 → (∀ M22 : NN, M22 = up3 M21 10 0 34 ((wI x5)) → (∀ M23 : NN, M23 = up3 M22 10 0 35 ((M22 10 0 35) + 1) → K M23)))) ∧ (¬ ((wI x5) = 45) → (((wI x5) = 42 → (∀ M24 : NN, M24 = up3 N8 10 0 32 3 → (∀ M25 : NN, M25 = up3 M24 10 0 34 ((wI x5)) → (∀ M26 : NN, M26 = up3 M25 10 0 35 ((M25 10 0 35) + 1) → K M26)))) ∧ (¬ ((wI x5) = 42) → (((wI x5) = 60 → (∀ M27 : NN, M27 = up3 N8 10 0 32 3 → (∀ M28 : NN, M28 = up3 M27 10 0 34 ((wI x5)) → (∀ M29 : NN, M29 = up3 M28 10 0 35 ((M28 10 0 35) + 1) → K M29)))) ∧ (¬ ((wI x5) = 60) → (((wI x5) ≠ 61 → K N8) ∧ (¬ ((wI x5) ≠ 61) → (∀ M30 : NN, M30 = up3 N8 10 0 32 3 → (∀ M31 : NN, M31 = up3 M30 10 0 34 ((wI x5)) → (∀ M32 : NN, M32 = up3 M31 10 0 35 ((M31 10 0 35) + 1) → K M32)))))))))))))))))))) ∧ (¬ ((wI x8) = 0) → (∀ M33 : NN, M33 = up3 N8 10 0 32 2 → (∀ M34 : NN, M34 = up3 M33 10 0 34 0 → W_X10_next G K 202 [(0, vR 10 0), (2, vI 0)] [] M34))))))) ∧ (¬ ((wI x7) = 0) → (∀ M35 : NN, M35 = up3 N7 10 0 32 1 → (∀ M36 : NN, M36 = up3 M35 10 0 34 0 → W_X10_next G K 104 [(0, vR 10 0), (2, vI 0)] [] M36))))))) ∧ (¬ (0 ≤ (wI x5)) → (∀ M37 : NN, M37 = up3 M6 10 0 32 0 → (∀ M38 : NN, M38 = up3 M37 10 0 33 (M37 10 0 31) → K M38))))))))) ∧ (¬ ((wI x3) ≠ 10) → (∀ M39 : NN, M39 = up3 N3 10 0 35 ((N3 10 0 35) + 1) → W_X10_next G K 0 [(0, vR 10 0)] [] M39)))))))))) : C_X10_next G N K := by
  refine Ctr.ofAW RX10 false rfl (by decide +kernel) (fun q => by cases q) (Nat.le_of_ble_eq_true rfl) (Nat.le_refl _) ?_
  refine A_aload_n dX10_next_0 rfl rfl ?_
  refine A_aload_n dX10_next_1 rfl rfl ?_
  refine A_getI dX10_next_2 fX10_276 rfl (okK10 (by omega)) ?_
  refine B_callV_I (av := [vI (N 10 0 35)]) rfl dX10_next_5 vX10_279 mX10_byteAt ⟨rfl, rfl, by decide⟩ (okK10 (by omega)) rfl (Nat.le_of_ble_eq_true rfl) (by decide) (by decide) rfl (BC_monoI h (fun x1 N1 h => ?_))
  refine A_bipush (v := 32) dX10_next_8 (by decide +kernel) ?_
  refine B_icmp_eq (tgt := 26) dX10_next_10 (by decide) rfl (wlitI (by decide) (by decide)) ⟨fun q => ?_, fun q => ?_⟩
  · replace h := h.1 q
    refine A_aload_n dX10_next_26 rfl rfl ?_
    refine A_dup dX10_next_27 rfl ?_
    refine A_getI dX10_next_28 fX10_276 rfl (okK10 (by omega)) ?_
    refine A_iconst (v := 1) dX10_next_31 rfl ?_
    refine A_iadd dX10_next_32 ?_
    refine B_putI dX10_next_33 fX10_276 (by decide) (okK10 (by omega)) (fun M2 eM2 => ?_)
    replace h := h M2 eM2
    refine A_goto (tgt := 0) dX10_next_36 (by decide) ?_
    exact A_pick [0] rfl h
  · replace h := h.2 q
    refine A_aload_n dX10_next_13 rfl rfl ?_
    refine A_aload_n dX10_next_14 rfl rfl ?_
    refine A_getI dX10_next_15 fX10_276 rfl (okK10 (by omega)) ?_
    refine B_callV_I (av := [vI (N1 10 0 35)]) rfl dX10_next_18 vX10_279 mX10_byteAt ⟨rfl, rfl, by decide⟩ (okK10 (by omega)) rfl (Nat.le_of_ble_eq_true rfl) (by decide) (by decide) rfl (BC_monoI h (fun x3 N3 h => ?_))
    refine A_bipush (v := 10) dX10_next_21 (by decide +kernel) ?_
    refine B_icmp_ne (tgt := 39) dX10_next_23 (by decide) rfl (wlitI (by decide) (by decide)) ⟨fun q => ?_, fun q => ?_⟩
    · replace h := h.1 q
      refine A_aload_n dX10_next_39 rfl rfl ?_
      refine A_aload_n dX10_next_40 rfl rfl ?_
      refine A_getI dX10_next_41 fX10_276 rfl (okK10 (by omega)) ?_
      refine B_putI dX10_next_44 fX10_282 (by decide) (okK10 (by omega)) (fun M4 eM4 => ?_)
      replace h := h M4 eM4
      refine A_aload_n dX10_next_47 rfl rfl ?_
      refine A_aload_n dX10_next_48 rfl rfl ?_
      refine A_getI dX10_next_49 fX10_276 rfl (okK10 (by omega)) ?_
      refine B_callV_I (av := [vI (M4 10 0 35)]) rfl dX10_next_52 vX10_279 mX10_byteAt ⟨rfl, rfl, by decide⟩ (okK10 (by omega)) rfl (Nat.le_of_ble_eq_true rfl) (by decide) (by decide) rfl (BC_monoI h (fun x5 N5 h => ?_))
      refine A_istore_n (ls' := [(1, _), (0, _)]) dX10_next_55 rfl (by decide) rfl ?_
      refine A_aload_n dX10_next_56 rfl rfl ?_
      refine A_iconst (v := 4) dX10_next_57 rfl ?_
      refine B_putI dX10_next_58 fX10_285 (by decide) (okK10 (by omega)) (fun M6 eM6 => ?_)
      replace h := h M6 eM6
      refine A_iload_n dX10_next_61 rfl rfl ?_
      refine B_if_ge (tgt := 81) dX10_next_62 (by decide) rfl ⟨fun q => ?_, fun q => ?_⟩
      · replace h := h.1 q
        refine A_iload_n dX10_next_81 rfl rfl ?_
        refine A_bipush (v := 97) dX10_next_82 (by decide +kernel) ?_
        refine A_bipush (v := 122) dX10_next_84 (by decide +kernel) ?_
        refine B_callS_I (av := [vI x5, vI 97, vI 122]) rfl dX10_next_86 vX10_186 mX10_in rfl (Nat.le_of_ble_eq_true rfl) (by decide) (by decide) rfl (BC_monoI h (fun x7 N7 h => ?_))
        refine B_if_eq (tgt := 179) dX10_next_89 (by decide) rfl ⟨fun q => ?_, fun q => ?_⟩
        · replace h := h.1 q
          refine A_iload_n dX10_next_179 rfl rfl ?_
          refine A_bipush (v := 48) dX10_next_180 (by decide +kernel) ?_
          refine A_bipush (v := 57) dX10_next_182 (by decide +kernel) ?_
          refine B_callS_I (av := [vI x5, vI 48, vI 57]) rfl dX10_next_184 vX10_186 mX10_in rfl (Nat.le_of_ble_eq_true rfl) (by decide) (by decide) rfl (BC_monoI h (fun x8 N8 h => ?_))
          refine B_if_eq (tgt := 291) dX10_next_187 (by decide) rfl ⟨fun q => ?_, fun q => ?_⟩
          · replace h := h.1 q
            refine A_iload_n dX10_next_291 rfl rfl ?_
            refine A_bipush (v := 40) dX10_next_292 (by decide +kernel) ?_
            refine B_icmp_eq (tgt := 339) dX10_next_294 (by decide) rfl (wlitI (by decide) (by decide)) ⟨fun q => ?_, fun q => ?_⟩
            · replace h := h.1 q
              refine A_aload_n dX10_next_339 rfl rfl ?_
              refine A_iconst (v := 3) dX10_next_340 rfl ?_
              refine B_putI dX10_next_341 fX10_285 (by decide) (okK10 (by omega)) (fun M9 eM9 => ?_)
              replace h := h M9 eM9
              refine A_aload_n dX10_next_344 rfl rfl ?_
              refine A_iload_n dX10_next_345 rfl rfl ?_
              refine B_i2l dX10_next_346 rfl ?_
              refine B_putL dX10_next_347 fX10_288 (by decide) (okK10 (by omega)) (fun M10 eM10 => ?_)
              replace h := h M10 eM10
              refine A_aload_n dX10_next_350 rfl rfl ?_
              refine A_dup dX10_next_351 rfl ?_
              refine A_getI dX10_next_352 fX10_276 rfl (okK10 (by omega)) ?_
              refine A_iconst (v := 1) dX10_next_355 rfl ?_
              refine A_iadd dX10_next_356 ?_
              refine B_putI dX10_next_357 fX10_276 (by decide) (okK10 (by omega)) (fun M11 eM11 => ?_)
              replace h := h M11 eM11
              exact A_vret dX10_next_360 ⟨rfl, rfl, h⟩
            · replace h := h.2 q
              refine A_iload_n dX10_next_297 rfl rfl ?_
              refine A_bipush (v := 41) dX10_next_298 (by decide +kernel) ?_
              refine B_icmp_eq (tgt := 339) dX10_next_300 (by decide) rfl (wlitI (by decide) (by decide)) ⟨fun q => ?_, fun q => ?_⟩
              · replace h := h.1 q
                refine A_aload_n dX10_next_339 rfl rfl ?_
                refine A_iconst (v := 3) dX10_next_340 rfl ?_
                refine B_putI dX10_next_341 fX10_285 (by decide) (okK10 (by omega)) (fun M12 eM12 => ?_)
                replace h := h M12 eM12
                refine A_aload_n dX10_next_344 rfl rfl ?_
                refine A_iload_n dX10_next_345 rfl rfl ?_
                refine B_i2l dX10_next_346 rfl ?_
                refine B_putL dX10_next_347 fX10_288 (by decide) (okK10 (by omega)) (fun M13 eM13 => ?_)
                replace h := h M13 eM13
                refine A_aload_n dX10_next_350 rfl rfl ?_
                refine A_dup dX10_next_351 rfl ?_
                refine A_getI dX10_next_352 fX10_276 rfl (okK10 (by omega)) ?_
                refine A_iconst (v := 1) dX10_next_355 rfl ?_
                refine A_iadd dX10_next_356 ?_
                refine B_putI dX10_next_357 fX10_276 (by decide) (okK10 (by omega)) (fun M14 eM14 => ?_)
                replace h := h M14 eM14
                exact A_vret dX10_next_360 ⟨rfl, rfl, h⟩
              · replace h := h.2 q
                refine A_iload_n dX10_next_303 rfl rfl ?_
                refine A_bipush (v := 59) dX10_next_304 (by decide +kernel) ?_
                refine B_icmp_eq (tgt := 339) dX10_next_306 (by decide) rfl (wlitI (by decide) (by decide)) ⟨fun q => ?_, fun q => ?_⟩
                · replace h := h.1 q
                  refine A_aload_n dX10_next_339 rfl rfl ?_
                  refine A_iconst (v := 3) dX10_next_340 rfl ?_
                  refine B_putI dX10_next_341 fX10_285 (by decide) (okK10 (by omega)) (fun M15 eM15 => ?_)
                  replace h := h M15 eM15
                  refine A_aload_n dX10_next_344 rfl rfl ?_
                  refine A_iload_n dX10_next_345 rfl rfl ?_
                  refine B_i2l dX10_next_346 rfl ?_
                  refine B_putL dX10_next_347 fX10_288 (by decide) (okK10 (by omega)) (fun M16 eM16 => ?_)
                  replace h := h M16 eM16
                  refine A_aload_n dX10_next_350 rfl rfl ?_
                  refine A_dup dX10_next_351 rfl ?_
                  refine A_getI dX10_next_352 fX10_276 rfl (okK10 (by omega)) ?_
                  refine A_iconst (v := 1) dX10_next_355 rfl ?_
                  refine A_iadd dX10_next_356 ?_
                  refine B_putI dX10_next_357 fX10_276 (by decide) (okK10 (by omega)) (fun M17 eM17 => ?_)
                  replace h := h M17 eM17
                  exact A_vret dX10_next_360 ⟨rfl, rfl, h⟩
                · replace h := h.2 q
                  refine A_iload_n dX10_next_309 rfl rfl ?_
                  refine A_bipush (v := 43) dX10_next_310 (by decide +kernel) ?_
                  refine B_icmp_eq (tgt := 339) dX10_next_312 (by decide) rfl (wlitI (by decide) (by decide)) ⟨fun q => ?_, fun q => ?_⟩
                  · replace h := h.1 q
                    refine A_aload_n dX10_next_339 rfl rfl ?_
                    refine A_iconst (v := 3) dX10_next_340 rfl ?_
                    refine B_putI dX10_next_341 fX10_285 (by decide) (okK10 (by omega)) (fun M18 eM18 => ?_)
                    replace h := h M18 eM18
                    refine A_aload_n dX10_next_344 rfl rfl ?_
                    refine A_iload_n dX10_next_345 rfl rfl ?_
                    refine B_i2l dX10_next_346 rfl ?_
                    refine B_putL dX10_next_347 fX10_288 (by decide) (okK10 (by omega)) (fun M19 eM19 => ?_)
                    replace h := h M19 eM19
                    refine A_aload_n dX10_next_350 rfl rfl ?_
                    refine A_dup dX10_next_351 rfl ?_
                    refine A_getI dX10_next_352 fX10_276 rfl (okK10 (by omega)) ?_
                    refine A_iconst (v := 1) dX10_next_355 rfl ?_
                    refine A_iadd dX10_next_356 ?_
                    refine B_putI dX10_next_357 fX10_276 (by decide) (okK10 (by omega)) (fun M20 eM20 => ?_)
                    replace h := h M20 eM20
                    exact A_vret dX10_next_360 ⟨rfl, rfl, h⟩
                  · replace h := h.2 q
                    refine A_iload_n dX10_next_315 rfl rfl ?_
                    refine A_bipush (v := 45) dX10_next_316 (by decide +kernel) ?_
                    refine B_icmp_eq (tgt := 339) dX10_next_318 (by decide) rfl (wlitI (by decide) (by decide)) ⟨fun q => ?_, fun q => ?_⟩
                    · replace h := h.1 q
                      refine A_aload_n dX10_next_339 rfl rfl ?_
                      refine A_iconst (v := 3) dX10_next_340 rfl ?_
                      refine B_putI dX10_next_341 fX10_285 (by decide) (okK10 (by omega)) (fun M21 eM21 => ?_)
                      replace h := h M21 eM21
                      refine A_aload_n dX10_next_344 rfl rfl ?_
                      refine A_iload_n dX10_next_345 rfl rfl ?_
                      refine B_i2l dX10_next_346 rfl ?_
                      refine B_putL dX10_next_347 fX10_288 (by decide) (okK10 (by omega)) (fun M22 eM22 => ?_)
                      replace h := h M22 eM22
                      refine A_aload_n dX10_next_350 rfl rfl ?_
                      refine A_dup dX10_next_351 rfl ?_
                      refine A_getI dX10_next_352 fX10_276 rfl (okK10 (by omega)) ?_
                      refine A_iconst (v := 1) dX10_next_355 rfl ?_
                      refine A_iadd dX10_next_356 ?_
                      refine B_putI dX10_next_357 fX10_276 (by decide) (okK10 (by omega)) (fun M23 eM23 => ?_)
                      replace h := h M23 eM23
                      exact A_vret dX10_next_360 ⟨rfl, rfl, h⟩
                    · replace h := h.2 q
                      refine A_iload_n dX10_next_321 rfl rfl ?_
                      refine A_bipush (v := 42) dX10_next_322 (by decide +kernel) ?_
                      refine B_icmp_eq (tgt := 339) dX10_next_324 (by decide) rfl (wlitI (by decide) (by decide)) ⟨fun q => ?_, fun q => ?_⟩
                      · replace h := h.1 q
                        refine A_aload_n dX10_next_339 rfl rfl ?_
                        refine A_iconst (v := 3) dX10_next_340 rfl ?_
                        refine B_putI dX10_next_341 fX10_285 (by decide) (okK10 (by omega)) (fun M24 eM24 => ?_)
                        replace h := h M24 eM24
                        refine A_aload_n dX10_next_344 rfl rfl ?_
                        refine A_iload_n dX10_next_345 rfl rfl ?_
                        refine B_i2l dX10_next_346 rfl ?_
                        refine B_putL dX10_next_347 fX10_288 (by decide) (okK10 (by omega)) (fun M25 eM25 => ?_)
                        replace h := h M25 eM25
                        refine A_aload_n dX10_next_350 rfl rfl ?_
                        refine A_dup dX10_next_351 rfl ?_
                        refine A_getI dX10_next_352 fX10_276 rfl (okK10 (by omega)) ?_
                        refine A_iconst (v := 1) dX10_next_355 rfl ?_
                        refine A_iadd dX10_next_356 ?_
                        refine B_putI dX10_next_357 fX10_276 (by decide) (okK10 (by omega)) (fun M26 eM26 => ?_)
                        replace h := h M26 eM26
                        exact A_vret dX10_next_360 ⟨rfl, rfl, h⟩
                      · replace h := h.2 q
                        refine A_iload_n dX10_next_327 rfl rfl ?_
                        refine A_bipush (v := 60) dX10_next_328 (by decide +kernel) ?_
                        refine B_icmp_eq (tgt := 339) dX10_next_330 (by decide) rfl (wlitI (by decide) (by decide)) ⟨fun q => ?_, fun q => ?_⟩
                        · replace h := h.1 q
                          refine A_aload_n dX10_next_339 rfl rfl ?_
                          refine A_iconst (v := 3) dX10_next_340 rfl ?_
                          refine B_putI dX10_next_341 fX10_285 (by decide) (okK10 (by omega)) (fun M27 eM27 => ?_)
                          replace h := h M27 eM27
                          refine A_aload_n dX10_next_344 rfl rfl ?_
                          refine A_iload_n dX10_next_345 rfl rfl ?_
                          refine B_i2l dX10_next_346 rfl ?_
                          refine B_putL dX10_next_347 fX10_288 (by decide) (okK10 (by omega)) (fun M28 eM28 => ?_)
                          replace h := h M28 eM28
                          refine A_aload_n dX10_next_350 rfl rfl ?_
                          refine A_dup dX10_next_351 rfl ?_
                          refine A_getI dX10_next_352 fX10_276 rfl (okK10 (by omega)) ?_
                          refine A_iconst (v := 1) dX10_next_355 rfl ?_
                          refine A_iadd dX10_next_356 ?_
                          refine B_putI dX10_next_357 fX10_276 (by decide) (okK10 (by omega)) (fun M29 eM29 => ?_)
                          replace h := h M29 eM29
                          exact A_vret dX10_next_360 ⟨rfl, rfl, h⟩
                        · replace h := h.2 q
                          refine A_iload_n dX10_next_333 rfl rfl ?_
                          refine A_bipush (v := 61) dX10_next_334 (by decide +kernel) ?_
                          refine B_icmp_ne (tgt := 360) dX10_next_336 (by decide) rfl (wlitI (by decide) (by decide)) ⟨fun q => ?_, fun q => ?_⟩
                          · replace h := h.1 q
                            exact A_vret dX10_next_360 ⟨rfl, rfl, h⟩
                          · replace h := h.2 q
                            refine A_aload_n dX10_next_339 rfl rfl ?_
                            refine A_iconst (v := 3) dX10_next_340 rfl ?_
                            refine B_putI dX10_next_341 fX10_285 (by decide) (okK10 (by omega)) (fun M30 eM30 => ?_)
                            replace h := h M30 eM30
                            refine A_aload_n dX10_next_344 rfl rfl ?_
                            refine A_iload_n dX10_next_345 rfl rfl ?_
                            refine B_i2l dX10_next_346 rfl ?_
                            refine B_putL dX10_next_347 fX10_288 (by decide) (okK10 (by omega)) (fun M31 eM31 => ?_)
                            replace h := h M31 eM31
                            refine A_aload_n dX10_next_350 rfl rfl ?_
                            refine A_dup dX10_next_351 rfl ?_
                            refine A_getI dX10_next_352 fX10_276 rfl (okK10 (by omega)) ?_
                            refine A_iconst (v := 1) dX10_next_355 rfl ?_
                            refine A_iadd dX10_next_356 ?_
                            refine B_putI dX10_next_357 fX10_276 (by decide) (okK10 (by omega)) (fun M32 eM32 => ?_)
                            replace h := h M32 eM32
                            exact A_vret dX10_next_360 ⟨rfl, rfl, h⟩
          · replace h := h.2 q
            refine A_aload_n dX10_next_190 rfl rfl ?_
            refine A_iconst (v := 2) dX10_next_191 rfl ?_
            refine B_putI dX10_next_192 fX10_285 (by decide) (okK10 (by omega)) (fun M33 eM33 => ?_)
            replace h := h M33 eM33
            refine A_aload_n dX10_next_195 rfl rfl ?_
            refine A_lconst (v := 0) dX10_next_196 (by decide +kernel) ?_
            refine B_putL dX10_next_197 fX10_288 (by decide) (okK10 (by omega)) (fun M34 eM34 => ?_)
            replace h := h M34 eM34
            refine A_iconst (v := 0) dX10_next_200 rfl ?_
            refine A_istore_n (ls' := [(2, _), (1, _), (0, _)]) dX10_next_201 rfl (by decide) rfl ?_
            exact A_pick [2, 0] rfl h
        · replace h := h.2 q
          refine A_aload_n dX10_next_92 rfl rfl ?_
          refine A_iconst (v := 1) dX10_next_93 rfl ?_
          refine B_putI dX10_next_94 fX10_285 (by decide) (okK10 (by omega)) (fun M35 eM35 => ?_)
          replace h := h M35 eM35
          refine A_aload_n dX10_next_97 rfl rfl ?_
          refine A_lconst (v := 0) dX10_next_98 (by decide +kernel) ?_
          refine B_putL dX10_next_99 fX10_288 (by decide) (okK10 (by omega)) (fun M36 eM36 => ?_)
          replace h := h M36 eM36
          refine A_iconst (v := 0) dX10_next_102 rfl ?_
          refine A_istore_n (ls' := [(2, _), (1, _), (0, _)]) dX10_next_103 rfl (by decide) rfl ?_
          exact A_pick [2, 0] rfl h
      · replace h := h.2 q
        refine A_aload_n dX10_next_65 rfl rfl ?_
        refine A_iconst (v := 0) dX10_next_66 rfl ?_
        refine B_putI dX10_next_67 fX10_285 (by decide) (okK10 (by omega)) (fun M37 eM37 => ?_)
        replace h := h M37 eM37
        refine A_aload_n dX10_next_70 rfl rfl ?_
        refine A_aload_n dX10_next_71 rfl rfl ?_
        refine A_getI dX10_next_72 fX10_270 rfl (okK10 (by omega)) ?_
        refine B_putI dX10_next_75 fX10_282 (by decide) (okK10 (by omega)) (fun M38 eM38 => ?_)
        replace h := h M38 eM38
        refine A_goto (tgt := 360) dX10_next_78 (by decide) ?_
        exact A_vret dX10_next_360 ⟨rfl, rfl, h⟩
    · replace h := h.2 q
      refine A_aload_n dX10_next_26 rfl rfl ?_
      refine A_dup dX10_next_27 rfl ?_
      refine A_getI dX10_next_28 fX10_276 rfl (okK10 (by omega)) ?_
      refine A_iconst (v := 1) dX10_next_31 rfl ?_
      refine A_iadd dX10_next_32 ?_
      refine B_putI dX10_next_33 fX10_276 (by decide) (okK10 (by omega)) (fun M39 eM39 => ?_)
      replace h := h M39 eM39
      refine A_goto (tgt := 0) dX10_next_36 (by decide) ?_
      exact A_pick [0] rfl h
set_option maxRecDepth 100000 in
set_option maxHeartbeats 4000000 in
theorem vc_X10_next_0 {G : GT} {N : NN} {K : NN → Prop}  (h : (C_X10_byteAt G (N 10 0 35) N (fun x1 N1 => (((wI x1) = 32 → (∀ M2 : NN, M2 = up3 N1 10 0 35 ((N1 10 0 35) + 1) → W_X10_next G K 0 [(0, vR 10 0)] [] M2)) ∧ (¬ ((wI x1) = 32) → (C_X10_byteAt G (N1 10 0 35) N1 (fun x3 N3 => (((wI x3) ≠ 10 → (∀ M4 : NN, M4 = up3 N3 10 0 33 (N3 10 0 35) → (C_X10_byteAt G (M4 10 0 35) M4 (fun x5 N5 => (∀ M6 : NN, M6 = up3 N5 10 0 32 4 → ((0 ≤ (wI x5) → (C_X10_in G x5 97 122 M6 (fun x7 N7 => (((wI x7) = 0 → (C_X10_in G x5 48 57 N7 (fun x8 N8 => (((wI x8) = 0 → (((wI x5) = 40 → (∀ M9 : NN, M9 = up3 N8 10 0 32 3 → (∀ M10 : NN, M10 = up3 M9 10 0 34 ((wI x5)) → (∀ M11 : NN, M11 = up3 M10 10 0 35 ((M10 10 0 35) + 1) → K M11)))) ∧ (¬ ((wI x5) = 40) → (((wI x5) = 41 → (∀ M12 : NN, M12 = up3 N8 10 0 32 3 → (∀ M13 : NN, M13 = up3 M12 10 0 34 ((wI x5)) → (∀ M14 : NN, M14 = up3 M13 10 0 35 ((M13 10 0 35) + 1) → K M14)))) ∧ (¬ ((wI x5) = 41) → (((wI x5) = 59 → (∀ M15 : NN, M15 = up3 N8 10 0 32 3 → (∀ M16 : NN, M16 = up3 M15 10 0 34 ((wI x5)) → (∀ M17 : NN, M17 = up3 M16 10 0 35 ((M16 10 0 35) + 1) → K M17)))) ∧ (¬ ((wI x5) = 59) → (((wI x5) = 43 → (∀ M18 : NN, M18 = up3 N8 10 0 32 3 → (∀ M19 : NN, M19 = up3 M18 10 0 34 ((wI x5)) → (∀ M20 : NN, M20 = up3 M19 10 0 35 ((M19 10 0 35) + 1) → K M20)))) ∧ (¬ ((wI x5) = 43) → (((wI x5) = 45 → (∀ M21 : NN, M21 = up3 N8 10 0 32 3 → (∀ M22 : NN, M22 = up3 M21 10 0 34 ((wI x5)) → (∀ M23 : NN, M23 = up3 M22 10 0 35 ((M22 10 0 35) + 1) → K M23)))) ∧ (¬ ((wI x5) = 45) → (((wI x5) = 42 → (∀ M24 : NN, M24 = up3 N8 10 0 32 3 → (∀ M25 : NN, M25 = up3 M24 10 0 34 ((wI x5)) → (∀ M26 : NN, M26 = up3 M25 10 0 35 ((M25 10 0 35) + 1) → K M26)))) ∧ (¬ ((wI x5) = 42) → (((wI x5) = 60 → (∀ M27 : NN, M27 = up3 N8 10 0 32 3 → (∀ M28 : NN, M28 = up3 M27 10 0 34 ((wI x5)) → (∀ M29 : NN, M29 = up3 M28 10 0 35 ((M28 10 0 35) + 1) → K M29)))) ∧ (¬ ((wI x5) = 60) → (((wI x5) ≠ 61 → K N8) ∧ (¬ ((wI x5) ≠ 61) → (∀ M30 : NN, M30 = up3 N8 10 0 32 3 → (∀ M31 : NN, M31 = up3 M30 10 0 34 ((wI x5)) → (∀ M32 : NN, M32 = up3 M31 10 0 35 ((M31 10 0 35) + 1) → K M32)))))))))))))))))))) ∧ (¬ ((wI x8) = 0) → (∀ M33 : NN, M33 = up3 N8 10 0 32 2 → (∀ M34 : NN, M34 = up3 M33 10 0 34 0 → W_X10_next G K 202 [(0, vR 10 0), (2, vI 0)] [] M34))))))) ∧ (¬ ((wI x7) = 0) → (∀ M35 : NN, M35 = up3 N7 10 0 32 1 → (∀ M36 : NN, M36 = up3 M35 10 0 34 0 → W_X10_next G K 104 [(0, vR 10 0), (2, vI 0)] [] M36))))))) ∧ (¬ (0 ≤ (wI x5)) → (∀ M37 : NN, M37 = up3 M6 10 0 32 0 → (∀ M38 : NN, M38 = up3 M37 10 0 33 (M37 10 0 31) → K M38))))))))) ∧ (¬ ((wI x3) ≠ 10) → (∀ M39 : NN, M39 = up3 N3 10 0 35 ((N3 10 0 35) + 1) → W_X10_next G K 0 [(0, vR 10 0)] [] M39)))))))))) : W_X10_next G K 0 [(0, vR 10 0)] [] N := by
  refine A_aload_n dX10_next_0 rfl rfl ?_
  refine A_aload_n dX10_next_1 rfl rfl ?_
  refine A_getI dX10_next_2 fX10_276 rfl (okK10 (by omega)) ?_
  refine B_callV_I (av := [vI (N 10 0 35)]) rfl dX10_next_5 vX10_279 mX10_byteAt ⟨rfl, rfl, by decide⟩ (okK10 (by omega)) rfl (Nat.le_of_ble_eq_true rfl) (by decide) (by decide) rfl (BC_monoI h (fun x1 N1 h => ?_))
  refine A_bipush (v := 32) dX10_next_8 (by decide +kernel) ?_
  refine B_icmp_eq (tgt := 26) dX10_next_10 (by decide) rfl (wlitI (by decide) (by decide)) ⟨fun q => ?_, fun q => ?_⟩
  · replace h := h.1 q
    refine A_aload_n dX10_next_26 rfl rfl ?_
    refine A_dup dX10_next_27 rfl ?_
    refine A_getI dX10_next_28 fX10_276 rfl (okK10 (by omega)) ?_
    refine A_iconst (v := 1) dX10_next_31 rfl ?_
    refine A_iadd dX10_next_32 ?_
    refine B_putI dX10_next_33 fX10_276 (by decide) (okK10 (by omega)) (fun M2 eM2 => ?_)
    replace h := h M2 eM2
    refine A_goto (tgt := 0) dX10_next_36 (by decide) ?_
    exact A_pick [0] rfl h
  · replace h := h.2 q
    refine A_aload_n dX10_next_13 rfl rfl ?_
    refine A_aload_n dX10_next_14 rfl rfl ?_
    refine A_getI dX10_next_15 fX10_276 rfl (okK10 (by omega)) ?_
    refine B_callV_I (av := [vI (N1 10 0 35)]) rfl dX10_next_18 vX10_279 mX10_byteAt ⟨rfl, rfl, by decide⟩ (okK10 (by omega)) rfl (Nat.le_of_ble_eq_true rfl) (by decide) (by decide) rfl (BC_monoI h (fun x3 N3 h => ?_))
    refine A_bipush (v := 10) dX10_next_21 (by decide +kernel) ?_
    refine B_icmp_ne (tgt := 39) dX10_next_23 (by decide) rfl (wlitI (by decide) (by decide)) ⟨fun q => ?_, fun q => ?_⟩
    · replace h := h.1 q
      refine A_aload_n dX10_next_39 rfl rfl ?_
      refine A_aload_n dX10_next_40 rfl rfl ?_
      refine A_getI dX10_next_41 fX10_276 rfl (okK10 (by omega)) ?_
      refine B_putI dX10_next_44 fX10_282 (by decide) (okK10 (by omega)) (fun M4 eM4 => ?_)
      replace h := h M4 eM4
      refine A_aload_n dX10_next_47 rfl rfl ?_
      refine A_aload_n dX10_next_48 rfl rfl ?_
      refine A_getI dX10_next_49 fX10_276 rfl (okK10 (by omega)) ?_
      refine B_callV_I (av := [vI (M4 10 0 35)]) rfl dX10_next_52 vX10_279 mX10_byteAt ⟨rfl, rfl, by decide⟩ (okK10 (by omega)) rfl (Nat.le_of_ble_eq_true rfl) (by decide) (by decide) rfl (BC_monoI h (fun x5 N5 h => ?_))
      refine A_istore_n (ls' := [(1, _), (0, _)]) dX10_next_55 rfl (by decide) rfl ?_
      refine A_aload_n dX10_next_56 rfl rfl ?_
      refine A_iconst (v := 4) dX10_next_57 rfl ?_
      refine B_putI dX10_next_58 fX10_285 (by decide) (okK10 (by omega)) (fun M6 eM6 => ?_)
      replace h := h M6 eM6
      refine A_iload_n dX10_next_61 rfl rfl ?_
      refine B_if_ge (tgt := 81) dX10_next_62 (by decide) rfl ⟨fun q => ?_, fun q => ?_⟩
      · replace h := h.1 q
        refine A_iload_n dX10_next_81 rfl rfl ?_
        refine A_bipush (v := 97) dX10_next_82 (by decide +kernel) ?_
        refine A_bipush (v := 122) dX10_next_84 (by decide +kernel) ?_
        refine B_callS_I (av := [vI x5, vI 97, vI 122]) rfl dX10_next_86 vX10_186 mX10_in rfl (Nat.le_of_ble_eq_true rfl) (by decide) (by decide) rfl (BC_monoI h (fun x7 N7 h => ?_))
        refine B_if_eq (tgt := 179) dX10_next_89 (by decide) rfl ⟨fun q => ?_, fun q => ?_⟩
        · replace h := h.1 q
          refine A_iload_n dX10_next_179 rfl rfl ?_
          refine A_bipush (v := 48) dX10_next_180 (by decide +kernel) ?_
          refine A_bipush (v := 57) dX10_next_182 (by decide +kernel) ?_
          refine B_callS_I (av := [vI x5, vI 48, vI 57]) rfl dX10_next_184 vX10_186 mX10_in rfl (Nat.le_of_ble_eq_true rfl) (by decide) (by decide) rfl (BC_monoI h (fun x8 N8 h => ?_))
          refine B_if_eq (tgt := 291) dX10_next_187 (by decide) rfl ⟨fun q => ?_, fun q => ?_⟩
          · replace h := h.1 q
            refine A_iload_n dX10_next_291 rfl rfl ?_
            refine A_bipush (v := 40) dX10_next_292 (by decide +kernel) ?_
            refine B_icmp_eq (tgt := 339) dX10_next_294 (by decide) rfl (wlitI (by decide) (by decide)) ⟨fun q => ?_, fun q => ?_⟩
            · replace h := h.1 q
              refine A_aload_n dX10_next_339 rfl rfl ?_
              refine A_iconst (v := 3) dX10_next_340 rfl ?_
              refine B_putI dX10_next_341 fX10_285 (by decide) (okK10 (by omega)) (fun M9 eM9 => ?_)
              replace h := h M9 eM9
              refine A_aload_n dX10_next_344 rfl rfl ?_
              refine A_iload_n dX10_next_345 rfl rfl ?_
              refine B_i2l dX10_next_346 rfl ?_
              refine B_putL dX10_next_347 fX10_288 (by decide) (okK10 (by omega)) (fun M10 eM10 => ?_)
              replace h := h M10 eM10
              refine A_aload_n dX10_next_350 rfl rfl ?_
              refine A_dup dX10_next_351 rfl ?_
              refine A_getI dX10_next_352 fX10_276 rfl (okK10 (by omega)) ?_
              refine A_iconst (v := 1) dX10_next_355 rfl ?_
              refine A_iadd dX10_next_356 ?_
              refine B_putI dX10_next_357 fX10_276 (by decide) (okK10 (by omega)) (fun M11 eM11 => ?_)
              replace h := h M11 eM11
              exact A_vret dX10_next_360 ⟨rfl, rfl, h⟩
            · replace h := h.2 q
              refine A_iload_n dX10_next_297 rfl rfl ?_
              refine A_bipush (v := 41) dX10_next_298 (by decide +kernel) ?_
              refine B_icmp_eq (tgt := 339) dX10_next_300 (by decide) rfl (wlitI (by decide) (by decide)) ⟨fun q => ?_, fun q => ?_⟩
              · replace h := h.1 q
                refine A_aload_n dX10_next_339 rfl rfl ?_
                refine A_iconst (v := 3) dX10_next_340 rfl ?_
                refine B_putI dX10_next_341 fX10_285 (by decide) (okK10 (by omega)) (fun M12 eM12 => ?_)
                replace h := h M12 eM12
                refine A_aload_n dX10_next_344 rfl rfl ?_
                refine A_iload_n dX10_next_345 rfl rfl ?_
                refine B_i2l dX10_next_346 rfl ?_
                refine B_putL dX10_next_347 fX10_288 (by decide) (okK10 (by omega)) (fun M13 eM13 => ?_)
                replace h := h M13 eM13
                refine A_aload_n dX10_next_350 rfl rfl ?_
                refine A_dup dX10_next_351 rfl ?_
                refine A_getI dX10_next_352 fX10_276 rfl (okK10 (by omega)) ?_
                refine A_iconst (v := 1) dX10_next_355 rfl ?_
                refine A_iadd dX10_next_356 ?_
                refine B_putI dX10_next_357 fX10_276 (by decide) (okK10 (by omega)) (fun M14 eM14 => ?_)
                replace h := h M14 eM14
                exact A_vret dX10_next_360 ⟨rfl, rfl, h⟩
              · replace h := h.2 q
                refine A_iload_n dX10_next_303 rfl rfl ?_
                refine A_bipush (v := 59) dX10_next_304 (by decide +kernel) ?_
                refine B_icmp_eq (tgt := 339) dX10_next_306 (by decide) rfl (wlitI (by decide) (by decide)) ⟨fun q => ?_, fun q => ?_⟩
                · replace h := h.1 q
                  refine A_aload_n dX10_next_339 rfl rfl ?_
                  refine A_iconst (v := 3) dX10_next_340 rfl ?_
                  refine B_putI dX10_next_341 fX10_285 (by decide) (okK10 (by omega)) (fun M15 eM15 => ?_)
                  replace h := h M15 eM15
                  refine A_aload_n dX10_next_344 rfl rfl ?_
                  refine A_iload_n dX10_next_345 rfl rfl ?_
                  refine B_i2l dX10_next_346 rfl ?_
                  refine B_putL dX10_next_347 fX10_288 (by decide) (okK10 (by omega)) (fun M16 eM16 => ?_)
                  replace h := h M16 eM16
                  refine A_aload_n dX10_next_350 rfl rfl ?_
                  refine A_dup dX10_next_351 rfl ?_
                  refine A_getI dX10_next_352 fX10_276 rfl (okK10 (by omega)) ?_
                  refine A_iconst (v := 1) dX10_next_355 rfl ?_
                  refine A_iadd dX10_next_356 ?_
                  refine B_putI dX10_next_357 fX10_276 (by decide) (okK10 (by omega)) (fun M17 eM17 => ?_)
                  replace h := h M17 eM17
                  exact A_vret dX10_next_360 ⟨rfl, rfl, h⟩
                · replace h := h.2 q
                  refine A_iload_n dX10_next_309 rfl rfl ?_
                  refine A_bipush (v := 43) dX10_next_310 (by decide +kernel) ?_
                  refine B_icmp_eq (tgt := 339) dX10_next_312 (by decide) rfl (wlitI (by decide) (by decide)) ⟨fun q => ?_, fun q => ?_⟩
                  · replace h := h.1 q
                    refine A_aload_n dX10_next_339 rfl rfl ?_
                    refine A_iconst (v := 3) dX10_next_340 rfl ?_
                    refine B_putI dX10_next_341 fX10_285 (by decide) (okK10 (by omega)) (fun M18 eM18 => ?_)
                    replace h := h M18 eM18
                    refine A_aload_n dX10_next_344 rfl rfl ?_
                    refine A_iload_n dX10_next_345 rfl rfl ?_
                    refine B_i2l dX10_next_346 rfl ?_
                    refine B_putL dX10_next_347 fX10_288 (by decide) (okK10 (by omega)) (fun M19 eM19 => ?_)
                    replace h := h M19 eM19
                    refine A_aload_n dX10_next_350 rfl rfl ?_
                    refine A_dup dX10_next_351 rfl ?_
                    refine A_getI dX10_next_352 fX10_276 rfl (okK10 (by omega)) ?_
                    refine A_iconst (v := 1) dX10_next_355 rfl ?_
                    refine A_iadd dX10_next_356 ?_
                    refine B_putI dX10_next_357 fX10_276 (by decide) (okK10 (by omega)) (fun M20 eM20 => ?_)
                    replace h := h M20 eM20
                    exact A_vret dX10_next_360 ⟨rfl, rfl, h⟩
                  · replace h := h.2 q
                    refine A_iload_n dX10_next_315 rfl rfl ?_
                    refine A_bipush (v := 45) dX10_next_316 (by decide +kernel) ?_
                    refine B_icmp_eq (tgt := 339) dX10_next_318 (by decide) rfl (wlitI (by decide) (by decide)) ⟨fun q => ?_, fun q => ?_⟩
                    · replace h := h.1 q
                      refine A_aload_n dX10_next_339 rfl rfl ?_
                      refine A_iconst (v := 3) dX10_next_340 rfl ?_
                      refine B_putI dX10_next_341 fX10_285 (by decide) (okK10 (by omega)) (fun M21 eM21 => ?_)
                      replace h := h M21 eM21
                      refine A_aload_n dX10_next_344 rfl rfl ?_
                      refine A_iload_n dX10_next_345 rfl rfl ?_
                      refine B_i2l dX10_next_346 rfl ?_
                      refine B_putL dX10_next_347 fX10_288 (by decide) (okK10 (by omega)) (fun M22 eM22 => ?_)
                      replace h := h M22 eM22
                      refine A_aload_n dX10_next_350 rfl rfl ?_
                      refine A_dup dX10_next_351 rfl ?_
                      refine A_getI dX10_next_352 fX10_276 rfl (okK10 (by omega)) ?_
                      refine A_iconst (v := 1) dX10_next_355 rfl ?_
                      refine A_iadd dX10_next_356 ?_
                      refine B_putI dX10_next_357 fX10_276 (by decide) (okK10 (by omega)) (fun M23 eM23 => ?_)
                      replace h := h M23 eM23
                      exact A_vret dX10_next_360 ⟨rfl, rfl, h⟩
                    · replace h := h.2 q
                      refine A_iload_n dX10_next_321 rfl rfl ?_
                      refine A_bipush (v := 42) dX10_next_322 (by decide +kernel) ?_
                      refine B_icmp_eq (tgt := 339) dX10_next_324 (by decide) rfl (wlitI (by decide) (by decide)) ⟨fun q => ?_, fun q => ?_⟩
                      · replace h := h.1 q
                        refine A_aload_n dX10_next_339 rfl rfl ?_
                        refine A_iconst (v := 3) dX10_next_340 rfl ?_
                        refine B_putI dX10_next_341 fX10_285 (by decide) (okK10 (by omega)) (fun M24 eM24 => ?_)
                        replace h := h M24 eM24
                        refine A_aload_n dX10_next_344 rfl rfl ?_
                        refine A_iload_n dX10_next_345 rfl rfl ?_
                        refine B_i2l dX10_next_346 rfl ?_
                        refine B_putL dX10_next_347 fX10_288 (by decide) (okK10 (by omega)) (fun M25 eM25 => ?_)
                        replace h := h M25 eM25
                        refine A_aload_n dX10_next_350 rfl rfl ?_
                        refine A_dup dX10_next_351 rfl ?_
                        refine A_getI dX10_next_352 fX10_276 rfl (okK10 (by omega)) ?_
                        refine A_iconst (v := 1) dX10_next_355 rfl ?_
                        refine A_iadd dX10_next_356 ?_
                        refine B_putI dX10_next_357 fX10_276 (by decide) (okK10 (by omega)) (fun M26 eM26 => ?_)
                        replace h := h M26 eM26
                        exact A_vret dX10_next_360 ⟨rfl, rfl, h⟩
                      · replace h := h.2 q
                        refine A_iload_n dX10_next_327 rfl rfl ?_
                        refine A_bipush (v := 60) dX10_next_328 (by decide +kernel) ?_
                        refine B_icmp_eq (tgt := 339) dX10_next_330 (by decide) rfl (wlitI (by decide) (by decide)) ⟨fun q => ?_, fun q => ?_⟩
                        · replace h := h.1 q
                          refine A_aload_n dX10_next_339 rfl rfl ?_
                          refine A_iconst (v := 3) dX10_next_340 rfl ?_
                          refine B_putI dX10_next_341 fX10_285 (by decide) (okK10 (by omega)) (fun M27 eM27 => ?_)
                          replace h := h M27 eM27
                          refine A_aload_n dX10_next_344 rfl rfl ?_
                          refine A_iload_n dX10_next_345 rfl rfl ?_
                          refine B_i2l dX10_next_346 rfl ?_
                          refine B_putL dX10_next_347 fX10_288 (by decide) (okK10 (by omega)) (fun M28 eM28 => ?_)
                          replace h := h M28 eM28
                          refine A_aload_n dX10_next_350 rfl rfl ?_
                          refine A_dup dX10_next_351 rfl ?_
                          refine A_getI dX10_next_352 fX10_276 rfl (okK10 (by omega)) ?_
                          refine A_iconst (v := 1) dX10_next_355 rfl ?_
                          refine A_iadd dX10_next_356 ?_
                          refine B_putI dX10_next_357 fX10_276 (by decide) (okK10 (by omega)) (fun M29 eM29 => ?_)
                          replace h := h M29 eM29
                          exact A_vret dX10_next_360 ⟨rfl, rfl, h⟩
                        · replace h := h.2 q
                          refine A_iload_n dX10_next_333 rfl rfl ?_
                          refine A_bipush (v := 61) dX10_next_334 (by decide +kernel) ?_
                          refine B_icmp_ne (tgt := 360) dX10_next_336 (by decide) rfl (wlitI (by decide) (by decide)) ⟨fun q => ?_, fun q => ?_⟩
                          · replace h := h.1 q
                            exact A_vret dX10_next_360 ⟨rfl, rfl, h⟩
                          · replace h := h.2 q
                            refine A_aload_n dX10_next_339 rfl rfl ?_
                            refine A_iconst (v := 3) dX10_next_340 rfl ?_
                            refine B_putI dX10_next_341 fX10_285 (by decide) (okK10 (by omega)) (fun M30 eM30 => ?_)
                            replace h := h M30 eM30
                            refine A_aload_n dX10_next_344 rfl rfl ?_
                            refine A_iload_n dX10_next_345 rfl rfl ?_
                            refine B_i2l dX10_next_346 rfl ?_
                            refine B_putL dX10_next_347 fX10_288 (by decide) (okK10 (by omega)) (fun M31 eM31 => ?_)
                            replace h := h M31 eM31
                            refine A_aload_n dX10_next_350 rfl rfl ?_
                            refine A_dup dX10_next_351 rfl ?_
                            refine A_getI dX10_next_352 fX10_276 rfl (okK10 (by omega)) ?_
                            refine A_iconst (v := 1) dX10_next_355 rfl ?_
                            refine A_iadd dX10_next_356 ?_
                            refine B_putI dX10_next_357 fX10_276 (by decide) (okK10 (by omega)) (fun M32 eM32 => ?_)
                            replace h := h M32 eM32
                            exact A_vret dX10_next_360 ⟨rfl, rfl, h⟩
          · replace h := h.2 q
            refine A_aload_n dX10_next_190 rfl rfl ?_
            refine A_iconst (v := 2) dX10_next_191 rfl ?_
            refine B_putI dX10_next_192 fX10_285 (by decide) (okK10 (by omega)) (fun M33 eM33 => ?_)
            replace h := h M33 eM33
            refine A_aload_n dX10_next_195 rfl rfl ?_
            refine A_lconst (v := 0) dX10_next_196 (by decide +kernel) ?_
            refine B_putL dX10_next_197 fX10_288 (by decide) (okK10 (by omega)) (fun M34 eM34 => ?_)
            replace h := h M34 eM34
            refine A_iconst (v := 0) dX10_next_200 rfl ?_
            refine A_istore_n (ls' := [(2, _), (1, _), (0, _)]) dX10_next_201 rfl (by decide) rfl ?_
            exact A_pick [2, 0] rfl h
        · replace h := h.2 q
          refine A_aload_n dX10_next_92 rfl rfl ?_
          refine A_iconst (v := 1) dX10_next_93 rfl ?_
          refine B_putI dX10_next_94 fX10_285 (by decide) (okK10 (by omega)) (fun M35 eM35 => ?_)
          replace h := h M35 eM35
          refine A_aload_n dX10_next_97 rfl rfl ?_
          refine A_lconst (v := 0) dX10_next_98 (by decide +kernel) ?_
          refine B_putL dX10_next_99 fX10_288 (by decide) (okK10 (by omega)) (fun M36 eM36 => ?_)
          replace h := h M36 eM36
          refine A_iconst (v := 0) dX10_next_102 rfl ?_
          refine A_istore_n (ls' := [(2, _), (1, _), (0, _)]) dX10_next_103 rfl (by decide) rfl ?_
          exact A_pick [2, 0] rfl h
      · replace h := h.2 q
        refine A_aload_n dX10_next_65 rfl rfl ?_
        refine A_iconst (v := 0) dX10_next_66 rfl ?_
        refine B_putI dX10_next_67 fX10_285 (by decide) (okK10 (by omega)) (fun M37 eM37 => ?_)
        replace h := h M37 eM37
        refine A_aload_n dX10_next_70 rfl rfl ?_
        refine A_aload_n dX10_next_71 rfl rfl ?_
        refine A_getI dX10_next_72 fX10_270 rfl (okK10 (by omega)) ?_
        refine B_putI dX10_next_75 fX10_282 (by decide) (okK10 (by omega)) (fun M38 eM38 => ?_)
        replace h := h M38 eM38
        refine A_goto (tgt := 360) dX10_next_78 (by decide) ?_
        exact A_vret dX10_next_360 ⟨rfl, rfl, h⟩
    · replace h := h.2 q
      refine A_aload_n dX10_next_26 rfl rfl ?_
      refine A_dup dX10_next_27 rfl ?_
      refine A_getI dX10_next_28 fX10_276 rfl (okK10 (by omega)) ?_
      refine A_iconst (v := 1) dX10_next_31 rfl ?_
      refine A_iadd dX10_next_32 ?_
      refine B_putI dX10_next_33 fX10_276 (by decide) (okK10 (by omega)) (fun M39 eM39 => ?_)
      replace h := h M39 eM39
      refine A_goto (tgt := 0) dX10_next_36 (by decide) ?_
      exact A_pick [0] rfl h
set_option maxRecDepth 100000 in
set_option maxHeartbeats 4000000 in
theorem vc_X10_next_104 {G : GT} {l2 : Int} {N : NN} {K : NN → Prop}  (h : (C_X10_byteAt G (N 10 0 35) N (fun x1 N1 => (C_X10_in G x1 97 122 N1 (fun x2 N2 => (((wI x2) = 0 → K N2) ∧ (¬ ((wI x2) = 0) → ((7 ≤ (wI l2) → (∀ M3 : NN, M3 = up3 N2 10 0 34 ((-1)) → (∀ M4 : NN, M4 = up3 M3 10 0 35 ((M3 10 0 35) + 1) → W_X10_next G K 104 [(0, vR 10 0), (2, vI (l2 + 1))] [] M4))) ∧ (¬ (7 ≤ (wI l2)) → (C_X10_byteAt G (N2 10 0 35) N2 (fun x5 N5 => (∀ M6 : NN, M6 = up3 N5 10 0 34 (((27 * (N2 10 0 34)) + ((wI x5))) - 96) → (∀ M7 : NN, M7 = up3 M6 10 0 35 ((M6 10 0 35) + 1) → W_X10_next G K 104 [(0, vR 10 0), (2, vI (l2 + 1))] [] M7))))))))))))) : W_X10_next G K 104 [(0, vR 10 0), (2, vI l2)] [] N := by
  refine A_aload_n dX10_next_104 rfl rfl ?_
  refine A_aload_n dX10_next_105 rfl rfl ?_
  refine A_getI dX10_next_106 fX10_276 rfl (okK10 (by omega)) ?_
  refine B_callV_I (av := [vI (N 10 0 35)]) rfl dX10_next_109 vX10_279 mX10_byteAt ⟨rfl, rfl, by decide⟩ (okK10 (by omega)) rfl (Nat.le_of_ble_eq_true rfl) (by decide) (by decide) rfl (BC_monoI h (fun x1 N1 h => ?_))
  refine A_bipush (v := 97) dX10_next_112 (by decide +kernel) ?_
  refine A_bipush (v := 122) dX10_next_114 (by decide +kernel) ?_
  refine B_callS_I (av := [vI x1, vI 97, vI 122]) rfl dX10_next_116 vX10_186 mX10_in rfl (Nat.le_of_ble_eq_true rfl) (by decide) (by decide) rfl (BC_monoI h (fun x2 N2 h => ?_))
  refine B_if_eq (tgt := 176) dX10_next_119 (by decide) rfl ⟨fun q => ?_, fun q => ?_⟩
  · replace h := h.1 q
    refine A_goto (tgt := 360) dX10_next_176 (by decide) ?_
    exact A_vret dX10_next_360 ⟨rfl, rfl, h⟩
  · replace h := h.2 q
    refine A_aload_n dX10_next_122 rfl rfl ?_
    refine A_iload_n dX10_next_123 rfl rfl ?_
    refine A_bipush (v := 7) dX10_next_124 (by decide +kernel) ?_
    refine B_icmp_ge (tgt := 154) dX10_next_126 (by decide) rfl (wlitI (by decide) (by decide)) ⟨fun q => ?_, fun q => ?_⟩
    · replace h := h.1 q
      refine A_ldc2 (x := (-1)) dX10_next_154 kX10_296 (by decide +kernel) ?_
      refine B_putL dX10_next_157 fX10_288 (by decide) (okK10 (by omega)) (fun M3 eM3 => ?_)
      replace h := h M3 eM3
      refine A_iinc (ls' := [(2, _), (0, _)]) dX10_next_160 (by decide) rfl rfl rfl ?_
      refine A_aload_n dX10_next_163 rfl rfl ?_
      refine A_dup dX10_next_164 rfl ?_
      refine A_getI dX10_next_165 fX10_276 rfl (okK10 (by omega)) ?_
      refine A_iconst (v := 1) dX10_next_168 rfl ?_
      refine A_iadd dX10_next_169 ?_
      refine B_putI dX10_next_170 fX10_276 (by decide) (okK10 (by omega)) (fun M4 eM4 => ?_)
      replace h := h M4 eM4
      refine A_goto (tgt := 104) dX10_next_173 (by decide) ?_
      exact A_pick [1, 0] rfl h
    · replace h := h.2 q
      refine A_ldc2 (x := 27) dX10_next_129 kX10_292 (by decide +kernel) ?_
      refine A_aload_n dX10_next_132 rfl rfl ?_
      refine A_getL dX10_next_133 fX10_288 rfl (okK10 (by omega)) ?_
      refine A_lmul dX10_next_136 ?_
      refine A_aload_n dX10_next_137 rfl rfl ?_
      refine A_aload_n dX10_next_138 rfl rfl ?_
      refine A_getI dX10_next_139 fX10_276 rfl (okK10 (by omega)) ?_
      refine B_callV_I (av := [vI (N2 10 0 35)]) rfl dX10_next_142 vX10_279 mX10_byteAt ⟨rfl, rfl, by decide⟩ (okK10 (by omega)) rfl (Nat.le_of_ble_eq_true rfl) (by decide) (by decide) rfl (BC_monoI h (fun x5 N5 h => ?_))
      refine B_i2l dX10_next_145 rfl ?_
      refine A_ladd dX10_next_146 ?_
      refine A_ldc2 (x := 96) dX10_next_147 kX10_294 (by decide +kernel) ?_
      refine A_lsub dX10_next_150 ?_
      refine A_goto (tgt := 157) dX10_next_151 (by decide) ?_
      refine B_putL dX10_next_157 fX10_288 (by decide) (okK10 (by omega)) (fun M6 eM6 => ?_)
      replace h := h M6 eM6
      refine A_iinc (ls' := [(2, _), (0, _)]) dX10_next_160 (by decide) rfl rfl rfl ?_
      refine A_aload_n dX10_next_163 rfl rfl ?_
      refine A_dup dX10_next_164 rfl ?_
      refine A_getI dX10_next_165 fX10_276 rfl (okK10 (by omega)) ?_
      refine A_iconst (v := 1) dX10_next_168 rfl ?_
      refine A_iadd dX10_next_169 ?_
      refine B_putI dX10_next_170 fX10_276 (by decide) (okK10 (by omega)) (fun M7 eM7 => ?_)
      replace h := h M7 eM7
      refine A_goto (tgt := 104) dX10_next_173 (by decide) ?_
      exact A_pick [1, 0] rfl h
set_option maxRecDepth 100000 in
set_option maxHeartbeats 4000000 in
theorem vc_X10_next_202 {G : GT} {l2 : Int} {N : NN} {K : NN → Prop}  (h : (C_X10_byteAt G (N 10 0 35) N (fun x1 N1 => (C_X10_in G x1 48 57 N1 (fun x2 N2 => (((wI x2) = 0 → (((wI l2) ≤ 4 → (∀ M3 : NN, M3 = up3 N2 10 0 32 2 → K M3)) ∧ (¬ ((wI l2) ≤ 4) → (∀ M4 : NN, M4 = up3 N2 10 0 32 4 → K M4)))) ∧ (¬ ((wI x2) = 0) → ((4 ≤ (wI l2) → (∀ M5 : NN, M5 = up3 N2 10 0 34 (N2 10 0 34) → (∀ M6 : NN, M6 = up3 M5 10 0 35 ((M5 10 0 35) + 1) → W_X10_next G K 202 [(0, vR 10 0), (2, vI (l2 + 1))] [] M6))) ∧ (¬ (4 ≤ (wI l2)) → (C_X10_byteAt G (N2 10 0 35) N2 (fun x7 N7 => (∀ M8 : NN, M8 = up3 N7 10 0 34 (((10 * (N2 10 0 34)) + ((wI x7))) - 48) → (∀ M9 : NN, M9 = up3 M8 10 0 35 ((M8 10 0 35) + 1) → W_X10_next G K 202 [(0, vR 10 0), (2, vI (l2 + 1))] [] M9))))))))))))) : W_X10_next G K 202 [(0, vR 10 0), (2, vI l2)] [] N := by
  refine A_aload_n dX10_next_202 rfl rfl ?_
  refine A_aload_n dX10_next_203 rfl rfl ?_
  refine A_getI dX10_next_204 fX10_276 rfl (okK10 (by omega)) ?_
  refine B_callV_I (av := [vI (N 10 0 35)]) rfl dX10_next_207 vX10_279 mX10_byteAt ⟨rfl, rfl, by decide⟩ (okK10 (by omega)) rfl (Nat.le_of_ble_eq_true rfl) (by decide) (by decide) rfl (BC_monoI h (fun x1 N1 h => ?_))
  refine A_bipush (v := 48) dX10_next_210 (by decide +kernel) ?_
  refine A_bipush (v := 57) dX10_next_212 (by decide +kernel) ?_
  refine B_callS_I (av := [vI x1, vI 48, vI 57]) rfl dX10_next_214 vX10_186 mX10_in rfl (Nat.le_of_ble_eq_true rfl) (by decide) (by decide) rfl (BC_monoI h (fun x2 N2 h => ?_))
  refine B_if_eq (tgt := 274) dX10_next_217 (by decide) rfl ⟨fun q => ?_, fun q => ?_⟩
  · replace h := h.1 q
    refine A_aload_n dX10_next_274 rfl rfl ?_
    refine A_iload_n dX10_next_275 rfl rfl ?_
    refine A_iconst (v := 4) dX10_next_276 rfl ?_
    refine B_icmp_le (tgt := 284) dX10_next_277 (by decide) rfl (wlitI (by decide) (by decide)) ⟨fun q => ?_, fun q => ?_⟩
    · replace h := h.1 q
      refine A_iconst (v := 2) dX10_next_284 rfl ?_
      refine B_putI dX10_next_285 fX10_285 (by decide) (okK10 (by omega)) (fun M3 eM3 => ?_)
      replace h := h M3 eM3
      refine A_goto (tgt := 360) dX10_next_288 (by decide) ?_
      exact A_vret dX10_next_360 ⟨rfl, rfl, h⟩
    · replace h := h.2 q
      refine A_iconst (v := 4) dX10_next_280 rfl ?_
      refine A_goto (tgt := 285) dX10_next_281 (by decide) ?_
      refine B_putI dX10_next_285 fX10_285 (by decide) (okK10 (by omega)) (fun M4 eM4 => ?_)
      replace h := h M4 eM4
      refine A_goto (tgt := 360) dX10_next_288 (by decide) ?_
      exact A_vret dX10_next_360 ⟨rfl, rfl, h⟩
  · replace h := h.2 q
    refine A_aload_n dX10_next_220 rfl rfl ?_
    refine A_iload_n dX10_next_221 rfl rfl ?_
    refine A_iconst (v := 4) dX10_next_222 rfl ?_
    refine B_icmp_ge (tgt := 251) dX10_next_223 (by decide) rfl (wlitI (by decide) (by decide)) ⟨fun q => ?_, fun q => ?_⟩
    · replace h := h.1 q
      refine A_aload_n dX10_next_251 rfl rfl ?_
      refine A_getL dX10_next_252 fX10_288 rfl (okK10 (by omega)) ?_
      refine B_putL dX10_next_255 fX10_288 (by decide) (okK10 (by omega)) (fun M5 eM5 => ?_)
      replace h := h M5 eM5
      refine A_iinc (ls' := [(2, _), (0, _)]) dX10_next_258 (by decide) rfl rfl rfl ?_
      refine A_aload_n dX10_next_261 rfl rfl ?_
      refine A_dup dX10_next_262 rfl ?_
      refine A_getI dX10_next_263 fX10_276 rfl (okK10 (by omega)) ?_
      refine A_iconst (v := 1) dX10_next_266 rfl ?_
      refine A_iadd dX10_next_267 ?_
      refine B_putI dX10_next_268 fX10_276 (by decide) (okK10 (by omega)) (fun M6 eM6 => ?_)
      replace h := h M6 eM6
      refine A_goto (tgt := 202) dX10_next_271 (by decide) ?_
      exact A_pick [1, 0] rfl h
    · replace h := h.2 q
      refine A_ldc2 (x := 10) dX10_next_226 kX10_298 (by decide +kernel) ?_
      refine A_aload_n dX10_next_229 rfl rfl ?_
      refine A_getL dX10_next_230 fX10_288 rfl (okK10 (by omega)) ?_
      refine A_lmul dX10_next_233 ?_
      refine A_aload_n dX10_next_234 rfl rfl ?_
      refine A_aload_n dX10_next_235 rfl rfl ?_
      refine A_getI dX10_next_236 fX10_276 rfl (okK10 (by omega)) ?_
      refine B_callV_I (av := [vI (N2 10 0 35)]) rfl dX10_next_239 vX10_279 mX10_byteAt ⟨rfl, rfl, by decide⟩ (okK10 (by omega)) rfl (Nat.le_of_ble_eq_true rfl) (by decide) (by decide) rfl (BC_monoI h (fun x7 N7 h => ?_))
      refine B_i2l dX10_next_242 rfl ?_
      refine A_ladd dX10_next_243 ?_
      refine A_ldc2 (x := 48) dX10_next_244 kX10_300 (by decide +kernel) ?_
      refine A_lsub dX10_next_247 ?_
      refine A_goto (tgt := 255) dX10_next_248 (by decide) ?_
      refine B_putL dX10_next_255 fX10_288 (by decide) (okK10 (by omega)) (fun M8 eM8 => ?_)
      replace h := h M8 eM8
      refine A_iinc (ls' := [(2, _), (0, _)]) dX10_next_258 (by decide) rfl rfl rfl ?_
      refine A_aload_n dX10_next_261 rfl rfl ?_
      refine A_dup dX10_next_262 rfl ?_
      refine A_getI dX10_next_263 fX10_276 rfl (okK10 (by omega)) ?_
      refine A_iconst (v := 1) dX10_next_266 rfl ?_
      refine A_iadd dX10_next_267 ?_
      refine B_putI dX10_next_268 fX10_276 (by decide) (okK10 (by omega)) (fun M9 eM9 => ?_)
      replace h := h M9 eM9
      refine A_goto (tgt := 202) dX10_next_271 (by decide) ?_
      exact A_pick [1, 0] rfl h
set_option maxRecDepth 100000 in
set_option maxHeartbeats 4000000 in
theorem vc_X10_fail {G : GT} {N : NN} {K : NN → Prop}  (h : (((wI (N 10 0 37)) ≠ 0 → K N) ∧ (¬ ((wI (N 10 0 37)) ≠ 0) → (∀ M1 : NN, M1 = up3 N 10 0 37 1 → (∀ M2 : NN, M2 = up3 M1 10 0 38 (M1 10 0 33) → K M2))))) : C_X10_fail G N K := by
  refine Ctr.ofAW RX10 false rfl (by decide +kernel) (fun q => by cases q) (Nat.le_of_ble_eq_true rfl) (Nat.le_refl _) ?_
  refine A_aload_n dX10_fail_0 rfl rfl ?_
  refine A_getI dX10_fail_1 fX10_302 rfl (okK10 (by omega)) ?_
  refine B_if_ne (tgt := 20) dX10_fail_4 (by decide) rfl ⟨fun q => ?_, fun q => ?_⟩
  · replace h := h.1 q
    exact A_vret dX10_fail_20 ⟨rfl, rfl, h⟩
  · replace h := h.2 q
    refine A_aload_n dX10_fail_7 rfl rfl ?_
    refine A_iconst (v := 1) dX10_fail_8 rfl ?_
    refine B_putZ dX10_fail_9 fX10_302 (by decide) (okK10 (by omega)) (by decide) (fun M1 eM1 => ?_)
    replace h := h M1 eM1
    refine A_aload_n dX10_fail_12 rfl rfl ?_
    refine A_aload_n dX10_fail_13 rfl rfl ?_
    refine A_getI dX10_fail_14 fX10_282 rfl (okK10 (by omega)) ?_
    refine B_putI dX10_fail_17 fX10_306 (by decide) (okK10 (by omega)) (fun M2 eM2 => ?_)
    replace h := h M2 eM2
    exact A_vret dX10_fail_20 ⟨rfl, rfl, h⟩
set_option maxRecDepth 100000 in
set_option maxHeartbeats 4000000 in
theorem vc_X10_isWord {G : GT} {a1 : Int} {N : NN} {K : Int → NN → Prop}  (h : (((wI (N 10 0 37)) ≠ 0 → K 0 N) ∧ (¬ ((wI (N 10 0 37)) ≠ 0) → (((wI (N 10 0 32)) ≠ 1 → K 0 N) ∧ (¬ ((wI (N 10 0 32)) ≠ 1) → (((wL (N 10 0 34)) ≠ (wL a1) → K 0 N) ∧ (¬ ((wL (N 10 0 34)) ≠ (wL a1)) → K 1 N))))))) : C_X10_isWord G a1 N K := by
  refine Ctr.ofAW RX10 false rfl (by decide +kernel) (fun q => by cases q) (Nat.le_of_ble_eq_true rfl) (Nat.le_refl _) ?_
  refine A_aload_n dX10_isWord_0 rfl rfl ?_
  refine A_getI dX10_isWord_1 fX10_302 rfl (okK10 (by omega)) ?_
  refine B_if_ne (tgt := 28) dX10_isWord_4 (by decide) rfl ⟨fun q => ?_, fun q => ?_⟩
  · replace h := h.1 q
    refine A_iconst (v := 0) dX10_isWord_28 rfl ?_
    exact A_zret dX10_isWord_29 (by decide) ⟨rfl, _, rfl, h⟩
  · replace h := h.2 q
    refine A_aload_n dX10_isWord_7 rfl rfl ?_
    refine A_getI dX10_isWord_8 fX10_285 rfl (okK10 (by omega)) ?_
    refine A_iconst (v := 1) dX10_isWord_11 rfl ?_
    refine B_icmp_ne (tgt := 28) dX10_isWord_12 (by decide) rfl (wlitI (by decide) (by decide)) ⟨fun q => ?_, fun q => ?_⟩
    · replace h := h.1 q
      refine A_iconst (v := 0) dX10_isWord_28 rfl ?_
      exact A_zret dX10_isWord_29 (by decide) ⟨rfl, _, rfl, h⟩
    · replace h := h.2 q
      refine A_aload_n dX10_isWord_15 rfl rfl ?_
      refine A_getL dX10_isWord_16 fX10_288 rfl (okK10 (by omega)) ?_
      refine A_lload_n dX10_isWord_19 rfl rfl ?_
      refine B_lcmp_ne (tgt := 28) dX10_isWord_20 rfl dX10_isWord_21 (by decide) rfl rfl ⟨fun q => ?_, fun q => ?_⟩
      · replace h := h.1 q
        refine A_iconst (v := 0) dX10_isWord_28 rfl ?_
        exact A_zret dX10_isWord_29 (by decide) ⟨rfl, _, rfl, h⟩
      · replace h := h.2 q
        refine A_iconst (v := 1) dX10_isWord_24 rfl ?_
        refine A_goto (tgt := 29) dX10_isWord_25 (by decide) ?_
        exact A_zret dX10_isWord_29 (by decide) ⟨rfl, _, rfl, h⟩
set_option maxRecDepth 100000 in
set_option maxHeartbeats 4000000 in
theorem vc_X10_isSign {G : GT} {a1 : Int} {N : NN} {K : Int → NN → Prop}  (h : (((wI (N 10 0 37)) ≠ 0 → K 0 N) ∧ (¬ ((wI (N 10 0 37)) ≠ 0) → (((wI (N 10 0 32)) ≠ 3 → K 0 N) ∧ (¬ ((wI (N 10 0 32)) ≠ 3) → (((wL (N 10 0 34)) ≠ (wL ((wI a1))) → K 0 N) ∧ (¬ ((wL (N 10 0 34)) ≠ (wL ((wI a1)))) → K 1 N))))))) : C_X10_isSign G a1 N K := by
  refine Ctr.ofAW RX10 false rfl (by decide +kernel) (fun q => by cases q) (Nat.le_of_ble_eq_true rfl) (Nat.le_refl _) ?_
  refine A_aload_n dX10_isSign_0 rfl rfl ?_
  refine A_getI dX10_isSign_1 fX10_302 rfl (okK10 (by omega)) ?_
  refine B_if_ne (tgt := 29) dX10_isSign_4 (by decide) rfl ⟨fun q => ?_, fun q => ?_⟩
  · replace h := h.1 q
    refine A_iconst (v := 0) dX10_isSign_29 rfl ?_
    exact A_zret dX10_isSign_30 (by decide) ⟨rfl, _, rfl, h⟩
  · replace h := h.2 q
    refine A_aload_n dX10_isSign_7 rfl rfl ?_
    refine A_getI dX10_isSign_8 fX10_285 rfl (okK10 (by omega)) ?_
    refine A_iconst (v := 3) dX10_isSign_11 rfl ?_
    refine B_icmp_ne (tgt := 29) dX10_isSign_12 (by decide) rfl (wlitI (by decide) (by decide)) ⟨fun q => ?_, fun q => ?_⟩
    · replace h := h.1 q
      refine A_iconst (v := 0) dX10_isSign_29 rfl ?_
      exact A_zret dX10_isSign_30 (by decide) ⟨rfl, _, rfl, h⟩
    · replace h := h.2 q
      refine A_aload_n dX10_isSign_15 rfl rfl ?_
      refine A_getL dX10_isSign_16 fX10_288 rfl (okK10 (by omega)) ?_
      refine A_iload_n dX10_isSign_19 rfl rfl ?_
      refine B_i2l dX10_isSign_20 rfl ?_
      refine B_lcmp_ne (tgt := 29) dX10_isSign_21 rfl dX10_isSign_22 (by decide) rfl rfl ⟨fun q => ?_, fun q => ?_⟩
      · replace h := h.1 q
        refine A_iconst (v := 0) dX10_isSign_29 rfl ?_
        exact A_zret dX10_isSign_30 (by decide) ⟨rfl, _, rfl, h⟩
      · replace h := h.2 q
        refine A_iconst (v := 1) dX10_isSign_25 rfl ?_
        refine A_goto (tgt := 30) dX10_isSign_26 (by decide) ?_
        exact A_zret dX10_isSign_30 (by decide) ⟨rfl, _, rfl, h⟩
set_option maxRecDepth 100000 in
set_option maxHeartbeats 4000000 in
theorem vc_X10_opens {G : GT} {N : NN} {K : Int → NN → Prop}  (h : (((wI (N 10 0 36)) ≠ 5 → (∀ M1 : NN, M1 = up3 N 10 0 36 ((N 10 0 36) + 1) → (C_X10_next G  M1 (fun N2 => K 1 N2)))) ∧ (¬ ((wI (N 10 0 36)) ≠ 5) → (C_X10_fail G  N (fun N3 => K 0 N3))))) : C_X10_opens G N K := by
  refine Ctr.ofAW RX10 false rfl (by decide +kernel) (fun q => by cases q) (Nat.le_of_ble_eq_true rfl) (Nat.le_refl _) ?_
  refine A_aload_n dX10_opens_0 rfl rfl ?_
  refine A_getI dX10_opens_1 fX10_309 rfl (okK10 (by omega)) ?_
  refine A_iconst (v := 5) dX10_opens_4 rfl ?_
  refine B_icmp_ne (tgt := 14) dX10_opens_5 (by decide) rfl (wlitI (by decide) (by decide)) ⟨fun q => ?_, fun q => ?_⟩
  · replace h := h.1 q
    refine A_aload_n dX10_opens_14 rfl rfl ?_
    refine A_dup dX10_opens_15 rfl ?_
    refine A_getI dX10_opens_16 fX10_309 rfl (okK10 (by omega)) ?_
    refine A_iconst (v := 1) dX10_opens_19 rfl ?_
    refine A_iadd dX10_opens_20 ?_
    refine B_putI dX10_opens_21 fX10_309 (by decide) (okK10 (by omega)) (fun M1 eM1 => ?_)
    replace h := h M1 eM1
    refine A_aload_n dX10_opens_24 rfl rfl ?_
    refine B_callV_V (av := []) rfl dX10_opens_25 vX10_315 mX10_next ⟨rfl, rfl, by decide⟩ (okK10 (by omega)) rfl (Nat.le_of_ble_eq_true rfl) (by decide) (by decide) rfl (BC_monoV h (fun N2 h => ?_))
    refine A_iconst (v := 1) dX10_opens_28 rfl ?_
    exact A_zret dX10_opens_29 (by decide) ⟨rfl, _, rfl, h⟩
  · replace h := h.2 q
    refine A_aload_n dX10_opens_8 rfl rfl ?_
    refine B_callV_V (av := []) rfl dX10_opens_9 vX10_312 mX10_fail ⟨rfl, rfl, by decide⟩ (okK10 (by omega)) rfl (Nat.le_of_ble_eq_true rfl) (by decide) (by decide) rfl (BC_monoV h (fun N3 h => ?_))
    refine A_iconst (v := 0) dX10_opens_12 rfl ?_
    exact A_zret dX10_opens_13 (by decide) ⟨rfl, _, rfl, h⟩
set_option maxRecDepth 100000 in
set_option maxHeartbeats 4000000 in
theorem vc_X10_name {G : GT} {N : NN} {K : Int → NN → Prop}  (h : (C_X10_isWord G 7214732 N (fun x1 N1 => (((wI x1) = 0 → (C_X10_isWord G 355568 N1 (fun x2 N2 => (((wI x2) = 0 → (C_X10_isWord G 240023 N2 (fun x3 N3 => (((wI x3) = 0 → (C_X10_isWord G 312151 N3 (fun x4 N4 => (((wI x4) = 0 → (C_X10_isWord G 795597152 N4 (fun x5 N5 => (((wI x5) = 0 → (C_X10_isWord G 223456 N5 (fun x6 N6 => (((wI x6) = 0 → (C_X10_fail G  N6 (fun N7 => K 0 N7))) ∧ (¬ ((wI x6) = 0) → K (N6 10 0 44) N6))))) ∧ (¬ ((wI x5) = 0) → K (N5 10 0 43) N5))))) ∧ (¬ ((wI x4) = 0) → K (N4 10 0 42) N4))))) ∧ (¬ ((wI x3) = 0) → K (N3 10 0 41) N3))))) ∧ (¬ ((wI x2) = 0) → K (N2 10 0 40) N2))))) ∧ (¬ ((wI x1) = 0) → K (N1 10 0 39) N1))))) : C_X10_name G N K := by
  refine Ctr.ofAW RX10 false rfl (by decide +kernel) (fun q => by cases q) (Nat.le_of_ble_eq_true rfl) (Nat.le_refl _) ?_
  refine A_aload_n dX10_name_0 rfl rfl ?_
  refine A_ldc2 (x := 7214732) dX10_name_1 kX10_318 (by decide +kernel) ?_
  refine B_callV_I (av := [vL 7214732]) rfl dX10_name_4 vX10_320 mX10_isWord ⟨rfl, rfl, by decide⟩ (okK10 (by omega)) rfl (Nat.le_of_ble_eq_true rfl) (by decide) (by decide) rfl (BC_monoI h (fun x1 N1 h => ?_))
  refine B_if_eq (tgt := 15) dX10_name_7 (by decide) rfl ⟨fun q => ?_, fun q => ?_⟩
  · replace h := h.1 q
    refine A_aload_n dX10_name_15 rfl rfl ?_
    refine A_ldc2 (x := 355568) dX10_name_16 kX10_327 (by decide +kernel) ?_
    refine B_callV_I (av := [vL 355568]) rfl dX10_name_19 vX10_320 mX10_isWord ⟨rfl, rfl, by decide⟩ (okK10 (by omega)) rfl (Nat.le_of_ble_eq_true rfl) (by decide) (by decide) rfl (BC_monoI h (fun x2 N2 h => ?_))
    refine B_if_eq (tgt := 30) dX10_name_22 (by decide) rfl ⟨fun q => ?_, fun q => ?_⟩
    · replace h := h.1 q
      refine A_aload_n dX10_name_30 rfl rfl ?_
      refine A_ldc2 (x := 240023) dX10_name_31 kX10_332 (by decide +kernel) ?_
      refine B_callV_I (av := [vL 240023]) rfl dX10_name_34 vX10_320 mX10_isWord ⟨rfl, rfl, by decide⟩ (okK10 (by omega)) rfl (Nat.le_of_ble_eq_true rfl) (by decide) (by decide) rfl (BC_monoI h (fun x3 N3 h => ?_))
      refine B_if_eq (tgt := 45) dX10_name_37 (by decide) rfl ⟨fun q => ?_, fun q => ?_⟩
      · replace h := h.1 q
        refine A_aload_n dX10_name_45 rfl rfl ?_
        refine A_ldc2 (x := 312151) dX10_name_46 kX10_337 (by decide +kernel) ?_
        refine B_callV_I (av := [vL 312151]) rfl dX10_name_49 vX10_320 mX10_isWord ⟨rfl, rfl, by decide⟩ (okK10 (by omega)) rfl (Nat.le_of_ble_eq_true rfl) (by decide) (by decide) rfl (BC_monoI h (fun x4 N4 h => ?_))
        refine B_if_eq (tgt := 60) dX10_name_52 (by decide) rfl ⟨fun q => ?_, fun q => ?_⟩
        · replace h := h.1 q
          refine A_aload_n dX10_name_60 rfl rfl ?_
          refine A_ldc2 (x := 795597152) dX10_name_61 kX10_342 (by decide +kernel) ?_
          refine B_callV_I (av := [vL 795597152]) rfl dX10_name_64 vX10_320 mX10_isWord ⟨rfl, rfl, by decide⟩ (okK10 (by omega)) rfl (Nat.le_of_ble_eq_true rfl) (by decide) (by decide) rfl (BC_monoI h (fun x5 N5 h => ?_))
          refine B_if_eq (tgt := 75) dX10_name_67 (by decide) rfl ⟨fun q => ?_, fun q => ?_⟩
          · replace h := h.1 q
            refine A_aload_n dX10_name_75 rfl rfl ?_
            refine A_ldc2 (x := 223456) dX10_name_76 kX10_347 (by decide +kernel) ?_
            refine B_callV_I (av := [vL 223456]) rfl dX10_name_79 vX10_320 mX10_isWord ⟨rfl, rfl, by decide⟩ (okK10 (by omega)) rfl (Nat.le_of_ble_eq_true rfl) (by decide) (by decide) rfl (BC_monoI h (fun x6 N6 h => ?_))
            refine B_if_eq (tgt := 90) dX10_name_82 (by decide) rfl ⟨fun q => ?_, fun q => ?_⟩
            · replace h := h.1 q
              refine A_aload_n dX10_name_90 rfl rfl ?_
              refine B_callV_V (av := []) rfl dX10_name_91 vX10_312 mX10_fail ⟨rfl, rfl, by decide⟩ (okK10 (by omega)) rfl (Nat.le_of_ble_eq_true rfl) (by decide) (by decide) rfl (BC_monoV h (fun N7 h => ?_))
              refine A_iconst (v := 0) dX10_name_94 rfl ?_
              exact A_iret dX10_name_95 ⟨rfl, _, rfl, h⟩
            · replace h := h.2 q
              refine A_aload_n dX10_name_85 rfl rfl ?_
              refine A_getI dX10_name_86 fX10_349 rfl (okK10 (by omega)) ?_
              exact A_iret dX10_name_89 ⟨rfl, _, rfl, h⟩
          · replace h := h.2 q
            refine A_aload_n dX10_name_70 rfl rfl ?_
            refine A_getI dX10_name_71 fX10_344 rfl (okK10 (by omega)) ?_
            exact A_iret dX10_name_74 ⟨rfl, _, rfl, h⟩
        · replace h := h.2 q
          refine A_aload_n dX10_name_55 rfl rfl ?_
          refine A_getI dX10_name_56 fX10_339 rfl (okK10 (by omega)) ?_
          exact A_iret dX10_name_59 ⟨rfl, _, rfl, h⟩
      · replace h := h.2 q
        refine A_aload_n dX10_name_40 rfl rfl ?_
        refine A_getI dX10_name_41 fX10_334 rfl (okK10 (by omega)) ?_
        exact A_iret dX10_name_44 ⟨rfl, _, rfl, h⟩
    · replace h := h.2 q
      refine A_aload_n dX10_name_25 rfl rfl ?_
      refine A_getI dX10_name_26 fX10_329 rfl (okK10 (by omega)) ?_
      exact A_iret dX10_name_29 ⟨rfl, _, rfl, h⟩
  · replace h := h.2 q
    refine A_aload_n dX10_name_10 rfl rfl ?_
    refine A_getI dX10_name_11 fX10_324 rfl (okK10 (by omega)) ?_
    exact A_iret dX10_name_14 ⟨rfl, _, rfl, h⟩
set_option maxRecDepth 100000 in
set_option maxHeartbeats 4000000 in
theorem vc_X10_one {G : GT} {Lv : Nat} {N : NN} {K : Int → NN → Prop}  (h : (1 < Lv ∧ (C_X10_isSign G 45 N (fun x1 N1 => (((wI x1) = 0 → (1 < Lv ∧ (C_X10_isSign G 40 N1 (fun x2 N2 => (((wI x2) = 0 → (((wI (N2 10 0 37)) ≠ 0 → W_X10_one G Lv K 123 [(0, vR 10 0), (1, vI 0)] [] N2) ∧ (¬ ((wI (N2 10 0 37)) ≠ 0) → (((wI (N2 10 0 32)) ≠ 2 → W_X10_one G Lv K 123 [(0, vR 10 0), (1, vI 0)] [] N2) ∧ (¬ ((wI (N2 10 0 32)) ≠ 2) → (2 < Lv ∧ (C_X10_next G  N2 (fun N3 => K (N2 10 0 34) N3)))))))) ∧ (¬ ((wI x2) = 0) → (3 < Lv ∧ (C_X10_opens G  N2 (fun x4 N4 => (((wI x4) = 0 → K 0 N4) ∧ (¬ ((wI x4) = 0) → (∃ L54 : Nat, L54 < Lv ∧ (C_X10_either G L54  N4 (fun x5 N5 => (1 < Lv ∧ (C_X10_isSign G 41 N5 (fun x6 N6 => (((wI x6) ≠ 0 → (∀ M7 : NN, M7 = up3 N6 10 0 36 ((N6 10 0 36) - 1) → (((wI (M7 10 0 37)) ≠ 0 → K x5 M7) ∧ (¬ ((wI (M7 10 0 37)) ≠ 0) → (2 < Lv ∧ (C_X10_next G  M7 (fun N8 => K x5 N8))))))) ∧ (¬ ((wI x6) ≠ 0) → (1 < Lv ∧ (C_X10_fail G  N6 (fun N9 => (∀ M10 : NN, M10 = up3 N9 10 0 36 ((N9 10 0 36) - 1) → (((wI (M10 10 0 37)) ≠ 0 → K x5 M10) ∧ (¬ ((wI (M10 10 0 37)) ≠ 0) → (2 < Lv ∧ (C_X10_next G  M10 (fun N11 => K x5 N11)))))))))))))))))))))))))))) ∧ (¬ ((wI x1) = 0) → (3 < Lv ∧ (C_X10_opens G  N1 (fun x12 N12 => (((wI x12) = 0 → K 0 N12) ∧ (¬ ((wI x12) = 0) → (∃ L19 : Nat, L19 < Lv ∧ (C_X10_one G L19  N12 (fun x13 N13 => (∀ M14 : NN, M14 = up3 N13 10 0 36 ((N13 10 0 36) - 1) → K ((-x13)) M14))))))))))))))) : C_X10_one G Lv N K := by
  refine Ctr.ofAW RX10 false rfl (by decide +kernel) (fun q => by cases q) (Nat.le_of_ble_eq_true rfl) (Nat.le_refl _) ?_
  refine A_iconst (v := 0) dX10_one_0 rfl ?_
  refine A_istore_n (ls' := [(1, _), (0, _)]) dX10_one_1 rfl (by decide) rfl ?_
  refine A_aload_n dX10_one_2 rfl rfl ?_
  refine A_bipush (v := 45) dX10_one_3 (by decide +kernel) ?_
  refine B_callV_I (av := [vI 45]) rfl dX10_one_5 vX10_352 mX10_isSign ⟨rfl, rfl, by decide⟩ (okK10 (by omega)) rfl (Nat.le_of_ble_eq_true rfl) h.1 (by decide) rfl (BC_monoI h.2 (fun x1 N1 h => ?_))
  refine B_if_eq (tgt := 37) dX10_one_8 (by decide) rfl ⟨fun q => ?_, fun q => ?_⟩
  · replace h := h.1 q
    refine A_aload_n dX10_one_37 rfl rfl ?_
    refine A_bipush (v := 40) dX10_one_38 (by decide +kernel) ?_
    refine B_callV_I (av := [vI 40]) rfl dX10_one_40 vX10_352 mX10_isSign ⟨rfl, rfl, by decide⟩ (okK10 (by omega)) rfl (Nat.le_of_ble_eq_true rfl) h.1 (by decide) rfl (BC_monoI h.2 (fun x2 N2 h => ?_))
    refine B_if_eq (tgt := 95) dX10_one_43 (by decide) rfl ⟨fun q => ?_, fun q => ?_⟩
    · replace h := h.1 q
      refine A_aload_n dX10_one_95 rfl rfl ?_
      refine A_getI dX10_one_96 fX10_302 rfl (okK10 (by omega)) ?_
      refine B_if_ne (tgt := 123) dX10_one_99 (by decide) rfl ⟨fun q => ?_, fun q => ?_⟩
      · replace h := h.1 q
        exact A_pick [1, 0] rfl h
      · replace h := h.2 q
        refine A_aload_n dX10_one_102 rfl rfl ?_
        refine A_getI dX10_one_103 fX10_285 rfl (okK10 (by omega)) ?_
        refine A_iconst (v := 2) dX10_one_106 rfl ?_
        refine B_icmp_ne (tgt := 123) dX10_one_107 (by decide) rfl (wlitI (by decide) (by decide)) ⟨fun q => ?_, fun q => ?_⟩
        · replace h := h.1 q
          exact A_pick [1, 0] rfl h
        · replace h := h.2 q
          refine A_aload_n dX10_one_110 rfl rfl ?_
          refine A_getL dX10_one_111 fX10_288 rfl (okK10 (by omega)) ?_
          refine A_l2i dX10_one_114 ?_
          refine A_istore_n (ls' := [(1, _), (0, _)]) dX10_one_115 rfl (by decide) rfl ?_
          refine A_aload_n dX10_one_116 rfl rfl ?_
          refine B_callV_V (av := []) rfl dX10_one_117 vX10_315 mX10_next ⟨rfl, rfl, by decide⟩ (okK10 (by omega)) rfl (Nat.le_of_ble_eq_true rfl) h.1 (by decide) rfl (BC_monoV h.2 (fun N3 h => ?_))
          refine A_goto (tgt := 161) dX10_one_120 (by decide) ?_
          refine A_iload_n dX10_one_161 rfl rfl ?_
          exact A_iret dX10_one_162 ⟨rfl, _, rfl, h⟩
    · replace h := h.2 q
      refine A_aload_n dX10_one_46 rfl rfl ?_
      refine B_callV_I (av := []) rfl dX10_one_47 vX10_355 mX10_opens ⟨rfl, rfl, by decide⟩ (okK10 (by omega)) rfl (Nat.le_of_ble_eq_true rfl) h.1 (by decide) rfl (BC_monoI h.2 (fun x4 N4 h => ?_))
      refine B_if_eq (tgt := 161) dX10_one_50 (by decide) rfl ⟨fun q => ?_, fun q => ?_⟩
      · replace h := h.1 q
        refine A_iload_n dX10_one_161 rfl rfl ?_
        exact A_iret dX10_one_162 ⟨rfl, _, rfl, h⟩
      · replace h := h.2 q
        refine A_aload_n dX10_one_53 rfl rfl ?_
        obtain ⟨L54, qL54, h⟩ := h
        refine B_callV_I (av := []) rfl dX10_one_54 vX10_362 mX10_either ⟨rfl, rfl, by decide⟩ (okK10 (by omega)) rfl (Nat.le_of_ble_eq_true rfl) qL54 (by decide) rfl (BC_monoI h (fun x5 N5 h => ?_))
        refine A_istore_n (ls' := [(1, _), (0, _)]) dX10_one_57 rfl (by decide) rfl ?_
        refine A_aload_n dX10_one_58 rfl rfl ?_
        refine A_bipush (v := 41) dX10_one_59 (by decide +kernel) ?_
        refine B_callV_I (av := [vI 41]) rfl dX10_one_61 vX10_352 mX10_isSign ⟨rfl, rfl, by decide⟩ (okK10 (by omega)) rfl (Nat.le_of_ble_eq_true rfl) h.1 (by decide) rfl (BC_monoI h.2 (fun x6 N6 h => ?_))
        refine B_if_ne (tgt := 71) dX10_one_64 (by decide) rfl ⟨fun q => ?_, fun q => ?_⟩
        · replace h := h.1 q
          refine A_aload_n dX10_one_71 rfl rfl ?_
          refine A_dup dX10_one_72 rfl ?_
          refine A_getI dX10_one_73 fX10_309 rfl (okK10 (by omega)) ?_
          refine A_iconst (v := 1) dX10_one_76 rfl ?_
          refine A_isub dX10_one_77 ?_
          refine B_putI dX10_one_78 fX10_309 (by decide) (okK10 (by omega)) (fun M7 eM7 => ?_)
          replace h := h M7 eM7
          refine A_aload_n dX10_one_81 rfl rfl ?_
          refine A_getI dX10_one_82 fX10_302 rfl (okK10 (by omega)) ?_
          refine B_if_ne (tgt := 161) dX10_one_85 (by decide) rfl ⟨fun q => ?_, fun q => ?_⟩
          · replace h := h.1 q
            refine A_iload_n dX10_one_161 rfl rfl ?_
            exact A_iret dX10_one_162 ⟨rfl, _, rfl, h⟩
          · replace h := h.2 q
            refine A_aload_n dX10_one_88 rfl rfl ?_
            refine B_callV_V (av := []) rfl dX10_one_89 vX10_315 mX10_next ⟨rfl, rfl, by decide⟩ (okK10 (by omega)) rfl (Nat.le_of_ble_eq_true rfl) h.1 (by decide) rfl (BC_monoV h.2 (fun N8 h => ?_))
            refine A_goto (tgt := 161) dX10_one_92 (by decide) ?_
            refine A_iload_n dX10_one_161 rfl rfl ?_
            exact A_iret dX10_one_162 ⟨rfl, _, rfl, h⟩
        · replace h := h.2 q
          refine A_aload_n dX10_one_67 rfl rfl ?_
          refine B_callV_V (av := []) rfl dX10_one_68 vX10_312 mX10_fail ⟨rfl, rfl, by decide⟩ (okK10 (by omega)) rfl (Nat.le_of_ble_eq_true rfl) h.1 (by decide) rfl (BC_monoV h.2 (fun N9 h => ?_))
          refine A_aload_n dX10_one_71 rfl rfl ?_
          refine A_dup dX10_one_72 rfl ?_
          refine A_getI dX10_one_73 fX10_309 rfl (okK10 (by omega)) ?_
          refine A_iconst (v := 1) dX10_one_76 rfl ?_
          refine A_isub dX10_one_77 ?_
          refine B_putI dX10_one_78 fX10_309 (by decide) (okK10 (by omega)) (fun M10 eM10 => ?_)
          replace h := h M10 eM10
          refine A_aload_n dX10_one_81 rfl rfl ?_
          refine A_getI dX10_one_82 fX10_302 rfl (okK10 (by omega)) ?_
          refine B_if_ne (tgt := 161) dX10_one_85 (by decide) rfl ⟨fun q => ?_, fun q => ?_⟩
          · replace h := h.1 q
            refine A_iload_n dX10_one_161 rfl rfl ?_
            exact A_iret dX10_one_162 ⟨rfl, _, rfl, h⟩
          · replace h := h.2 q
            refine A_aload_n dX10_one_88 rfl rfl ?_
            refine B_callV_V (av := []) rfl dX10_one_89 vX10_315 mX10_next ⟨rfl, rfl, by decide⟩ (okK10 (by omega)) rfl (Nat.le_of_ble_eq_true rfl) h.1 (by decide) rfl (BC_monoV h.2 (fun N11 h => ?_))
            refine A_goto (tgt := 161) dX10_one_92 (by decide) ?_
            refine A_iload_n dX10_one_161 rfl rfl ?_
            exact A_iret dX10_one_162 ⟨rfl, _, rfl, h⟩
  · replace h := h.2 q
    refine A_aload_n dX10_one_11 rfl rfl ?_
    refine B_callV_I (av := []) rfl dX10_one_12 vX10_355 mX10_opens ⟨rfl, rfl, by decide⟩ (okK10 (by omega)) rfl (Nat.le_of_ble_eq_true rfl) h.1 (by decide) rfl (BC_monoI h.2 (fun x12 N12 h => ?_))
    refine B_if_eq (tgt := 161) dX10_one_15 (by decide) rfl ⟨fun q => ?_, fun q => ?_⟩
    · replace h := h.1 q
      refine A_iload_n dX10_one_161 rfl rfl ?_
      exact A_iret dX10_one_162 ⟨rfl, _, rfl, h⟩
    · replace h := h.2 q
      refine A_aload_n dX10_one_18 rfl rfl ?_
      obtain ⟨L19, qL19, h⟩ := h
      refine B_callV_I (av := []) rfl dX10_one_19 vX10_359 mX10_one ⟨rfl, rfl, by decide⟩ (okK10 (by omega)) rfl (Nat.le_of_ble_eq_true rfl) qL19 (by decide) rfl (BC_monoI h (fun x13 N13 h => ?_))
      refine A_ineg dX10_one_22 ?_
      refine A_istore_n (ls' := [(1, _), (0, _)]) dX10_one_23 rfl (by decide) rfl ?_
      refine A_aload_n dX10_one_24 rfl rfl ?_
      refine A_dup dX10_one_25 rfl ?_
      refine A_getI dX10_one_26 fX10_309 rfl (okK10 (by omega)) ?_
      refine A_iconst (v := 1) dX10_one_29 rfl ?_
      refine A_isub dX10_one_30 ?_
      refine B_putI dX10_one_31 fX10_309 (by decide) (okK10 (by omega)) (fun M14 eM14 => ?_)
      replace h := h M14 eM14
      refine A_goto (tgt := 161) dX10_one_34 (by decide) ?_
      refine A_iload_n dX10_one_161 rfl rfl ?_
      exact A_iret dX10_one_162 ⟨rfl, _, rfl, h⟩
set_option maxRecDepth 100000 in
set_option maxHeartbeats 4000000 in
theorem vc_X10_one_123 {G : GT} {Lv : Nat} {l1 : Int} {N : NN} {K : Int → NN → Prop}  (h : (((wI (N 10 0 37)) ≠ 0 → (1 < Lv ∧ (C_X10_fail G  N (fun N1 => K l1 N1)))) ∧ (¬ ((wI (N 10 0 37)) ≠ 0) → (((wI (N 10 0 32)) ≠ 1 → (1 < Lv ∧ (C_X10_fail G  N (fun N2 => K l1 N2)))) ∧ (¬ ((wI (N 10 0 32)) ≠ 1) → (2 < Lv ∧ (C_X10_name G  N (fun x3 N3 => (((wI (N3 10 0 37)) ≠ 0 → K x3 N3) ∧ (¬ ((wI (N3 10 0 37)) ≠ 0) → (2 < Lv ∧ (C_X10_next G  N3 (fun N4 => K x3 N4))))))))))))) : W_X10_one G Lv K 123 [(0, vR 10 0), (1, vI l1)] [] N := by
  refine A_aload_n dX10_one_123 rfl rfl ?_
  refine A_getI dX10_one_124 fX10_302 rfl (okK10 (by omega)) ?_
  refine B_if_ne (tgt := 157) dX10_one_127 (by decide) rfl ⟨fun q => ?_, fun q => ?_⟩
  · replace h := h.1 q
    refine A_aload_n dX10_one_157 rfl rfl ?_
    refine B_callV_V (av := []) rfl dX10_one_158 vX10_312 mX10_fail ⟨rfl, rfl, by decide⟩ (okK10 (by omega)) rfl (Nat.le_of_ble_eq_true rfl) h.1 (by decide) rfl (BC_monoV h.2 (fun N1 h => ?_))
    refine A_iload_n dX10_one_161 rfl rfl ?_
    exact A_iret dX10_one_162 ⟨rfl, _, rfl, h⟩
  · replace h := h.2 q
    refine A_aload_n dX10_one_130 rfl rfl ?_
    refine A_getI dX10_one_131 fX10_285 rfl (okK10 (by omega)) ?_
    refine A_iconst (v := 1) dX10_one_134 rfl ?_
    refine B_icmp_ne (tgt := 157) dX10_one_135 (by decide) rfl (wlitI (by decide) (by decide)) ⟨fun q => ?_, fun q => ?_⟩
    · replace h := h.1 q
      refine A_aload_n dX10_one_157 rfl rfl ?_
      refine B_callV_V (av := []) rfl dX10_one_158 vX10_312 mX10_fail ⟨rfl, rfl, by decide⟩ (okK10 (by omega)) rfl (Nat.le_of_ble_eq_true rfl) h.1 (by decide) rfl (BC_monoV h.2 (fun N2 h => ?_))
      refine A_iload_n dX10_one_161 rfl rfl ?_
      exact A_iret dX10_one_162 ⟨rfl, _, rfl, h⟩
    · replace h := h.2 q
      refine A_aload_n dX10_one_138 rfl rfl ?_
      refine B_callV_I (av := []) rfl dX10_one_139 vX10_365 mX10_name ⟨rfl, rfl, by decide⟩ (okK10 (by omega)) rfl (Nat.le_of_ble_eq_true rfl) h.1 (by decide) rfl (BC_monoI h.2 (fun x3 N3 h => ?_))
      refine A_istore_n (ls' := [(1, _), (0, _)]) dX10_one_142 rfl (by decide) rfl ?_
      refine A_aload_n dX10_one_143 rfl rfl ?_
      refine A_getI dX10_one_144 fX10_302 rfl (okK10 (by omega)) ?_
      refine B_if_ne (tgt := 161) dX10_one_147 (by decide) rfl ⟨fun q => ?_, fun q => ?_⟩
      · replace h := h.1 q
        refine A_iload_n dX10_one_161 rfl rfl ?_
        exact A_iret dX10_one_162 ⟨rfl, _, rfl, h⟩
      · replace h := h.2 q
        refine A_aload_n dX10_one_150 rfl rfl ?_
        refine B_callV_V (av := []) rfl dX10_one_151 vX10_315 mX10_next ⟨rfl, rfl, by decide⟩ (okK10 (by omega)) rfl (Nat.le_of_ble_eq_true rfl) h.1 (by decide) rfl (BC_monoV h.2 (fun N4 h => ?_))
        refine A_goto (tgt := 161) dX10_one_154 (by decide) ?_
        refine A_iload_n dX10_one_161 rfl rfl ?_
        exact A_iret dX10_one_162 ⟨rfl, _, rfl, h⟩
set_option maxRecDepth 100000 in
set_option maxHeartbeats 4000000 in
theorem vc_X10_term {G : GT} {Lv : Nat} {N : NN} {K : Int → NN → Prop}  (h : (∃ L1 : Nat, L1 < Lv ∧ (C_X10_one G L1  N (fun x1 N1 => W_X10_term G Lv K 5 [(0, vR 10 0), (1, vI x1)] [] N1)))) : C_X10_term G Lv N K := by
  refine Ctr.ofAW RX10 false rfl (by decide +kernel) (fun q => by cases q) (Nat.le_of_ble_eq_true rfl) (Nat.le_refl _) ?_
  refine A_aload_n dX10_term_0 rfl rfl ?_
  obtain ⟨L1, qL1, h⟩ := h
  refine B_callV_I (av := []) rfl dX10_term_1 vX10_359 mX10_one ⟨rfl, rfl, by decide⟩ (okK10 (by omega)) rfl (Nat.le_of_ble_eq_true rfl) qL1 (by decide) rfl (BC_monoI h (fun x1 N1 h => ?_))
  refine A_istore_n (ls' := [(1, _), (0, _)]) dX10_term_4 rfl (by decide) rfl ?_
  exact A_pick [1, 0] rfl h
set_option maxRecDepth 100000 in
set_option maxHeartbeats 4000000 in
theorem vc_X10_term_5 {G : GT} {Lv : Nat} {l1 : Int} {N : NN} {K : Int → NN → Prop}  (h : (1 < Lv ∧ (C_X10_isSign G 42 N (fun x1 N1 => (((wI x1) = 0 → K l1 N1) ∧ (¬ ((wI x1) = 0) → (2 < Lv ∧ (C_X10_next G  N1 (fun N2 => (∃ L20 : Nat, L20 < Lv ∧ (C_X10_one G L20  N2 (fun x3 N3 => W_X10_term G Lv K 5 [(0, vR 10 0), (1, vI (l1 * x3))] [] N3)))))))))))) : W_X10_term G Lv K 5 [(0, vR 10 0), (1, vI l1)] [] N := by
  refine A_aload_n dX10_term_5 rfl rfl ?_
  refine A_bipush (v := 42) dX10_term_6 (by decide +kernel) ?_
  refine B_callV_I (av := [vI 42]) rfl dX10_term_8 vX10_352 mX10_isSign ⟨rfl, rfl, by decide⟩ (okK10 (by omega)) rfl (Nat.le_of_ble_eq_true rfl) h.1 (by decide) rfl (BC_monoI h.2 (fun x1 N1 h => ?_))
  refine B_if_eq (tgt := 28) dX10_term_11 (by decide) rfl ⟨fun q => ?_, fun q => ?_⟩
  · replace h := h.1 q
    refine A_iload_n dX10_term_28 rfl rfl ?_
    exact A_iret dX10_term_29 ⟨rfl, _, rfl, h⟩
  · replace h := h.2 q
    refine A_aload_n dX10_term_14 rfl rfl ?_
    refine B_callV_V (av := []) rfl dX10_term_15 vX10_315 mX10_next ⟨rfl, rfl, by decide⟩ (okK10 (by omega)) rfl (Nat.le_of_ble_eq_true rfl) h.1 (by decide) rfl (BC_monoV h.2 (fun N2 h => ?_))
    refine A_iload_n dX10_term_18 rfl rfl ?_
    refine A_aload_n dX10_term_19 rfl rfl ?_
    obtain ⟨L20, qL20, h⟩ := h
    refine B_callV_I (av := []) rfl dX10_term_20 vX10_359 mX10_one ⟨rfl, rfl, by decide⟩ (okK10 (by omega)) rfl (Nat.le_of_ble_eq_true rfl) qL20 (by decide) rfl (BC_monoI h (fun x3 N3 h => ?_))
    refine A_imul dX10_term_23 ?_
    refine A_istore_n (ls' := [(1, _), (0, _)]) dX10_term_24 rfl (by decide) rfl ?_
    refine A_goto (tgt := 5) dX10_term_25 (by decide) ?_
    exact A_pick [1, 0] rfl h
set_option maxRecDepth 100000 in
set_option maxHeartbeats 4000000 in
theorem vc_X10_added {G : GT} {Lv : Nat} {N : NN} {K : Int → NN → Prop}  (h : (∃ L1 : Nat, L1 < Lv ∧ (C_X10_term G L1  N (fun x1 N1 => W_X10_added G Lv K 5 [(0, vR 10 0), (1, vI x1)] [] N1)))) : C_X10_added G Lv N K := by
  refine Ctr.ofAW RX10 false rfl (by decide +kernel) (fun q => by cases q) (Nat.le_of_ble_eq_true rfl) (Nat.le_refl _) ?_
  refine A_aload_n dX10_added_0 rfl rfl ?_
  obtain ⟨L1, qL1, h⟩ := h
  refine B_callV_I (av := []) rfl dX10_added_1 vX10_368 mX10_term ⟨rfl, rfl, by decide⟩ (okK10 (by omega)) rfl (Nat.le_of_ble_eq_true rfl) qL1 (by decide) rfl (BC_monoI h (fun x1 N1 h => ?_))
  refine A_istore_n (ls' := [(1, _), (0, _)]) dX10_added_4 rfl (by decide) rfl ?_
  exact A_pick [1, 0] rfl h
set_option maxRecDepth 100000 in
set_option maxHeartbeats 4000000 in
theorem vc_X10_added_5 {G : GT} {Lv : Nat} {l1 : Int} {N : NN} {K : Int → NN → Prop}  (h : (1 < Lv ∧ (C_X10_isSign G 43 N (fun x1 N1 => (((wI x1) ≠ 0 → (((wL (N1 10 0 34)) ≠ 43 → (2 < Lv ∧ (C_X10_next G  N1 (fun N2 => (∃ L45 : Nat, L45 < Lv ∧ (C_X10_term G L45  N2 (fun x3 N3 => W_X10_added G Lv K 5 [(0, vR 10 0), (1, vI (l1 - x3))] [] N3))))))) ∧ (¬ ((wL (N1 10 0 34)) ≠ 43) → (2 < Lv ∧ (C_X10_next G  N1 (fun N4 => (∃ L45 : Nat, L45 < Lv ∧ (C_X10_term G L45  N4 (fun x5 N5 => W_X10_added G Lv K 5 [(0, vR 10 0), (1, vI (l1 + x5))] [] N5))))))))) ∧ (¬ ((wI x1) ≠ 0) → (1 < Lv ∧ (C_X10_isSign G 45 N1 (fun x6 N6 => (((wI x6) = 0 → K l1 N6) ∧ (¬ ((wI x6) = 0) → (((wL (N6 10 0 34)) ≠ 43 → (2 < Lv ∧ (C_X10_next G  N6 (fun N7 => (∃ L45 : Nat, L45 < Lv ∧ (C_X10_term G L45  N7 (fun x8 N8 => W_X10_added G Lv K 5 [(0, vR 10 0), (1, vI (l1 - x8))] [] N8))))))) ∧ (¬ ((wL (N6 10 0 34)) ≠ 43) → (2 < Lv ∧ (C_X10_next G  N6 (fun N9 => (∃ L45 : Nat, L45 < Lv ∧ (C_X10_term G L45  N9 (fun x10 N10 => W_X10_added G Lv K 5 [(0, vR 10 0), (1, vI (l1 + x10))] [] N10))))))))))))))))))) : W_X10_added G Lv K 5 [(0, vR 10 0), (1, vI l1)] [] N := by
  refine A_aload_n dX10_added_5 rfl rfl ?_
  refine A_bipush (v := 43) dX10_added_6 (by decide +kernel) ?_
  refine B_callV_I (av := [vI 43]) rfl dX10_added_8 vX10_352 mX10_isSign ⟨rfl, rfl, by decide⟩ (okK10 (by omega)) rfl (Nat.le_of_ble_eq_true rfl) h.1 (by decide) rfl (BC_monoI h.2 (fun x1 N1 h => ?_))
  refine B_if_ne (tgt := 23) dX10_added_11 (by decide) rfl ⟨fun q => ?_, fun q => ?_⟩
  · replace h := h.1 q
    refine A_aload_n dX10_added_23 rfl rfl ?_
    refine A_getL dX10_added_24 fX10_288 rfl (okK10 (by omega)) ?_
    refine A_ldc2 (x := 43) dX10_added_27 kX10_371 (by decide +kernel) ?_
    refine B_lcmp_ne (tgt := 38) dX10_added_30 rfl dX10_added_31 (by decide) rfl (wlitL (by decide) (by decide)) ⟨fun q => ?_, fun q => ?_⟩
    · replace h := h.1 q
      refine A_iconst (v := 0) dX10_added_38 rfl ?_
      refine A_istore_n (ls' := [(2, _), (0, _), (1, _)]) dX10_added_39 rfl (by decide) rfl ?_
      refine A_aload_n dX10_added_40 rfl rfl ?_
      refine B_callV_V (av := []) rfl dX10_added_41 vX10_315 mX10_next ⟨rfl, rfl, by decide⟩ (okK10 (by omega)) rfl (Nat.le_of_ble_eq_true rfl) h.1 (by decide) rfl (BC_monoV h.2 (fun N2 h => ?_))
      refine A_aload_n dX10_added_44 rfl rfl ?_
      obtain ⟨L45, qL45, h⟩ := h
      refine B_callV_I (av := []) rfl dX10_added_45 vX10_368 mX10_term ⟨rfl, rfl, by decide⟩ (okK10 (by omega)) rfl (Nat.le_of_ble_eq_true rfl) qL45 (by decide) rfl (BC_monoI h (fun x3 N3 h => ?_))
      refine A_istore_n (ls' := [(3, _), (2, _), (0, _), (1, _)]) dX10_added_48 rfl (by decide) rfl ?_
      refine A_iload_n dX10_added_49 rfl rfl ?_
      refine B_if_eq (tgt := 59) dX10_added_50 (by decide) (wlitI (by decide) (by decide)) ⟨fun q => ?_, fun q => absurd (by decide) q⟩
      refine A_iload_n dX10_added_59 rfl rfl ?_
      refine A_iload_n dX10_added_60 rfl rfl ?_
      refine A_isub dX10_added_61 ?_
      refine A_istore_n (ls' := [(1, _), (3, _), (2, _), (0, _)]) dX10_added_62 rfl (by decide) rfl ?_
      refine A_goto (tgt := 5) dX10_added_63 (by decide) ?_
      exact A_pick [3, 0] rfl h
    · replace h := h.2 q
      refine A_iconst (v := 1) dX10_added_34 rfl ?_
      refine A_goto (tgt := 39) dX10_added_35 (by decide) ?_
      refine A_istore_n (ls' := [(2, _), (0, _), (1, _)]) dX10_added_39 rfl (by decide) rfl ?_
      refine A_aload_n dX10_added_40 rfl rfl ?_
      refine B_callV_V (av := []) rfl dX10_added_41 vX10_315 mX10_next ⟨rfl, rfl, by decide⟩ (okK10 (by omega)) rfl (Nat.le_of_ble_eq_true rfl) h.1 (by decide) rfl (BC_monoV h.2 (fun N4 h => ?_))
      refine A_aload_n dX10_added_44 rfl rfl ?_
      obtain ⟨L45, qL45, h⟩ := h
      refine B_callV_I (av := []) rfl dX10_added_45 vX10_368 mX10_term ⟨rfl, rfl, by decide⟩ (okK10 (by omega)) rfl (Nat.le_of_ble_eq_true rfl) qL45 (by decide) rfl (BC_monoI h (fun x5 N5 h => ?_))
      refine A_istore_n (ls' := [(3, _), (2, _), (0, _), (1, _)]) dX10_added_48 rfl (by decide) rfl ?_
      refine A_iload_n dX10_added_49 rfl rfl ?_
      refine B_if_eq (tgt := 59) dX10_added_50 (by decide) (wlitI (by decide) (by decide)) ⟨fun q => absurd q (by decide), fun q => ?_⟩
      refine A_iload_n dX10_added_53 rfl rfl ?_
      refine A_iload_n dX10_added_54 rfl rfl ?_
      refine A_iadd dX10_added_55 ?_
      refine A_goto (tgt := 62) dX10_added_56 (by decide) ?_
      refine A_istore_n (ls' := [(1, _), (3, _), (2, _), (0, _)]) dX10_added_62 rfl (by decide) rfl ?_
      refine A_goto (tgt := 5) dX10_added_63 (by decide) ?_
      exact A_pick [3, 0] rfl h
  · replace h := h.2 q
    refine A_aload_n dX10_added_14 rfl rfl ?_
    refine A_bipush (v := 45) dX10_added_15 (by decide +kernel) ?_
    refine B_callV_I (av := [vI 45]) rfl dX10_added_17 vX10_352 mX10_isSign ⟨rfl, rfl, by decide⟩ (okK10 (by omega)) rfl (Nat.le_of_ble_eq_true rfl) h.1 (by decide) rfl (BC_monoI h.2 (fun x6 N6 h => ?_))
    refine B_if_eq (tgt := 66) dX10_added_20 (by decide) rfl ⟨fun q => ?_, fun q => ?_⟩
    · replace h := h.1 q
      refine A_iload_n dX10_added_66 rfl rfl ?_
      exact A_iret dX10_added_67 ⟨rfl, _, rfl, h⟩
    · replace h := h.2 q
      refine A_aload_n dX10_added_23 rfl rfl ?_
      refine A_getL dX10_added_24 fX10_288 rfl (okK10 (by omega)) ?_
      refine A_ldc2 (x := 43) dX10_added_27 kX10_371 (by decide +kernel) ?_
      refine B_lcmp_ne (tgt := 38) dX10_added_30 rfl dX10_added_31 (by decide) rfl (wlitL (by decide) (by decide)) ⟨fun q => ?_, fun q => ?_⟩
      · replace h := h.1 q
        refine A_iconst (v := 0) dX10_added_38 rfl ?_
        refine A_istore_n (ls' := [(2, _), (0, _), (1, _)]) dX10_added_39 rfl (by decide) rfl ?_
        refine A_aload_n dX10_added_40 rfl rfl ?_
        refine B_callV_V (av := []) rfl dX10_added_41 vX10_315 mX10_next ⟨rfl, rfl, by decide⟩ (okK10 (by omega)) rfl (Nat.le_of_ble_eq_true rfl) h.1 (by decide) rfl (BC_monoV h.2 (fun N7 h => ?_))
        refine A_aload_n dX10_added_44 rfl rfl ?_
        obtain ⟨L45, qL45, h⟩ := h
        refine B_callV_I (av := []) rfl dX10_added_45 vX10_368 mX10_term ⟨rfl, rfl, by decide⟩ (okK10 (by omega)) rfl (Nat.le_of_ble_eq_true rfl) qL45 (by decide) rfl (BC_monoI h (fun x8 N8 h => ?_))
        refine A_istore_n (ls' := [(3, _), (2, _), (0, _), (1, _)]) dX10_added_48 rfl (by decide) rfl ?_
        refine A_iload_n dX10_added_49 rfl rfl ?_
        refine B_if_eq (tgt := 59) dX10_added_50 (by decide) (wlitI (by decide) (by decide)) ⟨fun q => ?_, fun q => absurd (by decide) q⟩
        refine A_iload_n dX10_added_59 rfl rfl ?_
        refine A_iload_n dX10_added_60 rfl rfl ?_
        refine A_isub dX10_added_61 ?_
        refine A_istore_n (ls' := [(1, _), (3, _), (2, _), (0, _)]) dX10_added_62 rfl (by decide) rfl ?_
        refine A_goto (tgt := 5) dX10_added_63 (by decide) ?_
        exact A_pick [3, 0] rfl h
      · replace h := h.2 q
        refine A_iconst (v := 1) dX10_added_34 rfl ?_
        refine A_goto (tgt := 39) dX10_added_35 (by decide) ?_
        refine A_istore_n (ls' := [(2, _), (0, _), (1, _)]) dX10_added_39 rfl (by decide) rfl ?_
        refine A_aload_n dX10_added_40 rfl rfl ?_
        refine B_callV_V (av := []) rfl dX10_added_41 vX10_315 mX10_next ⟨rfl, rfl, by decide⟩ (okK10 (by omega)) rfl (Nat.le_of_ble_eq_true rfl) h.1 (by decide) rfl (BC_monoV h.2 (fun N9 h => ?_))
        refine A_aload_n dX10_added_44 rfl rfl ?_
        obtain ⟨L45, qL45, h⟩ := h
        refine B_callV_I (av := []) rfl dX10_added_45 vX10_368 mX10_term ⟨rfl, rfl, by decide⟩ (okK10 (by omega)) rfl (Nat.le_of_ble_eq_true rfl) qL45 (by decide) rfl (BC_monoI h (fun x10 N10 h => ?_))
        refine A_istore_n (ls' := [(3, _), (2, _), (0, _), (1, _)]) dX10_added_48 rfl (by decide) rfl ?_
        refine A_iload_n dX10_added_49 rfl rfl ?_
        refine B_if_eq (tgt := 59) dX10_added_50 (by decide) (wlitI (by decide) (by decide)) ⟨fun q => absurd q (by decide), fun q => ?_⟩
        refine A_iload_n dX10_added_53 rfl rfl ?_
        refine A_iload_n dX10_added_54 rfl rfl ?_
        refine A_iadd dX10_added_55 ?_
        refine A_goto (tgt := 62) dX10_added_56 (by decide) ?_
        refine A_istore_n (ls' := [(1, _), (3, _), (2, _), (0, _)]) dX10_added_62 rfl (by decide) rfl ?_
        refine A_goto (tgt := 5) dX10_added_63 (by decide) ?_
        exact A_pick [3, 0] rfl h
set_option maxRecDepth 100000 in
set_option maxHeartbeats 4000000 in
theorem vc_X10_not {G : GT} {Lv : Nat} {N : NN} {K : Int → NN → Prop}  (h : (1 < Lv ∧ (C_X10_isWord G 10631 N (fun x1 N1 => (((wI x1) = 0 → (∃ L45 : Nat, L45 < Lv ∧ (C_X10_added G L45  N1 (fun x2 N2 => (1 < Lv ∧ (C_X10_isSign G 60 N2 (fun x3 N3 => (((wI x3) ≠ 0 → W_X10_not G Lv K 69 [(0, vR 10 0), (1, vI x2)] [] N3) ∧ (¬ ((wI x3) ≠ 0) → (1 < Lv ∧ (C_X10_isSign G 61 N3 (fun x4 N4 => (((wI x4) ≠ 0 → W_X10_not G Lv K 69 [(0, vR 10 0), (1, vI x2)] [] N4) ∧ (¬ ((wI x4) ≠ 0) → K x2 N4)))))))))))))) ∧ (¬ ((wI x1) = 0) → (3 < Lv ∧ (C_X10_opens G  N1 (fun x5 N5 => (((wI x5) ≠ 0 → (∃ L20 : Nat, L20 < Lv ∧ (C_X10_not G L20  N5 (fun x6 N6 => (∀ M7 : NN, M7 = up3 N6 10 0 36 ((N6 10 0 36) - 1) → (((wI x6) ≠ 0 → K 0 M7) ∧ (¬ ((wI x6) ≠ 0) → K 1 M7))))))) ∧ (¬ ((wI x5) ≠ 0) → K 0 N5))))))))))) : C_X10_not G Lv N K := by
  refine Ctr.ofAW RX10 false rfl (by decide +kernel) (fun q => by cases q) (Nat.le_of_ble_eq_true rfl) (Nat.le_refl _) ?_
  refine A_aload_n dX10_not_0 rfl rfl ?_
  refine A_ldc2 (x := 10631) dX10_not_1 kX10_373 (by decide +kernel) ?_
  refine B_callV_I (av := [vL 10631]) rfl dX10_not_4 vX10_320 mX10_isWord ⟨rfl, rfl, by decide⟩ (okK10 (by omega)) rfl (Nat.le_of_ble_eq_true rfl) h.1 (by decide) rfl (BC_monoI h.2 (fun x1 N1 h => ?_))
  refine B_if_eq (tgt := 44) dX10_not_7 (by decide) rfl ⟨fun q => ?_, fun q => ?_⟩
  · replace h := h.1 q
    refine A_aload_n dX10_not_44 rfl rfl ?_
    obtain ⟨L45, qL45, h⟩ := h
    refine B_callV_I (av := []) rfl dX10_not_45 vX10_378 mX10_added ⟨rfl, rfl, by decide⟩ (okK10 (by omega)) rfl (Nat.le_of_ble_eq_true rfl) qL45 (by decide) rfl (BC_monoI h (fun x2 N2 h => ?_))
    refine A_istore_n (ls' := [(1, _), (0, _)]) dX10_not_48 rfl (by decide) rfl ?_
    refine A_aload_n dX10_not_49 rfl rfl ?_
    refine A_bipush (v := 60) dX10_not_50 (by decide +kernel) ?_
    refine B_callV_I (av := [vI 60]) rfl dX10_not_52 vX10_352 mX10_isSign ⟨rfl, rfl, by decide⟩ (okK10 (by omega)) rfl (Nat.le_of_ble_eq_true rfl) h.1 (by decide) rfl (BC_monoI h.2 (fun x3 N3 h => ?_))
    refine B_if_ne (tgt := 69) dX10_not_55 (by decide) rfl ⟨fun q => ?_, fun q => ?_⟩
    · replace h := h.1 q
      exact A_pick [1, 0] rfl h
    · replace h := h.2 q
      refine A_aload_n dX10_not_58 rfl rfl ?_
      refine A_bipush (v := 61) dX10_not_59 (by decide +kernel) ?_
      refine B_callV_I (av := [vI 61]) rfl dX10_not_61 vX10_352 mX10_isSign ⟨rfl, rfl, by decide⟩ (okK10 (by omega)) rfl (Nat.le_of_ble_eq_true rfl) h.1 (by decide) rfl (BC_monoI h.2 (fun x4 N4 h => ?_))
      refine B_if_ne (tgt := 69) dX10_not_64 (by decide) rfl ⟨fun q => ?_, fun q => ?_⟩
      · replace h := h.1 q
        exact A_pick [1, 0] rfl h
      · replace h := h.2 q
        refine A_iload_n dX10_not_67 rfl rfl ?_
        exact A_iret dX10_not_68 ⟨rfl, _, rfl, h⟩
  · replace h := h.2 q
    refine A_aload_n dX10_not_10 rfl rfl ?_
    refine B_callV_I (av := []) rfl dX10_not_11 vX10_355 mX10_opens ⟨rfl, rfl, by decide⟩ (okK10 (by omega)) rfl (Nat.le_of_ble_eq_true rfl) h.1 (by decide) rfl (BC_monoI h.2 (fun x5 N5 h => ?_))
    refine B_if_ne (tgt := 19) dX10_not_14 (by decide) rfl ⟨fun q => ?_, fun q => ?_⟩
    · replace h := h.1 q
      refine A_aload_n dX10_not_19 rfl rfl ?_
      obtain ⟨L20, qL20, h⟩ := h
      refine B_callV_I (av := []) rfl dX10_not_20 vX10_375 mX10_not ⟨rfl, rfl, by decide⟩ (okK10 (by omega)) rfl (Nat.le_of_ble_eq_true rfl) qL20 (by decide) rfl (BC_monoI h (fun x6 N6 h => ?_))
      refine A_istore_n (ls' := [(1, _), (0, _)]) dX10_not_23 rfl (by decide) rfl ?_
      refine A_aload_n dX10_not_24 rfl rfl ?_
      refine A_dup dX10_not_25 rfl ?_
      refine A_getI dX10_not_26 fX10_309 rfl (okK10 (by omega)) ?_
      refine A_iconst (v := 1) dX10_not_29 rfl ?_
      refine A_isub dX10_not_30 ?_
      refine B_putI dX10_not_31 fX10_309 (by decide) (okK10 (by omega)) (fun M7 eM7 => ?_)
      replace h := h M7 eM7
      refine A_iload_n dX10_not_34 rfl rfl ?_
      refine B_if_ne (tgt := 42) dX10_not_35 (by decide) rfl ⟨fun q => ?_, fun q => ?_⟩
      · replace h := h.1 q
        refine A_iconst (v := 0) dX10_not_42 rfl ?_
        exact A_iret dX10_not_43 ⟨rfl, _, rfl, h⟩
      · replace h := h.2 q
        refine A_iconst (v := 1) dX10_not_38 rfl ?_
        refine A_goto (tgt := 43) dX10_not_39 (by decide) ?_
        exact A_iret dX10_not_43 ⟨rfl, _, rfl, h⟩
    · replace h := h.2 q
      refine A_iconst (v := 0) dX10_not_17 rfl ?_
      exact A_iret dX10_not_18 ⟨rfl, _, rfl, h⟩
set_option maxRecDepth 100000 in
set_option maxHeartbeats 4000000 in
theorem vc_X10_not_69 {G : GT} {Lv : Nat} {l1 : Int} {N : NN} {K : Int → NN → Prop}  (h : (((wL (N 10 0 34)) ≠ 60 → (2 < Lv ∧ (C_X10_next G  N (fun N1 => (∃ L91 : Nat, L91 < Lv ∧ (C_X10_added G L91  N1 (fun x2 N2 => (((wI l1) ≠ (wI x2) → K 0 N2) ∧ (¬ ((wI l1) ≠ (wI x2)) → K 1 N2))))))))) ∧ (¬ ((wL (N 10 0 34)) ≠ 60) → (2 < Lv ∧ (C_X10_next G  N (fun N3 => (∃ L91 : Nat, L91 < Lv ∧ (C_X10_added G L91  N3 (fun x4 N4 => (((wI x4) ≤ (wI l1) → K 0 N4) ∧ (¬ ((wI x4) ≤ (wI l1)) → K 1 N4))))))))))) : W_X10_not G Lv K 69 [(0, vR 10 0), (1, vI l1)] [] N := by
  refine A_aload_n dX10_not_69 rfl rfl ?_
  refine A_getL dX10_not_70 fX10_288 rfl (okK10 (by omega)) ?_
  refine A_ldc2 (x := 60) dX10_not_73 kX10_381 (by decide +kernel) ?_
  refine B_lcmp_ne (tgt := 84) dX10_not_76 rfl dX10_not_77 (by decide) rfl (wlitL (by decide) (by decide)) ⟨fun q => ?_, fun q => ?_⟩
  · replace h := h.1 q
    refine A_iconst (v := 0) dX10_not_84 rfl ?_
    refine A_istore_n (ls' := [(2, _), (0, _), (1, _)]) dX10_not_85 rfl (by decide) rfl ?_
    refine A_aload_n dX10_not_86 rfl rfl ?_
    refine B_callV_V (av := []) rfl dX10_not_87 vX10_315 mX10_next ⟨rfl, rfl, by decide⟩ (okK10 (by omega)) rfl (Nat.le_of_ble_eq_true rfl) h.1 (by decide) rfl (BC_monoV h.2 (fun N1 h => ?_))
    refine A_aload_n dX10_not_90 rfl rfl ?_
    obtain ⟨L91, qL91, h⟩ := h
    refine B_callV_I (av := []) rfl dX10_not_91 vX10_378 mX10_added ⟨rfl, rfl, by decide⟩ (okK10 (by omega)) rfl (Nat.le_of_ble_eq_true rfl) qL91 (by decide) rfl (BC_monoI h (fun x2 N2 h => ?_))
    refine A_istore_n (ls' := [(3, _), (2, _), (0, _), (1, _)]) dX10_not_94 rfl (by decide) rfl ?_
    refine A_iload_n dX10_not_95 rfl rfl ?_
    refine B_if_eq (tgt := 107) dX10_not_96 (by decide) (wlitI (by decide) (by decide)) ⟨fun q => ?_, fun q => absurd (by decide) q⟩
    refine A_iload_n dX10_not_107 rfl rfl ?_
    refine A_iload_n dX10_not_108 rfl rfl ?_
    refine B_icmp_ne (tgt := 116) dX10_not_109 (by decide) rfl rfl ⟨fun q => ?_, fun q => ?_⟩
    · replace h := h.1 q
      refine A_iconst (v := 0) dX10_not_116 rfl ?_
      exact A_iret dX10_not_117 ⟨rfl, _, rfl, h⟩
    · replace h := h.2 q
      refine A_iconst (v := 1) dX10_not_112 rfl ?_
      refine A_goto (tgt := 117) dX10_not_113 (by decide) ?_
      exact A_iret dX10_not_117 ⟨rfl, _, rfl, h⟩
  · replace h := h.2 q
    refine A_iconst (v := 1) dX10_not_80 rfl ?_
    refine A_goto (tgt := 85) dX10_not_81 (by decide) ?_
    refine A_istore_n (ls' := [(2, _), (0, _), (1, _)]) dX10_not_85 rfl (by decide) rfl ?_
    refine A_aload_n dX10_not_86 rfl rfl ?_
    refine B_callV_V (av := []) rfl dX10_not_87 vX10_315 mX10_next ⟨rfl, rfl, by decide⟩ (okK10 (by omega)) rfl (Nat.le_of_ble_eq_true rfl) h.1 (by decide) rfl (BC_monoV h.2 (fun N3 h => ?_))
    refine A_aload_n dX10_not_90 rfl rfl ?_
    obtain ⟨L91, qL91, h⟩ := h
    refine B_callV_I (av := []) rfl dX10_not_91 vX10_378 mX10_added ⟨rfl, rfl, by decide⟩ (okK10 (by omega)) rfl (Nat.le_of_ble_eq_true rfl) qL91 (by decide) rfl (BC_monoI h (fun x4 N4 h => ?_))
    refine A_istore_n (ls' := [(3, _), (2, _), (0, _), (1, _)]) dX10_not_94 rfl (by decide) rfl ?_
    refine A_iload_n dX10_not_95 rfl rfl ?_
    refine B_if_eq (tgt := 107) dX10_not_96 (by decide) (wlitI (by decide) (by decide)) ⟨fun q => absurd q (by decide), fun q => ?_⟩
    refine A_iload_n dX10_not_99 rfl rfl ?_
    refine A_iload_n dX10_not_100 rfl rfl ?_
    refine B_icmp_ge (tgt := 116) dX10_not_101 (by decide) rfl rfl ⟨fun q => ?_, fun q => ?_⟩
    · replace h := h.1 q
      refine A_iconst (v := 0) dX10_not_116 rfl ?_
      exact A_iret dX10_not_117 ⟨rfl, _, rfl, h⟩
    · replace h := h.2 q
      refine A_goto (tgt := 112) dX10_not_104 (by decide) ?_
      refine A_iconst (v := 1) dX10_not_112 rfl ?_
      refine A_goto (tgt := 117) dX10_not_113 (by decide) ?_
      exact A_iret dX10_not_117 ⟨rfl, _, rfl, h⟩
set_option maxRecDepth 100000 in
set_option maxHeartbeats 4000000 in
theorem vc_X10_both {G : GT} {Lv : Nat} {N : NN} {K : Int → NN → Prop}  (h : (∃ L1 : Nat, L1 < Lv ∧ (C_X10_not G L1  N (fun x1 N1 => W_X10_both G Lv K 5 [(0, vR 10 0), (1, vI x1)] [] N1)))) : C_X10_both G Lv N K := by
  refine Ctr.ofAW RX10 false rfl (by decide +kernel) (fun q => by cases q) (Nat.le_of_ble_eq_true rfl) (Nat.le_refl _) ?_
  refine A_aload_n dX10_both_0 rfl rfl ?_
  obtain ⟨L1, qL1, h⟩ := h
  refine B_callV_I (av := []) rfl dX10_both_1 vX10_375 mX10_not ⟨rfl, rfl, by decide⟩ (okK10 (by omega)) rfl (Nat.le_of_ble_eq_true rfl) qL1 (by decide) rfl (BC_monoI h (fun x1 N1 h => ?_))
  refine A_istore_n (ls' := [(1, _), (0, _)]) dX10_both_4 rfl (by decide) rfl ?_
  exact A_pick [1, 0] rfl h
set_option maxRecDepth 100000 in
set_option maxHeartbeats 4000000 in
theorem vc_X10_both_5 {G : GT} {Lv : Nat} {l1 : Int} {N : NN} {K : Int → NN → Prop}  (h : (1 < Lv ∧ (C_X10_isWord G 1111 N (fun x1 N1 => (((wI x1) = 0 → K l1 N1) ∧ (¬ ((wI x1) = 0) → (2 < Lv ∧ (C_X10_next G  N1 (fun N2 => (∃ L20 : Nat, L20 < Lv ∧ (C_X10_not G L20  N2 (fun x3 N3 => (((wI l1) = 0 → W_X10_both G Lv K 5 [(0, vR 10 0), (1, vI 0)] [] N3) ∧ (¬ ((wI l1) = 0) → (((wI x3) = 0 → W_X10_both G Lv K 5 [(0, vR 10 0), (1, vI 0)] [] N3) ∧ (¬ ((wI x3) = 0) → W_X10_both G Lv K 5 [(0, vR 10 0), (1, vI 1)] [] N3)))))))))))))))) : W_X10_both G Lv K 5 [(0, vR 10 0), (1, vI l1)] [] N := by
  refine A_aload_n dX10_both_5 rfl rfl ?_
  refine A_ldc2 (x := 1111) dX10_both_6 kX10_383 (by decide +kernel) ?_
  refine B_callV_I (av := [vL 1111]) rfl dX10_both_9 vX10_320 mX10_isWord ⟨rfl, rfl, by decide⟩ (okK10 (by omega)) rfl (Nat.le_of_ble_eq_true rfl) h.1 (by decide) rfl (BC_monoI h.2 (fun x1 N1 h => ?_))
  refine B_if_eq (tgt := 41) dX10_both_12 (by decide) rfl ⟨fun q => ?_, fun q => ?_⟩
  · replace h := h.1 q
    refine A_iload_n dX10_both_41 rfl rfl ?_
    exact A_iret dX10_both_42 ⟨rfl, _, rfl, h⟩
  · replace h := h.2 q
    refine A_aload_n dX10_both_15 rfl rfl ?_
    refine B_callV_V (av := []) rfl dX10_both_16 vX10_315 mX10_next ⟨rfl, rfl, by decide⟩ (okK10 (by omega)) rfl (Nat.le_of_ble_eq_true rfl) h.1 (by decide) rfl (BC_monoV h.2 (fun N2 h => ?_))
    refine A_aload_n dX10_both_19 rfl rfl ?_
    obtain ⟨L20, qL20, h⟩ := h
    refine B_callV_I (av := []) rfl dX10_both_20 vX10_375 mX10_not ⟨rfl, rfl, by decide⟩ (okK10 (by omega)) rfl (Nat.le_of_ble_eq_true rfl) qL20 (by decide) rfl (BC_monoI h (fun x3 N3 h => ?_))
    refine A_istore_n (ls' := [(2, _), (0, _), (1, _)]) dX10_both_23 rfl (by decide) rfl ?_
    refine A_iload_n dX10_both_24 rfl rfl ?_
    refine B_if_eq (tgt := 36) dX10_both_25 (by decide) rfl ⟨fun q => ?_, fun q => ?_⟩
    · replace h := h.1 q
      refine A_iconst (v := 0) dX10_both_36 rfl ?_
      refine A_istore_n (ls' := [(1, _), (2, _), (0, _)]) dX10_both_37 rfl (by decide) rfl ?_
      refine A_goto (tgt := 5) dX10_both_38 (by decide) ?_
      exact A_pick [2, 0] rfl h
    · replace h := h.2 q
      refine A_iload_n dX10_both_28 rfl rfl ?_
      refine B_if_eq (tgt := 36) dX10_both_29 (by decide) rfl ⟨fun q => ?_, fun q => ?_⟩
      · replace h := h.1 q
        refine A_iconst (v := 0) dX10_both_36 rfl ?_
        refine A_istore_n (ls' := [(1, _), (2, _), (0, _)]) dX10_both_37 rfl (by decide) rfl ?_
        refine A_goto (tgt := 5) dX10_both_38 (by decide) ?_
        exact A_pick [2, 0] rfl h
      · replace h := h.2 q
        refine A_iconst (v := 1) dX10_both_32 rfl ?_
        refine A_goto (tgt := 37) dX10_both_33 (by decide) ?_
        refine A_istore_n (ls' := [(1, _), (2, _), (0, _)]) dX10_both_37 rfl (by decide) rfl ?_
        refine A_goto (tgt := 5) dX10_both_38 (by decide) ?_
        exact A_pick [2, 0] rfl h
set_option maxRecDepth 100000 in
set_option maxHeartbeats 4000000 in
theorem vc_X10_either {G : GT} {Lv : Nat} {N : NN} {K : Int → NN → Prop}  (h : (∃ L1 : Nat, L1 < Lv ∧ (C_X10_both G L1  N (fun x1 N1 => W_X10_either G Lv K 5 [(0, vR 10 0), (1, vI x1)] [] N1)))) : C_X10_either G Lv N K := by
  refine Ctr.ofAW RX10 false rfl (by decide +kernel) (fun q => by cases q) (Nat.le_of_ble_eq_true rfl) (Nat.le_refl _) ?_
  refine A_aload_n dX10_either_0 rfl rfl ?_
  obtain ⟨L1, qL1, h⟩ := h
  refine B_callV_I (av := []) rfl dX10_either_1 vX10_385 mX10_both ⟨rfl, rfl, by decide⟩ (okK10 (by omega)) rfl (Nat.le_of_ble_eq_true rfl) qL1 (by decide) rfl (BC_monoI h (fun x1 N1 h => ?_))
  refine A_istore_n (ls' := [(1, _), (0, _)]) dX10_either_4 rfl (by decide) rfl ?_
  exact A_pick [1, 0] rfl h
set_option maxRecDepth 100000 in
set_option maxHeartbeats 4000000 in
theorem vc_X10_either_5 {G : GT} {Lv : Nat} {l1 : Int} {N : NN} {K : Int → NN → Prop}  (h : (1 < Lv ∧ (C_X10_isWord G 423 N (fun x1 N1 => (((wI x1) = 0 → K l1 N1) ∧ (¬ ((wI x1) = 0) → (2 < Lv ∧ (C_X10_next G  N1 (fun N2 => (∃ L20 : Nat, L20 < Lv ∧ (C_X10_both G L20  N2 (fun x3 N3 => (((wI l1) ≠ 0 → W_X10_either G Lv K 5 [(0, vR 10 0), (1, vI 1)] [] N3) ∧ (¬ ((wI l1) ≠ 0) → (((wI x3) = 0 → W_X10_either G Lv K 5 [(0, vR 10 0), (1, vI 0)] [] N3) ∧ (¬ ((wI x3) = 0) → W_X10_either G Lv K 5 [(0, vR 10 0), (1, vI 1)] [] N3)))))))))))))))) : W_X10_either G Lv K 5 [(0, vR 10 0), (1, vI l1)] [] N := by
  refine A_aload_n dX10_either_5 rfl rfl ?_
  refine A_ldc2 (x := 423) dX10_either_6 kX10_388 (by decide +kernel) ?_
  refine B_callV_I (av := [vL 423]) rfl dX10_either_9 vX10_320 mX10_isWord ⟨rfl, rfl, by decide⟩ (okK10 (by omega)) rfl (Nat.le_of_ble_eq_true rfl) h.1 (by decide) rfl (BC_monoI h.2 (fun x1 N1 h => ?_))
  refine B_if_eq (tgt := 41) dX10_either_12 (by decide) rfl ⟨fun q => ?_, fun q => ?_⟩
  · replace h := h.1 q
    refine A_iload_n dX10_either_41 rfl rfl ?_
    exact A_iret dX10_either_42 ⟨rfl, _, rfl, h⟩
  · replace h := h.2 q
    refine A_aload_n dX10_either_15 rfl rfl ?_
    refine B_callV_V (av := []) rfl dX10_either_16 vX10_315 mX10_next ⟨rfl, rfl, by decide⟩ (okK10 (by omega)) rfl (Nat.le_of_ble_eq_true rfl) h.1 (by decide) rfl (BC_monoV h.2 (fun N2 h => ?_))
    refine A_aload_n dX10_either_19 rfl rfl ?_
    obtain ⟨L20, qL20, h⟩ := h
    refine B_callV_I (av := []) rfl dX10_either_20 vX10_385 mX10_both ⟨rfl, rfl, by decide⟩ (okK10 (by omega)) rfl (Nat.le_of_ble_eq_true rfl) qL20 (by decide) rfl (BC_monoI h (fun x3 N3 h => ?_))
    refine A_istore_n (ls' := [(2, _), (0, _), (1, _)]) dX10_either_23 rfl (by decide) rfl ?_
    refine A_iload_n dX10_either_24 rfl rfl ?_
    refine B_if_ne (tgt := 32) dX10_either_25 (by decide) rfl ⟨fun q => ?_, fun q => ?_⟩
    · replace h := h.1 q
      refine A_iconst (v := 1) dX10_either_32 rfl ?_
      refine A_goto (tgt := 37) dX10_either_33 (by decide) ?_
      refine A_istore_n (ls' := [(1, _), (2, _), (0, _)]) dX10_either_37 rfl (by decide) rfl ?_
      refine A_goto (tgt := 5) dX10_either_38 (by decide) ?_
      exact A_pick [2, 0] rfl h
    · replace h := h.2 q
      refine A_iload_n dX10_either_28 rfl rfl ?_
      refine B_if_eq (tgt := 36) dX10_either_29 (by decide) rfl ⟨fun q => ?_, fun q => ?_⟩
      · replace h := h.1 q
        refine A_iconst (v := 0) dX10_either_36 rfl ?_
        refine A_istore_n (ls' := [(1, _), (2, _), (0, _)]) dX10_either_37 rfl (by decide) rfl ?_
        refine A_goto (tgt := 5) dX10_either_38 (by decide) ?_
        exact A_pick [2, 0] rfl h
      · replace h := h.2 q
        refine A_iconst (v := 1) dX10_either_32 rfl ?_
        refine A_goto (tgt := 37) dX10_either_33 (by decide) ?_
        refine A_istore_n (ls' := [(1, _), (2, _), (0, _)]) dX10_either_37 rfl (by decide) rfl ?_
        refine A_goto (tgt := 5) dX10_either_38 (by decide) ?_
        exact A_pick [2, 0] rfl h
set_option maxRecDepth 100000 in
set_option maxHeartbeats 4000000 in
theorem vc_X10_part {G : GT} {a1 : Int} {N : NN} {K : Int → NN → Prop}  (h : (C_X10_isWord G a1 N (fun x1 N1 => (((wI x1) ≠ 0 → W_X10_part G K 12 [(0, vR 10 0)] [] N1) ∧ (¬ ((wI x1) ≠ 0) → (C_X10_fail G  N1 (fun N2 => W_X10_part G K 12 [(0, vR 10 0)] [] N2))))))) : C_X10_part G a1 N K := by
  refine Ctr.ofAW RX10 false rfl (by decide +kernel) (fun q => by cases q) (Nat.le_of_ble_eq_true rfl) (Nat.le_refl _) ?_
  refine A_aload_n dX10_part_0 rfl rfl ?_
  refine A_lload_n dX10_part_1 rfl rfl ?_
  refine B_callV_I (av := [vL a1]) rfl dX10_part_2 vX10_320 mX10_isWord ⟨rfl, rfl, by decide⟩ (okK10 (by omega)) rfl (Nat.le_of_ble_eq_true rfl) (by decide) (by decide) rfl (BC_monoI h (fun x1 N1 h => ?_))
  refine B_if_ne (tgt := 12) dX10_part_5 (by decide) rfl ⟨fun q => ?_, fun q => ?_⟩
  · replace h := h.1 q
    exact A_pick [0] rfl h
  · replace h := h.2 q
    refine A_aload_n dX10_part_8 rfl rfl ?_
    refine B_callV_V (av := []) rfl dX10_part_9 vX10_312 mX10_fail ⟨rfl, rfl, by decide⟩ (okK10 (by omega)) rfl (Nat.le_of_ble_eq_true rfl) (by decide) (by decide) rfl (BC_monoV h (fun N2 h => ?_))
    exact A_pick [0] rfl h
set_option maxRecDepth 100000 in
set_option maxHeartbeats 4000000 in
theorem vc_X10_part_12 {G : GT} {N : NN} {K : Int → NN → Prop}  (h : (((wI (N 10 0 37)) ≠ 0 → W_X10_part G K 23 [(0, vR 10 0)] [] N) ∧ (¬ ((wI (N 10 0 37)) ≠ 0) → (C_X10_next G  N (fun N1 => W_X10_part G K 23 [(0, vR 10 0)] [] N1))))) : W_X10_part G K 12 [(0, vR 10 0)] [] N := by
  refine A_aload_n dX10_part_12 rfl rfl ?_
  refine A_getI dX10_part_13 fX10_302 rfl (okK10 (by omega)) ?_
  refine B_if_ne (tgt := 23) dX10_part_16 (by decide) rfl ⟨fun q => ?_, fun q => ?_⟩
  · replace h := h.1 q
    exact A_pick [0] rfl h
  · replace h := h.2 q
    refine A_aload_n dX10_part_19 rfl rfl ?_
    refine B_callV_V (av := []) rfl dX10_part_20 vX10_315 mX10_next ⟨rfl, rfl, by decide⟩ (okK10 (by omega)) rfl (Nat.le_of_ble_eq_true rfl) (by decide) (by decide) rfl (BC_monoV h (fun N1 h => ?_))
    exact A_pick [0] rfl h
set_option maxRecDepth 100000 in
set_option maxHeartbeats 4000000 in
theorem vc_X10_part_23 {G : GT} {N : NN} {K : Int → NN → Prop}  (h : (((wI (N 10 0 37)) = 0 → (∃ L35 : Nat, L35 < 66 ∧ (C_X10_either G L35  N (fun x1 N1 => (C_X10_isSign G 59 N1 (fun x2 N2 => (((wI x2) ≠ 0 → (((wI (N2 10 0 37)) ≠ 0 → K x1 N2) ∧ (¬ ((wI (N2 10 0 37)) ≠ 0) → (C_X10_next G  N2 (fun N3 => K x1 N3))))) ∧ (¬ ((wI x2) ≠ 0) → (C_X10_fail G  N2 (fun N4 => (((wI (N4 10 0 37)) ≠ 0 → K x1 N4) ∧ (¬ ((wI (N4 10 0 37)) ≠ 0) → (C_X10_next G  N4 (fun N5 => K x1 N5)))))))))))))) ∧ (¬ ((wI (N 10 0 37)) = 0) → (C_X10_isSign G 59 N (fun x6 N6 => (((wI x6) ≠ 0 → (((wI (N6 10 0 37)) ≠ 0 → K 0 N6) ∧ (¬ ((wI (N6 10 0 37)) ≠ 0) → (C_X10_next G  N6 (fun N7 => K 0 N7))))) ∧ (¬ ((wI x6) ≠ 0) → (C_X10_fail G  N6 (fun N8 => (((wI (N8 10 0 37)) ≠ 0 → K 0 N8) ∧ (¬ ((wI (N8 10 0 37)) ≠ 0) → (C_X10_next G  N8 (fun N9 => K 0 N9))))))))))))) : W_X10_part G K 23 [(0, vR 10 0)] [] N := by
  refine A_aload_n dX10_part_23 rfl rfl ?_
  refine A_getI dX10_part_24 fX10_302 rfl (okK10 (by omega)) ?_
  refine B_if_eq (tgt := 34) dX10_part_27 (by decide) rfl ⟨fun q => ?_, fun q => ?_⟩
  · replace h := h.1 q
    refine A_aload_n dX10_part_34 rfl rfl ?_
    obtain ⟨L35, qL35, h⟩ := h
    refine B_callV_I (av := []) rfl dX10_part_35 vX10_362 mX10_either ⟨rfl, rfl, by decide⟩ (okK10 (by omega)) rfl (Nat.le_of_ble_eq_true rfl) qL35 (by decide) rfl (BC_monoI h (fun x1 N1 h => ?_))
    refine A_istore_n (ls' := [(3, _), (0, _)]) dX10_part_38 rfl (by decide) rfl ?_
    refine A_aload_n dX10_part_39 rfl rfl ?_
    refine A_bipush (v := 59) dX10_part_40 (by decide +kernel) ?_
    refine B_callV_I (av := [vI 59]) rfl dX10_part_42 vX10_352 mX10_isSign ⟨rfl, rfl, by decide⟩ (okK10 (by omega)) rfl (Nat.le_of_ble_eq_true rfl) (by decide) (by decide) rfl (BC_monoI h (fun x2 N2 h => ?_))
    refine B_if_ne (tgt := 52) dX10_part_45 (by decide) rfl ⟨fun q => ?_, fun q => ?_⟩
    · replace h := h.1 q
      refine A_aload_n dX10_part_52 rfl rfl ?_
      refine A_getI dX10_part_53 fX10_302 rfl (okK10 (by omega)) ?_
      refine B_if_ne (tgt := 63) dX10_part_56 (by decide) rfl ⟨fun q => ?_, fun q => ?_⟩
      · replace h := h.1 q
        refine A_iload_n dX10_part_63 rfl rfl ?_
        exact A_iret dX10_part_64 ⟨rfl, _, rfl, h⟩
      · replace h := h.2 q
        refine A_aload_n dX10_part_59 rfl rfl ?_
        refine B_callV_V (av := []) rfl dX10_part_60 vX10_315 mX10_next ⟨rfl, rfl, by decide⟩ (okK10 (by omega)) rfl (Nat.le_of_ble_eq_true rfl) (by decide) (by decide) rfl (BC_monoV h (fun N3 h => ?_))
        refine A_iload_n dX10_part_63 rfl rfl ?_
        exact A_iret dX10_part_64 ⟨rfl, _, rfl, h⟩
    · replace h := h.2 q
      refine A_aload_n dX10_part_48 rfl rfl ?_
      refine B_callV_V (av := []) rfl dX10_part_49 vX10_312 mX10_fail ⟨rfl, rfl, by decide⟩ (okK10 (by omega)) rfl (Nat.le_of_ble_eq_true rfl) (by decide) (by decide) rfl (BC_monoV h (fun N4 h => ?_))
      refine A_aload_n dX10_part_52 rfl rfl ?_
      refine A_getI dX10_part_53 fX10_302 rfl (okK10 (by omega)) ?_
      refine B_if_ne (tgt := 63) dX10_part_56 (by decide) rfl ⟨fun q => ?_, fun q => ?_⟩
      · replace h := h.1 q
        refine A_iload_n dX10_part_63 rfl rfl ?_
        exact A_iret dX10_part_64 ⟨rfl, _, rfl, h⟩
      · replace h := h.2 q
        refine A_aload_n dX10_part_59 rfl rfl ?_
        refine B_callV_V (av := []) rfl dX10_part_60 vX10_315 mX10_next ⟨rfl, rfl, by decide⟩ (okK10 (by omega)) rfl (Nat.le_of_ble_eq_true rfl) (by decide) (by decide) rfl (BC_monoV h (fun N5 h => ?_))
        refine A_iload_n dX10_part_63 rfl rfl ?_
        exact A_iret dX10_part_64 ⟨rfl, _, rfl, h⟩
  · replace h := h.2 q
    refine A_iconst (v := 0) dX10_part_30 rfl ?_
    refine A_goto (tgt := 38) dX10_part_31 (by decide) ?_
    refine A_istore_n (ls' := [(3, _), (0, _)]) dX10_part_38 rfl (by decide) rfl ?_
    refine A_aload_n dX10_part_39 rfl rfl ?_
    refine A_bipush (v := 59) dX10_part_40 (by decide +kernel) ?_
    refine B_callV_I (av := [vI 59]) rfl dX10_part_42 vX10_352 mX10_isSign ⟨rfl, rfl, by decide⟩ (okK10 (by omega)) rfl (Nat.le_of_ble_eq_true rfl) (by decide) (by decide) rfl (BC_monoI h (fun x6 N6 h => ?_))
    refine B_if_ne (tgt := 52) dX10_part_45 (by decide) rfl ⟨fun q => ?_, fun q => ?_⟩
    · replace h := h.1 q
      refine A_aload_n dX10_part_52 rfl rfl ?_
      refine A_getI dX10_part_53 fX10_302 rfl (okK10 (by omega)) ?_
      refine B_if_ne (tgt := 63) dX10_part_56 (by decide) rfl ⟨fun q => ?_, fun q => ?_⟩
      · replace h := h.1 q
        refine A_iload_n dX10_part_63 rfl rfl ?_
        exact A_iret dX10_part_64 ⟨rfl, _, rfl, h⟩
      · replace h := h.2 q
        refine A_aload_n dX10_part_59 rfl rfl ?_
        refine B_callV_V (av := []) rfl dX10_part_60 vX10_315 mX10_next ⟨rfl, rfl, by decide⟩ (okK10 (by omega)) rfl (Nat.le_of_ble_eq_true rfl) (by decide) (by decide) rfl (BC_monoV h (fun N7 h => ?_))
        refine A_iload_n dX10_part_63 rfl rfl ?_
        exact A_iret dX10_part_64 ⟨rfl, _, rfl, h⟩
    · replace h := h.2 q
      refine A_aload_n dX10_part_48 rfl rfl ?_
      refine B_callV_V (av := []) rfl dX10_part_49 vX10_312 mX10_fail ⟨rfl, rfl, by decide⟩ (okK10 (by omega)) rfl (Nat.le_of_ble_eq_true rfl) (by decide) (by decide) rfl (BC_monoV h (fun N8 h => ?_))
      refine A_aload_n dX10_part_52 rfl rfl ?_
      refine A_getI dX10_part_53 fX10_302 rfl (okK10 (by omega)) ?_
      refine B_if_ne (tgt := 63) dX10_part_56 (by decide) rfl ⟨fun q => ?_, fun q => ?_⟩
      · replace h := h.1 q
        refine A_iload_n dX10_part_63 rfl rfl ?_
        exact A_iret dX10_part_64 ⟨rfl, _, rfl, h⟩
      · replace h := h.2 q
        refine A_aload_n dX10_part_59 rfl rfl ?_
        refine B_callV_V (av := []) rfl dX10_part_60 vX10_315 mX10_next ⟨rfl, rfl, by decide⟩ (okK10 (by omega)) rfl (Nat.le_of_ble_eq_true rfl) (by decide) (by decide) rfl (BC_monoV h (fun N9 h => ?_))
        refine A_iload_n dX10_part_63 rfl rfl ?_
        exact A_iret dX10_part_64 ⟨rfl, _, rfl, h⟩
set_option maxRecDepth 100000 in
set_option maxHeartbeats 4000000 in
theorem vc_X10_read {G : GT} {a1 : Int} {a2 : Int} {N : NN} {K : Int → NN → Prop}  (h : (∀ M1 : NN, M1 = up3 N 10 0 30 (160 * a1) → (∃ j2 : Nat, (wI a1) = (j2 : Int) ∧ j2 < 7 ∧ (∀ M3 : NN, M3 = up3 M1 10 0 31 (M1 58 0 j2) → (∀ M4 : NN, M4 = up3 M3 10 0 35 0 → (∀ M5 : NN, M5 = up3 M4 10 0 36 0 → (∀ M6 : NN, M6 = up3 M5 10 0 37 0 → (C_X10_next G  M6 (fun N7 => (C_X10_part G 119082 N7 (fun x8 N8 => (((wI (N8 10 0 37)) = 0 → (C_X10_part G 237470 N8 (fun x9 N9 => W_X10_read G K 64 [(0, vR 10 0), (2, vI a2), (3, vI x8)] [vI x9] N9))) ∧ (¬ ((wI (N8 10 0 37)) = 0) → W_X10_read G K 64 [(0, vR 10 0), (2, vI a2), (3, vI x8)] [vI 0] N8))))))))))))) : C_X10_read G a1 a2 N K := by
  refine Ctr.ofAW RX10 false rfl (by decide +kernel) (fun q => by cases q) (Nat.le_of_ble_eq_true rfl) (Nat.le_refl _) ?_
  refine A_aload_n dX10_read_0 rfl rfl ?_
  refine A_sipush (v := 160) dX10_read_1 (by decide +kernel) ?_
  refine A_iload_n dX10_read_4 rfl rfl ?_
  refine A_imul dX10_read_5 ?_
  refine B_putI dX10_read_6 fX10_273 (by decide) (okK10 (by omega)) (fun M1 eM1 => ?_)
  replace h := h M1 eM1
  refine A_aload_n dX10_read_9 rfl rfl ?_
  refine A_aload_n dX10_read_10 rfl rfl ?_
  refine A_getR (c2 := 58) (i2 := 0) dX10_read_11 fX10_72 rfl (okK10 (by omega)) rfl ?_
  refine A_iload_n dX10_read_14 rfl rfl ?_
  obtain ⟨j2, qj2, bj2, h⟩ := h
  refine A_iald (j := j2) dX10_read_15 (by decide) rfl (okK58 (by omega)) qj2 bj2 ?_
  refine B_putI dX10_read_16 fX10_270 (by decide) (okK10 (by omega)) (fun M3 eM3 => ?_)
  replace h := h M3 eM3
  refine A_aload_n dX10_read_19 rfl rfl ?_
  refine A_iconst (v := 0) dX10_read_20 rfl ?_
  refine B_putI dX10_read_21 fX10_276 (by decide) (okK10 (by omega)) (fun M4 eM4 => ?_)
  replace h := h M4 eM4
  refine A_aload_n dX10_read_24 rfl rfl ?_
  refine A_iconst (v := 0) dX10_read_25 rfl ?_
  refine B_putI dX10_read_26 fX10_309 (by decide) (okK10 (by omega)) (fun M5 eM5 => ?_)
  replace h := h M5 eM5
  refine A_aload_n dX10_read_29 rfl rfl ?_
  refine A_iconst (v := 0) dX10_read_30 rfl ?_
  refine B_putZ dX10_read_31 fX10_302 (by decide) (okK10 (by omega)) (by decide) (fun M6 eM6 => ?_)
  replace h := h M6 eM6
  refine A_aload_n dX10_read_34 rfl rfl ?_
  refine B_callV_V (av := []) rfl dX10_read_35 vX10_315 mX10_next ⟨rfl, rfl, by decide⟩ (okK10 (by omega)) rfl (Nat.le_of_ble_eq_true rfl) (by decide) (by decide) rfl (BC_monoV h (fun N7 h => ?_))
  refine A_aload_n dX10_read_38 rfl rfl ?_
  refine A_ldc2 (x := 119082) dX10_read_39 kX10_390 (by decide +kernel) ?_
  refine B_callV_I (av := [vL 119082]) rfl dX10_read_42 vX10_392 mX10_part ⟨rfl, rfl, by decide⟩ (okK10 (by omega)) rfl (Nat.le_of_ble_eq_true rfl) (by decide) (by decide) rfl (BC_monoI h (fun x8 N8 h => ?_))
  refine A_istore_n (ls' := [(3, _), (0, _), (1, _), (2, _)]) dX10_read_45 rfl (by decide) rfl ?_
  refine A_aload_n dX10_read_46 rfl rfl ?_
  refine A_getI dX10_read_47 fX10_302 rfl (okK10 (by omega)) ?_
  refine B_if_eq (tgt := 57) dX10_read_50 (by decide) rfl ⟨fun q => ?_, fun q => ?_⟩
  · replace h := h.1 q
    refine A_aload_n dX10_read_57 rfl rfl ?_
    refine A_ldc2 (x := 237470) dX10_read_58 kX10_396 (by decide +kernel) ?_
    refine B_callV_I (av := [vL 237470]) rfl dX10_read_61 vX10_392 mX10_part ⟨rfl, rfl, by decide⟩ (okK10 (by omega)) rfl (Nat.le_of_ble_eq_true rfl) (by decide) (by decide) rfl (BC_monoI h (fun x9 N9 h => ?_))
    exact A_pick [1, 3, 0] rfl h
  · replace h := h.2 q
    refine A_iconst (v := 0) dX10_read_53 rfl ?_
    refine A_goto (tgt := 64) dX10_read_54 (by decide) ?_
    exact A_pick [1, 3, 0] rfl h
set_option maxRecDepth 100000 in
set_option maxHeartbeats 4000000 in
theorem vc_X10_read_64 {G : GT} {l2 : Int} {l3 : Int} {s0 : Int} {N : NN} {K : Int → NN → Prop}  (h : (((wI (N 10 0 37)) = 0 → (C_X10_part G 2690359 N (fun x1 N1 => W_X10_read G K 84 [(0, vR 10 0), (2, vI l2), (3, vI l3), (4, vI s0)] [vI x1] N1))) ∧ (¬ ((wI (N 10 0 37)) = 0) → W_X10_read G K 84 [(0, vR 10 0), (2, vI l2), (3, vI l3), (4, vI s0)] [vI 0] N))) : W_X10_read G K 64 [(0, vR 10 0), (2, vI l2), (3, vI l3)] [vI s0] N := by
  refine A_istore (ls' := [(4, _), (0, _), (2, _), (3, _)]) dX10_read_64 (by decide) rfl ?_
  refine A_aload_n dX10_read_66 rfl rfl ?_
  refine A_getI dX10_read_67 fX10_302 rfl (okK10 (by omega)) ?_
  refine B_if_eq (tgt := 77) dX10_read_70 (by decide) rfl ⟨fun q => ?_, fun q => ?_⟩
  · replace h := h.1 q
    refine A_aload_n dX10_read_77 rfl rfl ?_
    refine A_ldc2 (x := 2690359) dX10_read_78 kX10_398 (by decide +kernel) ?_
    refine B_callV_I (av := [vL 2690359]) rfl dX10_read_81 vX10_392 mX10_part ⟨rfl, rfl, by decide⟩ (okK10 (by omega)) rfl (Nat.le_of_ble_eq_true rfl) (by decide) (by decide) rfl (BC_monoI h (fun x1 N1 h => ?_))
    exact A_pick [1, 2, 3, 0] rfl h
  · replace h := h.2 q
    refine A_iconst (v := 0) dX10_read_73 rfl ?_
    refine A_goto (tgt := 84) dX10_read_74 (by decide) ?_
    exact A_pick [1, 2, 3, 0] rfl h
set_option maxRecDepth 100000 in
set_option maxHeartbeats 4000000 in
theorem vc_X10_read_84 {G : GT} {l2 : Int} {l3 : Int} {l4 : Int} {s0 : Int} {N : NN} {K : Int → NN → Prop}  (h : (((wI (N 10 0 37)) ≠ 0 → (((wI l2) ≠ 0 → (((wI l2) ≠ 1 → K s0 N) ∧ (¬ ((wI l2) ≠ 1) → K l4 N))) ∧ (¬ ((wI l2) ≠ 0) → K l3 N))) ∧ (¬ ((wI (N 10 0 37)) ≠ 0) → (((wI (N 10 0 32)) = 0 → (((wI l2) ≠ 0 → (((wI l2) ≠ 1 → K s0 N) ∧ (¬ ((wI l2) ≠ 1) → K l4 N))) ∧ (¬ ((wI l2) ≠ 0) → K l3 N))) ∧ (¬ ((wI (N 10 0 32)) = 0) → (C_X10_fail G  N (fun N1 => (((wI l2) ≠ 0 → (((wI l2) ≠ 1 → K s0 N1) ∧ (¬ ((wI l2) ≠ 1) → K l4 N1))) ∧ (¬ ((wI l2) ≠ 0) → K l3 N1))))))))) : W_X10_read G K 84 [(0, vR 10 0), (2, vI l2), (3, vI l3), (4, vI l4)] [vI s0] N := by
  refine A_istore (ls' := [(5, _), (0, _), (2, _), (3, _), (4, _)]) dX10_read_84 (by decide) rfl ?_
  refine A_aload_n dX10_read_86 rfl rfl ?_
  refine A_getI dX10_read_87 fX10_302 rfl (okK10 (by omega)) ?_
  refine B_if_ne (tgt := 104) dX10_read_90 (by decide) rfl ⟨fun q => ?_, fun q => ?_⟩
  · replace h := h.1 q
    refine A_iload_n dX10_read_104 rfl rfl ?_
    refine B_if_ne (tgt := 112) dX10_read_105 (by decide) rfl ⟨fun q => ?_, fun q => ?_⟩
    · replace h := h.1 q
      refine A_iload_n dX10_read_112 rfl rfl ?_
      refine A_iconst (v := 1) dX10_read_113 rfl ?_
      refine B_icmp_ne (tgt := 122) dX10_read_114 (by decide) rfl (wlitI (by decide) (by decide)) ⟨fun q => ?_, fun q => ?_⟩
      · replace h := h.1 q
        refine A_iload dX10_read_122 rfl ?_
        exact A_iret dX10_read_124 ⟨rfl, _, rfl, h⟩
      · replace h := h.2 q
        refine A_iload dX10_read_117 rfl ?_
        refine A_goto (tgt := 124) dX10_read_119 (by decide) ?_
        exact A_iret dX10_read_124 ⟨rfl, _, rfl, h⟩
    · replace h := h.2 q
      refine A_iload_n dX10_read_108 rfl rfl ?_
      refine A_goto (tgt := 124) dX10_read_109 (by decide) ?_
      exact A_iret dX10_read_124 ⟨rfl, _, rfl, h⟩
  · replace h := h.2 q
    refine A_aload_n dX10_read_93 rfl rfl ?_
    refine A_getI dX10_read_94 fX10_285 rfl (okK10 (by omega)) ?_
    refine B_if_eq (tgt := 104) dX10_read_97 (by decide) rfl ⟨fun q => ?_, fun q => ?_⟩
    · replace h := h.1 q
      refine A_iload_n dX10_read_104 rfl rfl ?_
      refine B_if_ne (tgt := 112) dX10_read_105 (by decide) rfl ⟨fun q => ?_, fun q => ?_⟩
      · replace h := h.1 q
        refine A_iload_n dX10_read_112 rfl rfl ?_
        refine A_iconst (v := 1) dX10_read_113 rfl ?_
        refine B_icmp_ne (tgt := 122) dX10_read_114 (by decide) rfl (wlitI (by decide) (by decide)) ⟨fun q => ?_, fun q => ?_⟩
        · replace h := h.1 q
          refine A_iload dX10_read_122 rfl ?_
          exact A_iret dX10_read_124 ⟨rfl, _, rfl, h⟩
        · replace h := h.2 q
          refine A_iload dX10_read_117 rfl ?_
          refine A_goto (tgt := 124) dX10_read_119 (by decide) ?_
          exact A_iret dX10_read_124 ⟨rfl, _, rfl, h⟩
      · replace h := h.2 q
        refine A_iload_n dX10_read_108 rfl rfl ?_
        refine A_goto (tgt := 124) dX10_read_109 (by decide) ?_
        exact A_iret dX10_read_124 ⟨rfl, _, rfl, h⟩
    · replace h := h.2 q
      refine A_aload_n dX10_read_100 rfl rfl ?_
      refine B_callV_V (av := []) rfl dX10_read_101 vX10_312 mX10_fail ⟨rfl, rfl, by decide⟩ (okK10 (by omega)) rfl (Nat.le_of_ble_eq_true rfl) (by decide) (by decide) rfl (BC_monoV h (fun N1 h => ?_))
      refine A_iload_n dX10_read_104 rfl rfl ?_
      refine B_if_ne (tgt := 112) dX10_read_105 (by decide) rfl ⟨fun q => ?_, fun q => ?_⟩
      · replace h := h.1 q
        refine A_iload_n dX10_read_112 rfl rfl ?_
        refine A_iconst (v := 1) dX10_read_113 rfl ?_
        refine B_icmp_ne (tgt := 122) dX10_read_114 (by decide) rfl (wlitI (by decide) (by decide)) ⟨fun q => ?_, fun q => ?_⟩
        · replace h := h.1 q
          refine A_iload dX10_read_122 rfl ?_
          exact A_iret dX10_read_124 ⟨rfl, _, rfl, h⟩
        · replace h := h.2 q
          refine A_iload dX10_read_117 rfl ?_
          refine A_goto (tgt := 124) dX10_read_119 (by decide) ?_
          exact A_iret dX10_read_124 ⟨rfl, _, rfl, h⟩
      · replace h := h.2 q
        refine A_iload_n dX10_read_108 rfl rfl ?_
        refine A_goto (tgt := 124) dX10_read_109 (by decide) ?_
        exact A_iret dX10_read_124 ⟨rfl, _, rfl, h⟩
set_option maxRecDepth 100000 in
set_option maxHeartbeats 4000000 in
theorem vc_X10_saysOf {G : GT} {a1 : Int} {a2 : Int} {a3 : Int} {N : NN} {K : Int → NN → Prop}  (h : (∀ M1 : NN, M1 = up3 N 10 0 39 a2 → (∃ j2 : Nat, (wI a1) = (j2 : Int) ∧ j2 < 12 ∧ (∀ M3 : NN, M3 = up3 M1 10 0 40 (M1 42 0 j2) → (∃ j4 : Nat, (wI a1) = (j4 : Int) ∧ j4 < 12 ∧ (∀ M5 : NN, M5 = up3 M3 10 0 41 (((M3 43 0 j4) + 1) - a2) → (∃ j6 : Nat, (wI a1) = (j6 : Int) ∧ j6 < 12 ∧ (∀ M7 : NN, M7 = up3 M5 10 0 42 (M5 44 0 j6) → (∃ j8 : Nat, (wI a1) = (j8 : Int) ∧ j8 < 12 ∧ (∀ M9 : NN, M9 = up3 M7 10 0 43 (M7 41 0 j8) → (∃ j10 : Nat, (wI a1) = (j10 : Int) ∧ j10 < 12 ∧ (∀ M11 : NN, M11 = up3 M9 10 0 44 (M9 40 0 j10) → (C_X10_read G (M11 10 0 27) a3 M11 (fun x12 N12 => K x12 N12)))))))))))))) : C_X10_saysOf G a1 a2 a3 N K := by
  refine Ctr.ofAW RX10 false rfl (by decide +kernel) (fun q => by cases q) (Nat.le_of_ble_eq_true rfl) (Nat.le_refl _) ?_
  refine A_aload_n dX10_saysOf_0 rfl rfl ?_
  refine A_iload_n dX10_saysOf_1 rfl rfl ?_
  refine B_putI dX10_saysOf_2 fX10_324 (by decide) (okK10 (by omega)) (fun M1 eM1 => ?_)
  replace h := h M1 eM1
  refine A_aload_n dX10_saysOf_5 rfl rfl ?_
  refine A_aload_n dX10_saysOf_6 rfl rfl ?_
  refine A_getR (c2 := 42) (i2 := 0) dX10_saysOf_7 fX10_20 rfl (okK10 (by omega)) rfl ?_
  refine A_iload_n dX10_saysOf_10 rfl rfl ?_
  obtain ⟨j2, qj2, bj2, h⟩ := h
  refine A_iald (j := j2) dX10_saysOf_11 (by decide) rfl (okK42 (by omega)) qj2 bj2 ?_
  refine B_putI dX10_saysOf_12 fX10_329 (by decide) (okK10 (by omega)) (fun M3 eM3 => ?_)
  replace h := h M3 eM3
  refine A_aload_n dX10_saysOf_15 rfl rfl ?_
  refine A_aload_n dX10_saysOf_16 rfl rfl ?_
  refine A_getR (c2 := 43) (i2 := 0) dX10_saysOf_17 fX10_23 rfl (okK10 (by omega)) rfl ?_
  refine A_iload_n dX10_saysOf_20 rfl rfl ?_
  obtain ⟨j4, qj4, bj4, h⟩ := h
  refine A_iald (j := j4) dX10_saysOf_21 (by decide) rfl (okK43 (by omega)) qj4 bj4 ?_
  refine A_iconst (v := 1) dX10_saysOf_22 rfl ?_
  refine A_iadd dX10_saysOf_23 ?_
  refine A_iload_n dX10_saysOf_24 rfl rfl ?_
  refine A_isub dX10_saysOf_25 ?_
  refine B_putI dX10_saysOf_26 fX10_334 (by decide) (okK10 (by omega)) (fun M5 eM5 => ?_)
  replace h := h M5 eM5
  refine A_aload_n dX10_saysOf_29 rfl rfl ?_
  refine A_aload_n dX10_saysOf_30 rfl rfl ?_
  refine A_getR (c2 := 44) (i2 := 0) dX10_saysOf_31 fX10_26 rfl (okK10 (by omega)) rfl ?_
  refine A_iload_n dX10_saysOf_34 rfl rfl ?_
  obtain ⟨j6, qj6, bj6, h⟩ := h
  refine A_iald (j := j6) dX10_saysOf_35 (by decide) rfl (okK44 (by omega)) qj6 bj6 ?_
  refine B_putI dX10_saysOf_36 fX10_339 (by decide) (okK10 (by omega)) (fun M7 eM7 => ?_)
  replace h := h M7 eM7
  refine A_aload_n dX10_saysOf_39 rfl rfl ?_
  refine A_aload_n dX10_saysOf_40 rfl rfl ?_
  refine A_getR (c2 := 41) (i2 := 0) dX10_saysOf_41 fX10_17 rfl (okK10 (by omega)) rfl ?_
  refine A_iload_n dX10_saysOf_44 rfl rfl ?_
  obtain ⟨j8, qj8, bj8, h⟩ := h
  refine A_iald (j := j8) dX10_saysOf_45 (by decide) rfl (okK41 (by omega)) qj8 bj8 ?_
  refine B_putI dX10_saysOf_46 fX10_344 (by decide) (okK10 (by omega)) (fun M9 eM9 => ?_)
  replace h := h M9 eM9
  refine A_aload_n dX10_saysOf_49 rfl rfl ?_
  refine A_aload_n dX10_saysOf_50 rfl rfl ?_
  refine A_getR (c2 := 40) (i2 := 0) dX10_saysOf_51 fX10_13 rfl (okK10 (by omega)) rfl ?_
  refine A_iload_n dX10_saysOf_54 rfl rfl ?_
  obtain ⟨j10, qj10, bj10, h⟩ := h
  refine A_iald (j := j10) dX10_saysOf_55 (by decide) rfl (okK40 (by omega)) qj10 bj10 ?_
  refine B_putI dX10_saysOf_56 fX10_349 (by decide) (okK10 (by omega)) (fun M11 eM11 => ?_)
  replace h := h M11 eM11
  refine A_aload_n dX10_saysOf_59 rfl rfl ?_
  refine A_aload_n dX10_saysOf_60 rfl rfl ?_
  refine A_getI dX10_saysOf_61 fX10_400 rfl (okK10 (by omega)) ?_
  refine A_iload_n dX10_saysOf_64 rfl rfl ?_
  refine B_callV_I (av := [vI (M11 10 0 27), vI a3]) rfl dX10_saysOf_65 vX10_403 mX10_read ⟨rfl, rfl, by decide⟩ (okK10 (by omega)) rfl (Nat.le_of_ble_eq_true rfl) (by decide) (by decide) rfl (BC_monoI h (fun x12 N12 h => ?_))
  exact A_iret dX10_saysOf_68 ⟨rfl, _, rfl, h⟩
