set_option maxRecDepth 100000 in
set_option maxHeartbeats 4000000 in
theorem vc_X9_loan {G : GT} {a1 : Int} {a2 : Int} {a3 : Int} {a4 : Int} {N : NN} {K : Int → NN → Prop}  (h : (C_X9_within G a1 0 5 N (fun x1 N1 => (((wI x1) = 0 → K ((-2)) N1) ∧ (¬ ((wI x1) = 0) → (C_X9_within G a2 1000 999999 N1 (fun x2 N2 => (((wI x2) = 0 → K ((-2)) N2) ∧ (¬ ((wI x2) = 0) → (C_X9_within G a3 0 200 N2 (fun x3 N3 => (((wI x3) = 0 → K ((-2)) N3) ∧ (¬ ((wI x3) = 0) → (C_X9_within G a4 1 60 N3 (fun x4 N4 => (((wI x4) ≠ 0 → (((wI (N4 9 0 11)) ≤ 0 → (((wI (N4 6 0 1)) < 12 → (∃ j5 : Nat, (wI (N4 6 0 1)) = (j5 : Int) ∧ j5 < 12 ∧ (C_X2_open G j5 a1 a2 a3 a4 N4 (fun N6 => (∀ M7 : NN, M7 = up3 N6 6 0 1 ((N6 6 0 1) + 1) → K ((M7 6 0 1) - 1) M7))))) ∧ (¬ ((wI (N4 6 0 1)) < 12) → K ((-4)) N4))) ∧ (¬ ((wI (N4 9 0 11)) ≤ 0) → K ((-3)) N4))) ∧ (¬ ((wI x4) ≠ 0) → K ((-2)) N4))))))))))))))))) : C_X9_loan G a1 a2 a3 a4 N K := by
  refine Ctr.ofAW RX9 false rfl (by decide +kernel) (fun q => by cases q) (Nat.le_of_ble_eq_true rfl) (Nat.le_refl _) ?_
  refine A_iload_n dX9_loan_0 rfl rfl ?_
  refine A_iconst (v := 0) dX9_loan_1 rfl ?_
  refine A_iconst (v := 5) dX9_loan_2 rfl ?_
  refine B_callS_I (av := [vI a1, vI 0, vI 5]) rfl dX9_loan_3 vX9_83 mX9_within rfl (Nat.le_of_ble_eq_true rfl) (by decide) (by decide) rfl (BC_monoI h (fun x1 N1 h => ?_))
  refine B_if_eq (tgt := 43) dX9_loan_6 (by decide) rfl ⟨fun q => ?_, fun q => ?_⟩
  · replace h := h.1 q
    refine A_bipush (v := (-2)) dX9_loan_43 (by decide +kernel) ?_
    exact A_iret dX9_loan_45 ⟨rfl, _, rfl, h⟩
  · replace h := h.2 q
    refine A_iload_n dX9_loan_9 rfl rfl ?_
    refine A_sipush (v := 1000) dX9_loan_10 (by decide +kernel) ?_
    refine A_ldc (x := 999999) dX9_loan_13 kX9_87 (by decide +kernel) ?_
    refine B_callS_I (av := [vI a2, vI 1000, vI 999999]) rfl dX9_loan_15 vX9_83 mX9_within rfl (Nat.le_of_ble_eq_true rfl) (by decide) (by decide) rfl (BC_monoI h (fun x2 N2 h => ?_))
    refine B_if_eq (tgt := 43) dX9_loan_18 (by decide) rfl ⟨fun q => ?_, fun q => ?_⟩
    · replace h := h.1 q
      refine A_bipush (v := (-2)) dX9_loan_43 (by decide +kernel) ?_
      exact A_iret dX9_loan_45 ⟨rfl, _, rfl, h⟩
    · replace h := h.2 q
      refine A_iload_n dX9_loan_21 rfl rfl ?_
      refine A_iconst (v := 0) dX9_loan_22 rfl ?_
      refine A_sipush (v := 200) dX9_loan_23 (by decide +kernel) ?_
      refine B_callS_I (av := [vI a3, vI 0, vI 200]) rfl dX9_loan_26 vX9_83 mX9_within rfl (Nat.le_of_ble_eq_true rfl) (by decide) (by decide) rfl (BC_monoI h (fun x3 N3 h => ?_))
      refine B_if_eq (tgt := 43) dX9_loan_29 (by decide) rfl ⟨fun q => ?_, fun q => ?_⟩
      · replace h := h.1 q
        refine A_bipush (v := (-2)) dX9_loan_43 (by decide +kernel) ?_
        exact A_iret dX9_loan_45 ⟨rfl, _, rfl, h⟩
      · replace h := h.2 q
        refine A_iload dX9_loan_32 rfl ?_
        refine A_iconst (v := 1) dX9_loan_34 rfl ?_
        refine A_bipush (v := 60) dX9_loan_35 (by decide +kernel) ?_
        refine B_callS_I (av := [vI a4, vI 1, vI 60]) rfl dX9_loan_37 vX9_83 mX9_within rfl (Nat.le_of_ble_eq_true rfl) (by decide) (by decide) rfl (BC_monoI h (fun x4 N4 h => ?_))
        refine B_if_ne (tgt := 46) dX9_loan_40 (by decide) rfl ⟨fun q => ?_, fun q => ?_⟩
        · replace h := h.1 q
          refine A_aload_n dX9_loan_46 rfl rfl ?_
          refine A_getI dX9_loan_47 fX9_88 rfl (okK9 (by omega)) ?_
          refine B_if_le (tgt := 56) dX9_loan_50 (by decide) rfl ⟨fun q => ?_, fun q => ?_⟩
          · replace h := h.1 q
            refine A_aload_n dX9_loan_56 rfl rfl ?_
            refine A_getR (c2 := 6) (i2 := 0) dX9_loan_57 fX9_10 rfl (okK9 (by omega)) rfl ?_
            refine A_getI dX9_loan_60 fX9_91 rfl (okK6 (by omega)) ?_
            refine A_bipush (v := 12) dX9_loan_63 (by decide +kernel) ?_
            refine B_icmp_lt (tgt := 71) dX9_loan_65 (by decide) rfl (wlitI (by decide) (by decide)) ⟨fun q => ?_, fun q => ?_⟩
            · replace h := h.1 q
              refine A_aload_n dX9_loan_71 rfl rfl ?_
              refine A_getR (c2 := 6) (i2 := 0) dX9_loan_72 fX9_10 rfl (okK9 (by omega)) rfl ?_
              refine A_getR (c2 := 20) (i2 := 0) dX9_loan_75 fX9_94 rfl (okK6 (by omega)) rfl ?_
              refine A_aload_n dX9_loan_78 rfl rfl ?_
              refine A_getR (c2 := 6) (i2 := 0) dX9_loan_79 fX9_10 rfl (okK9 (by omega)) rfl ?_
              refine A_getI dX9_loan_82 fX9_91 rfl (okK6 (by omega)) ?_
              obtain ⟨j5, qj5, bj5, h⟩ := h
              refine A_aald (j := j5) (c2 := 2) (i2 := j5) dX9_loan_85 (by decide) (by decide) (okK20 (by omega)) qj5 bj5 RF_l0 ?_
              refine A_iload_n dX9_loan_86 rfl rfl ?_
              refine A_iload_n dX9_loan_87 rfl rfl ?_
              refine A_iload_n dX9_loan_88 rfl rfl ?_
              refine A_iload dX9_loan_89 rfl ?_
              refine B_callV_V (av := [vI a1, vI a2, vI a3, vI a4]) rfl dX9_loan_91 vX9_98 mX2_open ⟨rfl, rfl, by decide⟩ (okK2 (by omega)) rfl (Nat.le_of_ble_eq_true rfl) (by decide) (by decide) rfl (BC_monoV h (fun N6 h => ?_))
              refine A_aload_n dX9_loan_94 rfl rfl ?_
              refine A_getR (c2 := 6) (i2 := 0) dX9_loan_95 fX9_10 rfl (okK9 (by omega)) rfl ?_
              refine A_dup dX9_loan_98 rfl ?_
              refine A_getI dX9_loan_99 fX9_91 rfl (okK6 (by omega)) ?_
              refine A_iconst (v := 1) dX9_loan_102 rfl ?_
              refine A_iadd dX9_loan_103 ?_
              refine B_putI dX9_loan_104 fX9_91 (by decide) (okK6 (by omega)) (fun M7 eM7 => ?_)
              replace h := h M7 eM7
              refine A_aload_n dX9_loan_107 rfl rfl ?_
              refine A_getR (c2 := 6) (i2 := 0) dX9_loan_108 fX9_10 rfl (okK9 (by omega)) rfl ?_
              refine A_getI dX9_loan_111 fX9_91 rfl (okK6 (by omega)) ?_
              refine A_iconst (v := 1) dX9_loan_114 rfl ?_
              refine A_isub dX9_loan_115 ?_
              exact A_iret dX9_loan_116 ⟨rfl, _, rfl, h⟩
            · replace h := h.2 q
              refine A_bipush (v := (-4)) dX9_loan_68 (by decide +kernel) ?_
              exact A_iret dX9_loan_70 ⟨rfl, _, rfl, h⟩
          · replace h := h.2 q
            refine A_bipush (v := (-3)) dX9_loan_53 (by decide +kernel) ?_
            exact A_iret dX9_loan_55 ⟨rfl, _, rfl, h⟩
        · replace h := h.2 q
          refine A_bipush (v := (-2)) dX9_loan_43 (by decide +kernel) ?_
          exact A_iret dX9_loan_45 ⟨rfl, _, rfl, h⟩
set_option maxRecDepth 100000 in
set_option maxHeartbeats 4000000 in
theorem vc_X9_loanTold {G : GT} {a1 : Int} {a2 : Int} {N : NN} {K : Int → NN → Prop}  (h : (C_X9_within G a1 0 ((N 6 0 1) - 1) N (fun x1 N1 => (((wI x1) ≠ 0 → (∃ j2 : Nat, (wI a1) = (j2 : Int) ∧ j2 < 12 ∧ (((wI a2) = 0 → K (N1 2 j2 0) N1) ∧ (((wI a2) = 1 → K (N1 2 j2 1) N1) ∧ (((wI a2) = 2 → K (N1 2 j2 2) N1) ∧ (((wI a2) = 3 → K (N1 2 j2 3) N1) ∧ (((wI a2) = 4 → K (N1 2 j2 4) N1) ∧ (((wI a2) = 5 → K (N1 2 j2 5) N1) ∧ (((wI a2) = 6 → K (N1 2 j2 6) N1) ∧ ((wI a2) < 0 ∨ 6 < (wI a2) → K ((-2)) N1)))))))))) ∧ (¬ ((wI x1) ≠ 0) → K ((-2)) N1))))) : C_X9_loanTold G a1 a2 N K := by
  refine Ctr.ofAW RX9 false rfl (by decide +kernel) (fun q => by cases q) (Nat.le_of_ble_eq_true rfl) (Nat.le_refl _) ?_
  refine A_iload_n dX9_loanTold_0 rfl rfl ?_
  refine A_iconst (v := 0) dX9_loanTold_1 rfl ?_
  refine A_aload_n dX9_loanTold_2 rfl rfl ?_
  refine A_getR (c2 := 6) (i2 := 0) dX9_loanTold_3 fX9_10 rfl (okK9 (by omega)) rfl ?_
  refine A_getI dX9_loanTold_6 fX9_91 rfl (okK6 (by omega)) ?_
  refine A_iconst (v := 1) dX9_loanTold_9 rfl ?_
  refine A_isub dX9_loanTold_10 ?_
  refine B_callS_I (av := [vI a1, vI 0, vI ((N 6 0 1) - 1)]) rfl dX9_loanTold_11 vX9_83 mX9_within rfl (Nat.le_of_ble_eq_true rfl) (by decide) (by decide) rfl (BC_monoI h (fun x1 N1 h => ?_))
  refine B_if_ne (tgt := 20) dX9_loanTold_14 (by decide) rfl ⟨fun q => ?_, fun q => ?_⟩
  · replace h := h.1 q
    refine A_aload_n dX9_loanTold_20 rfl rfl ?_
    refine A_getR (c2 := 6) (i2 := 0) dX9_loanTold_21 fX9_10 rfl (okK9 (by omega)) rfl ?_
    refine A_getR (c2 := 20) (i2 := 0) dX9_loanTold_24 fX9_94 rfl (okK6 (by omega)) rfl ?_
    refine A_iload_n dX9_loanTold_27 rfl rfl ?_
    obtain ⟨j2, qj2, bj2, h⟩ := h
    refine A_aald (j := j2) (c2 := 2) (i2 := j2) dX9_loanTold_28 (by decide) (by decide) (okK20 (by omega)) qj2 bj2 RF_l0 ?_
    refine A_astore_n (ls' := [(3, _), (0, _), (1, _), (2, _)]) dX9_loanTold_29 rfl (by decide) rfl ?_
    refine A_iload_n dX9_loanTold_30 rfl rfl ?_
    by_cases q31_0 : wI a2 = 0
    · replace h := h.1 q31_0
      refine A_tableIn (tgt := 72) dX9_loanTold_31 q31_0 (by decide) rfl (by decide) ?_
      refine A_aload_n dX9_loanTold_72 rfl rfl ?_
      refine A_getI dX9_loanTold_73 fX9_104 rfl (okK2 (by omega)) ?_
      exact A_iret dX9_loanTold_76 ⟨rfl, _, rfl, h⟩
    replace h := h.2
    by_cases q31_1 : wI a2 = 1
    · replace h := h.1 q31_1
      refine A_tableIn (tgt := 77) dX9_loanTold_31 q31_1 (by decide) rfl (by decide) ?_
      refine A_aload_n dX9_loanTold_77 rfl rfl ?_
      refine A_getL dX9_loanTold_78 fX9_107 rfl (okK2 (by omega)) ?_
      refine A_l2i dX9_loanTold_81 ?_
      exact A_iret dX9_loanTold_82 ⟨rfl, _, rfl, h⟩
    replace h := h.2
    by_cases q31_2 : wI a2 = 2
    · replace h := h.1 q31_2
      refine A_tableIn (tgt := 83) dX9_loanTold_31 q31_2 (by decide) rfl (by decide) ?_
      refine A_aload_n dX9_loanTold_83 rfl rfl ?_
      refine A_getI dX9_loanTold_84 fX9_111 rfl (okK2 (by omega)) ?_
      exact A_iret dX9_loanTold_87 ⟨rfl, _, rfl, h⟩
    replace h := h.2
    by_cases q31_3 : wI a2 = 3
    · replace h := h.1 q31_3
      refine A_tableIn (tgt := 88) dX9_loanTold_31 q31_3 (by decide) rfl (by decide) ?_
      refine A_aload_n dX9_loanTold_88 rfl rfl ?_
      refine A_getI dX9_loanTold_89 fX9_114 rfl (okK2 (by omega)) ?_
      exact A_iret dX9_loanTold_92 ⟨rfl, _, rfl, h⟩
    replace h := h.2
    by_cases q31_4 : wI a2 = 4
    · replace h := h.1 q31_4
      refine A_tableIn (tgt := 93) dX9_loanTold_31 q31_4 (by decide) rfl (by decide) ?_
      refine A_aload_n dX9_loanTold_93 rfl rfl ?_
      refine A_getL dX9_loanTold_94 fX9_116 rfl (okK2 (by omega)) ?_
      refine A_l2i dX9_loanTold_97 ?_
      exact A_iret dX9_loanTold_98 ⟨rfl, _, rfl, h⟩
    replace h := h.2
    by_cases q31_5 : wI a2 = 5
    · replace h := h.1 q31_5
      refine A_tableIn (tgt := 99) dX9_loanTold_31 q31_5 (by decide) rfl (by decide) ?_
      refine A_aload_n dX9_loanTold_99 rfl rfl ?_
      refine A_getI dX9_loanTold_100 fX9_119 rfl (okK2 (by omega)) ?_
      exact A_iret dX9_loanTold_103 ⟨rfl, _, rfl, h⟩
    replace h := h.2
    by_cases q31_6 : wI a2 = 6
    · replace h := h.1 q31_6
      refine A_tableIn (tgt := 104) dX9_loanTold_31 q31_6 (by decide) rfl (by decide) ?_
      refine A_aload_n dX9_loanTold_104 rfl rfl ?_
      refine A_getL dX9_loanTold_105 fX9_122 rfl (okK2 (by omega)) ?_
      refine A_l2i dX9_loanTold_108 ?_
      exact A_iret dX9_loanTold_109 ⟨rfl, _, rfl, h⟩
    replace h := h.2
    replace h := h (by omega)
    refine A_tableOut (tgt := 110) dX9_loanTold_31 (by omega) (by decide) ?_
    refine A_bipush (v := (-2)) dX9_loanTold_110 (by decide +kernel) ?_
    exact A_iret dX9_loanTold_112 ⟨rfl, _, rfl, h⟩
  · replace h := h.2 q
    refine A_bipush (v := (-2)) dX9_loanTold_17 (by decide +kernel) ?_
    exact A_iret dX9_loanTold_19 ⟨rfl, _, rfl, h⟩
set_option maxRecDepth 100000 in
set_option maxHeartbeats 4000000 in
theorem vc_X9_paper {G : GT} {a1 : Int} {a2 : Int} {N : NN} {K : Int → NN → Prop}  (h : (C_X9_within G a1 1 9999999 N (fun x1 N1 => (((wI x1) = 0 → K ((-2)) N1) ∧ (¬ ((wI x1) = 0) → (C_X9_within G a2 0 200 N1 (fun x2 N2 => (((wI x2) ≠ 0 → (((wI (N2 9 0 11)) ≤ 0 → (((wI (N2 0 0 1)) < 5 → (∃ j3 : Nat, (wI (N2 0 0 1)) = (j3 : Int) ∧ j3 < 5 ∧ (C_X5_open G j3 a1 a2 N2 (fun N4 => (∀ M5 : NN, M5 = up3 N4 0 0 1 ((N4 0 0 1) + 1) → K ((M5 0 0 1) - 1) M5))))) ∧ (¬ ((wI (N2 0 0 1)) < 5) → K ((-4)) N2))) ∧ (¬ ((wI (N2 9 0 11)) ≤ 0) → K ((-3)) N2))) ∧ (¬ ((wI x2) ≠ 0) → K ((-2)) N2))))))))) : C_X9_paper G a1 a2 N K := by
  refine Ctr.ofAW RX9 false rfl (by decide +kernel) (fun q => by cases q) (Nat.le_of_ble_eq_true rfl) (Nat.le_refl _) ?_
  refine A_iload_n dX9_paper_0 rfl rfl ?_
  refine A_iconst (v := 1) dX9_paper_1 rfl ?_
  refine A_ldc (x := 9999999) dX9_paper_2 kX9_125 (by decide +kernel) ?_
  refine B_callS_I (av := [vI a1, vI 1, vI 9999999]) rfl dX9_paper_4 vX9_83 mX9_within rfl (Nat.le_of_ble_eq_true rfl) (by decide) (by decide) rfl (BC_monoI h (fun x1 N1 h => ?_))
  refine B_if_eq (tgt := 21) dX9_paper_7 (by decide) rfl ⟨fun q => ?_, fun q => ?_⟩
  · replace h := h.1 q
    refine A_bipush (v := (-2)) dX9_paper_21 (by decide +kernel) ?_
    exact A_iret dX9_paper_23 ⟨rfl, _, rfl, h⟩
  · replace h := h.2 q
    refine A_iload_n dX9_paper_10 rfl rfl ?_
    refine A_iconst (v := 0) dX9_paper_11 rfl ?_
    refine A_sipush (v := 200) dX9_paper_12 (by decide +kernel) ?_
    refine B_callS_I (av := [vI a2, vI 0, vI 200]) rfl dX9_paper_15 vX9_83 mX9_within rfl (Nat.le_of_ble_eq_true rfl) (by decide) (by decide) rfl (BC_monoI h (fun x2 N2 h => ?_))
    refine B_if_ne (tgt := 24) dX9_paper_18 (by decide) rfl ⟨fun q => ?_, fun q => ?_⟩
    · replace h := h.1 q
      refine A_aload_n dX9_paper_24 rfl rfl ?_
      refine A_getI dX9_paper_25 fX9_88 rfl (okK9 (by omega)) ?_
      refine B_if_le (tgt := 34) dX9_paper_28 (by decide) rfl ⟨fun q => ?_, fun q => ?_⟩
      · replace h := h.1 q
        refine A_aload_n dX9_paper_34 rfl rfl ?_
        refine A_getR (c2 := 0) (i2 := 0) dX9_paper_35 fX9_19 rfl (okK9 (by omega)) rfl ?_
        refine A_getI dX9_paper_38 fX9_126 rfl (okK0 (by omega)) ?_
        refine A_iconst (v := 5) dX9_paper_41 rfl ?_
        refine B_icmp_lt (tgt := 48) dX9_paper_42 (by decide) rfl (wlitI (by decide) (by decide)) ⟨fun q => ?_, fun q => ?_⟩
        · replace h := h.1 q
          refine A_aload_n dX9_paper_48 rfl rfl ?_
          refine A_getR (c2 := 0) (i2 := 0) dX9_paper_49 fX9_19 rfl (okK9 (by omega)) rfl ?_
          refine A_getR (c2 := 21) (i2 := 0) dX9_paper_52 fX9_127 rfl (okK0 (by omega)) rfl ?_
          refine A_aload_n dX9_paper_55 rfl rfl ?_
          refine A_getR (c2 := 0) (i2 := 0) dX9_paper_56 fX9_19 rfl (okK9 (by omega)) rfl ?_
          refine A_getI dX9_paper_59 fX9_126 rfl (okK0 (by omega)) ?_
          obtain ⟨j3, qj3, bj3, h⟩ := h
          refine A_aald (j := j3) (c2 := 5) (i2 := j3) dX9_paper_62 (by decide) (by decide) (okK21 (by omega)) qj3 bj3 RF_p0 ?_
          refine A_iload_n dX9_paper_63 rfl rfl ?_
          refine A_iload_n dX9_paper_64 rfl rfl ?_
          refine B_callV_V (av := [vI a1, vI a2]) rfl dX9_paper_65 vX9_131 mX5_open ⟨rfl, rfl, by decide⟩ (okK5 (by omega)) rfl (Nat.le_of_ble_eq_true rfl) (by decide) (by decide) rfl (BC_monoV h (fun N4 h => ?_))
          refine A_aload_n dX9_paper_68 rfl rfl ?_
          refine A_getR (c2 := 0) (i2 := 0) dX9_paper_69 fX9_19 rfl (okK9 (by omega)) rfl ?_
          refine A_dup dX9_paper_72 rfl ?_
          refine A_getI dX9_paper_73 fX9_126 rfl (okK0 (by omega)) ?_
          refine A_iconst (v := 1) dX9_paper_76 rfl ?_
          refine A_iadd dX9_paper_77 ?_
          refine B_putI dX9_paper_78 fX9_126 (by decide) (okK0 (by omega)) (fun M5 eM5 => ?_)
          replace h := h M5 eM5
          refine A_aload_n dX9_paper_81 rfl rfl ?_
          refine A_getR (c2 := 0) (i2 := 0) dX9_paper_82 fX9_19 rfl (okK9 (by omega)) rfl ?_
          refine A_getI dX9_paper_85 fX9_126 rfl (okK0 (by omega)) ?_
          refine A_iconst (v := 1) dX9_paper_88 rfl ?_
          refine A_isub dX9_paper_89 ?_
          exact A_iret dX9_paper_90 ⟨rfl, _, rfl, h⟩
        · replace h := h.2 q
          refine A_bipush (v := (-4)) dX9_paper_45 (by decide +kernel) ?_
          exact A_iret dX9_paper_47 ⟨rfl, _, rfl, h⟩
      · replace h := h.2 q
        refine A_bipush (v := (-3)) dX9_paper_31 (by decide +kernel) ?_
        exact A_iret dX9_paper_33 ⟨rfl, _, rfl, h⟩
    · replace h := h.2 q
      refine A_bipush (v := (-2)) dX9_paper_21 (by decide +kernel) ?_
      exact A_iret dX9_paper_23 ⟨rfl, _, rfl, h⟩
set_option maxRecDepth 100000 in
set_option maxHeartbeats 4000000 in
theorem vc_X9_paperTold {G : GT} {a1 : Int} {a2 : Int} {N : NN} {K : Int → NN → Prop}  (h : (C_X9_within G a1 0 ((N 0 0 1) - 1) N (fun x1 N1 => (((wI x1) ≠ 0 → (∃ j2 : Nat, (wI a1) = (j2 : Int) ∧ j2 < 5 ∧ (((wI a2) = 0 → K (N1 5 j2 2) N1) ∧ (((wI a2) = 1 → K (N1 5 j2 0) N1) ∧ (((wI a2) = 2 → K (N1 5 j2 3) N1) ∧ (((wI a2) = 3 → K (N1 5 j2 4) N1) ∧ (((wI a2) = 4 → K (N1 5 j2 5) N1) ∧ (((wI a2) = 5 → K (N1 5 j2 6) N1) ∧ ((wI a2) < 0 ∨ 5 < (wI a2) → K ((-2)) N1))))))))) ∧ (¬ ((wI x1) ≠ 0) → K ((-2)) N1))))) : C_X9_paperTold G a1 a2 N K := by
  refine Ctr.ofAW RX9 false rfl (by decide +kernel) (fun q => by cases q) (Nat.le_of_ble_eq_true rfl) (Nat.le_refl _) ?_
  refine A_iload_n dX9_paperTold_0 rfl rfl ?_
  refine A_iconst (v := 0) dX9_paperTold_1 rfl ?_
  refine A_aload_n dX9_paperTold_2 rfl rfl ?_
  refine A_getR (c2 := 0) (i2 := 0) dX9_paperTold_3 fX9_19 rfl (okK9 (by omega)) rfl ?_
  refine A_getI dX9_paperTold_6 fX9_126 rfl (okK0 (by omega)) ?_
  refine A_iconst (v := 1) dX9_paperTold_9 rfl ?_
  refine A_isub dX9_paperTold_10 ?_
  refine B_callS_I (av := [vI a1, vI 0, vI ((N 0 0 1) - 1)]) rfl dX9_paperTold_11 vX9_83 mX9_within rfl (Nat.le_of_ble_eq_true rfl) (by decide) (by decide) rfl (BC_monoI h (fun x1 N1 h => ?_))
  refine B_if_ne (tgt := 20) dX9_paperTold_14 (by decide) rfl ⟨fun q => ?_, fun q => ?_⟩
  · replace h := h.1 q
    refine A_aload_n dX9_paperTold_20 rfl rfl ?_
    refine A_getR (c2 := 0) (i2 := 0) dX9_paperTold_21 fX9_19 rfl (okK9 (by omega)) rfl ?_
    refine A_getR (c2 := 21) (i2 := 0) dX9_paperTold_24 fX9_127 rfl (okK0 (by omega)) rfl ?_
    refine A_iload_n dX9_paperTold_27 rfl rfl ?_
    obtain ⟨j2, qj2, bj2, h⟩ := h
    refine A_aald (j := j2) (c2 := 5) (i2 := j2) dX9_paperTold_28 (by decide) (by decide) (okK21 (by omega)) qj2 bj2 RF_p0 ?_
    refine A_astore_n (ls' := [(3, _), (0, _), (1, _), (2, _)]) dX9_paperTold_29 rfl (by decide) rfl ?_
    refine A_iload_n dX9_paperTold_30 rfl rfl ?_
    by_cases q31_0 : wI a2 = 0
    · replace h := h.1 q31_0
      refine A_tableIn (tgt := 68) dX9_paperTold_31 q31_0 (by decide) rfl (by decide) ?_
      refine A_aload_n dX9_paperTold_68 rfl rfl ?_
      refine A_getL dX9_paperTold_69 fX9_136 rfl (okK5 (by omega)) ?_
      refine A_l2i dX9_paperTold_72 ?_
      exact A_iret dX9_paperTold_73 ⟨rfl, _, rfl, h⟩
    replace h := h.2
    by_cases q31_1 : wI a2 = 1
    · replace h := h.1 q31_1
      refine A_tableIn (tgt := 74) dX9_paperTold_31 q31_1 (by decide) rfl (by decide) ?_
      refine A_aload_n dX9_paperTold_74 rfl rfl ?_
      refine A_getI dX9_paperTold_75 fX9_137 rfl (okK5 (by omega)) ?_
      exact A_iret dX9_paperTold_78 ⟨rfl, _, rfl, h⟩
    replace h := h.2
    by_cases q31_2 : wI a2 = 2
    · replace h := h.1 q31_2
      refine A_tableIn (tgt := 79) dX9_paperTold_31 q31_2 (by decide) rfl (by decide) ?_
      refine A_aload_n dX9_paperTold_79 rfl rfl ?_
      refine A_getL dX9_paperTold_80 fX9_140 rfl (okK5 (by omega)) ?_
      refine A_l2i dX9_paperTold_83 ?_
      exact A_iret dX9_paperTold_84 ⟨rfl, _, rfl, h⟩
    replace h := h.2
    by_cases q31_3 : wI a2 = 3
    · replace h := h.1 q31_3
      refine A_tableIn (tgt := 85) dX9_paperTold_31 q31_3 (by decide) rfl (by decide) ?_
      refine A_aload_n dX9_paperTold_85 rfl rfl ?_
      refine A_getL dX9_paperTold_86 fX9_143 rfl (okK5 (by omega)) ?_
      refine A_l2i dX9_paperTold_89 ?_
      exact A_iret dX9_paperTold_90 ⟨rfl, _, rfl, h⟩
    replace h := h.2
    by_cases q31_4 : wI a2 = 4
    · replace h := h.1 q31_4
      refine A_tableIn (tgt := 91) dX9_paperTold_31 q31_4 (by decide) rfl (by decide) ?_
      refine A_aload_n dX9_paperTold_91 rfl rfl ?_
      refine A_getL dX9_paperTold_92 fX9_146 rfl (okK5 (by omega)) ?_
      refine A_l2i dX9_paperTold_95 ?_
      exact A_iret dX9_paperTold_96 ⟨rfl, _, rfl, h⟩
    replace h := h.2
    by_cases q31_5 : wI a2 = 5
    · replace h := h.1 q31_5
      refine A_tableIn (tgt := 97) dX9_paperTold_31 q31_5 (by decide) rfl (by decide) ?_
      refine A_aload_n dX9_paperTold_97 rfl rfl ?_
      refine A_getL dX9_paperTold_98 fX9_149 rfl (okK5 (by omega)) ?_
      refine A_l2i dX9_paperTold_101 ?_
      exact A_iret dX9_paperTold_102 ⟨rfl, _, rfl, h⟩
    replace h := h.2
    replace h := h (by omega)
    refine A_tableOut (tgt := 103) dX9_paperTold_31 (by omega) (by decide) ?_
    refine A_bipush (v := (-2)) dX9_paperTold_103 (by decide +kernel) ?_
    exact A_iret dX9_paperTold_105 ⟨rfl, _, rfl, h⟩
  · replace h := h.2 q
    refine A_bipush (v := (-2)) dX9_paperTold_17 (by decide +kernel) ?_
    exact A_iret dX9_paperTold_19 ⟨rfl, _, rfl, h⟩
set_option maxRecDepth 100000 in
set_option maxHeartbeats 4000000 in
theorem vc_X9_life {G : GT} {a1 : Int} {a2 : Int} {N : NN} {K : Int → NN → Prop}  (h : (C_X9_within G a1 0 ((N 0 0 1) - 1) N (fun x1 N1 => (((wI x1) = 0 → K ((-4611686018427387904)) N1) ∧ (¬ ((wI x1) = 0) → (C_X9_within G a2 0 1 N1 (fun x2 N2 => (((wI x2) ≠ 0 → (∃ j3 : Nat, (wI a1) = (j3 : Int) ∧ j3 < 5 ∧ ((0 < (wL (N2 5 j3 5)) → (C_X9_commonDivisor G (N2 5 j3 5) (N2 5 j3 7) N2 (fun x4 N4 => ((0 < (wL x4) → (((wI a2) ≠ 0 → ((wL x4) ≠ 0 ∧ K (((wL (N4 5 j3 5))).tdiv ((wL x4))) N4)) ∧ (¬ ((wI a2) ≠ 0) → ((wL x4) ≠ 0 ∧ K (((wL (N4 5 j3 7))).tdiv ((wL x4))) N4)))) ∧ (¬ (0 < (wL x4)) → K ((-4611686018427387904)) N4))))) ∧ (¬ (0 < (wL (N2 5 j3 5))) → K ((wI a2)) N2)))) ∧ (¬ ((wI x2) ≠ 0) → K ((-4611686018427387904)) N2))))))))) : C_X9_life G a1 a2 N K := by
  refine Ctr.ofAW RX9 false rfl (by decide +kernel) (fun q => by cases q) (Nat.le_of_ble_eq_true rfl) (Nat.le_refl _) ?_
  refine A_iload_n dX9_life_0 rfl rfl ?_
  refine A_iconst (v := 0) dX9_life_1 rfl ?_
  refine A_aload_n dX9_life_2 rfl rfl ?_
  refine A_getR (c2 := 0) (i2 := 0) dX9_life_3 fX9_19 rfl (okK9 (by omega)) rfl ?_
  refine A_getI dX9_life_6 fX9_126 rfl (okK0 (by omega)) ?_
  refine A_iconst (v := 1) dX9_life_9 rfl ?_
  refine A_isub dX9_life_10 ?_
  refine B_callS_I (av := [vI a1, vI 0, vI ((N 0 0 1) - 1)]) rfl dX9_life_11 vX9_83 mX9_within rfl (Nat.le_of_ble_eq_true rfl) (by decide) (by decide) rfl (BC_monoI h (fun x1 N1 h => ?_))
  refine B_if_eq (tgt := 26) dX9_life_14 (by decide) rfl ⟨fun q => ?_, fun q => ?_⟩
  · replace h := h.1 q
    refine A_ldc2 (x := (-4611686018427387904)) dX9_life_26 kX9_152 (by decide +kernel) ?_
    exact A_lret dX9_life_29 ⟨rfl, _, rfl, h⟩
  · replace h := h.2 q
    refine A_iload_n dX9_life_17 rfl rfl ?_
    refine A_iconst (v := 0) dX9_life_18 rfl ?_
    refine A_iconst (v := 1) dX9_life_19 rfl ?_
    refine B_callS_I (av := [vI a2, vI 0, vI 1]) rfl dX9_life_20 vX9_83 mX9_within rfl (Nat.le_of_ble_eq_true rfl) (by decide) (by decide) rfl (BC_monoI h (fun x2 N2 h => ?_))
    refine B_if_ne (tgt := 30) dX9_life_23 (by decide) rfl ⟨fun q => ?_, fun q => ?_⟩
    · replace h := h.1 q
      refine A_aload_n dX9_life_30 rfl rfl ?_
      refine A_getR (c2 := 0) (i2 := 0) dX9_life_31 fX9_19 rfl (okK9 (by omega)) rfl ?_
      refine A_getR (c2 := 21) (i2 := 0) dX9_life_34 fX9_127 rfl (okK0 (by omega)) rfl ?_
      refine A_iload_n dX9_life_37 rfl rfl ?_
      obtain ⟨j3, qj3, bj3, h⟩ := h
      refine A_aald (j := j3) (c2 := 5) (i2 := j3) dX9_life_38 (by decide) (by decide) (okK21 (by omega)) qj3 bj3 RF_p0 ?_
      refine A_astore_n (ls' := [(3, _), (0, _), (1, _), (2, _)]) dX9_life_39 rfl (by decide) rfl ?_
      refine A_aload_n dX9_life_40 rfl rfl ?_
      refine A_getL dX9_life_41 fX9_146 rfl (okK5 (by omega)) ?_
      refine A_lconst (v := 0) dX9_life_44 (by decide +kernel) ?_
      refine B_lcmp_gt (tgt := 52) dX9_life_45 rfl dX9_life_46 (by decide) rfl (wlitL (by decide) (by decide)) ⟨fun q => ?_, fun q => ?_⟩
      · replace h := h.1 q
        refine A_aload_n dX9_life_52 rfl rfl ?_
        refine A_getL dX9_life_53 fX9_146 rfl (okK5 (by omega)) ?_
        refine A_aload_n dX9_life_56 rfl rfl ?_
        refine A_getL dX9_life_57 fX9_154 rfl (okK5 (by omega)) ?_
        refine B_callS_L (av := [vL (N2 5 j3 5), vL (N2 5 j3 7)]) rfl dX9_life_60 vX9_157 mX9_commonDivisor rfl (Nat.le_of_ble_eq_true rfl) (by decide) (by decide) rfl (BC_monoL h (fun x4 N4 h => ?_))
        refine A_lstore (ls' := [(4, _), (3, _), (0, _), (1, _), (2, _)]) dX9_life_63 (by decide) rfl ?_
        refine A_lload dX9_life_65 rfl ?_
        refine A_lconst (v := 0) dX9_life_67 (by decide +kernel) ?_
        refine B_lcmp_gt (tgt := 76) dX9_life_68 rfl dX9_life_69 (by decide) rfl (wlitL (by decide) (by decide)) ⟨fun q => ?_, fun q => ?_⟩
        · replace h := h.1 q
          refine A_iload_n dX9_life_76 rfl rfl ?_
          refine B_if_ne (tgt := 87) dX9_life_77 (by decide) rfl ⟨fun q => ?_, fun q => ?_⟩
          · replace h := h.1 q
            refine A_aload_n dX9_life_87 rfl rfl ?_
            refine A_getL dX9_life_88 fX9_146 rfl (okK5 (by omega)) ?_
            refine A_lload dX9_life_91 rfl ?_
            refine B_ldiv dX9_life_93 rfl rfl h.1 ?_
            replace h := h.2
            exact A_lret dX9_life_94 ⟨rfl, _, rfl, h⟩
          · replace h := h.2 q
            refine A_aload_n dX9_life_80 rfl rfl ?_
            refine A_getL dX9_life_81 fX9_154 rfl (okK5 (by omega)) ?_
            refine A_goto (tgt := 91) dX9_life_84 (by decide) ?_
            refine A_lload dX9_life_91 rfl ?_
            refine B_ldiv dX9_life_93 rfl rfl h.1 ?_
            replace h := h.2
            exact A_lret dX9_life_94 ⟨rfl, _, rfl, h⟩
        · replace h := h.2 q
          refine A_ldc2 (x := (-4611686018427387904)) dX9_life_72 kX9_152 (by decide +kernel) ?_
          exact A_lret dX9_life_75 ⟨rfl, _, rfl, h⟩
      · replace h := h.2 q
        refine A_iload_n dX9_life_49 rfl rfl ?_
        refine B_i2l dX9_life_50 rfl ?_
        exact A_lret dX9_life_51 ⟨rfl, _, rfl, h⟩
    · replace h := h.2 q
      refine A_ldc2 (x := (-4611686018427387904)) dX9_life_26 kX9_152 (by decide +kernel) ?_
      exact A_lret dX9_life_29 ⟨rfl, _, rfl, h⟩
set_option maxRecDepth 100000 in
set_option maxHeartbeats 4000000 in
theorem vc_X9_tell {G : GT} {a1 : Int} {a2 : Int} {N : NN} {K : Int → NN → Prop}  (h : (((wI a1) ≠ 0 → W_X9_tell G K 32 [(0, vR 9 0), (1, vI a1), (2, vI a2)] [] N) ∧ (¬ ((wI a1) ≠ 0) → (C_X9_within G a2 0 99999 N (fun x1 N1 => (((wI x1) = 0 → W_X9_tell G K 32 [(0, vR 9 0), (1, vI a1), (2, vI a2)] [] N1) ∧ (¬ ((wI x1) = 0) → (∀ M2 : NN, M2 = up3 N1 6 0 2 a2 → K (N1 6 0 2) M2)))))))) : C_X9_tell G a1 a2 N K := by
  refine Ctr.ofAW RX9 false rfl (by decide +kernel) (fun q => by cases q) (Nat.le_of_ble_eq_true rfl) (Nat.le_refl _) ?_
  refine A_iload_n dX9_tell_0 rfl rfl ?_
  refine B_if_ne (tgt := 32) dX9_tell_1 (by decide) rfl ⟨fun q => ?_, fun q => ?_⟩
  · replace h := h.1 q
    exact A_pick [0, 1, 2] rfl h
  · replace h := h.2 q
    refine A_iload_n dX9_tell_4 rfl rfl ?_
    refine A_iconst (v := 0) dX9_tell_5 rfl ?_
    refine A_ldc (x := 99999) dX9_tell_6 kX9_161 (by decide +kernel) ?_
    refine B_callS_I (av := [vI a2, vI 0, vI 99999]) rfl dX9_tell_8 vX9_83 mX9_within rfl (Nat.le_of_ble_eq_true rfl) (by decide) (by decide) rfl (BC_monoI h (fun x1 N1 h => ?_))
    refine B_if_eq (tgt := 32) dX9_tell_11 (by decide) rfl ⟨fun q => ?_, fun q => ?_⟩
    · replace h := h.1 q
      exact A_pick [0, 1, 2] rfl h
    · replace h := h.2 q
      refine A_aload_n dX9_tell_14 rfl rfl ?_
      refine A_getR (c2 := 6) (i2 := 0) dX9_tell_15 fX9_10 rfl (okK9 (by omega)) rfl ?_
      refine A_getI dX9_tell_18 fX9_162 rfl (okK6 (by omega)) ?_
      refine A_istore_n (ls' := [(3, _), (0, _), (1, _), (2, _)]) dX9_tell_21 rfl (by decide) rfl ?_
      refine A_aload_n dX9_tell_22 rfl rfl ?_
      refine A_getR (c2 := 6) (i2 := 0) dX9_tell_23 fX9_10 rfl (okK9 (by omega)) rfl ?_
      refine A_iload_n dX9_tell_26 rfl rfl ?_
      refine B_putI dX9_tell_27 fX9_162 (by decide) (okK6 (by omega)) (fun M2 eM2 => ?_)
      replace h := h M2 eM2
      refine A_iload_n dX9_tell_30 rfl rfl ?_
      exact A_iret dX9_tell_31 ⟨rfl, _, rfl, h⟩
set_option maxRecDepth 100000 in
set_option maxHeartbeats 4000000 in
theorem vc_X9_tell_32 {G : GT} {l1 : Int} {l2 : Int} {N : NN} {K : Int → NN → Prop}  (h : (((wI l1) ≠ 1 → (((wI l1) ≠ 2 → K ((-2)) N) ∧ (¬ ((wI l1) ≠ 2) → (C_X9_within G l2 0 1 N (fun x1 N1 => (((wI x1) = 0 → K ((-2)) N1) ∧ (¬ ((wI x1) = 0) → (((wI (N1 6 0 4)) = 0 → (((wI l2) ≠ 1 → (∀ M2 : NN, M2 = up3 N1 6 0 4 0 → K 0 M2)) ∧ (¬ ((wI l2) ≠ 1) → (∀ M3 : NN, M3 = up3 N1 6 0 4 1 → K 0 M3)))) ∧ (¬ ((wI (N1 6 0 4)) = 0) → (((wI l2) ≠ 1 → (∀ M4 : NN, M4 = up3 N1 6 0 4 0 → K 1 M4)) ∧ (¬ ((wI l2) ≠ 1) → (∀ M5 : NN, M5 = up3 N1 6 0 4 1 → K 1 M5)))))))))))) ∧ (¬ ((wI l1) ≠ 1) → (C_X9_within G l2 0 100 N (fun x6 N6 => (((wI x6) = 0 → (((wI l1) ≠ 2 → K ((-2)) N6) ∧ (¬ ((wI l1) ≠ 2) → (C_X9_within G l2 0 1 N6 (fun x7 N7 => (((wI x7) = 0 → K ((-2)) N7) ∧ (¬ ((wI x7) = 0) → (((wI (N7 6 0 4)) = 0 → (((wI l2) ≠ 1 → (∀ M8 : NN, M8 = up3 N7 6 0 4 0 → K 0 M8)) ∧ (¬ ((wI l2) ≠ 1) → (∀ M9 : NN, M9 = up3 N7 6 0 4 1 → K 0 M9)))) ∧ (¬ ((wI (N7 6 0 4)) = 0) → (((wI l2) ≠ 1 → (∀ M10 : NN, M10 = up3 N7 6 0 4 0 → K 1 M10)) ∧ (¬ ((wI l2) ≠ 1) → (∀ M11 : NN, M11 = up3 N7 6 0 4 1 → K 1 M11)))))))))))) ∧ (¬ ((wI x6) = 0) → (∀ M12 : NN, M12 = up3 N6 6 0 3 l2 → K (N6 6 0 3) M12)))))))) : W_X9_tell G K 32 [(0, vR 9 0), (1, vI l1), (2, vI l2)] [] N := by
  refine A_iload_n dX9_tell_32 rfl rfl ?_
  refine A_iconst (v := 1) dX9_tell_33 rfl ?_
  refine B_icmp_ne (tgt := 65) dX9_tell_34 (by decide) rfl (wlitI (by decide) (by decide)) ⟨fun q => ?_, fun q => ?_⟩
  · replace h := h.1 q
    refine A_iload_n dX9_tell_65 rfl rfl ?_
    refine A_iconst (v := 2) dX9_tell_66 rfl ?_
    refine B_icmp_ne (tgt := 114) dX9_tell_67 (by decide) rfl (wlitI (by decide) (by decide)) ⟨fun q => ?_, fun q => ?_⟩
    · replace h := h.1 q
      refine A_bipush (v := (-2)) dX9_tell_114 (by decide +kernel) ?_
      exact A_iret dX9_tell_116 ⟨rfl, _, rfl, h⟩
    · replace h := h.2 q
      refine A_iload_n dX9_tell_70 rfl rfl ?_
      refine A_iconst (v := 0) dX9_tell_71 rfl ?_
      refine A_iconst (v := 1) dX9_tell_72 rfl ?_
      refine B_callS_I (av := [vI l2, vI 0, vI 1]) rfl dX9_tell_73 vX9_83 mX9_within rfl (Nat.le_of_ble_eq_true rfl) (by decide) (by decide) rfl (BC_monoI h (fun x1 N1 h => ?_))
      refine B_if_eq (tgt := 114) dX9_tell_76 (by decide) rfl ⟨fun q => ?_, fun q => ?_⟩
      · replace h := h.1 q
        refine A_bipush (v := (-2)) dX9_tell_114 (by decide +kernel) ?_
        exact A_iret dX9_tell_116 ⟨rfl, _, rfl, h⟩
      · replace h := h.2 q
        refine A_aload_n dX9_tell_79 rfl rfl ?_
        refine A_getR (c2 := 6) (i2 := 0) dX9_tell_80 fX9_10 rfl (okK9 (by omega)) rfl ?_
        refine A_getI dX9_tell_83 fX9_168 rfl (okK6 (by omega)) ?_
        refine B_if_eq (tgt := 93) dX9_tell_86 (by decide) rfl ⟨fun q => ?_, fun q => ?_⟩
        · replace h := h.1 q
          refine A_iconst (v := 0) dX9_tell_93 rfl ?_
          refine A_istore_n (ls' := [(3, _), (0, _), (1, _), (2, _)]) dX9_tell_94 rfl (by decide) rfl ?_
          refine A_aload_n dX9_tell_95 rfl rfl ?_
          refine A_getR (c2 := 6) (i2 := 0) dX9_tell_96 fX9_10 rfl (okK9 (by omega)) rfl ?_
          refine A_iload_n dX9_tell_99 rfl rfl ?_
          refine A_iconst (v := 1) dX9_tell_100 rfl ?_
          refine B_icmp_ne (tgt := 108) dX9_tell_101 (by decide) rfl (wlitI (by decide) (by decide)) ⟨fun q => ?_, fun q => ?_⟩
          · replace h := h.1 q
            refine A_iconst (v := 0) dX9_tell_108 rfl ?_
            refine B_putZ dX9_tell_109 fX9_168 (by decide) (okK6 (by omega)) (by decide) (fun M2 eM2 => ?_)
            replace h := h M2 eM2
            refine A_iload_n dX9_tell_112 rfl rfl ?_
            exact A_iret dX9_tell_113 ⟨rfl, _, rfl, h⟩
          · replace h := h.2 q
            refine A_iconst (v := 1) dX9_tell_104 rfl ?_
            refine A_goto (tgt := 109) dX9_tell_105 (by decide) ?_
            refine B_putZ dX9_tell_109 fX9_168 (by decide) (okK6 (by omega)) (by decide) (fun M3 eM3 => ?_)
            replace h := h M3 eM3
            refine A_iload_n dX9_tell_112 rfl rfl ?_
            exact A_iret dX9_tell_113 ⟨rfl, _, rfl, h⟩
        · replace h := h.2 q
          refine A_iconst (v := 1) dX9_tell_89 rfl ?_
          refine A_goto (tgt := 94) dX9_tell_90 (by decide) ?_
          refine A_istore_n (ls' := [(3, _), (0, _), (1, _), (2, _)]) dX9_tell_94 rfl (by decide) rfl ?_
          refine A_aload_n dX9_tell_95 rfl rfl ?_
          refine A_getR (c2 := 6) (i2 := 0) dX9_tell_96 fX9_10 rfl (okK9 (by omega)) rfl ?_
          refine A_iload_n dX9_tell_99 rfl rfl ?_
          refine A_iconst (v := 1) dX9_tell_100 rfl ?_
          refine B_icmp_ne (tgt := 108) dX9_tell_101 (by decide) rfl (wlitI (by decide) (by decide)) ⟨fun q => ?_, fun q => ?_⟩
          · replace h := h.1 q
            refine A_iconst (v := 0) dX9_tell_108 rfl ?_
            refine B_putZ dX9_tell_109 fX9_168 (by decide) (okK6 (by omega)) (by decide) (fun M4 eM4 => ?_)
            replace h := h M4 eM4
            refine A_iload_n dX9_tell_112 rfl rfl ?_
            exact A_iret dX9_tell_113 ⟨rfl, _, rfl, h⟩
          · replace h := h.2 q
            refine A_iconst (v := 1) dX9_tell_104 rfl ?_
            refine A_goto (tgt := 109) dX9_tell_105 (by decide) ?_
            refine B_putZ dX9_tell_109 fX9_168 (by decide) (okK6 (by omega)) (by decide) (fun M5 eM5 => ?_)
            replace h := h M5 eM5
            refine A_iload_n dX9_tell_112 rfl rfl ?_
            exact A_iret dX9_tell_113 ⟨rfl, _, rfl, h⟩
  · replace h := h.2 q
    refine A_iload_n dX9_tell_37 rfl rfl ?_
    refine A_iconst (v := 0) dX9_tell_38 rfl ?_
    refine A_bipush (v := 100) dX9_tell_39 (by decide +kernel) ?_
    refine B_callS_I (av := [vI l2, vI 0, vI 100]) rfl dX9_tell_41 vX9_83 mX9_within rfl (Nat.le_of_ble_eq_true rfl) (by decide) (by decide) rfl (BC_monoI h (fun x6 N6 h => ?_))
    refine B_if_eq (tgt := 65) dX9_tell_44 (by decide) rfl ⟨fun q => ?_, fun q => ?_⟩
    · replace h := h.1 q
      refine A_iload_n dX9_tell_65 rfl rfl ?_
      refine A_iconst (v := 2) dX9_tell_66 rfl ?_
      refine B_icmp_ne (tgt := 114) dX9_tell_67 (by decide) rfl (wlitI (by decide) (by decide)) ⟨fun q => ?_, fun q => ?_⟩
      · replace h := h.1 q
        refine A_bipush (v := (-2)) dX9_tell_114 (by decide +kernel) ?_
        exact A_iret dX9_tell_116 ⟨rfl, _, rfl, h⟩
      · replace h := h.2 q
        refine A_iload_n dX9_tell_70 rfl rfl ?_
        refine A_iconst (v := 0) dX9_tell_71 rfl ?_
        refine A_iconst (v := 1) dX9_tell_72 rfl ?_
        refine B_callS_I (av := [vI l2, vI 0, vI 1]) rfl dX9_tell_73 vX9_83 mX9_within rfl (Nat.le_of_ble_eq_true rfl) (by decide) (by decide) rfl (BC_monoI h (fun x7 N7 h => ?_))
        refine B_if_eq (tgt := 114) dX9_tell_76 (by decide) rfl ⟨fun q => ?_, fun q => ?_⟩
        · replace h := h.1 q
          refine A_bipush (v := (-2)) dX9_tell_114 (by decide +kernel) ?_
          exact A_iret dX9_tell_116 ⟨rfl, _, rfl, h⟩
        · replace h := h.2 q
          refine A_aload_n dX9_tell_79 rfl rfl ?_
          refine A_getR (c2 := 6) (i2 := 0) dX9_tell_80 fX9_10 rfl (okK9 (by omega)) rfl ?_
          refine A_getI dX9_tell_83 fX9_168 rfl (okK6 (by omega)) ?_
          refine B_if_eq (tgt := 93) dX9_tell_86 (by decide) rfl ⟨fun q => ?_, fun q => ?_⟩
          · replace h := h.1 q
            refine A_iconst (v := 0) dX9_tell_93 rfl ?_
            refine A_istore_n (ls' := [(3, _), (0, _), (1, _), (2, _)]) dX9_tell_94 rfl (by decide) rfl ?_
            refine A_aload_n dX9_tell_95 rfl rfl ?_
            refine A_getR (c2 := 6) (i2 := 0) dX9_tell_96 fX9_10 rfl (okK9 (by omega)) rfl ?_
            refine A_iload_n dX9_tell_99 rfl rfl ?_
            refine A_iconst (v := 1) dX9_tell_100 rfl ?_
            refine B_icmp_ne (tgt := 108) dX9_tell_101 (by decide) rfl (wlitI (by decide) (by decide)) ⟨fun q => ?_, fun q => ?_⟩
            · replace h := h.1 q
              refine A_iconst (v := 0) dX9_tell_108 rfl ?_
              refine B_putZ dX9_tell_109 fX9_168 (by decide) (okK6 (by omega)) (by decide) (fun M8 eM8 => ?_)
              replace h := h M8 eM8
              refine A_iload_n dX9_tell_112 rfl rfl ?_
              exact A_iret dX9_tell_113 ⟨rfl, _, rfl, h⟩
            · replace h := h.2 q
              refine A_iconst (v := 1) dX9_tell_104 rfl ?_
              refine A_goto (tgt := 109) dX9_tell_105 (by decide) ?_
              refine B_putZ dX9_tell_109 fX9_168 (by decide) (okK6 (by omega)) (by decide) (fun M9 eM9 => ?_)
              replace h := h M9 eM9
              refine A_iload_n dX9_tell_112 rfl rfl ?_
              exact A_iret dX9_tell_113 ⟨rfl, _, rfl, h⟩
          · replace h := h.2 q
            refine A_iconst (v := 1) dX9_tell_89 rfl ?_
            refine A_goto (tgt := 94) dX9_tell_90 (by decide) ?_
            refine A_istore_n (ls' := [(3, _), (0, _), (1, _), (2, _)]) dX9_tell_94 rfl (by decide) rfl ?_
            refine A_aload_n dX9_tell_95 rfl rfl ?_
            refine A_getR (c2 := 6) (i2 := 0) dX9_tell_96 fX9_10 rfl (okK9 (by omega)) rfl ?_
            refine A_iload_n dX9_tell_99 rfl rfl ?_
            refine A_iconst (v := 1) dX9_tell_100 rfl ?_
            refine B_icmp_ne (tgt := 108) dX9_tell_101 (by decide) rfl (wlitI (by decide) (by decide)) ⟨fun q => ?_, fun q => ?_⟩
            · replace h := h.1 q
              refine A_iconst (v := 0) dX9_tell_108 rfl ?_
              refine B_putZ dX9_tell_109 fX9_168 (by decide) (okK6 (by omega)) (by decide) (fun M10 eM10 => ?_)
              replace h := h M10 eM10
              refine A_iload_n dX9_tell_112 rfl rfl ?_
              exact A_iret dX9_tell_113 ⟨rfl, _, rfl, h⟩
            · replace h := h.2 q
              refine A_iconst (v := 1) dX9_tell_104 rfl ?_
              refine A_goto (tgt := 109) dX9_tell_105 (by decide) ?_
              refine B_putZ dX9_tell_109 fX9_168 (by decide) (okK6 (by omega)) (by decide) (fun M11 eM11 => ?_)
              replace h := h M11 eM11
              refine A_iload_n dX9_tell_112 rfl rfl ?_
              exact A_iret dX9_tell_113 ⟨rfl, _, rfl, h⟩
    · replace h := h.2 q
      refine A_aload_n dX9_tell_47 rfl rfl ?_
      refine A_getR (c2 := 6) (i2 := 0) dX9_tell_48 fX9_10 rfl (okK9 (by omega)) rfl ?_
      refine A_getI dX9_tell_51 fX9_165 rfl (okK6 (by omega)) ?_
      refine A_istore_n (ls' := [(3, _), (0, _), (1, _), (2, _)]) dX9_tell_54 rfl (by decide) rfl ?_
      refine A_aload_n dX9_tell_55 rfl rfl ?_
      refine A_getR (c2 := 6) (i2 := 0) dX9_tell_56 fX9_10 rfl (okK9 (by omega)) rfl ?_
      refine A_iload_n dX9_tell_59 rfl rfl ?_
      refine B_putI dX9_tell_60 fX9_165 (by decide) (okK6 (by omega)) (fun M12 eM12 => ?_)
      replace h := h M12 eM12
      refine A_iload_n dX9_tell_63 rfl rfl ?_
      exact A_iret dX9_tell_64 ⟨rfl, _, rfl, h⟩
set_option maxRecDepth 100000 in
set_option maxHeartbeats 4000000 in
theorem vc_X9_trip {G : GT} {a1 : Int} {a2 : Int} {N : NN} {K : Int → NN → Prop}  (h : (C_X9_within G a1 0 1000 N (fun x1 N1 => (((wI x1) = 0 → K ((-2)) N1) ∧ (¬ ((wI x1) = 0) → (C_X9_within G a2 1 12 N1 (fun x2 N2 => (((wI x2) ≠ 0 → (∀ M3 : NN, M3 = up3 N2 0 0 2 a1 → (∀ M4 : NN, M4 = up3 M3 0 0 3 a2 → K 1 M4))) ∧ (¬ ((wI x2) ≠ 0) → K ((-2)) N2))))))))) : C_X9_trip G a1 a2 N K := by
  refine Ctr.ofAW RX9 false rfl (by decide +kernel) (fun q => by cases q) (Nat.le_of_ble_eq_true rfl) (Nat.le_refl _) ?_
  refine A_iload_n dX9_trip_0 rfl rfl ?_
  refine A_iconst (v := 0) dX9_trip_1 rfl ?_
  refine A_sipush (v := 1000) dX9_trip_2 (by decide +kernel) ?_
  refine B_callS_I (av := [vI a1, vI 0, vI 1000]) rfl dX9_trip_5 vX9_83 mX9_within rfl (Nat.le_of_ble_eq_true rfl) (by decide) (by decide) rfl (BC_monoI h (fun x1 N1 h => ?_))
  refine B_if_eq (tgt := 21) dX9_trip_8 (by decide) rfl ⟨fun q => ?_, fun q => ?_⟩
  · replace h := h.1 q
    refine A_bipush (v := (-2)) dX9_trip_21 (by decide +kernel) ?_
    exact A_iret dX9_trip_23 ⟨rfl, _, rfl, h⟩
  · replace h := h.2 q
    refine A_iload_n dX9_trip_11 rfl rfl ?_
    refine A_iconst (v := 1) dX9_trip_12 rfl ?_
    refine A_bipush (v := 12) dX9_trip_13 (by decide +kernel) ?_
    refine B_callS_I (av := [vI a2, vI 1, vI 12]) rfl dX9_trip_15 vX9_83 mX9_within rfl (Nat.le_of_ble_eq_true rfl) (by decide) (by decide) rfl (BC_monoI h (fun x2 N2 h => ?_))
    refine B_if_ne (tgt := 24) dX9_trip_18 (by decide) rfl ⟨fun q => ?_, fun q => ?_⟩
    · replace h := h.1 q
      refine A_aload_n dX9_trip_24 rfl rfl ?_
      refine A_getR (c2 := 0) (i2 := 0) dX9_trip_25 fX9_19 rfl (okK9 (by omega)) rfl ?_
      refine A_iload_n dX9_trip_28 rfl rfl ?_
      refine B_putI dX9_trip_29 fX9_172 (by decide) (okK0 (by omega)) (fun M3 eM3 => ?_)
      replace h := h M3 eM3
      refine A_aload_n dX9_trip_32 rfl rfl ?_
      refine A_getR (c2 := 0) (i2 := 0) dX9_trip_33 fX9_19 rfl (okK9 (by omega)) rfl ?_
      refine A_iload_n dX9_trip_36 rfl rfl ?_
      refine B_putI dX9_trip_37 fX9_175 (by decide) (okK0 (by omega)) (fun M4 eM4 => ?_)
      replace h := h M4 eM4
      refine A_iconst (v := 1) dX9_trip_40 rfl ?_
      exact A_iret dX9_trip_41 ⟨rfl, _, rfl, h⟩
    · replace h := h.2 q
      refine A_bipush (v := (-2)) dX9_trip_21 (by decide +kernel) ?_
      exact A_iret dX9_trip_23 ⟨rfl, _, rfl, h⟩
set_option maxRecDepth 100000 in
set_option maxHeartbeats 4000000 in
theorem vc_X9_feed {G : GT} {a1 : Int} {a2 : Int} {N : NN} {K : Int → NN → Prop}  (h : (C_X9_within G a1 1 8 N (fun x1 N1 => (((wI x1) ≠ 0 → (((wI ((N1 8 0 1) + a1)) ≤ 160 → (C_X8_append G a1 a2 N1 (fun N2 => K (N2 8 0 1) N2))) ∧ (¬ ((wI ((N1 8 0 1) + a1)) ≤ 160) → K ((-4)) N1))) ∧ (¬ ((wI x1) ≠ 0) → K ((-2)) N1))))) : C_X9_feed G a1 a2 N K := by
  refine Ctr.ofAW RX9 false rfl (by decide +kernel) (fun q => by cases q) (Nat.le_of_ble_eq_true rfl) (Nat.le_refl _) ?_
  refine A_iload_n dX9_feed_0 rfl rfl ?_
  refine A_iconst (v := 1) dX9_feed_1 rfl ?_
  refine A_bipush (v := 8) dX9_feed_2 (by decide +kernel) ?_
  refine B_callS_I (av := [vI a1, vI 1, vI 8]) rfl dX9_feed_4 vX9_83 mX9_within rfl (Nat.le_of_ble_eq_true rfl) (by decide) (by decide) rfl (BC_monoI h (fun x1 N1 h => ?_))
  refine B_if_ne (tgt := 13) dX9_feed_7 (by decide) rfl ⟨fun q => ?_, fun q => ?_⟩
  · replace h := h.1 q
    refine A_aload_n dX9_feed_13 rfl rfl ?_
    refine A_getR (c2 := 8) (i2 := 0) dX9_feed_14 fX9_47 rfl (okK9 (by omega)) rfl ?_
    refine A_getI dX9_feed_17 fX9_178 rfl (okK8 (by omega)) ?_
    refine A_iload_n dX9_feed_20 rfl rfl ?_
    refine A_iadd dX9_feed_21 ?_
    refine A_sipush (v := 160) dX9_feed_22 (by decide +kernel) ?_
    refine B_icmp_le (tgt := 31) dX9_feed_25 (by decide) rfl (wlitI (by decide) (by decide)) ⟨fun q => ?_, fun q => ?_⟩
    · replace h := h.1 q
      refine A_aload_n dX9_feed_31 rfl rfl ?_
      refine A_getR (c2 := 8) (i2 := 0) dX9_feed_32 fX9_47 rfl (okK9 (by omega)) rfl ?_
      refine A_iload_n dX9_feed_35 rfl rfl ?_
      refine A_lload_n dX9_feed_36 rfl rfl ?_
      refine B_callV_V (av := [vI a1, vL a2]) rfl dX9_feed_37 vX9_181 mX8_append ⟨rfl, rfl, by decide⟩ (okK8 (by omega)) rfl (Nat.le_of_ble_eq_true rfl) (by decide) (by decide) rfl (BC_monoV h (fun N2 h => ?_))
      refine A_aload_n dX9_feed_40 rfl rfl ?_
      refine A_getR (c2 := 8) (i2 := 0) dX9_feed_41 fX9_47 rfl (okK9 (by omega)) rfl ?_
      refine A_getI dX9_feed_44 fX9_178 rfl (okK8 (by omega)) ?_
      exact A_iret dX9_feed_47 ⟨rfl, _, rfl, h⟩
    · replace h := h.2 q
      refine A_bipush (v := (-4)) dX9_feed_28 (by decide +kernel) ?_
      exact A_iret dX9_feed_30 ⟨rfl, _, rfl, h⟩
  · replace h := h.2 q
    refine A_bipush (v := (-2)) dX9_feed_10 (by decide +kernel) ?_
    exact A_iret dX9_feed_12 ⟨rfl, _, rfl, h⟩
set_option maxRecDepth 100000 in
set_option maxHeartbeats 4000000 in
theorem vc_X9_text {G : GT} {N : NN} {K : Int → NN → Prop}  (h : (((wI (N 9 0 12)) < 6 → (∃ j1 : Nat, (wI (N 9 0 12)) = (j1 : Int) ∧ j1 < 6 ∧ (C_X1_read G j1 N (fun x2 N2 => (∀ M3 : NN, M3 = up3 N2 8 0 1 0 → (((wI x2) = (-1) → (∀ M4 : NN, M4 = up3 M3 9 0 12 ((M3 9 0 12) + 1) → K ((M4 9 0 12) - 1) M4)) ∧ (¬ ((wI x2) = (-1)) → K (((-100)) - x2) M3))))))) ∧ (¬ ((wI (N 9 0 12)) < 6) → K ((-4)) N))) : C_X9_text G N K := by
  refine Ctr.ofAW RX9 false rfl (by decide +kernel) (fun q => by cases q) (Nat.le_of_ble_eq_true rfl) (Nat.le_refl _) ?_
  refine A_aload_n dX9_text_0 rfl rfl ?_
  refine A_getI dX9_text_1 fX9_69 rfl (okK9 (by omega)) ?_
  refine A_bipush (v := 6) dX9_text_4 (by decide +kernel) ?_
  refine B_icmp_lt (tgt := 12) dX9_text_6 (by decide) rfl (wlitI (by decide) (by decide)) ⟨fun q => ?_, fun q => ?_⟩
  · replace h := h.1 q
    refine A_aload_n dX9_text_12 rfl rfl ?_
    refine A_getR (c2 := 25) (i2 := 0) dX9_text_13 fX9_53 rfl (okK9 (by omega)) rfl ?_
    refine A_aload_n dX9_text_16 rfl rfl ?_
    refine A_getI dX9_text_17 fX9_69 rfl (okK9 (by omega)) ?_
    obtain ⟨j1, qj1, bj1, h⟩ := h
    refine A_aald (j := j1) (c2 := 1) (i2 := j1) dX9_text_20 (by decide) (by decide) (okK25 (by omega)) qj1 bj1 rfl ?_
    refine A_aload_n dX9_text_21 rfl rfl ?_
    refine A_getR (c2 := 8) (i2 := 0) dX9_text_22 fX9_47 rfl (okK9 (by omega)) rfl ?_
    refine B_callV_I (av := [vR 8 0]) rfl dX9_text_25 vX9_185 mX1_read ⟨rfl, rfl, by decide⟩ (okK1 (by omega)) rfl (Nat.le_of_ble_eq_true rfl) (by decide) (by decide) rfl (BC_monoI h (fun x2 N2 h => ?_))
    refine A_istore_n (ls' := [(1, _), (0, _)]) dX9_text_28 rfl (by decide) rfl ?_
    refine A_aload_n dX9_text_29 rfl rfl ?_
    refine A_getR (c2 := 8) (i2 := 0) dX9_text_30 fX9_47 rfl (okK9 (by omega)) rfl ?_
    refine A_iconst (v := 0) dX9_text_33 rfl ?_
    refine B_putI dX9_text_34 fX9_178 (by decide) (okK8 (by omega)) (fun M3 eM3 => ?_)
    replace h := h M3 eM3
    refine A_iload_n dX9_text_37 rfl rfl ?_
    refine A_iconst (v := (-1)) dX9_text_38 rfl ?_
    refine B_icmp_eq (tgt := 47) dX9_text_39 (by decide) rfl (wlitI (by decide) (by decide)) ⟨fun q => ?_, fun q => ?_⟩
    · replace h := h.1 q
      refine A_aload_n dX9_text_47 rfl rfl ?_
      refine A_dup dX9_text_48 rfl ?_
      refine A_getI dX9_text_49 fX9_69 rfl (okK9 (by omega)) ?_
      refine A_iconst (v := 1) dX9_text_52 rfl ?_
      refine A_iadd dX9_text_53 ?_
      refine B_putI dX9_text_54 fX9_69 (by decide) (okK9 (by omega)) (fun M4 eM4 => ?_)
      replace h := h M4 eM4
      refine A_aload_n dX9_text_57 rfl rfl ?_
      refine A_getI dX9_text_58 fX9_69 rfl (okK9 (by omega)) ?_
      refine A_iconst (v := 1) dX9_text_61 rfl ?_
      refine A_isub dX9_text_62 ?_
      exact A_iret dX9_text_63 ⟨rfl, _, rfl, h⟩
    · replace h := h.2 q
      refine A_bipush (v := (-100)) dX9_text_42 (by decide +kernel) ?_
      refine A_iload_n dX9_text_44 rfl rfl ?_
      refine A_isub dX9_text_45 ?_
      exact A_iret dX9_text_46 ⟨rfl, _, rfl, h⟩
  · replace h := h.2 q
    refine A_bipush (v := (-4)) dX9_text_9 (by decide +kernel) ?_
    exact A_iret dX9_text_11 ⟨rfl, _, rfl, h⟩
set_option maxRecDepth 100000 in
set_option maxHeartbeats 4000000 in
theorem vc_X9_force {G : GT} {a1 : Int} {N : NN} {K : Int → NN → Prop}  (h : (C_X9_within G a1 0 ((N 9 0 12) - 1) N (fun x1 N1 => (((wI x1) ≠ 0 → (∀ M2 : NN, M2 = up3 N1 9 0 14 a1 → (∃ j3 : Nat, (wI a1) = (j3 : Int) ∧ j3 < 6 ∧ (∀ M4 : NN, M4 = up3 M2 6 0 6 ((j3 : Nat) : Int) → K (N1 9 0 14) M4)))) ∧ (¬ ((wI x1) ≠ 0) → K ((-2)) N1))))) : C_X9_force G a1 N K := by
  refine Ctr.ofAW RX9 false rfl (by decide +kernel) (fun q => by cases q) (Nat.le_of_ble_eq_true rfl) (Nat.le_refl _) ?_
  refine A_iload_n dX9_force_0 rfl rfl ?_
  refine A_iconst (v := 0) dX9_force_1 rfl ?_
  refine A_aload_n dX9_force_2 rfl rfl ?_
  refine A_getI dX9_force_3 fX9_69 rfl (okK9 (by omega)) ?_
  refine A_iconst (v := 1) dX9_force_6 rfl ?_
  refine A_isub dX9_force_7 ?_
  refine B_callS_I (av := [vI a1, vI 0, vI ((N 9 0 12) - 1)]) rfl dX9_force_8 vX9_83 mX9_within rfl (Nat.le_of_ble_eq_true rfl) (by decide) (by decide) rfl (BC_monoI h (fun x1 N1 h => ?_))
  refine B_if_ne (tgt := 17) dX9_force_11 (by decide) rfl ⟨fun q => ?_, fun q => ?_⟩
  · replace h := h.1 q
    refine A_aload_n dX9_force_17 rfl rfl ?_
    refine A_getI dX9_force_18 fX9_189 rfl (okK9 (by omega)) ?_
    refine A_istore_n (ls' := [(2, _), (0, _), (1, _)]) dX9_force_21 rfl (by decide) rfl ?_
    refine A_aload_n dX9_force_22 rfl rfl ?_
    refine A_iload_n dX9_force_23 rfl rfl ?_
    refine B_putI dX9_force_24 fX9_189 (by decide) (okK9 (by omega)) (fun M2 eM2 => ?_)
    replace h := h M2 eM2
    refine A_aload_n dX9_force_27 rfl rfl ?_
    refine A_getR (c2 := 6) (i2 := 0) dX9_force_28 fX9_10 rfl (okK9 (by omega)) rfl ?_
    refine A_aload_n dX9_force_31 rfl rfl ?_
    refine A_getR (c2 := 25) (i2 := 0) dX9_force_32 fX9_53 rfl (okK9 (by omega)) rfl ?_
    refine A_iload_n dX9_force_35 rfl rfl ?_
    obtain ⟨j3, qj3, bj3, h⟩ := h
    refine A_aald (j := j3) (c2 := 1) (i2 := j3) dX9_force_36 (by decide) (by decide) (okK25 (by omega)) qj3 bj3 rfl ?_
    refine B_law (t := j3) dX9_force_37 fX9_79 (okK6 (by omega)) (fun M4 eM4 => ?_)
    replace h := h M4 eM4
    refine A_iload_n dX9_force_40 rfl rfl ?_
    exact A_iret dX9_force_41 ⟨rfl, _, rfl, h⟩
  · replace h := h.2 q
    refine A_bipush (v := (-2)) dX9_force_14 (by decide +kernel) ?_
    exact A_iret dX9_force_16 ⟨rfl, _, rfl, h⟩
set_option maxRecDepth 100000 in
set_option maxHeartbeats 4000000 in
theorem vc_X9_says {G : GT} {a1 : Int} {a2 : Int} {N : NN} {K : Int → NN → Prop}  (h : (C_X9_within G a1 0 ((N 6 0 1) - 1) N (fun x1 N1 => (((wI x1) = 0 → K ((-4611686018427387904)) N1) ∧ (¬ ((wI x1) = 0) → (C_X9_within G a2 0 2 N1 (fun x2 N2 => (((wI x2) = 0 → K ((-4611686018427387904)) N2) ∧ (¬ ((wI x2) = 0) → (((wI (N2 9 0 11)) < 60 → (0 ≤ N2 6 0 6 ∧ (N2 6 0 6).toNat < 6 ∧ (∃ j3 : Nat, (wI a1) = (j3 : Int) ∧ j3 < 12 ∧ (C_X1_value G ((N2 6 0 6).toNat) a2 j3 ((N2 9 0 11) + 1) N2 (fun x4 N4 => K ((wI x4)) N4))))) ∧ (¬ ((wI (N2 9 0 11)) < 60) → K ((-4611686018427387904)) N2))))))))))) : C_X9_says G a1 a2 N K := by
  refine Ctr.ofAW RX9 false rfl (by decide +kernel) (fun q => by cases q) (Nat.le_of_ble_eq_true rfl) (Nat.le_refl _) ?_
  refine A_iload_n dX9_says_0 rfl rfl ?_
  refine A_iconst (v := 0) dX9_says_1 rfl ?_
  refine A_aload_n dX9_says_2 rfl rfl ?_
  refine A_getR (c2 := 6) (i2 := 0) dX9_says_3 fX9_10 rfl (okK9 (by omega)) rfl ?_
  refine A_getI dX9_says_6 fX9_91 rfl (okK6 (by omega)) ?_
  refine A_iconst (v := 1) dX9_says_9 rfl ?_
  refine A_isub dX9_says_10 ?_
  refine B_callS_I (av := [vI a1, vI 0, vI ((N 6 0 1) - 1)]) rfl dX9_says_11 vX9_83 mX9_within rfl (Nat.le_of_ble_eq_true rfl) (by decide) (by decide) rfl (BC_monoI h (fun x1 N1 h => ?_))
  refine B_if_eq (tgt := 35) dX9_says_14 (by decide) rfl ⟨fun q => ?_, fun q => ?_⟩
  · replace h := h.1 q
    refine A_ldc2 (x := (-4611686018427387904)) dX9_says_35 kX9_152 (by decide +kernel) ?_
    exact A_lret dX9_says_38 ⟨rfl, _, rfl, h⟩
  · replace h := h.2 q
    refine A_iload_n dX9_says_17 rfl rfl ?_
    refine A_iconst (v := 0) dX9_says_18 rfl ?_
    refine A_iconst (v := 2) dX9_says_19 rfl ?_
    refine B_callS_I (av := [vI a2, vI 0, vI 2]) rfl dX9_says_20 vX9_83 mX9_within rfl (Nat.le_of_ble_eq_true rfl) (by decide) (by decide) rfl (BC_monoI h (fun x2 N2 h => ?_))
    refine B_if_eq (tgt := 35) dX9_says_23 (by decide) rfl ⟨fun q => ?_, fun q => ?_⟩
    · replace h := h.1 q
      refine A_ldc2 (x := (-4611686018427387904)) dX9_says_35 kX9_152 (by decide +kernel) ?_
      exact A_lret dX9_says_38 ⟨rfl, _, rfl, h⟩
    · replace h := h.2 q
      refine A_aload_n dX9_says_26 rfl rfl ?_
      refine A_getI dX9_says_27 fX9_88 rfl (okK9 (by omega)) ?_
      refine A_bipush (v := 60) dX9_says_30 (by decide +kernel) ?_
      refine B_icmp_lt (tgt := 39) dX9_says_32 (by decide) rfl (wlitI (by decide) (by decide)) ⟨fun q => ?_, fun q => ?_⟩
      · replace h := h.1 q
        refine A_aload_n dX9_says_39 rfl rfl ?_
        refine A_getR (c2 := 6) (i2 := 0) dX9_says_40 fX9_10 rfl (okK9 (by omega)) rfl ?_
        obtain ⟨q43, q43b, h⟩ := h
        refine A_getR (c2 := 1) (i2 := (N2 6 0 6).toNat) dX9_says_43 fX9_79 rfl (okK6 (by omega)) (if_neg (by omega)) ?_
        refine A_iload_n dX9_says_46 rfl rfl ?_
        refine A_aload_n dX9_says_47 rfl rfl ?_
        refine A_getR (c2 := 6) (i2 := 0) dX9_says_48 fX9_10 rfl (okK9 (by omega)) rfl ?_
        refine A_getR (c2 := 20) (i2 := 0) dX9_says_51 fX9_94 rfl (okK6 (by omega)) rfl ?_
        refine A_iload_n dX9_says_54 rfl rfl ?_
        obtain ⟨j3, qj3, bj3, h⟩ := h
        refine A_aald (j := j3) (c2 := 2) (i2 := j3) dX9_says_55 (by decide) (by decide) (okK20 (by omega)) qj3 bj3 RF_l0 ?_
        refine A_aload_n dX9_says_56 rfl rfl ?_
        refine A_getI dX9_says_57 fX9_88 rfl (okK9 (by omega)) ?_
        refine A_iconst (v := 1) dX9_says_60 rfl ?_
        refine A_iadd dX9_says_61 ?_
        refine B_callV_I (av := [vI a2, vR 2 j3, vI ((N2 9 0 11) + 1)]) rfl dX9_says_62 vX9_192 mX1_value ⟨rfl, rfl, by decide⟩ (okK1 (by omega)) rfl (Nat.le_of_ble_eq_true rfl) (by decide) (by decide) rfl (BC_monoI h (fun x4 N4 h => ?_))
        refine B_i2l dX9_says_65 rfl ?_
        exact A_lret dX9_says_66 ⟨rfl, _, rfl, h⟩
      · replace h := h.2 q
        refine A_ldc2 (x := (-4611686018427387904)) dX9_says_35 kX9_152 (by decide +kernel) ?_
        exact A_lret dX9_says_38 ⟨rfl, _, rfl, h⟩
set_option maxRecDepth 100000 in
set_option maxHeartbeats 4000000 in
theorem vc_X9_order {G : GT} {N : NN} {K : Int → NN → Prop}  (h : (((wI (N 9 0 13)) < 6 → (∃ j1 : Nat, (wI (N 9 0 13)) = (j1 : Int) ∧ j1 < 6 ∧ (C_X4_read G j1 N (fun x2 N2 => (∀ M3 : NN, M3 = up3 N2 8 0 1 0 → (((wI x2) = (-1) → (∀ M4 : NN, M4 = up3 M3 9 0 13 ((M3 9 0 13) + 1) → K ((M4 9 0 13) - 1) M4)) ∧ (¬ ((wI x2) = (-1)) → K (((-100)) - x2) M3))))))) ∧ (¬ ((wI (N 9 0 13)) < 6) → K ((-4)) N))) : C_X9_order G N K := by
  refine Ctr.ofAW RX9 false rfl (by decide +kernel) (fun q => by cases q) (Nat.le_of_ble_eq_true rfl) (Nat.le_refl _) ?_
  refine A_aload_n dX9_order_0 rfl rfl ?_
  refine A_getI dX9_order_1 fX9_73 rfl (okK9 (by omega)) ?_
  refine A_bipush (v := 6) dX9_order_4 (by decide +kernel) ?_
  refine B_icmp_lt (tgt := 12) dX9_order_6 (by decide) rfl (wlitI (by decide) (by decide)) ⟨fun q => ?_, fun q => ?_⟩
  · replace h := h.1 q
    refine A_aload_n dX9_order_12 rfl rfl ?_
    refine A_getR (c2 := 26) (i2 := 0) dX9_order_13 fX9_59 rfl (okK9 (by omega)) rfl ?_
    refine A_aload_n dX9_order_16 rfl rfl ?_
    refine A_getI dX9_order_17 fX9_73 rfl (okK9 (by omega)) ?_
    obtain ⟨j1, qj1, bj1, h⟩ := h
    refine A_aald (j := j1) (c2 := 4) (i2 := j1) dX9_order_20 (by decide) (by decide) (okK26 (by omega)) qj1 bj1 rfl ?_
    refine A_aload_n dX9_order_21 rfl rfl ?_
    refine A_getR (c2 := 8) (i2 := 0) dX9_order_22 fX9_47 rfl (okK9 (by omega)) rfl ?_
    refine B_callV_I (av := [vR 8 0]) rfl dX9_order_25 vX9_196 mX4_read ⟨rfl, rfl, by decide⟩ (okK4 (by omega)) rfl (Nat.le_of_ble_eq_true rfl) (by decide) (by decide) rfl (BC_monoI h (fun x2 N2 h => ?_))
    refine A_istore_n (ls' := [(1, _), (0, _)]) dX9_order_28 rfl (by decide) rfl ?_
    refine A_aload_n dX9_order_29 rfl rfl ?_
    refine A_getR (c2 := 8) (i2 := 0) dX9_order_30 fX9_47 rfl (okK9 (by omega)) rfl ?_
    refine A_iconst (v := 0) dX9_order_33 rfl ?_
    refine B_putI dX9_order_34 fX9_178 (by decide) (okK8 (by omega)) (fun M3 eM3 => ?_)
    replace h := h M3 eM3
    refine A_iload_n dX9_order_37 rfl rfl ?_
    refine A_iconst (v := (-1)) dX9_order_38 rfl ?_
    refine B_icmp_eq (tgt := 47) dX9_order_39 (by decide) rfl (wlitI (by decide) (by decide)) ⟨fun q => ?_, fun q => ?_⟩
    · replace h := h.1 q
      refine A_aload_n dX9_order_47 rfl rfl ?_
      refine A_dup dX9_order_48 rfl ?_
      refine A_getI dX9_order_49 fX9_73 rfl (okK9 (by omega)) ?_
      refine A_iconst (v := 1) dX9_order_52 rfl ?_
      refine A_iadd dX9_order_53 ?_
      refine B_putI dX9_order_54 fX9_73 (by decide) (okK9 (by omega)) (fun M4 eM4 => ?_)
      replace h := h M4 eM4
      refine A_aload_n dX9_order_57 rfl rfl ?_
      refine A_getI dX9_order_58 fX9_73 rfl (okK9 (by omega)) ?_
      refine A_iconst (v := 1) dX9_order_61 rfl ?_
      refine A_isub dX9_order_62 ?_
      exact A_iret dX9_order_63 ⟨rfl, _, rfl, h⟩
    · replace h := h.2 q
      refine A_bipush (v := (-100)) dX9_order_42 (by decide +kernel) ?_
      refine A_iload_n dX9_order_44 rfl rfl ?_
      refine A_isub dX9_order_45 ?_
      exact A_iret dX9_order_46 ⟨rfl, _, rfl, h⟩
  · replace h := h.2 q
    refine A_bipush (v := (-4)) dX9_order_9 (by decide +kernel) ?_
    exact A_iret dX9_order_11 ⟨rfl, _, rfl, h⟩
set_option maxRecDepth 100000 in
set_option maxHeartbeats 4000000 in
theorem vc_X9_step {G : GT} {a1 : Int} {a2 : Int} {a3 : Int} {N : NN} {K : Int → NN → Prop}  (h : (C_X9_within G a1 0 ((N 9 0 13) - 1) N (fun x1 N1 => (((wI x1) ≠ 0 → (∃ j2 : Nat, (wI a1) = (j2 : Int) ∧ j2 < 6 ∧ (C_X9_within G a2 ((-1)) ((N1 4 j2 1) - 1) N1 (fun x3 N3 => (((wI x3) = 0 → K ((-2)) N3) ∧ (¬ ((wI x3) = 0) → (C_X9_within G a3 0 5 N3 (fun x4 N4 => (((wI x4) ≠ 0 → (((wI a2) ≠ (-1) → (∃ j5 : Nat, (wI a2) = (j5 : Int) ∧ j5 < 10 ∧ (∃ j6 : Nat, (wI a3) = (j6 : Int) ∧ j6 < 6 ∧ K (N4 33 (10 * j2 + j5) j6) N4))) ∧ (¬ ((wI a2) ≠ (-1)) → K (N4 4 j2 1) N4))) ∧ (¬ ((wI x4) ≠ 0) → K ((-2)) N4)))))))))) ∧ (¬ ((wI x1) ≠ 0) → K ((-2)) N1))))) : C_X9_step G a1 a2 a3 N K := by
  refine Ctr.ofAW RX9 false rfl (by decide +kernel) (fun q => by cases q) (Nat.le_of_ble_eq_true rfl) (Nat.le_refl _) ?_
  refine A_iload_n dX9_step_0 rfl rfl ?_
  refine A_iconst (v := 0) dX9_step_1 rfl ?_
  refine A_aload_n dX9_step_2 rfl rfl ?_
  refine A_getI dX9_step_3 fX9_73 rfl (okK9 (by omega)) ?_
  refine A_iconst (v := 1) dX9_step_6 rfl ?_
  refine A_isub dX9_step_7 ?_
  refine B_callS_I (av := [vI a1, vI 0, vI ((N 9 0 13) - 1)]) rfl dX9_step_8 vX9_83 mX9_within rfl (Nat.le_of_ble_eq_true rfl) (by decide) (by decide) rfl (BC_monoI h (fun x1 N1 h => ?_))
  refine B_if_ne (tgt := 17) dX9_step_11 (by decide) rfl ⟨fun q => ?_, fun q => ?_⟩
  · replace h := h.1 q
    refine A_aload_n dX9_step_17 rfl rfl ?_
    refine A_getR (c2 := 26) (i2 := 0) dX9_step_18 fX9_59 rfl (okK9 (by omega)) rfl ?_
    refine A_iload_n dX9_step_21 rfl rfl ?_
    obtain ⟨j2, qj2, bj2, h⟩ := h
    refine A_aald (j := j2) (c2 := 4) (i2 := j2) dX9_step_22 (by decide) (by decide) (okK26 (by omega)) qj2 bj2 rfl ?_
    refine A_astore (ls' := [(4, _), (0, _), (1, _), (2, _), (3, _)]) dX9_step_23 (by decide) rfl ?_
    refine A_iload_n dX9_step_25 rfl rfl ?_
    refine A_iconst (v := (-1)) dX9_step_26 rfl ?_
    refine A_aload dX9_step_27 rfl ?_
    refine A_getI dX9_step_29 fX9_197 rfl (okK4 (by omega)) ?_
    refine A_iconst (v := 1) dX9_step_32 rfl ?_
    refine A_isub dX9_step_33 ?_
    refine B_callS_I (av := [vI a2, vI ((-1)), vI ((N1 4 j2 1) - 1)]) rfl dX9_step_34 vX9_83 mX9_within rfl (Nat.le_of_ble_eq_true rfl) (by decide) (by decide) rfl (BC_monoI h (fun x3 N3 h => ?_))
    refine B_if_eq (tgt := 49) dX9_step_37 (by decide) rfl ⟨fun q => ?_, fun q => ?_⟩
    · replace h := h.1 q
      refine A_bipush (v := (-2)) dX9_step_49 (by decide +kernel) ?_
      exact A_iret dX9_step_51 ⟨rfl, _, rfl, h⟩
    · replace h := h.2 q
      refine A_iload_n dX9_step_40 rfl rfl ?_
      refine A_iconst (v := 0) dX9_step_41 rfl ?_
      refine A_iconst (v := 5) dX9_step_42 rfl ?_
      refine B_callS_I (av := [vI a3, vI 0, vI 5]) rfl dX9_step_43 vX9_83 mX9_within rfl (Nat.le_of_ble_eq_true rfl) (by decide) (by decide) rfl (BC_monoI h (fun x4 N4 h => ?_))
      refine B_if_ne (tgt := 52) dX9_step_46 (by decide) rfl ⟨fun q => ?_, fun q => ?_⟩
      · replace h := h.1 q
        refine A_iload_n dX9_step_52 rfl rfl ?_
        refine A_iconst (v := (-1)) dX9_step_53 rfl ?_
        refine B_icmp_ne (tgt := 65) dX9_step_54 (by decide) rfl (wlitI (by decide) (by decide)) ⟨fun q => ?_, fun q => ?_⟩
        · replace h := h.1 q
          refine A_aload dX9_step_65 rfl ?_
          refine A_getR (c2 := 32) (i2 := j2) dX9_step_67 fX9_198 rfl (okK4 (by omega)) rfl ?_
          refine A_iload_n dX9_step_70 rfl rfl ?_
          obtain ⟨j5, qj5, bj5, h⟩ := h
          refine A_aald (j := j5) (c2 := 33) (i2 := 10 * j2 + j5) dX9_step_71 (by decide) (by decide) (okK32 (by omega)) qj5 bj5 rfl ?_
          refine A_iload_n dX9_step_72 rfl rfl ?_
          obtain ⟨j6, qj6, bj6, h⟩ := h
          refine A_iald (j := j6) dX9_step_73 (by decide) rfl (okK33 (by omega)) qj6 bj6 ?_
          exact A_iret dX9_step_74 ⟨rfl, _, rfl, h⟩
        · replace h := h.2 q
          refine A_aload dX9_step_57 rfl ?_
          refine A_getI dX9_step_59 fX9_197 rfl (okK4 (by omega)) ?_
          refine A_goto (tgt := 74) dX9_step_62 (by decide) ?_
          exact A_iret dX9_step_74 ⟨rfl, _, rfl, h⟩
      · replace h := h.2 q
        refine A_bipush (v := (-2)) dX9_step_49 (by decide +kernel) ?_
        exact A_iret dX9_step_51 ⟨rfl, _, rfl, h⟩
  · replace h := h.2 q
    refine A_bipush (v := (-2)) dX9_step_14 (by decide +kernel) ?_
    exact A_iret dX9_step_16 ⟨rfl, _, rfl, h⟩
set_option maxRecDepth 100000 in
set_option maxHeartbeats 4000000 in
theorem vc_X9_amend {G : GT} {a1 : Int} {a2 : Int} {N : NN} {K : Int → NN → Prop}  (h : (C_X9_within G a2 0 ((N 9 0 13) - 1) N (fun x1 N1 => (((wI x1) = 0 → K ((-2)) N1) ∧ (¬ ((wI x1) = 0) → (C_X9_within G a1 1 ((N1 9 0 11) + 1) N1 (fun x2 N2 => (((wI x2) ≠ 0 → W_X9_amend G K 33 [(0, vR 9 0), (2, vI a2), (3, vI a1)] [] N2) ∧ (¬ ((wI x2) ≠ 0) → K ((-2)) N2))))))))) : C_X9_amend G a1 a2 N K := by
  refine Ctr.ofAW RX9 false rfl (by decide +kernel) (fun q => by cases q) (Nat.le_of_ble_eq_true rfl) (Nat.le_refl _) ?_
  refine A_iload_n dX9_amend_0 rfl rfl ?_
  refine A_iconst (v := 0) dX9_amend_1 rfl ?_
  refine A_aload_n dX9_amend_2 rfl rfl ?_
  refine A_getI dX9_amend_3 fX9_73 rfl (okK9 (by omega)) ?_
  refine A_iconst (v := 1) dX9_amend_6 rfl ?_
  refine A_isub dX9_amend_7 ?_
  refine B_callS_I (av := [vI a2, vI 0, vI ((N 9 0 13) - 1)]) rfl dX9_amend_8 vX9_83 mX9_within rfl (Nat.le_of_ble_eq_true rfl) (by decide) (by decide) rfl (BC_monoI h (fun x1 N1 h => ?_))
  refine B_if_eq (tgt := 28) dX9_amend_11 (by decide) rfl ⟨fun q => ?_, fun q => ?_⟩
  · replace h := h.1 q
    refine A_bipush (v := (-2)) dX9_amend_28 (by decide +kernel) ?_
    exact A_iret dX9_amend_30 ⟨rfl, _, rfl, h⟩
  · replace h := h.2 q
    refine A_iload_n dX9_amend_14 rfl rfl ?_
    refine A_iconst (v := 1) dX9_amend_15 rfl ?_
    refine A_aload_n dX9_amend_16 rfl rfl ?_
    refine A_getI dX9_amend_17 fX9_88 rfl (okK9 (by omega)) ?_
    refine A_iconst (v := 1) dX9_amend_20 rfl ?_
    refine A_iadd dX9_amend_21 ?_
    refine B_callS_I (av := [vI a1, vI 1, vI ((N1 9 0 11) + 1)]) rfl dX9_amend_22 vX9_83 mX9_within rfl (Nat.le_of_ble_eq_true rfl) (by decide) (by decide) rfl (BC_monoI h (fun x2 N2 h => ?_))
    refine B_if_ne (tgt := 31) dX9_amend_25 (by decide) rfl ⟨fun q => ?_, fun q => ?_⟩
    · replace h := h.1 q
      refine A_iload_n dX9_amend_31 rfl rfl ?_
      refine A_istore_n (ls' := [(3, _), (0, _), (1, _), (2, _)]) dX9_amend_32 rfl (by decide) rfl ?_
      exact A_pick [1, 3, 0] rfl h
    · replace h := h.2 q
      refine A_bipush (v := (-2)) dX9_amend_28 (by decide +kernel) ?_
      exact A_iret dX9_amend_30 ⟨rfl, _, rfl, h⟩
set_option maxRecDepth 100000 in
set_option maxHeartbeats 4000000 in
theorem vc_X9_amend_33 {G : GT} {l2 : Int} {l3 : Int} {N : NN} {K : Int → NN → Prop}  (h : ((62 ≤ (wI l3) → (C_X0_restart G 0 N (fun N1 => W_X9_amend G K 64 [(0, vR 9 0), (3, vI 1)] [] N1))) ∧ (¬ (62 ≤ (wI l3)) → (∃ j2 : Nat, (wI l3) = (j2 : Int) ∧ j2 < 62 ∧ (∀ M3 : NN, M3 = up3 N 23 0 j2 l2 → W_X9_amend G K 33 [(0, vR 9 0), (2, vI l2), (3, vI (l3 + 1))] [] M3))))) : W_X9_amend G K 33 [(0, vR 9 0), (2, vI l2), (3, vI l3)] [] N := by
  refine A_iload_n dX9_amend_33 rfl rfl ?_
  refine A_aload_n dX9_amend_34 rfl rfl ?_
  refine A_getR (c2 := 23) (i2 := 0) dX9_amend_35 fX9_40 rfl (okK9 (by omega)) rfl ?_
  refine A_alen (v := 62) dX9_amend_38 (by decide) (okK23 (by omega)) (by decide) ?_
  refine B_icmp_ge (tgt := 55) dX9_amend_39 (by decide) rfl (wlitI (by decide) (by decide)) ⟨fun q => ?_, fun q => ?_⟩
  · replace h := h.1 q
    refine A_aload_n dX9_amend_55 rfl rfl ?_
    refine A_getR (c2 := 0) (i2 := 0) dX9_amend_56 fX9_19 rfl (okK9 (by omega)) rfl ?_
    refine B_callV_V (av := []) rfl dX9_amend_59 vX9_202 mX0_restart ⟨rfl, rfl, by decide⟩ (okK0 (by omega)) rfl (Nat.le_of_ble_eq_true rfl) (by decide) (by decide) rfl (BC_monoV h (fun N1 h => ?_))
    refine A_iconst (v := 1) dX9_amend_62 rfl ?_
    refine A_istore_n (ls' := [(3, _), (0, _), (2, _)]) dX9_amend_63 rfl (by decide) rfl ?_
    exact A_pick [1, 0] rfl h
  · replace h := h.2 q
    refine A_aload_n dX9_amend_42 rfl rfl ?_
    refine A_getR (c2 := 23) (i2 := 0) dX9_amend_43 fX9_40 rfl (okK9 (by omega)) rfl ?_
    refine A_iload_n dX9_amend_46 rfl rfl ?_
    refine A_iload_n dX9_amend_47 rfl rfl ?_
    obtain ⟨j2, qj2, bj2, h⟩ := h
    refine B_iast (j := j2) dX9_amend_48 (by decide) rfl (okK23 (by omega)) qj2 bj2 (fun M3 eM3 => ?_)
    replace h := h M3 eM3
    refine A_iinc (ls' := [(3, _), (0, _), (2, _)]) dX9_amend_49 (by decide) rfl rfl rfl ?_
    refine A_goto (tgt := 33) dX9_amend_52 (by decide) ?_
    exact A_pick [1, 2, 0] rfl h
set_option maxRecDepth 100000 in
set_option maxHeartbeats 4000000 in
theorem vc_X9_amend_64 {G : GT} {l3 : Int} {N : NN} {K : Int → NN → Prop}  (h : (((wI (N 9 0 11)) < (wI l3) → K (N 9 0 11) N) ∧ (¬ ((wI (N 9 0 11)) < (wI l3)) → ((61 ≤ (wI l3) → K (N 9 0 11) N) ∧ (¬ (61 ≤ (wI l3)) → (∃ j1 : Nat, (wI l3) = (j1 : Int) ∧ j1 < 61 ∧ (C_X9_orderIn G l3 N (fun x2 N2 => (C_X0_pour G 0 l3 j1 x2 N2 (fun N3 => W_X9_amend G K 64 [(0, vR 9 0), (3, vI (l3 + 1))] [] N3)))))))))) : W_X9_amend G K 64 [(0, vR 9 0), (3, vI l3)] [] N := by
  refine A_iload_n dX9_amend_64 rfl rfl ?_
  refine A_aload_n dX9_amend_65 rfl rfl ?_
  refine A_getI dX9_amend_66 fX9_88 rfl (okK9 (by omega)) ?_
  refine B_icmp_gt (tgt := 106) dX9_amend_69 (by decide) rfl rfl ⟨fun q => ?_, fun q => ?_⟩
  · replace h := h.1 q
    refine A_aload_n dX9_amend_106 rfl rfl ?_
    refine A_getI dX9_amend_107 fX9_88 rfl (okK9 (by omega)) ?_
    exact A_iret dX9_amend_110 ⟨rfl, _, rfl, h⟩
  · replace h := h.2 q
    refine A_iload_n dX9_amend_72 rfl rfl ?_
    refine A_aload_n dX9_amend_73 rfl rfl ?_
    refine A_getR (c2 := 22) (i2 := 0) dX9_amend_74 fX9_36 rfl (okK9 (by omega)) rfl ?_
    refine A_alen (v := 61) dX9_amend_77 (by decide) (okK22 (by omega)) (by decide) ?_
    refine B_icmp_ge (tgt := 106) dX9_amend_78 (by decide) rfl (wlitI (by decide) (by decide)) ⟨fun q => ?_, fun q => ?_⟩
    · replace h := h.1 q
      refine A_aload_n dX9_amend_106 rfl rfl ?_
      refine A_getI dX9_amend_107 fX9_88 rfl (okK9 (by omega)) ?_
      exact A_iret dX9_amend_110 ⟨rfl, _, rfl, h⟩
    · replace h := h.2 q
      refine A_aload_n dX9_amend_81 rfl rfl ?_
      refine A_getR (c2 := 0) (i2 := 0) dX9_amend_82 fX9_19 rfl (okK9 (by omega)) rfl ?_
      refine A_iload_n dX9_amend_85 rfl rfl ?_
      refine A_aload_n dX9_amend_86 rfl rfl ?_
      refine A_getR (c2 := 22) (i2 := 0) dX9_amend_87 fX9_36 rfl (okK9 (by omega)) rfl ?_
      refine A_iload_n dX9_amend_90 rfl rfl ?_
      obtain ⟨j1, qj1, bj1, h⟩ := h
      refine A_aald (j := j1) (c2 := 3) (i2 := j1) dX9_amend_91 (by decide) (by decide) (okK22 (by omega)) qj1 bj1 rfl ?_
      refine A_aload_n dX9_amend_92 rfl rfl ?_
      refine A_iload_n dX9_amend_93 rfl rfl ?_
      refine B_callV_R (av := [vI l3]) rfl dX9_amend_94 vX9_205 mX9_orderIn ⟨rfl, rfl, by decide⟩ (okK9 (by omega)) rfl (Nat.le_of_ble_eq_true rfl) (by decide) (by decide) rfl (BC_monoR h (fun x2 N2 bx2 h => ?_))
      refine B_callV_V (av := [vI l3, vR 3 j1, vR 4 x2]) rfl dX9_amend_97 vX9_209 mX0_pour ⟨rfl, rfl, by decide⟩ (okK0 (by omega)) rfl (Nat.le_of_ble_eq_true rfl) (by decide) (by decide) rfl (BC_monoV h (fun N3 h => ?_))
      refine A_iinc (ls' := [(3, _), (0, _)]) dX9_amend_100 (by decide) rfl rfl rfl ?_
      refine A_goto (tgt := 64) dX9_amend_103 (by decide) ?_
      exact A_pick [1, 0] rfl h
set_option maxRecDepth 100000 in
set_option maxHeartbeats 4000000 in
theorem vc_X9_run {G : GT} {a1 : Int} {N : NN} {K : Int → NN → Prop}  (h : (C_X9_within G a1 1 12 N (fun x1 N1 => (((wI x1) ≠ 0 → (((wI ((N1 9 0 11) + a1)) ≤ 60 → W_X9_run G K 29 [(0, vR 9 0), (1, vI a1), (2, vI 0)] [] N1) ∧ (¬ ((wI ((N1 9 0 11) + a1)) ≤ 60) → K ((-4)) N1))) ∧ (¬ ((wI x1) ≠ 0) → K ((-2)) N1))))) : C_X9_run G a1 N K := by
  refine Ctr.ofAW RX9 false rfl (by decide +kernel) (fun q => by cases q) (Nat.le_of_ble_eq_true rfl) (Nat.le_refl _) ?_
  refine A_iload_n dX9_run_0 rfl rfl ?_
  refine A_iconst (v := 1) dX9_run_1 rfl ?_
  refine A_bipush (v := 12) dX9_run_2 (by decide +kernel) ?_
  refine B_callS_I (av := [vI a1, vI 1, vI 12]) rfl dX9_run_4 vX9_83 mX9_within rfl (Nat.le_of_ble_eq_true rfl) (by decide) (by decide) rfl (BC_monoI h (fun x1 N1 h => ?_))
  refine B_if_ne (tgt := 13) dX9_run_7 (by decide) rfl ⟨fun q => ?_, fun q => ?_⟩
  · replace h := h.1 q
    refine A_aload_n dX9_run_13 rfl rfl ?_
    refine A_getI dX9_run_14 fX9_88 rfl (okK9 (by omega)) ?_
    refine A_iload_n dX9_run_17 rfl rfl ?_
    refine A_iadd dX9_run_18 ?_
    refine A_bipush (v := 60) dX9_run_19 (by decide +kernel) ?_
    refine B_icmp_le (tgt := 27) dX9_run_21 (by decide) rfl (wlitI (by decide) (by decide)) ⟨fun q => ?_, fun q => ?_⟩
    · replace h := h.1 q
      refine A_iconst (v := 0) dX9_run_27 rfl ?_
      refine A_istore_n (ls' := [(2, _), (0, _), (1, _)]) dX9_run_28 rfl (by decide) rfl ?_
      exact A_pick [1, 2, 0] rfl h
    · replace h := h.2 q
      refine A_bipush (v := (-4)) dX9_run_24 (by decide +kernel) ?_
      exact A_iret dX9_run_26 ⟨rfl, _, rfl, h⟩
  · replace h := h.2 q
    refine A_bipush (v := (-2)) dX9_run_10 (by decide +kernel) ?_
    exact A_iret dX9_run_12 ⟨rfl, _, rfl, h⟩
set_option maxRecDepth 100000 in
set_option maxHeartbeats 4000000 in
theorem vc_X9_run_29 {G : GT} {l1 : Int} {l2 : Int} {N : NN} {K : Int → NN → Prop}  (h : (((wI l1) ≤ (wI l2) → K (N 9 0 11) N) ∧ (¬ ((wI l1) ≤ (wI l2)) → (∀ M1 : NN, M1 = up3 N 9 0 11 ((N 9 0 11) + 1) → (∃ j2 : Nat, (wI (M1 9 0 11)) = (j2 : Int) ∧ j2 < 61 ∧ (C_X6_collect G 0 (M1 9 0 11) j2 M1 (fun N3 => (∃ j4 : Nat, (wI (N3 9 0 11)) = (j4 : Int) ∧ j4 < 61 ∧ (C_X9_orderIn G (N3 9 0 11) N3 (fun x5 N5 => (C_X0_pour G 0 (N3 9 0 11) j4 x5 N5 (fun N6 => W_X9_run G K 29 [(0, vR 9 0), (1, vI l1), (2, vI (l2 + 1))] [] N6)))))))))))) : W_X9_run G K 29 [(0, vR 9 0), (1, vI l1), (2, vI l2)] [] N := by
  refine A_iload_n dX9_run_29 rfl rfl ?_
  refine A_iload_n dX9_run_30 rfl rfl ?_
  refine B_icmp_ge (tgt := 98) dX9_run_31 (by decide) rfl rfl ⟨fun q => ?_, fun q => ?_⟩
  · replace h := h.1 q
    refine A_aload_n dX9_run_98 rfl rfl ?_
    refine A_getI dX9_run_99 fX9_88 rfl (okK9 (by omega)) ?_
    exact A_iret dX9_run_102 ⟨rfl, _, rfl, h⟩
  · replace h := h.2 q
    refine A_aload_n dX9_run_34 rfl rfl ?_
    refine A_dup dX9_run_35 rfl ?_
    refine A_getI dX9_run_36 fX9_88 rfl (okK9 (by omega)) ?_
    refine A_iconst (v := 1) dX9_run_39 rfl ?_
    refine A_iadd dX9_run_40 ?_
    refine B_putI dX9_run_41 fX9_88 (by decide) (okK9 (by omega)) (fun M1 eM1 => ?_)
    replace h := h M1 eM1
    refine A_aload_n dX9_run_44 rfl rfl ?_
    refine A_getR (c2 := 6) (i2 := 0) dX9_run_45 fX9_10 rfl (okK9 (by omega)) rfl ?_
    refine A_aload_n dX9_run_48 rfl rfl ?_
    refine A_getI dX9_run_49 fX9_88 rfl (okK9 (by omega)) ?_
    refine A_aload_n dX9_run_52 rfl rfl ?_
    refine A_getR (c2 := 22) (i2 := 0) dX9_run_53 fX9_36 rfl (okK9 (by omega)) rfl ?_
    refine A_aload_n dX9_run_56 rfl rfl ?_
    refine A_getI dX9_run_57 fX9_88 rfl (okK9 (by omega)) ?_
    obtain ⟨j2, qj2, bj2, h⟩ := h
    refine A_aald (j := j2) (c2 := 3) (i2 := j2) dX9_run_60 (by decide) (by decide) (okK22 (by omega)) qj2 bj2 rfl ?_
    refine B_callV_V (av := [vI (M1 9 0 11), vR 3 j2]) rfl dX9_run_61 vX9_213 mX6_collect ⟨rfl, rfl, by decide⟩ (okK6 (by omega)) rfl (Nat.le_of_ble_eq_true rfl) (by decide) (by decide) rfl (BC_monoV h (fun N3 h => ?_))
    refine A_aload_n dX9_run_64 rfl rfl ?_
    refine A_getR (c2 := 0) (i2 := 0) dX9_run_65 fX9_19 rfl (okK9 (by omega)) rfl ?_
    refine A_aload_n dX9_run_68 rfl rfl ?_
    refine A_getI dX9_run_69 fX9_88 rfl (okK9 (by omega)) ?_
    refine A_aload_n dX9_run_72 rfl rfl ?_
    refine A_getR (c2 := 22) (i2 := 0) dX9_run_73 fX9_36 rfl (okK9 (by omega)) rfl ?_
    refine A_aload_n dX9_run_76 rfl rfl ?_
    refine A_getI dX9_run_77 fX9_88 rfl (okK9 (by omega)) ?_
    obtain ⟨j4, qj4, bj4, h⟩ := h
    refine A_aald (j := j4) (c2 := 3) (i2 := j4) dX9_run_80 (by decide) (by decide) (okK22 (by omega)) qj4 bj4 rfl ?_
    refine A_aload_n dX9_run_81 rfl rfl ?_
    refine A_aload_n dX9_run_82 rfl rfl ?_
    refine A_getI dX9_run_83 fX9_88 rfl (okK9 (by omega)) ?_
    refine B_callV_R (av := [vI (N3 9 0 11)]) rfl dX9_run_86 vX9_205 mX9_orderIn ⟨rfl, rfl, by decide⟩ (okK9 (by omega)) rfl (Nat.le_of_ble_eq_true rfl) (by decide) (by decide) rfl (BC_monoR h (fun x5 N5 bx5 h => ?_))
    refine B_callV_V (av := [vI (N3 9 0 11), vR 3 j4, vR 4 x5]) rfl dX9_run_89 vX9_209 mX0_pour ⟨rfl, rfl, by decide⟩ (okK0 (by omega)) rfl (Nat.le_of_ble_eq_true rfl) (by decide) (by decide) rfl (BC_monoV h (fun N6 h => ?_))
    refine A_iinc (ls' := [(2, _), (0, _), (1, _)]) dX9_run_92 (by decide) rfl rfl rfl ?_
    refine A_goto (tgt := 29) dX9_run_95 (by decide) ?_
    exact A_pick [1, 2, 0] rfl h
set_option maxRecDepth 100000 in
set_option maxHeartbeats 4000000 in
theorem vc_X9_month {G : GT} {a1 : Int} {a2 : Int} {N : NN} {K : Int → NN → Prop}  (h : (C_X9_within G a1 1 (N 9 0 11) N (fun x1 N1 => (((wI x1) ≠ 0 → (((wI a2) ≠ 11 → (∃ j2 : Nat, (wI a1) = (j2 : Int) ∧ j2 < 61 ∧ (C_X3_fact G j2 a2 N1 (fun x3 N3 => K x3 N3)))) ∧ (¬ ((wI a2) ≠ 11) → (∃ j4 : Nat, (wI a1) = (j4 : Int) ∧ j4 < 62 ∧ K (N1 23 0 j4) N1)))) ∧ (¬ ((wI x1) ≠ 0) → K ((-2)) N1))))) : C_X9_month G a1 a2 N K := by
  refine Ctr.ofAW RX9 false rfl (by decide +kernel) (fun q => by cases q) (Nat.le_of_ble_eq_true rfl) (Nat.le_refl _) ?_
  refine A_iload_n dX9_month_0 rfl rfl ?_
  refine A_iconst (v := 1) dX9_month_1 rfl ?_
  refine A_aload_n dX9_month_2 rfl rfl ?_
  refine A_getI dX9_month_3 fX9_88 rfl (okK9 (by omega)) ?_
  refine B_callS_I (av := [vI a1, vI 1, vI (N 9 0 11)]) rfl dX9_month_6 vX9_83 mX9_within rfl (Nat.le_of_ble_eq_true rfl) (by decide) (by decide) rfl (BC_monoI h (fun x1 N1 h => ?_))
  refine B_if_ne (tgt := 15) dX9_month_9 (by decide) rfl ⟨fun q => ?_, fun q => ?_⟩
  · replace h := h.1 q
    refine A_iload_n dX9_month_15 rfl rfl ?_
    refine A_bipush (v := 11) dX9_month_16 (by decide +kernel) ?_
    refine B_icmp_ne (tgt := 30) dX9_month_18 (by decide) rfl (wlitI (by decide) (by decide)) ⟨fun q => ?_, fun q => ?_⟩
    · replace h := h.1 q
      refine A_aload_n dX9_month_30 rfl rfl ?_
      refine A_getR (c2 := 22) (i2 := 0) dX9_month_31 fX9_36 rfl (okK9 (by omega)) rfl ?_
      refine A_iload_n dX9_month_34 rfl rfl ?_
      obtain ⟨j2, qj2, bj2, h⟩ := h
      refine A_aald (j := j2) (c2 := 3) (i2 := j2) dX9_month_35 (by decide) (by decide) (okK22 (by omega)) qj2 bj2 rfl ?_
      refine A_iload_n dX9_month_36 rfl rfl ?_
      refine B_callV_I (av := [vI a2]) rfl dX9_month_37 vX9_217 mX3_fact ⟨rfl, rfl, by decide⟩ (okK3 (by omega)) rfl (Nat.le_of_ble_eq_true rfl) (by decide) (by decide) rfl (BC_monoI h (fun x3 N3 h => ?_))
      exact A_iret dX9_month_40 ⟨rfl, _, rfl, h⟩
    · replace h := h.2 q
      refine A_aload_n dX9_month_21 rfl rfl ?_
      refine A_getR (c2 := 23) (i2 := 0) dX9_month_22 fX9_40 rfl (okK9 (by omega)) rfl ?_
      refine A_iload_n dX9_month_25 rfl rfl ?_
      obtain ⟨j4, qj4, bj4, h⟩ := h
      refine A_iald (j := j4) dX9_month_26 (by decide) rfl (okK23 (by omega)) qj4 bj4 ?_
      refine A_goto (tgt := 40) dX9_month_27 (by decide) ?_
      exact A_iret dX9_month_40 ⟨rfl, _, rfl, h⟩
  · replace h := h.2 q
    refine A_bipush (v := (-2)) dX9_month_12 (by decide +kernel) ?_
    exact A_iret dX9_month_14 ⟨rfl, _, rfl, h⟩
set_option maxRecDepth 100000 in
set_option maxHeartbeats 4000000 in
theorem vc_X9_paid {G : GT} {a1 : Int} {a2 : Int} {N : NN} {K : Int → NN → Prop}  (h : (C_X9_within G a1 1 (N 9 0 11) N (fun x1 N1 => (((wI x1) ≠ 0 → (C_X9_orderIn G a1 N1 (fun x2 N2 => (C_X9_within G a2 0 ((N2 4 x2 1) - 1) N2 (fun x3 N3 => (((wI x3) = 0 → K ((-1)) N3) ∧ (¬ ((wI x3) = 0) → (∃ j4 : Nat, (wI a1) = (j4 : Int) ∧ j4 < 61 ∧ (∃ j5 : Nat, (wI a2) = (j5 : Int) ∧ j5 < 10 ∧ K (N3 28 j4 j5) N3))))))))) ∧ (¬ ((wI x1) ≠ 0) → K ((-2)) N1))))) : C_X9_paid G a1 a2 N K := by
  refine Ctr.ofAW RX9 false rfl (by decide +kernel) (fun q => by cases q) (Nat.le_of_ble_eq_true rfl) (Nat.le_refl _) ?_
  refine A_iload_n dX9_paid_0 rfl rfl ?_
  refine A_iconst (v := 1) dX9_paid_1 rfl ?_
  refine A_aload_n dX9_paid_2 rfl rfl ?_
  refine A_getI dX9_paid_3 fX9_88 rfl (okK9 (by omega)) ?_
  refine B_callS_I (av := [vI a1, vI 1, vI (N 9 0 11)]) rfl dX9_paid_6 vX9_83 mX9_within rfl (Nat.le_of_ble_eq_true rfl) (by decide) (by decide) rfl (BC_monoI h (fun x1 N1 h => ?_))
  refine B_if_ne (tgt := 15) dX9_paid_9 (by decide) rfl ⟨fun q => ?_, fun q => ?_⟩
  · replace h := h.1 q
    refine A_iload_n dX9_paid_15 rfl rfl ?_
    refine A_iconst (v := 0) dX9_paid_16 rfl ?_
    refine A_aload_n dX9_paid_17 rfl rfl ?_
    refine A_iload_n dX9_paid_18 rfl rfl ?_
    refine B_callV_R (av := [vI a1]) rfl dX9_paid_19 vX9_205 mX9_orderIn ⟨rfl, rfl, by decide⟩ (okK9 (by omega)) rfl (Nat.le_of_ble_eq_true rfl) (by decide) (by decide) rfl (BC_monoR h (fun x2 N2 bx2 h => ?_))
    refine A_getI dX9_paid_22 fX9_197 rfl (okK4 (by omega)) ?_
    refine A_iconst (v := 1) dX9_paid_25 rfl ?_
    refine A_isub dX9_paid_26 ?_
    refine B_callS_I (av := [vI a2, vI 0, vI ((N2 4 x2 1) - 1)]) rfl dX9_paid_27 vX9_83 mX9_within rfl (Nat.le_of_ble_eq_true rfl) (by decide) (by decide) rfl (BC_monoI h (fun x3 N3 h => ?_))
    refine B_if_eq (tgt := 48) dX9_paid_30 (by decide) rfl ⟨fun q => ?_, fun q => ?_⟩
    · replace h := h.1 q
      refine A_iconst (v := (-1)) dX9_paid_48 rfl ?_
      exact A_iret dX9_paid_49 ⟨rfl, _, rfl, h⟩
    · replace h := h.2 q
      refine A_aload_n dX9_paid_33 rfl rfl ?_
      refine A_getR (c2 := 22) (i2 := 0) dX9_paid_34 fX9_36 rfl (okK9 (by omega)) rfl ?_
      refine A_iload_n dX9_paid_37 rfl rfl ?_
      obtain ⟨j4, qj4, bj4, h⟩ := h
      refine A_aald (j := j4) (c2 := 3) (i2 := j4) dX9_paid_38 (by decide) (by decide) (okK22 (by omega)) qj4 bj4 rfl ?_
      refine A_getR (c2 := 28) (i2 := j4) dX9_paid_39 fX9_221 rfl (okK3 (by omega)) rfl ?_
      refine A_iload_n dX9_paid_42 rfl rfl ?_
      obtain ⟨j5, qj5, bj5, h⟩ := h
      refine A_lald (j := j5) dX9_paid_43 (by decide) rfl (okK28 (by omega)) qj5 bj5 ?_
      refine A_l2i dX9_paid_44 ?_
      refine A_goto (tgt := 49) dX9_paid_45 (by decide) ?_
      exact A_iret dX9_paid_49 ⟨rfl, _, rfl, h⟩
  · replace h := h.2 q
    refine A_bipush (v := (-2)) dX9_paid_12 (by decide +kernel) ?_
    exact A_iret dX9_paid_14 ⟨rfl, _, rfl, h⟩
set_option maxRecDepth 100000 in
set_option maxHeartbeats 4000000 in
theorem vc_X9_buy {G : GT} {a1 : Int} {N : NN} {K : Int → NN → Prop}  (h : (C_X9_within G a1 0 ((N 6 0 1) - 1) N (fun x1 N1 => (((wI x1) ≠ 0 → (∃ j2 : Nat, (wI a1) = (j2 : Int) ∧ j2 < 12 ∧ (C_X2_goesOn G j2 N1 (fun x3 N3 => (((wI x3) ≠ 0 → (∀ M4 : NN, M4 = up3 N3 2 j2 5 6 → K ((M4 2 j2 1) + (M4 2 j2 4)) M4)) ∧ (¬ ((wI x3) ≠ 0) → K ((-3)) N3)))))) ∧ (¬ ((wI x1) ≠ 0) → K ((-2)) N1))))) : C_X9_buy G a1 N K := by
  refine Ctr.ofAW RX9 false rfl (by decide +kernel) (fun q => by cases q) (Nat.le_of_ble_eq_true rfl) (Nat.le_refl _) ?_
  refine A_iload_n dX9_buy_0 rfl rfl ?_
  refine A_iconst (v := 0) dX9_buy_1 rfl ?_
  refine A_aload_n dX9_buy_2 rfl rfl ?_
  refine A_getR (c2 := 6) (i2 := 0) dX9_buy_3 fX9_10 rfl (okK9 (by omega)) rfl ?_
  refine A_getI dX9_buy_6 fX9_91 rfl (okK6 (by omega)) ?_
  refine A_iconst (v := 1) dX9_buy_9 rfl ?_
  refine A_isub dX9_buy_10 ?_
  refine B_callS_I (av := [vI a1, vI 0, vI ((N 6 0 1) - 1)]) rfl dX9_buy_11 vX9_83 mX9_within rfl (Nat.le_of_ble_eq_true rfl) (by decide) (by decide) rfl (BC_monoI h (fun x1 N1 h => ?_))
  refine B_if_ne (tgt := 20) dX9_buy_14 (by decide) rfl ⟨fun q => ?_, fun q => ?_⟩
  · replace h := h.1 q
    refine A_aload_n dX9_buy_20 rfl rfl ?_
    refine A_getR (c2 := 6) (i2 := 0) dX9_buy_21 fX9_10 rfl (okK9 (by omega)) rfl ?_
    refine A_getR (c2 := 20) (i2 := 0) dX9_buy_24 fX9_94 rfl (okK6 (by omega)) rfl ?_
    refine A_iload_n dX9_buy_27 rfl rfl ?_
    obtain ⟨j2, qj2, bj2, h⟩ := h
    refine A_aald (j := j2) (c2 := 2) (i2 := j2) dX9_buy_28 (by decide) (by decide) (okK20 (by omega)) qj2 bj2 RF_l0 ?_
    refine A_astore_n (ls' := [(2, _), (0, _), (1, _)]) dX9_buy_29 rfl (by decide) rfl ?_
    refine A_aload_n dX9_buy_30 rfl rfl ?_
    refine B_callV_I (av := []) rfl dX9_buy_31 vX9_225 mX2_goesOn ⟨rfl, rfl, by decide⟩ (okK2 (by omega)) rfl (Nat.le_of_ble_eq_true rfl) (by decide) (by decide) rfl (BC_monoI h (fun x3 N3 h => ?_))
    refine B_if_ne (tgt := 40) dX9_buy_34 (by decide) rfl ⟨fun q => ?_, fun q => ?_⟩
    · replace h := h.1 q
      refine A_aload_n dX9_buy_40 rfl rfl ?_
      refine A_bipush (v := 6) dX9_buy_41 (by decide +kernel) ?_
      refine B_putI dX9_buy_43 fX9_119 (by decide) (okK2 (by omega)) (fun M4 eM4 => ?_)
      replace h := h M4 eM4
      refine A_aload_n dX9_buy_46 rfl rfl ?_
      refine A_getL dX9_buy_47 fX9_107 rfl (okK2 (by omega)) ?_
      refine A_aload_n dX9_buy_50 rfl rfl ?_
      refine A_getL dX9_buy_51 fX9_116 rfl (okK2 (by omega)) ?_
      refine A_ladd dX9_buy_54 ?_
      refine A_l2i dX9_buy_55 ?_
      exact A_iret dX9_buy_56 ⟨rfl, _, rfl, h⟩
    · replace h := h.2 q
      refine A_bipush (v := (-3)) dX9_buy_37 (by decide +kernel) ?_
      exact A_iret dX9_buy_39 ⟨rfl, _, rfl, h⟩
  · replace h := h.2 q
    refine A_bipush (v := (-2)) dX9_buy_17 (by decide +kernel) ?_
    exact A_iret dX9_buy_19 ⟨rfl, _, rfl, h⟩
set_option maxRecDepth 100000 in
set_option maxHeartbeats 4000000 in
theorem vc_X9_report {G : GT} {a1 : Int} {a2 : Int} {a3 : Int} {a4 : Int} {a5 : Int} {N : NN} {K : Int → NN → Prop}  (h : (C_X9_within G a1 1 (N 9 0 11) N (fun x1 N1 => (((wI x1) ≠ 0 → (C_X9_refusalOf G a2 a3 a5 N1 (fun x2 N2 => (((wI x2) = 0 → (((wI a5) ≤ 0 → (∃ j3 : Nat, (wI a2) = (j3 : Int) ∧ j3 < 4 ∧ (C_X9_firstUnlike G j3 a4 a5 a1 N2 (fun x4 N4 => K x4 N4)))) ∧ (¬ ((wI a5) ≤ 0) → (∃ j5 : Nat, (wI a2) = (j5 : Int) ∧ j5 < 4 ∧ (C_X7_holds G j5 ((wI a4)) N2 (fun x6 N6 => (((wI x6) = 0 → K ((-12)) N6) ∧ (¬ ((wI x6) = 0) → (∃ j7 : Nat, (wI a2) = (j7 : Int) ∧ j7 < 4 ∧ (C_X7_holds G j7 ((((wI a4)) + ((wI a5))) - 1) N6 (fun x8 N8 => (((wI x8) ≠ 0 → (∃ j9 : Nat, (wI a2) = (j9 : Int) ∧ j9 < 4 ∧ (C_X9_firstUnlike G j9 a4 a5 a1 N8 (fun x10 N10 => K x10 N10)))) ∧ (¬ ((wI x8) ≠ 0) → K ((-12)) N8))))))))))))) ∧ (¬ ((wI x2) = 0) → K x2 N2))))) ∧ (¬ ((wI x1) ≠ 0) → K ((-2)) N1))))) : C_X9_report G a1 a2 a3 a4 a5 N K := by
  refine Ctr.ofAW RX9 false rfl (by decide +kernel) (fun q => by cases q) (Nat.le_of_ble_eq_true rfl) (Nat.le_refl _) ?_
  refine A_iload_n dX9_report_0 rfl rfl ?_
  refine A_iconst (v := 1) dX9_report_1 rfl ?_
  refine A_aload_n dX9_report_2 rfl rfl ?_
  refine A_getI dX9_report_3 fX9_88 rfl (okK9 (by omega)) ?_
  refine B_callS_I (av := [vI a1, vI 1, vI (N 9 0 11)]) rfl dX9_report_6 vX9_83 mX9_within rfl (Nat.le_of_ble_eq_true rfl) (by decide) (by decide) rfl (BC_monoI h (fun x1 N1 h => ?_))
  refine B_if_ne (tgt := 15) dX9_report_9 (by decide) rfl ⟨fun q => ?_, fun q => ?_⟩
  · replace h := h.1 q
    refine A_aload_n dX9_report_15 rfl rfl ?_
    refine A_iload_n dX9_report_16 rfl rfl ?_
    refine A_iload_n dX9_report_17 rfl rfl ?_
    refine A_iload dX9_report_18 rfl ?_
    refine B_callV_I (av := [vI a2, vI a3, vI a5]) rfl dX9_report_20 vX9_229 mX9_refusalOf ⟨rfl, rfl, by decide⟩ (okK9 (by omega)) rfl (Nat.le_of_ble_eq_true rfl) (by decide) (by decide) rfl (BC_monoI h (fun x2 N2 h => ?_))
    refine A_istore (ls' := [(6, _), (0, _), (1, _), (2, _), (3, _), (4, _), (5, _)]) dX9_report_23 (by decide) rfl ?_
    refine A_iload dX9_report_25 rfl ?_
    refine B_if_eq (tgt := 33) dX9_report_27 (by decide) rfl ⟨fun q => ?_, fun q => ?_⟩
    · replace h := h.1 q
      refine A_iload dX9_report_33 rfl ?_
      refine B_if_le (tgt := 77) dX9_report_35 (by decide) rfl ⟨fun q => ?_, fun q => ?_⟩
      · replace h := h.1 q
        refine A_aload_n dX9_report_77 rfl rfl ?_
        refine A_aload_n dX9_report_78 rfl rfl ?_
        refine A_getR (c2 := 27) (i2 := 0) dX9_report_79 fX9_65 rfl (okK9 (by omega)) rfl ?_
        refine A_iload_n dX9_report_82 rfl rfl ?_
        obtain ⟨j3, qj3, bj3, h⟩ := h
        refine A_aald (j := j3) (c2 := 7) (i2 := j3) dX9_report_83 (by decide) (by decide) (okK27 (by omega)) qj3 bj3 rfl ?_
        refine A_getR (c2 := 34) (i2 := j3) dX9_report_84 fX9_237 rfl (okK7 (by omega)) rfl ?_
        refine A_iload dX9_report_87 rfl ?_
        refine A_iload dX9_report_89 rfl ?_
        refine A_iload_n dX9_report_91 rfl rfl ?_
        refine B_callV_I (av := [vR 34 j3, vI a4, vI a5, vI a1]) rfl dX9_report_92 vX9_240 mX9_firstUnlike ⟨rfl, rfl, by decide⟩ (okK9 (by omega)) rfl (Nat.le_of_ble_eq_true rfl) (by decide) (by decide) rfl (BC_monoI h (fun x4 N4 h => ?_))
        exact A_iret dX9_report_95 ⟨rfl, _, rfl, h⟩
      · replace h := h.2 q
        refine A_aload_n dX9_report_38 rfl rfl ?_
        refine A_getR (c2 := 27) (i2 := 0) dX9_report_39 fX9_65 rfl (okK9 (by omega)) rfl ?_
        refine A_iload_n dX9_report_42 rfl rfl ?_
        obtain ⟨j5, qj5, bj5, h⟩ := h
        refine A_aald (j := j5) (c2 := 7) (i2 := j5) dX9_report_43 (by decide) (by decide) (okK27 (by omega)) qj5 bj5 rfl ?_
        refine A_iload dX9_report_44 rfl ?_
        refine B_i2l dX9_report_46 rfl ?_
        refine B_callV_I (av := [vL ((wI a4))]) rfl dX9_report_47 vX9_233 mX7_holds ⟨rfl, rfl, by decide⟩ (okK7 (by omega)) rfl (Nat.le_of_ble_eq_true rfl) (by decide) (by decide) rfl (BC_monoI h (fun x6 N6 h => ?_))
        refine B_if_eq (tgt := 74) dX9_report_50 (by decide) rfl ⟨fun q => ?_, fun q => ?_⟩
        · replace h := h.1 q
          refine A_bipush (v := (-12)) dX9_report_74 (by decide +kernel) ?_
          exact A_iret dX9_report_76 ⟨rfl, _, rfl, h⟩
        · replace h := h.2 q
          refine A_aload_n dX9_report_53 rfl rfl ?_
          refine A_getR (c2 := 27) (i2 := 0) dX9_report_54 fX9_65 rfl (okK9 (by omega)) rfl ?_
          refine A_iload_n dX9_report_57 rfl rfl ?_
          obtain ⟨j7, qj7, bj7, h⟩ := h
          refine A_aald (j := j7) (c2 := 7) (i2 := j7) dX9_report_58 (by decide) (by decide) (okK27 (by omega)) qj7 bj7 rfl ?_
          refine A_iload dX9_report_59 rfl ?_
          refine B_i2l dX9_report_61 rfl ?_
          refine A_iload dX9_report_62 rfl ?_
          refine B_i2l dX9_report_64 rfl ?_
          refine A_ladd dX9_report_65 ?_
          refine A_lconst (v := 1) dX9_report_66 (by decide +kernel) ?_
          refine A_lsub dX9_report_67 ?_
          refine B_callV_I (av := [vL ((((wI a4)) + ((wI a5))) - 1)]) rfl dX9_report_68 vX9_233 mX7_holds ⟨rfl, rfl, by decide⟩ (okK7 (by omega)) rfl (Nat.le_of_ble_eq_true rfl) (by decide) (by decide) rfl (BC_monoI h (fun x8 N8 h => ?_))
          refine B_if_ne (tgt := 77) dX9_report_71 (by decide) rfl ⟨fun q => ?_, fun q => ?_⟩
          · replace h := h.1 q
            refine A_aload_n dX9_report_77 rfl rfl ?_
            refine A_aload_n dX9_report_78 rfl rfl ?_
            refine A_getR (c2 := 27) (i2 := 0) dX9_report_79 fX9_65 rfl (okK9 (by omega)) rfl ?_
            refine A_iload_n dX9_report_82 rfl rfl ?_
            obtain ⟨j9, qj9, bj9, h⟩ := h
            refine A_aald (j := j9) (c2 := 7) (i2 := j9) dX9_report_83 (by decide) (by decide) (okK27 (by omega)) qj9 bj9 rfl ?_
            refine A_getR (c2 := 34) (i2 := j9) dX9_report_84 fX9_237 rfl (okK7 (by omega)) rfl ?_
            refine A_iload dX9_report_87 rfl ?_
            refine A_iload dX9_report_89 rfl ?_
            refine A_iload_n dX9_report_91 rfl rfl ?_
            refine B_callV_I (av := [vR 34 j9, vI a4, vI a5, vI a1]) rfl dX9_report_92 vX9_240 mX9_firstUnlike ⟨rfl, rfl, by decide⟩ (okK9 (by omega)) rfl (Nat.le_of_ble_eq_true rfl) (by decide) (by decide) rfl (BC_monoI h (fun x10 N10 h => ?_))
            exact A_iret dX9_report_95 ⟨rfl, _, rfl, h⟩
          · replace h := h.2 q
            refine A_bipush (v := (-12)) dX9_report_74 (by decide +kernel) ?_
            exact A_iret dX9_report_76 ⟨rfl, _, rfl, h⟩
    · replace h := h.2 q
      refine A_iload dX9_report_30 rfl ?_
      exact A_iret dX9_report_32 ⟨rfl, _, rfl, h⟩
  · replace h := h.2 q
    refine A_bipush (v := (-2)) dX9_report_12 (by decide +kernel) ?_
    exact A_iret dX9_report_14 ⟨rfl, _, rfl, h⟩
set_option maxRecDepth 100000 in
set_option maxHeartbeats 4000000 in
theorem vc_X9_firstUnlike {G : GT} {i1 : Nat} {a2 : Int} {a3 : Int} {a4 : Int} {N : NN} {K : Int → NN → Prop} (h_i1 : i1 < 4) (h : (C_X9_orderIn G a4 N (fun x1 N1 => W_X9_firstUnlike G K 14 [(0, vR 9 0), (1, vR 34 i1), (2, vI a2), (3, vI a3), (4, vI a4), (5, vI (N1 4 x1 1)), (6, vI 0)] [] N1))) : C_X9_firstUnlike G i1 a2 a3 a4 N K := by
  refine Ctr.ofAW RX9 false rfl (by decide +kernel) (fun q => by cases q) (Nat.le_of_ble_eq_true rfl) (Nat.le_refl _) ?_
  refine A_aload_n dX9_firstUnlike_0 rfl rfl ?_
  refine A_iload dX9_firstUnlike_1 rfl ?_
  refine B_callV_R (av := [vI a4]) rfl dX9_firstUnlike_3 vX9_205 mX9_orderIn ⟨rfl, rfl, by decide⟩ (okK9 (by omega)) rfl (Nat.le_of_ble_eq_true rfl) (by decide) (by decide) rfl (BC_monoR h (fun x1 N1 bx1 h => ?_))
  refine A_getI dX9_firstUnlike_6 fX9_197 rfl (okK4 (by omega)) ?_
  refine A_istore (ls' := [(5, _), (0, _), (1, _), (2, _), (3, _), (4, _)]) dX9_firstUnlike_9 (by decide) rfl ?_
  refine A_iconst (v := 0) dX9_firstUnlike_11 rfl ?_
  refine A_istore (ls' := [(6, _), (5, _), (0, _), (1, _), (2, _), (3, _), (4, _)]) dX9_firstUnlike_12 (by decide) rfl ?_
  exact A_pick [2, 3, 4, 5, 6, 1, 0] rfl h
set_option maxRecDepth 100000 in
set_option maxHeartbeats 4000000 in
theorem vc_X9_firstUnlike_14 {G : GT} {i1 : Nat} {l2 : Int} {l3 : Int} {l4 : Int} {l5 : Int} {l6 : Int} {N : NN} {K : Int → NN → Prop} (h_i1 : i1 < 4) (h : (((wI l3) ≤ (wI l6) → K ((-1)) N) ∧ (¬ ((wI l3) ≤ (wI l6)) → (C_X9_within G (l2 + l6) 0 (40 - 1) N (fun x1 N1 => (((wI x1) = 0 → K ((-1)) N1) ∧ (¬ ((wI x1) = 0) → (((wI l5) ≤ (wI l6) → (∃ j2 : Nat, (wI (l2 + l6)) = (j2 : Int) ∧ j2 < 40 ∧ (((wL ((wI (N1 34 i1 j2)))) = 0 → W_X9_firstUnlike G K 14 [(0, vR 9 0), (1, vR 34 i1), (2, vI l2), (3, vI l3), (4, vI l4), (5, vI l5), (6, vI (l6 + 1))] [] N1) ∧ (¬ ((wL ((wI (N1 34 i1 j2)))) = 0) → K l6 N1)))) ∧ (¬ ((wI l5) ≤ (wI l6)) → ((10 ≤ (wI l6) → (∃ j3 : Nat, (wI (l2 + l6)) = (j3 : Int) ∧ j3 < 40 ∧ (((wL ((wI (N1 34 i1 j3)))) = 0 → W_X9_firstUnlike G K 14 [(0, vR 9 0), (1, vR 34 i1), (2, vI l2), (3, vI l3), (4, vI l4), (5, vI l5), (6, vI (l6 + 1))] [] N1) ∧ (¬ ((wL ((wI (N1 34 i1 j3)))) = 0) → K l6 N1)))) ∧ (¬ (10 ≤ (wI l6)) → (∃ j4 : Nat, (wI l4) = (j4 : Int) ∧ j4 < 61 ∧ (∃ j5 : Nat, (wI l6) = (j5 : Int) ∧ j5 < 10 ∧ (∃ j6 : Nat, (wI (l2 + l6)) = (j6 : Int) ∧ j6 < 40 ∧ (((wL ((wI (N1 34 i1 j6)))) = (wL (N1 28 j4 j5)) → W_X9_firstUnlike G K 14 [(0, vR 9 0), (1, vR 34 i1), (2, vI l2), (3, vI l3), (4, vI l4), (5, vI l5), (6, vI (l6 + 1))] [] N1) ∧ (¬ ((wL ((wI (N1 34 i1 j6)))) = (wL (N1 28 j4 j5))) → K l6 N1)))))))))))))))) : W_X9_firstUnlike G K 14 [(0, vR 9 0), (1, vR 34 i1), (2, vI l2), (3, vI l3), (4, vI l4), (5, vI l5), (6, vI l6)] [] N := by
  refine A_iload dX9_firstUnlike_14 rfl ?_
  refine A_iload_n dX9_firstUnlike_16 rfl rfl ?_
  refine B_icmp_ge (tgt := 90) dX9_firstUnlike_17 (by decide) rfl rfl ⟨fun q => ?_, fun q => ?_⟩
  · replace h := h.1 q
    refine A_iconst (v := (-1)) dX9_firstUnlike_90 rfl ?_
    exact A_iret dX9_firstUnlike_91 ⟨rfl, _, rfl, h⟩
  · replace h := h.2 q
    refine A_iload_n dX9_firstUnlike_20 rfl rfl ?_
    refine A_iload dX9_firstUnlike_21 rfl ?_
    refine A_iadd dX9_firstUnlike_23 ?_
    refine A_iconst (v := 0) dX9_firstUnlike_24 rfl ?_
    refine A_aload_n dX9_firstUnlike_25 rfl rfl ?_
    refine A_alen (v := 40) dX9_firstUnlike_26 (by decide) (okK34 (by omega)) (by decide) ?_
    refine A_iconst (v := 1) dX9_firstUnlike_27 rfl ?_
    refine A_isub dX9_firstUnlike_28 ?_
    refine B_callS_I (av := [vI (l2 + l6), vI 0, vI (40 - 1)]) rfl dX9_firstUnlike_29 vX9_83 mX9_within rfl (Nat.le_of_ble_eq_true rfl) (by decide) (by decide) rfl (BC_monoI h (fun x1 N1 h => ?_))
    refine B_if_eq (tgt := 90) dX9_firstUnlike_32 (by decide) rfl ⟨fun q => ?_, fun q => ?_⟩
    · replace h := h.1 q
      refine A_iconst (v := (-1)) dX9_firstUnlike_90 rfl ?_
      exact A_iret dX9_firstUnlike_91 ⟨rfl, _, rfl, h⟩
    · replace h := h.2 q
      refine A_iload dX9_firstUnlike_35 rfl ?_
      refine A_iload dX9_firstUnlike_37 rfl ?_
      refine B_icmp_ge (tgt := 65) dX9_firstUnlike_39 (by decide) rfl rfl ⟨fun q => ?_, fun q => ?_⟩
      · replace h := h.1 q
        refine A_lconst (v := 0) dX9_firstUnlike_65 (by decide +kernel) ?_
        refine A_lstore (ls' := [(7, _), (0, _), (1, _), (2, _), (3, _), (4, _), (5, _), (6, _)]) dX9_firstUnlike_66 (by decide) rfl ?_
        refine A_aload_n dX9_firstUnlike_68 rfl rfl ?_
        refine A_iload_n dX9_firstUnlike_69 rfl rfl ?_
        refine A_iload dX9_firstUnlike_70 rfl ?_
        refine A_iadd dX9_firstUnlike_72 ?_
        obtain ⟨j2, qj2, bj2, h⟩ := h
        refine A_iald (j := j2) dX9_firstUnlike_73 (by decide) rfl (okK34 (by omega)) qj2 bj2 ?_
        refine B_i2l dX9_firstUnlike_74 rfl ?_
        refine A_lload dX9_firstUnlike_75 rfl ?_
        refine B_lcmp_eq (tgt := 84) dX9_firstUnlike_77 rfl dX9_firstUnlike_78 (by decide) rfl (wlitL (by decide) (by decide)) ⟨fun q => ?_, fun q => ?_⟩
        · replace h := h.1 q
          refine A_iinc (ls' := [(6, _), (7, _), (0, _), (1, _), (2, _), (3, _), (4, _), (5, _)]) dX9_firstUnlike_84 (by decide) rfl rfl rfl ?_
          refine A_goto (tgt := 14) dX9_firstUnlike_87 (by decide) ?_
          exact A_pick [2, 3, 4, 5, 6, 7, 0] rfl h
        · replace h := h.2 q
          refine A_iload dX9_firstUnlike_81 rfl ?_
          exact A_iret dX9_firstUnlike_83 ⟨rfl, _, rfl, h⟩
      · replace h := h.2 q
        refine A_iload dX9_firstUnlike_42 rfl ?_
        refine A_bipush (v := 10) dX9_firstUnlike_44 (by decide +kernel) ?_
        refine B_icmp_ge (tgt := 65) dX9_firstUnlike_46 (by decide) rfl (wlitI (by decide) (by decide)) ⟨fun q => ?_, fun q => ?_⟩
        · replace h := h.1 q
          refine A_lconst (v := 0) dX9_firstUnlike_65 (by decide +kernel) ?_
          refine A_lstore (ls' := [(7, _), (0, _), (1, _), (2, _), (3, _), (4, _), (5, _), (6, _)]) dX9_firstUnlike_66 (by decide) rfl ?_
          refine A_aload_n dX9_firstUnlike_68 rfl rfl ?_
          refine A_iload_n dX9_firstUnlike_69 rfl rfl ?_
          refine A_iload dX9_firstUnlike_70 rfl ?_
          refine A_iadd dX9_firstUnlike_72 ?_
          obtain ⟨j3, qj3, bj3, h⟩ := h
          refine A_iald (j := j3) dX9_firstUnlike_73 (by decide) rfl (okK34 (by omega)) qj3 bj3 ?_
          refine B_i2l dX9_firstUnlike_74 rfl ?_
          refine A_lload dX9_firstUnlike_75 rfl ?_
          refine B_lcmp_eq (tgt := 84) dX9_firstUnlike_77 rfl dX9_firstUnlike_78 (by decide) rfl (wlitL (by decide) (by decide)) ⟨fun q => ?_, fun q => ?_⟩
          · replace h := h.1 q
            refine A_iinc (ls' := [(6, _), (7, _), (0, _), (1, _), (2, _), (3, _), (4, _), (5, _)]) dX9_firstUnlike_84 (by decide) rfl rfl rfl ?_
            refine A_goto (tgt := 14) dX9_firstUnlike_87 (by decide) ?_
            exact A_pick [2, 3, 4, 5, 6, 7, 0] rfl h
          · replace h := h.2 q
            refine A_iload dX9_firstUnlike_81 rfl ?_
            exact A_iret dX9_firstUnlike_83 ⟨rfl, _, rfl, h⟩
        · replace h := h.2 q
          refine A_aload_n dX9_firstUnlike_49 rfl rfl ?_
          refine A_getR (c2 := 22) (i2 := 0) dX9_firstUnlike_50 fX9_36 rfl (okK9 (by omega)) rfl ?_
          refine A_iload dX9_firstUnlike_53 rfl ?_
          obtain ⟨j4, qj4, bj4, h⟩ := h
          refine A_aald (j := j4) (c2 := 3) (i2 := j4) dX9_firstUnlike_55 (by decide) (by decide) (okK22 (by omega)) qj4 bj4 rfl ?_
          refine A_getR (c2 := 28) (i2 := j4) dX9_firstUnlike_56 fX9_221 rfl (okK3 (by omega)) rfl ?_
          refine A_iload dX9_firstUnlike_59 rfl ?_
          obtain ⟨j5, qj5, bj5, h⟩ := h
          refine A_lald (j := j5) dX9_firstUnlike_61 (by decide) rfl (okK28 (by omega)) qj5 bj5 ?_
          refine A_goto (tgt := 66) dX9_firstUnlike_62 (by decide) ?_
          refine A_lstore (ls' := [(7, _), (0, _), (1, _), (2, _), (3, _), (4, _), (5, _), (6, _)]) dX9_firstUnlike_66 (by decide) rfl ?_
          refine A_aload_n dX9_firstUnlike_68 rfl rfl ?_
          refine A_iload_n dX9_firstUnlike_69 rfl rfl ?_
          refine A_iload dX9_firstUnlike_70 rfl ?_
          refine A_iadd dX9_firstUnlike_72 ?_
          obtain ⟨j6, qj6, bj6, h⟩ := h
          refine A_iald (j := j6) dX9_firstUnlike_73 (by decide) rfl (okK34 (by omega)) qj6 bj6 ?_
          refine B_i2l dX9_firstUnlike_74 rfl ?_
          refine A_lload dX9_firstUnlike_75 rfl ?_
          refine B_lcmp_eq (tgt := 84) dX9_firstUnlike_77 rfl dX9_firstUnlike_78 (by decide) rfl rfl ⟨fun q => ?_, fun q => ?_⟩
          · replace h := h.1 q
            refine A_iinc (ls' := [(6, _), (7, _), (0, _), (1, _), (2, _), (3, _), (4, _), (5, _)]) dX9_firstUnlike_84 (by decide) rfl rfl rfl ?_
            refine A_goto (tgt := 14) dX9_firstUnlike_87 (by decide) ?_
            exact A_pick [2, 3, 4, 5, 6, 7, 0] rfl h
          · replace h := h.2 q
            refine A_iload dX9_firstUnlike_81 rfl ?_
            exact A_iret dX9_firstUnlike_83 ⟨rfl, _, rfl, h⟩
set_option maxRecDepth 100000 in
set_option maxHeartbeats 4000000 in
theorem vc_X9_beside {G : GT} {a1 : Int} {a2 : Int} {a3 : Int} {N : NN} {K : Int → NN → Prop}  (h : (C_X9_within G a1 1 12 N (fun x1 N1 => (((wI x1) = 0 → K ((-4611686018427387904)) N1) ∧ (¬ ((wI x1) = 0) → (C_X9_within G a2 0 99999 N1 (fun x2 N2 => (((wI x2) = 0 → K ((-4611686018427387904)) N2) ∧ (¬ ((wI x2) = 0) → (C_X9_within G a3 0 (2 + (N2 0 0 1)) N2 (fun x3 N3 => (((wI x3) = 0 → K ((-4611686018427387904)) N3) ∧ (¬ ((wI x3) = 0) → (((wI ((N3 9 0 11) + a1)) ≤ 60 → (C_X6_copy G 1 0 N3 (fun N4 => (C_X0_copy G 1 0 N4 (fun N5 => (∀ M6 : NN, M6 = up3 N5 6 1 2 a2 → W_X9_beside G K 93 [(0, vR 9 0), (1, vI a1), (3, vI a3), (4, vL 0), (6, vI ((M6 9 0 11) + 1))] [] M6)))))) ∧ (¬ ((wI ((N3 9 0 11) + a1)) ≤ 60) → K ((-4611686018427387904)) N3))))))))))))))) : C_X9_beside G a1 a2 a3 N K := by
  refine Ctr.ofAW RX9 false rfl (by decide +kernel) (fun q => by cases q) (Nat.le_of_ble_eq_true rfl) (Nat.le_refl _) ?_
  refine A_iload_n dX9_beside_0 rfl rfl ?_
  refine A_iconst (v := 1) dX9_beside_1 rfl ?_
  refine A_bipush (v := 12) dX9_beside_2 (by decide +kernel) ?_
  refine B_callS_I (av := [vI a1, vI 1, vI 12]) rfl dX9_beside_4 vX9_83 mX9_within rfl (Nat.le_of_ble_eq_true rfl) (by decide) (by decide) rfl (BC_monoI h (fun x1 N1 h => ?_))
  refine B_if_eq (tgt := 48) dX9_beside_7 (by decide) rfl ⟨fun q => ?_, fun q => ?_⟩
  · replace h := h.1 q
    refine A_ldc2 (x := (-4611686018427387904)) dX9_beside_48 kX9_152 (by decide +kernel) ?_
    exact A_lret dX9_beside_51 ⟨rfl, _, rfl, h⟩
  · replace h := h.2 q
    refine A_iload_n dX9_beside_10 rfl rfl ?_
    refine A_iconst (v := 0) dX9_beside_11 rfl ?_
    refine A_ldc (x := 99999) dX9_beside_12 kX9_161 (by decide +kernel) ?_
    refine B_callS_I (av := [vI a2, vI 0, vI 99999]) rfl dX9_beside_14 vX9_83 mX9_within rfl (Nat.le_of_ble_eq_true rfl) (by decide) (by decide) rfl (BC_monoI h (fun x2 N2 h => ?_))
    refine B_if_eq (tgt := 48) dX9_beside_17 (by decide) rfl ⟨fun q => ?_, fun q => ?_⟩
    · replace h := h.1 q
      refine A_ldc2 (x := (-4611686018427387904)) dX9_beside_48 kX9_152 (by decide +kernel) ?_
      exact A_lret dX9_beside_51 ⟨rfl, _, rfl, h⟩
    · replace h := h.2 q
      refine A_iload_n dX9_beside_20 rfl rfl ?_
      refine A_iconst (v := 0) dX9_beside_21 rfl ?_
      refine A_iconst (v := 2) dX9_beside_22 rfl ?_
      refine A_aload_n dX9_beside_23 rfl rfl ?_
      refine A_getR (c2 := 0) (i2 := 0) dX9_beside_24 fX9_19 rfl (okK9 (by omega)) rfl ?_
      refine A_getI dX9_beside_27 fX9_126 rfl (okK0 (by omega)) ?_
      refine A_iadd dX9_beside_30 ?_
      refine B_callS_I (av := [vI a3, vI 0, vI (2 + (N2 0 0 1))]) rfl dX9_beside_31 vX9_83 mX9_within rfl (Nat.le_of_ble_eq_true rfl) (by decide) (by decide) rfl (BC_monoI h (fun x3 N3 h => ?_))
      refine B_if_eq (tgt := 48) dX9_beside_34 (by decide) rfl ⟨fun q => ?_, fun q => ?_⟩
      · replace h := h.1 q
        refine A_ldc2 (x := (-4611686018427387904)) dX9_beside_48 kX9_152 (by decide +kernel) ?_
        exact A_lret dX9_beside_51 ⟨rfl, _, rfl, h⟩
      · replace h := h.2 q
        refine A_aload_n dX9_beside_37 rfl rfl ?_
        refine A_getI dX9_beside_38 fX9_88 rfl (okK9 (by omega)) ?_
        refine A_iload_n dX9_beside_41 rfl rfl ?_
        refine A_iadd dX9_beside_42 ?_
        refine A_bipush (v := 60) dX9_beside_43 (by decide +kernel) ?_
        refine B_icmp_le (tgt := 52) dX9_beside_45 (by decide) rfl (wlitI (by decide) (by decide)) ⟨fun q => ?_, fun q => ?_⟩
        · replace h := h.1 q
          refine A_aload_n dX9_beside_52 rfl rfl ?_
          refine A_getR (c2 := 6) (i2 := 1) dX9_beside_53 fX9_23 rfl (okK9 (by omega)) rfl ?_
          refine A_aload_n dX9_beside_56 rfl rfl ?_
          refine A_getR (c2 := 6) (i2 := 0) dX9_beside_57 fX9_10 rfl (okK9 (by omega)) rfl ?_
          refine B_callV_V (av := [vR 6 0]) rfl dX9_beside_60 vX9_244 mX6_copy ⟨rfl, rfl, by decide⟩ (okK6 (by omega)) rfl (Nat.le_of_ble_eq_true rfl) (by decide) (by decide) rfl (BC_monoV h (fun N4 h => ?_))
          refine A_aload_n dX9_beside_63 rfl rfl ?_
          refine A_getR (c2 := 0) (i2 := 1) dX9_beside_64 fX9_26 rfl (okK9 (by omega)) rfl ?_
          refine A_aload_n dX9_beside_67 rfl rfl ?_
          refine A_getR (c2 := 0) (i2 := 0) dX9_beside_68 fX9_19 rfl (okK9 (by omega)) rfl ?_
          refine B_callV_V (av := [vR 0 0]) rfl dX9_beside_71 vX9_248 mX0_copy ⟨rfl, rfl, by decide⟩ (okK0 (by omega)) rfl (Nat.le_of_ble_eq_true rfl) (by decide) (by decide) rfl (BC_monoV h (fun N5 h => ?_))
          refine A_aload_n dX9_beside_74 rfl rfl ?_
          refine A_getR (c2 := 6) (i2 := 1) dX9_beside_75 fX9_23 rfl (okK9 (by omega)) rfl ?_
          refine A_iload_n dX9_beside_78 rfl rfl ?_
          refine B_putI dX9_beside_79 fX9_162 (by decide) (okK6 (by omega)) (fun M6 eM6 => ?_)
          replace h := h M6 eM6
          refine A_lconst (v := 0) dX9_beside_82 (by decide +kernel) ?_
          refine A_lstore (ls' := [(4, _), (0, _), (1, _), (2, _), (3, _)]) dX9_beside_83 (by decide) rfl ?_
          refine A_aload_n dX9_beside_85 rfl rfl ?_
          refine A_getI dX9_beside_86 fX9_88 rfl (okK9 (by omega)) ?_
          refine A_iconst (v := 1) dX9_beside_89 rfl ?_
          refine A_iadd dX9_beside_90 ?_
          refine A_istore (ls' := [(6, _), (4, _), (0, _), (1, _), (2, _), (3, _)]) dX9_beside_91 (by decide) rfl ?_
          exact A_pick [2, 3, 5, 1, 0] rfl h
        · replace h := h.2 q
          refine A_ldc2 (x := (-4611686018427387904)) dX9_beside_48 kX9_152 (by decide +kernel) ?_
          exact A_lret dX9_beside_51 ⟨rfl, _, rfl, h⟩
set_option maxRecDepth 100000 in
set_option maxHeartbeats 4000000 in
theorem vc_X9_beside_93 {G : GT} {l1 : Int} {l3 : Int} {l4 : Int} {l6 : Int} {N : NN} {K : Int → NN → Prop}  (h : (((wI ((N 9 0 11) + l1)) < (wI l6) → ((2 < (wI l3) → (∃ j1 : Nat, (wI (l3 - 3)) = (j1 : Int) ∧ j1 < 5 ∧ (C_X5_got G (5 * 1 + j1) N (fun x2 N2 => (∃ j3 : Nat, (wI (l3 - 3)) = (j3 : Int) ∧ j3 < 5 ∧ (C_X5_got G j3 N2 (fun x4 N4 => K (x2 - x4) N4))))))) ∧ (¬ (2 < (wI l3)) → K l4 N))) ∧ (¬ ((wI ((N 9 0 11) + l1)) < (wI l6)) → (C_X6_collect G 1 l6 61 N (fun N5 => (C_X9_orderIn G l6 N5 (fun x6 N6 => (C_X0_pour G 1 l6 61 x6 N6 (fun N7 => (((wI l3) ≠ 0 → (((wI l3) ≠ 1 → W_X9_beside G K 93 [(0, vR 9 0), (1, vI l1), (3, vI l3), (4, vL (l4 + (N7 3 61 0))), (6, vI (l6 + 1))] [] N7) ∧ (¬ ((wI l3) ≠ 1) → W_X9_beside G K 93 [(0, vR 9 0), (1, vI l1), (3, vI l3), (4, vL (l4 + (N7 3 61 1))), (6, vI (l6 + 1))] [] N7))) ∧ (¬ ((wI l3) ≠ 0) → W_X9_beside G K 93 [(0, vR 9 0), (1, vI l1), (3, vI l3), (4, vL (l4 + (N7 3 61 8))), (6, vI (l6 + 1))] [] N7))))))))))) : W_X9_beside G K 93 [(0, vR 9 0), (1, vI l1), (3, vI l3), (4, vL l4), (6, vI l6)] [] N := by
  refine A_iload dX9_beside_93 rfl ?_
  refine A_aload_n dX9_beside_95 rfl rfl ?_
  refine A_getI dX9_beside_96 fX9_88 rfl (okK9 (by omega)) ?_
  refine A_iload_n dX9_beside_99 rfl rfl ?_
  refine A_iadd dX9_beside_100 ?_
  refine B_icmp_gt (tgt := 183) dX9_beside_101 (by decide) rfl rfl ⟨fun q => ?_, fun q => ?_⟩
  · replace h := h.1 q
    refine A_iload_n dX9_beside_183 rfl rfl ?_
    refine A_iconst (v := 2) dX9_beside_184 rfl ?_
    refine B_icmp_gt (tgt := 191) dX9_beside_185 (by decide) rfl (wlitI (by decide) (by decide)) ⟨fun q => ?_, fun q => ?_⟩
    · replace h := h.1 q
      refine A_aload_n dX9_beside_191 rfl rfl ?_
      refine A_getR (c2 := 0) (i2 := 1) dX9_beside_192 fX9_26 rfl (okK9 (by omega)) rfl ?_
      refine A_getR (c2 := 21) (i2 := 1) dX9_beside_195 fX9_127 rfl (okK0 (by omega)) rfl ?_
      refine A_iload_n dX9_beside_198 rfl rfl ?_
      refine A_iconst (v := 3) dX9_beside_199 rfl ?_
      refine A_isub dX9_beside_200 ?_
      obtain ⟨j1, qj1, bj1, h⟩ := h
      refine A_aald (j := j1) (c2 := 5) (i2 := 5 * 1 + j1) dX9_beside_201 (by decide) (by decide) (okK21 (by omega)) qj1 bj1 rfl ?_
      refine B_callV_L (av := []) rfl dX9_beside_202 vX9_260 mX5_got ⟨rfl, rfl, by decide⟩ (okK5 (by omega)) rfl (Nat.le_of_ble_eq_true rfl) (by decide) (by decide) rfl (BC_monoL h (fun x2 N2 h => ?_))
      refine A_aload_n dX9_beside_205 rfl rfl ?_
      refine A_getR (c2 := 0) (i2 := 0) dX9_beside_206 fX9_19 rfl (okK9 (by omega)) rfl ?_
      refine A_getR (c2 := 21) (i2 := 0) dX9_beside_209 fX9_127 rfl (okK0 (by omega)) rfl ?_
      refine A_iload_n dX9_beside_212 rfl rfl ?_
      refine A_iconst (v := 3) dX9_beside_213 rfl ?_
      refine A_isub dX9_beside_214 ?_
      obtain ⟨j3, qj3, bj3, h⟩ := h
      refine A_aald (j := j3) (c2 := 5) (i2 := j3) dX9_beside_215 (by decide) (by decide) (okK21 (by omega)) qj3 bj3 RF_p0 ?_
      refine B_callV_L (av := []) rfl dX9_beside_216 vX9_260 mX5_got ⟨rfl, rfl, by decide⟩ (okK5 (by omega)) rfl (Nat.le_of_ble_eq_true rfl) (by decide) (by decide) rfl (BC_monoL h (fun x4 N4 h => ?_))
      refine A_lsub dX9_beside_219 ?_
      exact A_lret dX9_beside_220 ⟨rfl, _, rfl, h⟩
    · replace h := h.2 q
      refine A_lload dX9_beside_188 rfl ?_
      exact A_lret dX9_beside_190 ⟨rfl, _, rfl, h⟩
  · replace h := h.2 q
    refine A_aload_n dX9_beside_104 rfl rfl ?_
    refine A_getR (c2 := 6) (i2 := 1) dX9_beside_105 fX9_23 rfl (okK9 (by omega)) rfl ?_
    refine A_iload dX9_beside_108 rfl ?_
    refine A_aload_n dX9_beside_110 rfl rfl ?_
    refine A_getR (c2 := 3) (i2 := 61) dX9_beside_111 fX9_32 rfl (okK9 (by omega)) rfl ?_
    refine B_callV_V (av := [vI l6, vR 3 61]) rfl dX9_beside_114 vX9_213 mX6_collect ⟨rfl, rfl, by decide⟩ (okK6 (by omega)) rfl (Nat.le_of_ble_eq_true rfl) (by decide) (by decide) rfl (BC_monoV h (fun N5 h => ?_))
    refine A_aload_n dX9_beside_117 rfl rfl ?_
    refine A_getR (c2 := 0) (i2 := 1) dX9_beside_118 fX9_26 rfl (okK9 (by omega)) rfl ?_
    refine A_iload dX9_beside_121 rfl ?_
    refine A_aload_n dX9_beside_123 rfl rfl ?_
    refine A_getR (c2 := 3) (i2 := 61) dX9_beside_124 fX9_32 rfl (okK9 (by omega)) rfl ?_
    refine A_aload_n dX9_beside_127 rfl rfl ?_
    refine A_iload dX9_beside_128 rfl ?_
    refine B_callV_R (av := [vI l6]) rfl dX9_beside_130 vX9_205 mX9_orderIn ⟨rfl, rfl, by decide⟩ (okK9 (by omega)) rfl (Nat.le_of_ble_eq_true rfl) (by decide) (by decide) rfl (BC_monoR h (fun x6 N6 bx6 h => ?_))
    refine B_callV_V (av := [vI l6, vR 3 61, vR 4 x6]) rfl dX9_beside_133 vX9_209 mX0_pour ⟨rfl, rfl, by decide⟩ (okK0 (by omega)) rfl (Nat.le_of_ble_eq_true rfl) (by decide) (by decide) rfl (BC_monoV h (fun N7 h => ?_))
    refine A_lload dX9_beside_136 rfl ?_
    refine A_iload_n dX9_beside_138 rfl rfl ?_
    refine B_if_ne (tgt := 152) dX9_beside_139 (by decide) rfl ⟨fun q => ?_, fun q => ?_⟩
    · replace h := h.1 q
      refine A_iload_n dX9_beside_152 rfl rfl ?_
      refine A_iconst (v := 1) dX9_beside_153 rfl ?_
      refine B_icmp_ne (tgt := 167) dX9_beside_154 (by decide) rfl (wlitI (by decide) (by decide)) ⟨fun q => ?_, fun q => ?_⟩
      · replace h := h.1 q
        refine A_aload_n dX9_beside_167 rfl rfl ?_
        refine A_getR (c2 := 3) (i2 := 61) dX9_beside_168 fX9_32 rfl (okK9 (by omega)) rfl ?_
        refine A_getL dX9_beside_171 fX9_257 rfl (okK3 (by omega)) ?_
        refine A_ladd dX9_beside_174 ?_
        refine A_lstore (ls' := [(4, _), (0, _), (1, _), (3, _), (6, _)]) dX9_beside_175 (by decide) rfl ?_
        refine A_iinc (ls' := [(6, _), (4, _), (0, _), (1, _), (3, _)]) dX9_beside_177 (by decide) rfl rfl rfl ?_
        refine A_goto (tgt := 93) dX9_beside_180 (by decide) ?_
        exact A_pick [2, 3, 4, 1, 0] rfl h
      · replace h := h.2 q
        refine A_aload_n dX9_beside_157 rfl rfl ?_
        refine A_getR (c2 := 3) (i2 := 61) dX9_beside_158 fX9_32 rfl (okK9 (by omega)) rfl ?_
        refine A_getL dX9_beside_161 fX9_254 rfl (okK3 (by omega)) ?_
        refine A_goto (tgt := 174) dX9_beside_164 (by decide) ?_
        refine A_ladd dX9_beside_174 ?_
        refine A_lstore (ls' := [(4, _), (0, _), (1, _), (3, _), (6, _)]) dX9_beside_175 (by decide) rfl ?_
        refine A_iinc (ls' := [(6, _), (4, _), (0, _), (1, _), (3, _)]) dX9_beside_177 (by decide) rfl rfl rfl ?_
        refine A_goto (tgt := 93) dX9_beside_180 (by decide) ?_
        exact A_pick [2, 3, 4, 1, 0] rfl h
    · replace h := h.2 q
      refine A_aload_n dX9_beside_142 rfl rfl ?_
      refine A_getR (c2 := 3) (i2 := 61) dX9_beside_143 fX9_32 rfl (okK9 (by omega)) rfl ?_
      refine A_getL dX9_beside_146 fX9_251 rfl (okK3 (by omega)) ?_
      refine A_goto (tgt := 174) dX9_beside_149 (by decide) ?_
      refine A_ladd dX9_beside_174 ?_
      refine A_lstore (ls' := [(4, _), (0, _), (1, _), (3, _), (6, _)]) dX9_beside_175 (by decide) rfl ?_
      refine A_iinc (ls' := [(6, _), (4, _), (0, _), (1, _), (3, _)]) dX9_beside_177 (by decide) rfl rfl rfl ?_
      refine A_goto (tgt := 93) dX9_beside_180 (by decide) ?_
      exact A_pick [2, 3, 4, 1, 0] rfl h
set_option maxRecDepth 100000 in
set_option maxHeartbeats 4000000 in
theorem vc_X9_count {G : GT} {a1 : Int} {N : NN} {K : Int → NN → Prop}  (h : (((wI a1) = 0 → K (N 6 0 1) N) ∧ (((wI a1) = 1 → K (N 0 0 1) N) ∧ (((wI a1) = 2 → K (N 9 0 12) N) ∧ (((wI a1) = 3 → K (N 9 0 13) N) ∧ (((wI a1) = 4 → K (N 8 0 1) N) ∧ (((wI a1) = 5 → K (N 9 0 11) N) ∧ (((wI a1) = 6 → K (N 9 0 14) N) ∧ (((wI a1) = 7 → (C_X6_balances G 0 N (fun x1 N1 => K x1 N1))) ∧ (((wI a1) = 8 → K (N 0 0 4) N) ∧ (((wI a1) = 9 → K (N 6 0 5) N) ∧ (((wI a1) = 10 → (((wI (N 0 0 5)) = 0 → K 0 N) ∧ (¬ ((wI (N 0 0 5)) = 0) → K 1 N))) ∧ (((wI a1) = 11 → K (N 0 0 9) N) ∧ ((wI a1) < 0 ∨ 11 < (wI a1) → K ((-2)) N)))))))))))))) : C_X9_count G a1 N K := by
  refine Ctr.ofAW RX9 false rfl (by decide +kernel) (fun q => by cases q) (Nat.le_of_ble_eq_true rfl) (Nat.le_refl _) ?_
  refine A_iload_n dX9_count_0 rfl rfl ?_
  by_cases q1_0 : wI a1 = 0
  · replace h := h.1 q1_0
    refine A_tableIn (tgt := 64) dX9_count_1 q1_0 (by decide) rfl (by decide) ?_
    refine A_aload_n dX9_count_64 rfl rfl ?_
    refine A_getR (c2 := 6) (i2 := 0) dX9_count_65 fX9_10 rfl (okK9 (by omega)) rfl ?_
    refine A_getI dX9_count_68 fX9_91 rfl (okK6 (by omega)) ?_
    exact A_iret dX9_count_71 ⟨rfl, _, rfl, h⟩
  replace h := h.2
  by_cases q1_1 : wI a1 = 1
  · replace h := h.1 q1_1
    refine A_tableIn (tgt := 72) dX9_count_1 q1_1 (by decide) rfl (by decide) ?_
    refine A_aload_n dX9_count_72 rfl rfl ?_
    refine A_getR (c2 := 0) (i2 := 0) dX9_count_73 fX9_19 rfl (okK9 (by omega)) rfl ?_
    refine A_getI dX9_count_76 fX9_126 rfl (okK0 (by omega)) ?_
    exact A_iret dX9_count_79 ⟨rfl, _, rfl, h⟩
  replace h := h.2
  by_cases q1_2 : wI a1 = 2
  · replace h := h.1 q1_2
    refine A_tableIn (tgt := 80) dX9_count_1 q1_2 (by decide) rfl (by decide) ?_
    refine A_aload_n dX9_count_80 rfl rfl ?_
    refine A_getI dX9_count_81 fX9_69 rfl (okK9 (by omega)) ?_
    exact A_iret dX9_count_84 ⟨rfl, _, rfl, h⟩
  replace h := h.2
  by_cases q1_3 : wI a1 = 3
  · replace h := h.1 q1_3
    refine A_tableIn (tgt := 85) dX9_count_1 q1_3 (by decide) rfl (by decide) ?_
    refine A_aload_n dX9_count_85 rfl rfl ?_
    refine A_getI dX9_count_86 fX9_73 rfl (okK9 (by omega)) ?_
    exact A_iret dX9_count_89 ⟨rfl, _, rfl, h⟩
  replace h := h.2
  by_cases q1_4 : wI a1 = 4
  · replace h := h.1 q1_4
    refine A_tableIn (tgt := 90) dX9_count_1 q1_4 (by decide) rfl (by decide) ?_
    refine A_aload_n dX9_count_90 rfl rfl ?_
    refine A_getR (c2 := 8) (i2 := 0) dX9_count_91 fX9_47 rfl (okK9 (by omega)) rfl ?_
    refine A_getI dX9_count_94 fX9_178 rfl (okK8 (by omega)) ?_
    exact A_iret dX9_count_97 ⟨rfl, _, rfl, h⟩
  replace h := h.2
  by_cases q1_5 : wI a1 = 5
  · replace h := h.1 q1_5
    refine A_tableIn (tgt := 98) dX9_count_1 q1_5 (by decide) rfl (by decide) ?_
    refine A_aload_n dX9_count_98 rfl rfl ?_
    refine A_getI dX9_count_99 fX9_88 rfl (okK9 (by omega)) ?_
    exact A_iret dX9_count_102 ⟨rfl, _, rfl, h⟩
  replace h := h.2
  by_cases q1_6 : wI a1 = 6
  · replace h := h.1 q1_6
    refine A_tableIn (tgt := 103) dX9_count_1 q1_6 (by decide) rfl (by decide) ?_
    refine A_aload_n dX9_count_103 rfl rfl ?_
    refine A_getI dX9_count_104 fX9_189 rfl (okK9 (by omega)) ?_
    exact A_iret dX9_count_107 ⟨rfl, _, rfl, h⟩
  replace h := h.2
  by_cases q1_7 : wI a1 = 7
  · replace h := h.1 q1_7
    refine A_tableIn (tgt := 108) dX9_count_1 q1_7 (by decide) rfl (by decide) ?_
    refine A_aload_n dX9_count_108 rfl rfl ?_
    refine A_getR (c2 := 6) (i2 := 0) dX9_count_109 fX9_10 rfl (okK9 (by omega)) rfl ?_
    refine B_callV_L (av := []) rfl dX9_count_112 vX9_264 mX6_balances ⟨rfl, rfl, by decide⟩ (okK6 (by omega)) rfl (Nat.le_of_ble_eq_true rfl) (by decide) (by decide) rfl (BC_monoL h (fun x1 N1 h => ?_))
    refine A_l2i dX9_count_115 ?_
    exact A_iret dX9_count_116 ⟨rfl, _, rfl, h⟩
  replace h := h.2
  by_cases q1_8 : wI a1 = 8
  · replace h := h.1 q1_8
    refine A_tableIn (tgt := 117) dX9_count_1 q1_8 (by decide) rfl (by decide) ?_
    refine A_aload_n dX9_count_117 rfl rfl ?_
    refine A_getR (c2 := 0) (i2 := 0) dX9_count_118 fX9_19 rfl (okK9 (by omega)) rfl ?_
    refine A_getL dX9_count_121 fX9_267 rfl (okK0 (by omega)) ?_
    refine A_l2i dX9_count_124 ?_
    exact A_iret dX9_count_125 ⟨rfl, _, rfl, h⟩
  replace h := h.2
  by_cases q1_9 : wI a1 = 9
  · replace h := h.1 q1_9
    refine A_tableIn (tgt := 126) dX9_count_1 q1_9 (by decide) rfl (by decide) ?_
    refine A_aload_n dX9_count_126 rfl rfl ?_
    refine A_getR (c2 := 6) (i2 := 0) dX9_count_127 fX9_10 rfl (okK9 (by omega)) rfl ?_
    refine A_getL dX9_count_130 fX9_270 rfl (okK6 (by omega)) ?_
    refine A_l2i dX9_count_133 ?_
    exact A_iret dX9_count_134 ⟨rfl, _, rfl, h⟩
  replace h := h.2
  by_cases q1_10 : wI a1 = 10
  · replace h := h.1 q1_10
    refine A_tableIn (tgt := 135) dX9_count_1 q1_10 (by decide) rfl (by decide) ?_
    refine A_aload_n dX9_count_135 rfl rfl ?_
    refine A_getR (c2 := 0) (i2 := 0) dX9_count_136 fX9_19 rfl (okK9 (by omega)) rfl ?_
    refine A_getI dX9_count_139 fX9_273 rfl (okK0 (by omega)) ?_
    refine B_if_eq (tgt := 149) dX9_count_142 (by decide) rfl ⟨fun q => ?_, fun q => ?_⟩
    · replace h := h.1 q
      refine A_iconst (v := 0) dX9_count_149 rfl ?_
      exact A_iret dX9_count_150 ⟨rfl, _, rfl, h⟩
    · replace h := h.2 q
      refine A_iconst (v := 1) dX9_count_145 rfl ?_
      refine A_goto (tgt := 150) dX9_count_146 (by decide) ?_
      exact A_iret dX9_count_150 ⟨rfl, _, rfl, h⟩
  replace h := h.2
  by_cases q1_11 : wI a1 = 11
  · replace h := h.1 q1_11
    refine A_tableIn (tgt := 151) dX9_count_1 q1_11 (by decide) rfl (by decide) ?_
    refine A_aload_n dX9_count_151 rfl rfl ?_
    refine A_getR (c2 := 0) (i2 := 0) dX9_count_152 fX9_19 rfl (okK9 (by omega)) rfl ?_
    refine A_getL dX9_count_155 fX9_276 rfl (okK0 (by omega)) ?_
    refine A_l2i dX9_count_158 ?_
    exact A_iret dX9_count_159 ⟨rfl, _, rfl, h⟩
  replace h := h.2
  replace h := h (by omega)
  refine A_tableOut (tgt := 160) dX9_count_1 (by omega) (by decide) ?_
  refine A_bipush (v := (-2)) dX9_count_160 (by decide +kernel) ?_
  exact A_iret dX9_count_162 ⟨rfl, _, rfl, h⟩
set_option maxRecDepth 100000 in
set_option maxHeartbeats 4000000 in
theorem vc_X9_sheet {G : GT} {a1 : Int} {a2 : Int} {a3 : Int} {N : NN} {K : Int → NN → Prop}  (h : (C_X9_within G a1 0 3 N (fun x1 N1 => (((wI x1) = 0 → K ((-2)) N1) ∧ (¬ ((wI x1) = 0) → (C_X9_within G a2 ((-1)) 2 N1 (fun x2 N2 => (((wI x2) ≠ 0 → (((wI a2) ≠ (-1) → (((wI a3) ≤ 40 → ((0 ≤ (wI a3) → (∃ j3 : Nat, (wI a1) = (j3 : Int) ∧ j3 < 4 ∧ (C_X7_lay G j3 a2 a3 N2 (fun N4 => K 1 N4)))) ∧ (¬ (0 ≤ (wI a3)) → K ((-14)) N2))) ∧ (¬ ((wI a3) ≤ 40) → K ((-2)) N2))) ∧ (¬ ((wI a2) ≠ (-1)) → (∃ j5 : Nat, (wI a1) = (j5 : Int) ∧ j5 < 4 ∧ (∀ M6 : NN, M6 = up3 N2 7 j5 1 ((-1)) → K 1 M6))))) ∧ (¬ ((wI x2) ≠ 0) → K ((-2)) N2))))))))) : C_X9_sheet G a1 a2 a3 N K := by
  refine Ctr.ofAW RX9 false rfl (by decide +kernel) (fun q => by cases q) (Nat.le_of_ble_eq_true rfl) (Nat.le_refl _) ?_
  refine A_iload_n dX9_sheet_0 rfl rfl ?_
  refine A_iconst (v := 0) dX9_sheet_1 rfl ?_
  refine A_iconst (v := 3) dX9_sheet_2 rfl ?_
  refine B_callS_I (av := [vI a1, vI 0, vI 3]) rfl dX9_sheet_3 vX9_83 mX9_within rfl (Nat.le_of_ble_eq_true rfl) (by decide) (by decide) rfl (BC_monoI h (fun x1 N1 h => ?_))
  refine B_if_eq (tgt := 18) dX9_sheet_6 (by decide) rfl ⟨fun q => ?_, fun q => ?_⟩
  · replace h := h.1 q
    refine A_bipush (v := (-2)) dX9_sheet_18 (by decide +kernel) ?_
    exact A_iret dX9_sheet_20 ⟨rfl, _, rfl, h⟩
  · replace h := h.2 q
    refine A_iload_n dX9_sheet_9 rfl rfl ?_
    refine A_iconst (v := (-1)) dX9_sheet_10 rfl ?_
    refine A_iconst (v := 2) dX9_sheet_11 rfl ?_
    refine B_callS_I (av := [vI a2, vI ((-1)), vI 2]) rfl dX9_sheet_12 vX9_83 mX9_within rfl (Nat.le_of_ble_eq_true rfl) (by decide) (by decide) rfl (BC_monoI h (fun x2 N2 h => ?_))
    refine B_if_ne (tgt := 21) dX9_sheet_15 (by decide) rfl ⟨fun q => ?_, fun q => ?_⟩
    · replace h := h.1 q
      refine A_iload_n dX9_sheet_21 rfl rfl ?_
      refine A_iconst (v := (-1)) dX9_sheet_22 rfl ?_
      refine B_icmp_ne (tgt := 38) dX9_sheet_23 (by decide) rfl (wlitI (by decide) (by decide)) ⟨fun q => ?_, fun q => ?_⟩
      · replace h := h.1 q
        refine A_iload_n dX9_sheet_38 rfl rfl ?_
        refine A_bipush (v := 40) dX9_sheet_39 (by decide +kernel) ?_
        refine B_icmp_le (tgt := 47) dX9_sheet_41 (by decide) rfl (wlitI (by decide) (by decide)) ⟨fun q => ?_, fun q => ?_⟩
        · replace h := h.1 q
          refine A_iload_n dX9_sheet_47 rfl rfl ?_
          refine B_if_ge (tgt := 54) dX9_sheet_48 (by decide) rfl ⟨fun q => ?_, fun q => ?_⟩
          · replace h := h.1 q
            refine A_aload_n dX9_sheet_54 rfl rfl ?_
            refine A_getR (c2 := 27) (i2 := 0) dX9_sheet_55 fX9_65 rfl (okK9 (by omega)) rfl ?_
            refine A_iload_n dX9_sheet_58 rfl rfl ?_
            obtain ⟨j3, qj3, bj3, h⟩ := h
            refine A_aald (j := j3) (c2 := 7) (i2 := j3) dX9_sheet_59 (by decide) (by decide) (okK27 (by omega)) qj3 bj3 rfl ?_
            refine A_iload_n dX9_sheet_60 rfl rfl ?_
            refine A_iload_n dX9_sheet_61 rfl rfl ?_
            refine B_callV_V (av := [vI a2, vI a3]) rfl dX9_sheet_62 vX9_282 mX7_lay ⟨rfl, rfl, by decide⟩ (okK7 (by omega)) rfl (Nat.le_of_ble_eq_true rfl) (by decide) (by decide) rfl (BC_monoV h (fun N4 h => ?_))
            refine A_iconst (v := 1) dX9_sheet_65 rfl ?_
            exact A_iret dX9_sheet_66 ⟨rfl, _, rfl, h⟩
          · replace h := h.2 q
            refine A_bipush (v := (-14)) dX9_sheet_51 (by decide +kernel) ?_
            exact A_iret dX9_sheet_53 ⟨rfl, _, rfl, h⟩
        · replace h := h.2 q
          refine A_bipush (v := (-2)) dX9_sheet_44 (by decide +kernel) ?_
          exact A_iret dX9_sheet_46 ⟨rfl, _, rfl, h⟩
      · replace h := h.2 q
        refine A_aload_n dX9_sheet_26 rfl rfl ?_
        refine A_getR (c2 := 27) (i2 := 0) dX9_sheet_27 fX9_65 rfl (okK9 (by omega)) rfl ?_
        refine A_iload_n dX9_sheet_30 rfl rfl ?_
        obtain ⟨j5, qj5, bj5, h⟩ := h
        refine A_aald (j := j5) (c2 := 7) (i2 := j5) dX9_sheet_31 (by decide) (by decide) (okK27 (by omega)) qj5 bj5 rfl ?_
        refine A_iconst (v := (-1)) dX9_sheet_32 rfl ?_
        refine B_putI dX9_sheet_33 fX9_279 (by decide) (okK7 (by omega)) (fun M6 eM6 => ?_)
        replace h := h M6 eM6
        refine A_iconst (v := 1) dX9_sheet_36 rfl ?_
        exact A_iret dX9_sheet_37 ⟨rfl, _, rfl, h⟩
    · replace h := h.2 q
      refine A_bipush (v := (-2)) dX9_sheet_18 (by decide +kernel) ?_
      exact A_iret dX9_sheet_20 ⟨rfl, _, rfl, h⟩
set_option maxRecDepth 100000 in
set_option maxHeartbeats 4000000 in
theorem vc_X9_cell {G : GT} {a1 : Int} {a2 : Int} {a3 : Int} {N : NN} {K : Int → NN → Prop}  (h : (C_X9_within G a1 0 3 N (fun x1 N1 => (((wI x1) ≠ 0 → (∃ j2 : Nat, (wI a1) = (j2 : Int) ∧ j2 < 4 ∧ (((wI (N1 7 j2 1)) ≠ (-1) → (C_X7_holds G j2 ((wI a2)) N1 (fun x3 N3 => (((wI x3) ≠ 0 → (((wI (N3 7 j2 1)) ≠ 0 → (((wI (N3 7 j2 1)) ≠ 1 → (∃ j4 : Nat, (wI a2) = (j4 : Int) ∧ j4 < 40 ∧ (∀ M5 : NN, M5 = up3 N3 34 j2 j4 a3 → K 1 M5))) ∧ (¬ ((wI (N3 7 j2 1)) ≠ 1) → (∃ j6 : Nat, (wI a2) = (j6 : Int) ∧ j6 < 40 ∧ (∀ M7 : NN, M7 = up3 N3 34 j2 j6 (i2sI a3) → K 1 M7))))) ∧ (¬ ((wI (N3 7 j2 1)) ≠ 0) → (∃ j8 : Nat, (wI a2) = (j8 : Int) ∧ j8 < 40 ∧ (∀ M9 : NN, M9 = up3 N3 34 j2 j8 (i2bI a3) → K 1 M9))))) ∧ (¬ ((wI x3) ≠ 0) → K ((-12)) N3))))) ∧ (¬ ((wI (N1 7 j2 1)) ≠ (-1)) → K ((-11)) N1)))) ∧ (¬ ((wI x1) ≠ 0) → K ((-2)) N1))))) : C_X9_cell G a1 a2 a3 N K := by
  refine Ctr.ofAW RX9 false rfl (by decide +kernel) (fun q => by cases q) (Nat.le_of_ble_eq_true rfl) (Nat.le_refl _) ?_
  refine A_iload_n dX9_cell_0 rfl rfl ?_
  refine A_iconst (v := 0) dX9_cell_1 rfl ?_
  refine A_iconst (v := 3) dX9_cell_2 rfl ?_
  refine B_callS_I (av := [vI a1, vI 0, vI 3]) rfl dX9_cell_3 vX9_83 mX9_within rfl (Nat.le_of_ble_eq_true rfl) (by decide) (by decide) rfl (BC_monoI h (fun x1 N1 h => ?_))
  refine B_if_ne (tgt := 12) dX9_cell_6 (by decide) rfl ⟨fun q => ?_, fun q => ?_⟩
  · replace h := h.1 q
    refine A_aload_n dX9_cell_12 rfl rfl ?_
    refine A_getR (c2 := 27) (i2 := 0) dX9_cell_13 fX9_65 rfl (okK9 (by omega)) rfl ?_
    refine A_iload_n dX9_cell_16 rfl rfl ?_
    obtain ⟨j2, qj2, bj2, h⟩ := h
    refine A_aald (j := j2) (c2 := 7) (i2 := j2) dX9_cell_17 (by decide) (by decide) (okK27 (by omega)) qj2 bj2 rfl ?_
    refine A_astore (ls' := [(4, _), (0, _), (1, _), (2, _), (3, _)]) dX9_cell_18 (by decide) rfl ?_
    refine A_aload dX9_cell_20 rfl ?_
    refine A_getI dX9_cell_22 fX9_279 rfl (okK7 (by omega)) ?_
    refine A_iconst (v := (-1)) dX9_cell_25 rfl ?_
    refine B_icmp_ne (tgt := 32) dX9_cell_26 (by decide) rfl (wlitI (by decide) (by decide)) ⟨fun q => ?_, fun q => ?_⟩
    · replace h := h.1 q
      refine A_aload dX9_cell_32 rfl ?_
      refine A_iload_n dX9_cell_34 rfl rfl ?_
      refine B_i2l dX9_cell_35 rfl ?_
      refine B_callV_I (av := [vL ((wI a2))]) rfl dX9_cell_36 vX9_233 mX7_holds ⟨rfl, rfl, by decide⟩ (okK7 (by omega)) rfl (Nat.le_of_ble_eq_true rfl) (by decide) (by decide) rfl (BC_monoI h (fun x3 N3 h => ?_))
      refine B_if_ne (tgt := 45) dX9_cell_39 (by decide) rfl ⟨fun q => ?_, fun q => ?_⟩
      · replace h := h.1 q
        refine A_aload dX9_cell_45 rfl ?_
        refine A_getR (c2 := 34) (i2 := j2) dX9_cell_47 fX9_237 rfl (okK7 (by omega)) rfl ?_
        refine A_iload_n dX9_cell_50 rfl rfl ?_
        refine A_aload dX9_cell_51 rfl ?_
        refine A_getI dX9_cell_53 fX9_279 rfl (okK7 (by omega)) ?_
        refine B_if_ne (tgt := 64) dX9_cell_56 (by decide) rfl ⟨fun q => ?_, fun q => ?_⟩
        · replace h := h.1 q
          refine A_aload dX9_cell_64 rfl ?_
          refine A_getI dX9_cell_66 fX9_279 rfl (okK7 (by omega)) ?_
          refine A_iconst (v := 1) dX9_cell_69 rfl ?_
          refine B_icmp_ne (tgt := 78) dX9_cell_70 (by decide) rfl (wlitI (by decide) (by decide)) ⟨fun q => ?_, fun q => ?_⟩
          · replace h := h.1 q
            refine A_iload_n dX9_cell_78 rfl rfl ?_
            obtain ⟨j4, qj4, bj4, h⟩ := h
            refine B_iast (j := j4) dX9_cell_79 (by decide) rfl (okK34 (by omega)) qj4 bj4 (fun M5 eM5 => ?_)
            replace h := h M5 eM5
            refine A_iconst (v := 1) dX9_cell_80 rfl ?_
            exact A_iret dX9_cell_81 ⟨rfl, _, rfl, h⟩
          · replace h := h.2 q
            refine A_iload_n dX9_cell_73 rfl rfl ?_
            refine A_i2s dX9_cell_74 ?_
            refine A_goto (tgt := 79) dX9_cell_75 (by decide) ?_
            obtain ⟨j6, qj6, bj6, h⟩ := h
            refine B_iast (j := j6) dX9_cell_79 (by decide) rfl (okK34 (by omega)) qj6 bj6 (fun M7 eM7 => ?_)
            replace h := h M7 eM7
            refine A_iconst (v := 1) dX9_cell_80 rfl ?_
            exact A_iret dX9_cell_81 ⟨rfl, _, rfl, h⟩
        · replace h := h.2 q
          refine A_iload_n dX9_cell_59 rfl rfl ?_
          refine A_i2b dX9_cell_60 ?_
          refine A_goto (tgt := 79) dX9_cell_61 (by decide) ?_
          obtain ⟨j8, qj8, bj8, h⟩ := h
          refine B_iast (j := j8) dX9_cell_79 (by decide) rfl (okK34 (by omega)) qj8 bj8 (fun M9 eM9 => ?_)
          replace h := h M9 eM9
          refine A_iconst (v := 1) dX9_cell_80 rfl ?_
          exact A_iret dX9_cell_81 ⟨rfl, _, rfl, h⟩
      · replace h := h.2 q
        refine A_bipush (v := (-12)) dX9_cell_42 (by decide +kernel) ?_
        exact A_iret dX9_cell_44 ⟨rfl, _, rfl, h⟩
    · replace h := h.2 q
      refine A_bipush (v := (-11)) dX9_cell_29 (by decide +kernel) ?_
      exact A_iret dX9_cell_31 ⟨rfl, _, rfl, h⟩
  · replace h := h.2 q
    refine A_bipush (v := (-2)) dX9_cell_9 (by decide +kernel) ?_
    exact A_iret dX9_cell_11 ⟨rfl, _, rfl, h⟩
set_option maxRecDepth 100000 in
set_option maxHeartbeats 4000000 in
theorem vc_X9_loans {G : GT} {a1 : Int} {a2 : Int} {a3 : Int} {a4 : Int} {N : NN} {K : Int → NN → Prop}  (h : (C_X9_refusalOf G a1 a2 a4 N (fun x1 N1 => (((wI x1) = 0 → (∃ j2 : Nat, (wI a1) = (j2 : Int) ∧ j2 < 4 ∧ W_X9_loans G K 32 [(0, vR 9 0), (3, vI a3), (4, vI a4), (6, vR 7 j2), (7, vI 0), (8, vI 0)] [] N1)) ∧ (¬ ((wI x1) = 0) → K x1 N1))))) : C_X9_loans G a1 a2 a3 a4 N K := by
  refine Ctr.ofAW RX9 false rfl (by decide +kernel) (fun q => by cases q) (Nat.le_of_ble_eq_true rfl) (Nat.le_refl _) ?_
  refine A_aload_n dX9_loans_0 rfl rfl ?_
  refine A_iload_n dX9_loans_1 rfl rfl ?_
  refine A_iload_n dX9_loans_2 rfl rfl ?_
  refine A_iload dX9_loans_3 rfl ?_
  refine B_callV_I (av := [vI a1, vI a2, vI a4]) rfl dX9_loans_5 vX9_229 mX9_refusalOf ⟨rfl, rfl, by decide⟩ (okK9 (by omega)) rfl (Nat.le_of_ble_eq_true rfl) (by decide) (by decide) rfl (BC_monoI h (fun x1 N1 h => ?_))
  refine A_istore (ls' := [(5, _), (0, _), (1, _), (2, _), (3, _), (4, _)]) dX9_loans_8 (by decide) rfl ?_
  refine A_iload dX9_loans_10 rfl ?_
  refine B_if_eq (tgt := 18) dX9_loans_12 (by decide) rfl ⟨fun q => ?_, fun q => ?_⟩
  · replace h := h.1 q
    refine A_aload_n dX9_loans_18 rfl rfl ?_
    refine A_getR (c2 := 27) (i2 := 0) dX9_loans_19 fX9_65 rfl (okK9 (by omega)) rfl ?_
    refine A_iload_n dX9_loans_22 rfl rfl ?_
    obtain ⟨j2, qj2, bj2, h⟩ := h
    refine A_aald (j := j2) (c2 := 7) (i2 := j2) dX9_loans_23 (by decide) (by decide) (okK27 (by omega)) qj2 bj2 rfl ?_
    refine A_astore (ls' := [(6, _), (5, _), (0, _), (1, _), (2, _), (3, _), (4, _)]) dX9_loans_24 (by decide) rfl ?_
    refine A_iconst (v := 0) dX9_loans_26 rfl ?_
    refine A_istore (ls' := [(7, _), (6, _), (5, _), (0, _), (1, _), (2, _), (3, _), (4, _)]) dX9_loans_27 (by decide) rfl ?_
    refine A_iconst (v := 0) dX9_loans_29 rfl ?_
    refine A_istore (ls' := [(8, _), (7, _), (6, _), (5, _), (0, _), (1, _), (2, _), (3, _), (4, _)]) dX9_loans_30 (by decide) rfl ?_
    exact A_pick [4, 7, 8, 2, 1, 0] rfl h
  · replace h := h.2 q
    refine A_iload dX9_loans_15 rfl ?_
    exact A_iret dX9_loans_17 ⟨rfl, _, rfl, h⟩
set_option maxRecDepth 100000 in
set_option maxHeartbeats 4000000 in
theorem vc_X9_loans_32 {G : GT} {l3 : Int} {l4 : Int} {i6 : Nat} {l7 : Int} {l8 : Int} {N : NN} {K : Int → NN → Prop} (h_i6 : i6 < 4) (h : (((wI l4) ≤ (wI l8) → K l7 N) ∧ (¬ ((wI l4) ≤ (wI l8)) → (C_X7_holds G i6 (((wI l3)) + ((wI (4 * l8)))) N (fun x1 N1 => (((wI x1) = 0 → K ((-12)) N1) ∧ (¬ ((wI x1) = 0) → (C_X7_holds G i6 ((((wI l3)) + ((wI (4 * l8)))) + 3) N1 (fun x2 N2 => (((wI x2) ≠ 0 → (∃ j3 : Nat, (wI (((wI l3)) + ((wI (4 * l8))))) = (j3 : Int) ∧ j3 < 40 ∧ (∃ j4 : Nat, (wI ((((wI l3)) + ((wI (4 * l8)))) + 1)) = (j4 : Int) ∧ j4 < 40 ∧ (∃ j5 : Nat, (wI ((((wI l3)) + ((wI (4 * l8)))) + 2)) = (j5 : Int) ∧ j5 < 40 ∧ (∃ j6 : Nat, (wI ((((wI l3)) + ((wI (4 * l8)))) + 3)) = (j6 : Int) ∧ j6 < 40 ∧ (C_X9_loan G (N2 34 i6 j3) (N2 34 i6 j4) (N2 34 i6 j5) (N2 34 i6 j6) N2 (fun x7 N7 => (((wI x7) < 0 → W_X9_loans G K 32 [(0, vR 9 0), (3, vI l3), (4, vI l4), (6, vR 7 i6), (7, vI l7), (8, vI (l8 + 1))] [] N7) ∧ (¬ ((wI x7) < 0) → W_X9_loans G K 32 [(0, vR 9 0), (3, vI l3), (4, vI l4), (6, vR 7 i6), (7, vI (l7 + 1)), (8, vI (l8 + 1))] [] N7))))))))) ∧ (¬ ((wI x2) ≠ 0) → K ((-12)) N2))))))))))) : W_X9_loans G K 32 [(0, vR 9 0), (3, vI l3), (4, vI l4), (6, vR 7 i6), (7, vI l7), (8, vI l8)] [] N := by
  refine A_iload dX9_loans_32 rfl ?_
  refine A_iload dX9_loans_34 rfl ?_
  refine B_icmp_ge (tgt := 135) dX9_loans_36 (by decide) rfl rfl ⟨fun q => ?_, fun q => ?_⟩
  · replace h := h.1 q
    refine A_iload dX9_loans_135 rfl ?_
    exact A_iret dX9_loans_137 ⟨rfl, _, rfl, h⟩
  · replace h := h.2 q
    refine A_iload_n dX9_loans_39 rfl rfl ?_
    refine B_i2l dX9_loans_40 rfl ?_
    refine A_iconst (v := 4) dX9_loans_41 rfl ?_
    refine A_iload dX9_loans_42 rfl ?_
    refine A_imul dX9_loans_44 ?_
    refine B_i2l dX9_loans_45 rfl ?_
    refine A_ladd dX9_loans_46 ?_
    refine A_lstore (ls' := [(9, _), (0, _), (3, _), (4, _), (6, _), (7, _), (8, _)]) dX9_loans_47 (by decide) rfl ?_
    refine A_aload dX9_loans_49 rfl ?_
    refine A_lload dX9_loans_51 rfl ?_
    refine B_callV_I (av := [vL (((wI l3)) + ((wI (4 * l8))))]) rfl dX9_loans_53 vX9_233 mX7_holds ⟨rfl, rfl, by decide⟩ (okK7 (by omega)) rfl (Nat.le_of_ble_eq_true rfl) (by decide) (by decide) rfl (BC_monoI h (fun x1 N1 h => ?_))
    refine B_if_eq (tgt := 73) dX9_loans_56 (by decide) rfl ⟨fun q => ?_, fun q => ?_⟩
    · replace h := h.1 q
      refine A_bipush (v := (-12)) dX9_loans_73 (by decide +kernel) ?_
      exact A_iret dX9_loans_75 ⟨rfl, _, rfl, h⟩
    · replace h := h.2 q
      refine A_aload dX9_loans_59 rfl ?_
      refine A_lload dX9_loans_61 rfl ?_
      refine A_ldc2 (x := 3) dX9_loans_63 kX9_285 (by decide +kernel) ?_
      refine A_ladd dX9_loans_66 ?_
      refine B_callV_I (av := [vL ((((wI l3)) + ((wI (4 * l8)))) + 3)]) rfl dX9_loans_67 vX9_233 mX7_holds ⟨rfl, rfl, by decide⟩ (okK7 (by omega)) rfl (Nat.le_of_ble_eq_true rfl) (by decide) (by decide) rfl (BC_monoI h (fun x2 N2 h => ?_))
      refine B_if_ne (tgt := 76) dX9_loans_70 (by decide) rfl ⟨fun q => ?_, fun q => ?_⟩
      · replace h := h.1 q
        refine A_lload dX9_loans_76 rfl ?_
        refine A_l2i dX9_loans_78 ?_
        refine A_istore (ls' := [(11, _), (9, _), (0, _), (3, _), (4, _), (6, _), (7, _), (8, _)]) dX9_loans_79 (by decide) rfl ?_
        refine A_aload_n dX9_loans_81 rfl rfl ?_
        refine A_aload dX9_loans_82 rfl ?_
        refine A_getR (c2 := 34) (i2 := i6) dX9_loans_84 fX9_237 rfl (okK7 (by omega)) rfl ?_
        refine A_iload dX9_loans_87 rfl ?_
        obtain ⟨j3, qj3, bj3, h⟩ := h
        refine A_iald (j := j3) dX9_loans_89 (by decide) rfl (okK34 (by omega)) qj3 bj3 ?_
        refine A_aload dX9_loans_90 rfl ?_
        refine A_getR (c2 := 34) (i2 := i6) dX9_loans_92 fX9_237 rfl (okK7 (by omega)) rfl ?_
        refine A_iload dX9_loans_95 rfl ?_
        refine A_iconst (v := 1) dX9_loans_97 rfl ?_
        refine A_iadd dX9_loans_98 ?_
        obtain ⟨j4, qj4, bj4, h⟩ := h
        refine A_iald (j := j4) dX9_loans_99 (by decide) rfl (okK34 (by omega)) qj4 bj4 ?_
        refine A_aload dX9_loans_100 rfl ?_
        refine A_getR (c2 := 34) (i2 := i6) dX9_loans_102 fX9_237 rfl (okK7 (by omega)) rfl ?_
        refine A_iload dX9_loans_105 rfl ?_
        refine A_iconst (v := 2) dX9_loans_107 rfl ?_
        refine A_iadd dX9_loans_108 ?_
        obtain ⟨j5, qj5, bj5, h⟩ := h
        refine A_iald (j := j5) dX9_loans_109 (by decide) rfl (okK34 (by omega)) qj5 bj5 ?_
        refine A_aload dX9_loans_110 rfl ?_
        refine A_getR (c2 := 34) (i2 := i6) dX9_loans_112 fX9_237 rfl (okK7 (by omega)) rfl ?_
        refine A_iload dX9_loans_115 rfl ?_
        refine A_iconst (v := 3) dX9_loans_117 rfl ?_
        refine A_iadd dX9_loans_118 ?_
        obtain ⟨j6, qj6, bj6, h⟩ := h
        refine A_iald (j := j6) dX9_loans_119 (by decide) rfl (okK34 (by omega)) qj6 bj6 ?_
        refine B_callV_I (av := [vI (N2 34 i6 j3), vI (N2 34 i6 j4), vI (N2 34 i6 j5), vI (N2 34 i6 j6)]) rfl dX9_loans_120 vX9_287 mX9_loan ⟨rfl, rfl, by decide⟩ (okK9 (by omega)) rfl (Nat.le_of_ble_eq_true rfl) (by decide) (by decide) rfl (BC_monoI h (fun x7 N7 h => ?_))
        refine B_if_lt (tgt := 129) dX9_loans_123 (by decide) rfl ⟨fun q => ?_, fun q => ?_⟩
        · replace h := h.1 q
          refine A_iinc (ls' := [(8, _), (11, _), (9, _), (0, _), (3, _), (4, _), (6, _), (7, _)]) dX9_loans_129 (by decide) rfl rfl rfl ?_
          refine A_goto (tgt := 32) dX9_loans_132 (by decide) ?_
          exact A_pick [3, 4, 5, 6, 7, 0] rfl h
        · replace h := h.2 q
          refine A_iinc (ls' := [(7, _), (11, _), (9, _), (0, _), (3, _), (4, _), (6, _), (8, _)]) dX9_loans_126 (by decide) rfl rfl rfl ?_
          refine A_iinc (ls' := [(8, _), (7, _), (11, _), (9, _), (0, _), (3, _), (4, _), (6, _)]) dX9_loans_129 (by decide) rfl rfl rfl ?_
          refine A_goto (tgt := 32) dX9_loans_132 (by decide) ?_
          exact A_pick [4, 5, 6, 7, 1, 0] rfl h
      · replace h := h.2 q
        refine A_bipush (v := (-12)) dX9_loans_73 (by decide +kernel) ?_
        exact A_iret dX9_loans_75 ⟨rfl, _, rfl, h⟩
set_option maxRecDepth 100000 in
set_option maxHeartbeats 4000000 in
theorem vc_X9_taken {G : GT} {a1 : Int} {a2 : Int} {N : NN} {K : Int → NN → Prop}  (h : (C_X9_within G a2 0 5 N (fun x1 N1 => (((wI x1) ≠ 0 → (C_X9_within G a1 0 ((N1 6 0 1) - 1) N1 (fun x2 N2 => (((wI x2) ≠ 0 → (∃ j3 : Nat, (wI a1) = (j3 : Int) ∧ j3 < 12 ∧ (C_X2_isKind G j3 a2 N2 (fun x4 N4 => (((wI x4) = 0 → K ((-13)) N4) ∧ (¬ ((wI x4) = 0) → K (N4 2 j3 1) N4)))))) ∧ (¬ ((wI x2) ≠ 0) → K ((-11)) N2))))) ∧ (¬ ((wI x1) ≠ 0) → K ((-2)) N1))))) : C_X9_taken G a1 a2 N K := by
  refine Ctr.ofAW RX9 false rfl (by decide +kernel) (fun q => by cases q) (Nat.le_of_ble_eq_true rfl) (Nat.le_refl _) ?_
  refine A_iload_n dX9_taken_0 rfl rfl ?_
  refine A_iconst (v := 0) dX9_taken_1 rfl ?_
  refine A_iconst (v := 5) dX9_taken_2 rfl ?_
  refine B_callS_I (av := [vI a2, vI 0, vI 5]) rfl dX9_taken_3 vX9_83 mX9_within rfl (Nat.le_of_ble_eq_true rfl) (by decide) (by decide) rfl (BC_monoI h (fun x1 N1 h => ?_))
  refine B_if_ne (tgt := 12) dX9_taken_6 (by decide) rfl ⟨fun q => ?_, fun q => ?_⟩
  · replace h := h.1 q
    refine A_iload_n dX9_taken_12 rfl rfl ?_
    refine A_iconst (v := 0) dX9_taken_13 rfl ?_
    refine A_aload_n dX9_taken_14 rfl rfl ?_
    refine A_getR (c2 := 6) (i2 := 0) dX9_taken_15 fX9_10 rfl (okK9 (by omega)) rfl ?_
    refine A_getI dX9_taken_18 fX9_91 rfl (okK6 (by omega)) ?_
    refine A_iconst (v := 1) dX9_taken_21 rfl ?_
    refine A_isub dX9_taken_22 ?_
    refine B_callS_I (av := [vI a1, vI 0, vI ((N1 6 0 1) - 1)]) rfl dX9_taken_23 vX9_83 mX9_within rfl (Nat.le_of_ble_eq_true rfl) (by decide) (by decide) rfl (BC_monoI h (fun x2 N2 h => ?_))
    refine B_if_ne (tgt := 32) dX9_taken_26 (by decide) rfl ⟨fun q => ?_, fun q => ?_⟩
    · replace h := h.1 q
      refine A_aload_n dX9_taken_32 rfl rfl ?_
      refine A_getR (c2 := 6) (i2 := 0) dX9_taken_33 fX9_10 rfl (okK9 (by omega)) rfl ?_
      refine A_getR (c2 := 20) (i2 := 0) dX9_taken_36 fX9_94 rfl (okK6 (by omega)) rfl ?_
      refine A_iload_n dX9_taken_39 rfl rfl ?_
      obtain ⟨j3, qj3, bj3, h⟩ := h
      refine A_aald (j := j3) (c2 := 2) (i2 := j3) dX9_taken_40 (by decide) (by decide) (okK20 (by omega)) qj3 bj3 RF_l0 ?_
      refine A_astore_n (ls' := [(3, _), (0, _), (1, _), (2, _)]) dX9_taken_41 rfl (by decide) rfl ?_
      refine A_aload_n dX9_taken_42 rfl rfl ?_
      refine A_iload_n dX9_taken_43 rfl rfl ?_
      refine B_callV_I (av := [vI a2]) rfl dX9_taken_44 vX9_291 mX2_isKind ⟨rfl, rfl, by decide⟩ (okK2 (by omega)) rfl (Nat.le_of_ble_eq_true rfl) (by decide) (by decide) rfl (BC_monoI h (fun x4 N4 h => ?_))
      refine B_if_eq (tgt := 58) dX9_taken_47 (by decide) rfl ⟨fun q => ?_, fun q => ?_⟩
      · replace h := h.1 q
        refine A_bipush (v := (-13)) dX9_taken_58 (by decide +kernel) ?_
        exact A_iret dX9_taken_60 ⟨rfl, _, rfl, h⟩
      · replace h := h.2 q
        refine A_aload_n dX9_taken_50 rfl rfl ?_
        refine A_getL dX9_taken_51 fX9_107 rfl (okK2 (by omega)) ?_
        refine A_l2i dX9_taken_54 ?_
        refine A_goto (tgt := 60) dX9_taken_55 (by decide) ?_
        exact A_iret dX9_taken_60 ⟨rfl, _, rfl, h⟩
    · replace h := h.2 q
      refine A_bipush (v := (-11)) dX9_taken_29 (by decide +kernel) ?_
      exact A_iret dX9_taken_31 ⟨rfl, _, rfl, h⟩
  · replace h := h.2 q
    refine A_bipush (v := (-2)) dX9_taken_9 (by decide +kernel) ?_
    exact A_iret dX9_taken_11 ⟨rfl, _, rfl, h⟩
set_option maxRecDepth 100000 in
set_option maxHeartbeats 4000000 in
theorem vc_X9_refusalOf {G : GT} {a1 : Int} {a2 : Int} {a3 : Int} {N : NN} {K : Int → NN → Prop}  (h : (C_X9_within G a1 0 3 N (fun x1 N1 => (((wI x1) = 0 → K ((-2)) N1) ∧ (¬ ((wI x1) = 0) → (C_X9_within G a2 0 2 N1 (fun x2 N2 => (((wI x2) = 0 → K ((-2)) N2) ∧ (¬ ((wI x2) = 0) → (C_X9_within G a3 0 10 N2 (fun x3 N3 => (((wI x3) ≠ 0 → (∃ j4 : Nat, (wI a1) = (j4 : Int) ∧ j4 < 4 ∧ (((wI (N3 7 j4 1)) ≠ (-1) → (∃ j5 : Nat, (wI a1) = (j5 : Int) ∧ j5 < 4 ∧ (((wI (N3 7 j5 1)) ≠ (wI a2) → K ((-13)) N3) ∧ (¬ ((wI (N3 7 j5 1)) ≠ (wI a2)) → K 0 N3)))) ∧ (¬ ((wI (N3 7 j4 1)) ≠ (-1)) → K ((-11)) N3)))) ∧ (¬ ((wI x3) ≠ 0) → K ((-2)) N3))))))))))))) : C_X9_refusalOf G a1 a2 a3 N K := by
  refine Ctr.ofAW RX9 false rfl (by decide +kernel) (fun q => by cases q) (Nat.le_of_ble_eq_true rfl) (Nat.le_refl _) ?_
  refine A_iload_n dX9_refusalOf_0 rfl rfl ?_
  refine A_iconst (v := 0) dX9_refusalOf_1 rfl ?_
  refine A_iconst (v := 3) dX9_refusalOf_2 rfl ?_
  refine B_callS_I (av := [vI a1, vI 0, vI 3]) rfl dX9_refusalOf_3 vX9_83 mX9_within rfl (Nat.le_of_ble_eq_true rfl) (by decide) (by decide) rfl (BC_monoI h (fun x1 N1 h => ?_))
  refine B_if_eq (tgt := 28) dX9_refusalOf_6 (by decide) rfl ⟨fun q => ?_, fun q => ?_⟩
  · replace h := h.1 q
    refine A_bipush (v := (-2)) dX9_refusalOf_28 (by decide +kernel) ?_
    exact A_iret dX9_refusalOf_30 ⟨rfl, _, rfl, h⟩
  · replace h := h.2 q
    refine A_iload_n dX9_refusalOf_9 rfl rfl ?_
    refine A_iconst (v := 0) dX9_refusalOf_10 rfl ?_
    refine A_iconst (v := 2) dX9_refusalOf_11 rfl ?_
    refine B_callS_I (av := [vI a2, vI 0, vI 2]) rfl dX9_refusalOf_12 vX9_83 mX9_within rfl (Nat.le_of_ble_eq_true rfl) (by decide) (by decide) rfl (BC_monoI h (fun x2 N2 h => ?_))
    refine B_if_eq (tgt := 28) dX9_refusalOf_15 (by decide) rfl ⟨fun q => ?_, fun q => ?_⟩
    · replace h := h.1 q
      refine A_bipush (v := (-2)) dX9_refusalOf_28 (by decide +kernel) ?_
      exact A_iret dX9_refusalOf_30 ⟨rfl, _, rfl, h⟩
    · replace h := h.2 q
      refine A_iload_n dX9_refusalOf_18 rfl rfl ?_
      refine A_iconst (v := 0) dX9_refusalOf_19 rfl ?_
      refine A_bipush (v := 10) dX9_refusalOf_20 (by decide +kernel) ?_
      refine B_callS_I (av := [vI a3, vI 0, vI 10]) rfl dX9_refusalOf_22 vX9_83 mX9_within rfl (Nat.le_of_ble_eq_true rfl) (by decide) (by decide) rfl (BC_monoI h (fun x3 N3 h => ?_))
      refine B_if_ne (tgt := 31) dX9_refusalOf_25 (by decide) rfl ⟨fun q => ?_, fun q => ?_⟩
      · replace h := h.1 q
        refine A_aload_n dX9_refusalOf_31 rfl rfl ?_
        refine A_getR (c2 := 27) (i2 := 0) dX9_refusalOf_32 fX9_65 rfl (okK9 (by omega)) rfl ?_
        refine A_iload_n dX9_refusalOf_35 rfl rfl ?_
        obtain ⟨j4, qj4, bj4, h⟩ := h
        refine A_aald (j := j4) (c2 := 7) (i2 := j4) dX9_refusalOf_36 (by decide) (by decide) (okK27 (by omega)) qj4 bj4 rfl ?_
        refine A_getI dX9_refusalOf_37 fX9_279 rfl (okK7 (by omega)) ?_
        refine A_iconst (v := (-1)) dX9_refusalOf_40 rfl ?_
        refine B_icmp_ne (tgt := 47) dX9_refusalOf_41 (by decide) rfl (wlitI (by decide) (by decide)) ⟨fun q => ?_, fun q => ?_⟩
        · replace h := h.1 q
          refine A_aload_n dX9_refusalOf_47 rfl rfl ?_
          refine A_getR (c2 := 27) (i2 := 0) dX9_refusalOf_48 fX9_65 rfl (okK9 (by omega)) rfl ?_
          refine A_iload_n dX9_refusalOf_51 rfl rfl ?_
          obtain ⟨j5, qj5, bj5, h⟩ := h
          refine A_aald (j := j5) (c2 := 7) (i2 := j5) dX9_refusalOf_52 (by decide) (by decide) (okK27 (by omega)) qj5 bj5 rfl ?_
          refine A_getI dX9_refusalOf_53 fX9_279 rfl (okK7 (by omega)) ?_
          refine A_iload_n dX9_refusalOf_56 rfl rfl ?_
          refine B_icmp_ne (tgt := 64) dX9_refusalOf_57 (by decide) rfl rfl ⟨fun q => ?_, fun q => ?_⟩
          · replace h := h.1 q
            refine A_bipush (v := (-13)) dX9_refusalOf_64 (by decide +kernel) ?_
            exact A_iret dX9_refusalOf_66 ⟨rfl, _, rfl, h⟩
          · replace h := h.2 q
            refine A_iconst (v := 0) dX9_refusalOf_60 rfl ?_
            refine A_goto (tgt := 66) dX9_refusalOf_61 (by decide) ?_
            exact A_iret dX9_refusalOf_66 ⟨rfl, _, rfl, h⟩
        · replace h := h.2 q
          refine A_bipush (v := (-11)) dX9_refusalOf_44 (by decide +kernel) ?_
          exact A_iret dX9_refusalOf_46 ⟨rfl, _, rfl, h⟩
      · replace h := h.2 q
        refine A_bipush (v := (-2)) dX9_refusalOf_28 (by decide +kernel) ?_
        exact A_iret dX9_refusalOf_30 ⟨rfl, _, rfl, h⟩
set_option maxRecDepth 100000 in
set_option maxHeartbeats 4000000 in
theorem vc_X9_orderIn {G : GT} {a1 : Int} {N : NN} {K : Nat → NN → Prop}  (h : (C_X9_within G a1 1 60 N (fun x1 N1 => (((wI x1) = 0 → (C_X9_within G 0 0 ((N1 9 0 13) - 1) N1 (fun x2 N2 => (((wI x2) = 0 → (0 < 6 ∧ K 0 N2)) ∧ (¬ ((wI x2) = 0) → (0 < 6 ∧ K 0 N2)))))) ∧ (¬ ((wI x1) = 0) → (∃ j3 : Nat, (wI a1) = (j3 : Int) ∧ j3 < 62 ∧ (C_X9_within G (N1 23 0 j3) 0 ((N1 9 0 13) - 1) N1 (fun x4 N4 => (((wI x4) = 0 → (0 < 6 ∧ K 0 N4)) ∧ (¬ ((wI x4) = 0) → (∃ j5 : Nat, (wI (N1 23 0 j3)) = (j5 : Int) ∧ j5 < 6 ∧ (j5 < 6 ∧ K j5 N4)))))))))))) : C_X9_orderIn G a1 N K := by
  refine Ctr.ofAW RX9 false rfl (by decide +kernel) (fun q => by cases q) (Nat.le_of_ble_eq_true rfl) (Nat.le_refl _) ?_
  refine A_iload_n dX9_orderIn_0 rfl rfl ?_
  refine A_iconst (v := 1) dX9_orderIn_1 rfl ?_
  refine A_bipush (v := 60) dX9_orderIn_2 (by decide +kernel) ?_
  refine B_callS_I (av := [vI a1, vI 1, vI 60]) rfl dX9_orderIn_4 vX9_83 mX9_within rfl (Nat.le_of_ble_eq_true rfl) (by decide) (by decide) rfl (BC_monoI h (fun x1 N1 h => ?_))
  refine B_if_eq (tgt := 19) dX9_orderIn_7 (by decide) rfl ⟨fun q => ?_, fun q => ?_⟩
  · replace h := h.1 q
    refine A_iconst (v := 0) dX9_orderIn_19 rfl ?_
    refine A_istore_n (ls' := [(2, _), (0, _), (1, _)]) dX9_orderIn_20 rfl (by decide) rfl ?_
    refine A_aload_n dX9_orderIn_21 rfl rfl ?_
    refine A_getR (c2 := 26) (i2 := 0) dX9_orderIn_22 fX9_59 rfl (okK9 (by omega)) rfl ?_
    refine A_iload_n dX9_orderIn_25 rfl rfl ?_
    refine A_iconst (v := 0) dX9_orderIn_26 rfl ?_
    refine A_aload_n dX9_orderIn_27 rfl rfl ?_
    refine A_getI dX9_orderIn_28 fX9_73 rfl (okK9 (by omega)) ?_
    refine A_iconst (v := 1) dX9_orderIn_31 rfl ?_
    refine A_isub dX9_orderIn_32 ?_
    refine B_callS_I (av := [vI 0, vI 0, vI ((N1 9 0 13) - 1)]) rfl dX9_orderIn_33 vX9_83 mX9_within rfl (Nat.le_of_ble_eq_true rfl) (by decide) (by decide) rfl (BC_monoI h (fun x2 N2 h => ?_))
    refine B_if_eq (tgt := 43) dX9_orderIn_36 (by decide) rfl ⟨fun q => ?_, fun q => ?_⟩
    · replace h := h.1 q
      refine A_iconst (v := 0) dX9_orderIn_43 rfl ?_
      refine A_aald (j := 0) (c2 := 4) (i2 := 0) dX9_orderIn_44 (by decide) (by decide) (okK26 (by omega)) (show wI 0 = ((0 : Nat) : Int) from wlitI (by decide) (by decide)) (by decide) rfl ?_
      exact A_aret dX9_orderIn_45 ⟨rfl, _, rfl, h.1, h.2⟩
    · replace h := h.2 q
      refine A_iload_n dX9_orderIn_39 rfl rfl ?_
      refine A_goto (tgt := 44) dX9_orderIn_40 (by decide) ?_
      refine A_aald (j := 0) (c2 := 4) (i2 := 0) dX9_orderIn_44 (by decide) (by decide) (okK26 (by omega)) (show wI 0 = ((0 : Nat) : Int) from wlitI (by decide) (by decide)) (by decide) rfl ?_
      exact A_aret dX9_orderIn_45 ⟨rfl, _, rfl, h.1, h.2⟩
  · replace h := h.2 q
    refine A_aload_n dX9_orderIn_10 rfl rfl ?_
    refine A_getR (c2 := 23) (i2 := 0) dX9_orderIn_11 fX9_40 rfl (okK9 (by omega)) rfl ?_
    refine A_iload_n dX9_orderIn_14 rfl rfl ?_
    obtain ⟨j3, qj3, bj3, h⟩ := h
    refine A_iald (j := j3) dX9_orderIn_15 (by decide) rfl (okK23 (by omega)) qj3 bj3 ?_
    refine A_goto (tgt := 20) dX9_orderIn_16 (by decide) ?_
    refine A_istore_n (ls' := [(2, _), (0, _), (1, _)]) dX9_orderIn_20 rfl (by decide) rfl ?_
    refine A_aload_n dX9_orderIn_21 rfl rfl ?_
    refine A_getR (c2 := 26) (i2 := 0) dX9_orderIn_22 fX9_59 rfl (okK9 (by omega)) rfl ?_
    refine A_iload_n dX9_orderIn_25 rfl rfl ?_
    refine A_iconst (v := 0) dX9_orderIn_26 rfl ?_
    refine A_aload_n dX9_orderIn_27 rfl rfl ?_
    refine A_getI dX9_orderIn_28 fX9_73 rfl (okK9 (by omega)) ?_
    refine A_iconst (v := 1) dX9_orderIn_31 rfl ?_
    refine A_isub dX9_orderIn_32 ?_
    refine B_callS_I (av := [vI (N1 23 0 j3), vI 0, vI ((N1 9 0 13) - 1)]) rfl dX9_orderIn_33 vX9_83 mX9_within rfl (Nat.le_of_ble_eq_true rfl) (by decide) (by decide) rfl (BC_monoI h (fun x4 N4 h => ?_))
    refine B_if_eq (tgt := 43) dX9_orderIn_36 (by decide) rfl ⟨fun q => ?_, fun q => ?_⟩
    · replace h := h.1 q
      refine A_iconst (v := 0) dX9_orderIn_43 rfl ?_
      refine A_aald (j := 0) (c2 := 4) (i2 := 0) dX9_orderIn_44 (by decide) (by decide) (okK26 (by omega)) (show wI 0 = ((0 : Nat) : Int) from wlitI (by decide) (by decide)) (by decide) rfl ?_
      exact A_aret dX9_orderIn_45 ⟨rfl, _, rfl, h.1, h.2⟩
    · replace h := h.2 q
      refine A_iload_n dX9_orderIn_39 rfl rfl ?_
      refine A_goto (tgt := 44) dX9_orderIn_40 (by decide) ?_
      obtain ⟨j5, qj5, bj5, h⟩ := h
      refine A_aald (j := j5) (c2 := 4) (i2 := j5) dX9_orderIn_44 (by decide) (by decide) (okK26 (by omega)) qj5 bj5 rfl ?_
      exact A_aret dX9_orderIn_45 ⟨rfl, _, rfl, h.1, h.2⟩
set_option maxRecDepth 100000 in
set_option maxHeartbeats 4000000 in
theorem vc_X9_within {G : GT} {a0 : Int} {a1 : Int} {a2 : Int} {N : NN} {K : Int → NN → Prop}  (h : (((wI a0) < (wI a1) → K 0 N) ∧ (¬ ((wI a0) < (wI a1)) → (((wI a2) < (wI a0) → K 0 N) ∧ (¬ ((wI a2) < (wI a0)) → K 1 N))))) : C_X9_within G a0 a1 a2 N K := by
  refine Ctr.ofAW RX9 false rfl (by decide +kernel) (fun q => by cases q) (Nat.le_of_ble_eq_true rfl) (Nat.le_refl _) ?_
  refine A_iload_n dX9_within_0 rfl rfl ?_
  refine A_iload_n dX9_within_1 rfl rfl ?_
  refine B_icmp_lt (tgt := 14) dX9_within_2 (by decide) rfl rfl ⟨fun q => ?_, fun q => ?_⟩
  · replace h := h.1 q
    refine A_iconst (v := 0) dX9_within_14 rfl ?_
    exact A_zret dX9_within_15 (by decide) ⟨rfl, _, rfl, h⟩
  · replace h := h.2 q
    refine A_iload_n dX9_within_5 rfl rfl ?_
    refine A_iload_n dX9_within_6 rfl rfl ?_
    refine B_icmp_gt (tgt := 14) dX9_within_7 (by decide) rfl rfl ⟨fun q => ?_, fun q => ?_⟩
    · replace h := h.1 q
      refine A_iconst (v := 0) dX9_within_14 rfl ?_
      exact A_zret dX9_within_15 (by decide) ⟨rfl, _, rfl, h⟩
    · replace h := h.2 q
      refine A_iconst (v := 1) dX9_within_10 rfl ?_
      refine A_goto (tgt := 15) dX9_within_11 (by decide) ?_
      exact A_zret dX9_within_15 (by decide) ⟨rfl, _, rfl, h⟩
set_option maxRecDepth 100000 in
set_option maxHeartbeats 4000000 in
theorem vc_X9_commonDivisor {G : GT} {a0 : Int} {a1 : Int} {N : NN} {K : Int → NN → Prop}  (h : W_X9_commonDivisor G K 3 [(0, vL a0), (2, vL a1), (4, vI 0)] [] N) : C_X9_commonDivisor G a0 a1 N K := by
  refine Ctr.ofAW RX9 false rfl (by decide +kernel) (fun q => by cases q) (Nat.le_of_ble_eq_true rfl) (Nat.le_refl _) ?_
  refine A_iconst (v := 0) dX9_commonDivisor_0 rfl ?_
  refine A_istore (ls' := [(4, _), (0, _), (2, _)]) dX9_commonDivisor_1 (by decide) rfl ?_
  exact A_pick [1, 2, 0] rfl h
set_option maxRecDepth 100000 in
set_option maxHeartbeats 4000000 in
theorem vc_X9_commonDivisor_3 {G : GT} {l0 : Int} {l2 : Int} {l4 : Int} {N : NN} {K : Int → NN → Prop}  (h : ((200 ≤ (wI l4) → K l0 N) ∧ (¬ (200 ≤ (wI l4)) → (((wL l2) = 0 → K l0 N) ∧ (¬ ((wL l2) = 0) → ((wL l2) ≠ 0 ∧ W_X9_commonDivisor G K 3 [(0, vL l2), (2, vL (((wL l0)).tmod ((wL l2)))), (4, vI (l4 + 1))] [] N)))))) : W_X9_commonDivisor G K 3 [(0, vL l0), (2, vL l2), (4, vI l4)] [] N := by
  refine A_iload dX9_commonDivisor_3 rfl ?_
  refine A_sipush (v := 200) dX9_commonDivisor_5 (by decide +kernel) ?_
  refine B_icmp_ge (tgt := 33) dX9_commonDivisor_8 (by decide) rfl (wlitI (by decide) (by decide)) ⟨fun q => ?_, fun q => ?_⟩
  · replace h := h.1 q
    refine A_lload_n dX9_commonDivisor_33 rfl rfl ?_
    exact A_lret dX9_commonDivisor_34 ⟨rfl, _, rfl, h⟩
  · replace h := h.2 q
    refine A_lload_n dX9_commonDivisor_11 rfl rfl ?_
    refine A_lconst (v := 0) dX9_commonDivisor_12 (by decide +kernel) ?_
    refine B_lcmp_eq (tgt := 33) dX9_commonDivisor_13 rfl dX9_commonDivisor_14 (by decide) rfl (wlitL (by decide) (by decide)) ⟨fun q => ?_, fun q => ?_⟩
    · replace h := h.1 q
      refine A_lload_n dX9_commonDivisor_33 rfl rfl ?_
      exact A_lret dX9_commonDivisor_34 ⟨rfl, _, rfl, h⟩
    · replace h := h.2 q
      refine A_lload_n dX9_commonDivisor_17 rfl rfl ?_
      refine A_lload_n dX9_commonDivisor_18 rfl rfl ?_
      refine B_lrem dX9_commonDivisor_19 rfl rfl h.1 ?_
      replace h := h.2
      refine A_lstore (ls' := [(5, _), (0, _), (2, _), (4, _)]) dX9_commonDivisor_20 (by decide) rfl ?_
      refine A_lload_n dX9_commonDivisor_22 rfl rfl ?_
      refine A_lstore_n (ls' := [(0, _), (5, _), (2, _), (4, _)]) dX9_commonDivisor_23 rfl (by decide) rfl ?_
      refine A_lload dX9_commonDivisor_24 rfl ?_
      refine A_lstore_n (ls' := [(2, _), (0, _), (5, _), (4, _)]) dX9_commonDivisor_26 rfl (by decide) rfl ?_
      refine A_iinc (ls' := [(4, _), (2, _), (0, _), (5, _)]) dX9_commonDivisor_27 (by decide) rfl rfl rfl ?_
      refine A_goto (tgt := 3) dX9_commonDivisor_30 (by decide) ?_
      exact A_pick [2, 1, 0] rfl h
