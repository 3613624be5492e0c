set_option maxRecDepth 100000 in
set_option maxHeartbeats 4000000 in
theorem vc_X1_read {G : GT} {i0 : Nat} {N : NN} {K : Int → NN → Prop} (h_i0 : i0 < 6) (h : (∀ M1 : NN, M1 = up3 N 1 i0 3 0 → (∀ M2 : NN, M2 = up3 M1 1 i0 4 0 → (C_X8_begin G  M2 (fun N3 => W_X1_read G K 16 [(0, vR 1 i0), (1, vR 8 0), (2, vI 0)] [] N3))))) : C_X1_read G i0 N K := by
  refine Ctr.ofAW RX1 false rfl (by decide +kernel) (fun q => by cases q) (Nat.le_of_ble_eq_true rfl) (Nat.le_refl _) ?_
  refine A_aload_n dX1_read_0 rfl rfl ?_
  refine A_iconst (v := 0) dX1_read_1 rfl ?_
  refine B_putI dX1_read_2 fX1_21 (by decide) (okK1 (by omega)) (fun M1 eM1 => ?_)
  replace h := h M1 eM1
  refine A_aload_n dX1_read_5 rfl rfl ?_
  refine A_iconst (v := 0) dX1_read_6 rfl ?_
  refine B_putI dX1_read_7 fX1_25 (by decide) (okK1 (by omega)) (fun M2 eM2 => ?_)
  replace h := h M2 eM2
  refine A_aload_n dX1_read_10 rfl rfl ?_
  refine B_callV_V (av := []) rfl dX1_read_11 vX1_28 mX8_begin ⟨rfl, rfl, by decide⟩ (okK8 (by omega)) rfl (Nat.le_of_ble_eq_true rfl) (by decide) (by decide) rfl (BC_monoV h (fun N3 h => ?_))
  refine A_iconst (v := 0) dX1_read_14 rfl ?_
  refine A_istore_n (ls' := [(2, _), (0, _), (1, _)]) dX1_read_15 rfl (by decide) rfl ?_
  exact A_pick [1, 2, 0] rfl h
set_option maxRecDepth 100000 in
set_option maxHeartbeats 4000000 in
theorem vc_X1_read_16 {G : GT} {i0 : Nat} {l2 : Int} {N : NN} {K : Int → NN → Prop} (h_i0 : i0 < 6) (h : ((3 ≤ (wI l2) → (∀ M1 : NN, M1 = up3 N 30 i0 3 (N 1 i0 3) → (C_X8_isEnd G  M1 (fun x2 N2 => (((wI x2) = 0 → K (N2 8 0 2) N2) ∧ (¬ ((wI x2) = 0) → K ((-1)) N2)))))) ∧ (¬ (3 ≤ (wI l2)) → (∃ j3 : Nat, (wI l2) = (j3 : Int) ∧ j3 < 4 ∧ (∀ M4 : NN, M4 = up3 N 30 i0 j3 (N 1 i0 3) → (C_X8_which G 1 M4 (fun x5 N5 => (((wI x5) = (wI l2) → (C_X8_next G  N5 (fun N6 => (∃ L53 : Nat, L53 < 62 ∧ (C_X1_readChain G L53 i0 0 N6 (fun x7 N7 => (((wI x7) = 0 → K (N7 8 0 2) N7) ∧ (¬ ((wI x7) = 0) → (C_X8_takesSign G 59 N7 (fun x8 N8 => (((wI x8) ≠ 0 → W_X1_read G K 16 [(0, vR 1 i0), (1, vR 8 0), (2, vI (l2 + 1))] [] N8) ∧ (¬ ((wI x8) ≠ 0) → K (N8 8 0 2) N8)))))))))))) ∧ (¬ ((wI x5) = (wI l2)) → K (N5 8 0 2) N5))))))))) : W_X1_read G K 16 [(0, vR 1 i0), (1, vR 8 0), (2, vI l2)] [] N := by
  refine A_iload_n dX1_read_16 rfl rfl ?_
  refine A_iconst (v := 3) dX1_read_17 rfl ?_
  refine B_icmp_ge (tgt := 79) dX1_read_18 (by decide) rfl (wlitI (by decide) (by decide)) ⟨fun q => ?_, fun q => ?_⟩
  · replace h := h.1 q
    refine A_aload_n dX1_read_79 rfl rfl ?_
    refine A_getR (c2 := 30) (i2 := i0) dX1_read_80 fX1_15 rfl (okK1 (by omega)) rfl ?_
    refine A_iconst (v := 3) dX1_read_83 rfl ?_
    refine A_aload_n dX1_read_84 rfl rfl ?_
    refine A_getI dX1_read_85 fX1_21 rfl (okK1 (by omega)) ?_
    refine B_iast (j := 3) dX1_read_88 (by decide) rfl (okK30 (by omega)) (show wI 3 = ((3 : Nat) : Int) from wlitI (by decide) (by decide)) (by decide) (fun M1 eM1 => ?_)
    replace h := h M1 eM1
    refine A_aload_n dX1_read_89 rfl rfl ?_
    refine B_callV_I (av := []) rfl dX1_read_90 vX1_53 mX8_isEnd ⟨rfl, rfl, by decide⟩ (okK8 (by omega)) rfl (Nat.le_of_ble_eq_true rfl) (by decide) (by decide) rfl (BC_monoI h (fun x2 N2 h => ?_))
    refine B_if_eq (tgt := 100) dX1_read_93 (by decide) rfl ⟨fun q => ?_, fun q => ?_⟩
    · replace h := h.1 q
      refine A_aload_n dX1_read_100 rfl rfl ?_
      refine A_getI dX1_read_101 fX1_39 rfl (okK8 (by omega)) ?_
      exact A_iret dX1_read_104 ⟨rfl, _, rfl, h⟩
    · replace h := h.2 q
      refine A_iconst (v := (-1)) dX1_read_96 rfl ?_
      refine A_goto (tgt := 104) dX1_read_97 (by decide) ?_
      exact A_iret dX1_read_104 ⟨rfl, _, rfl, h⟩
  · replace h := h.2 q
    refine A_aload_n dX1_read_21 rfl rfl ?_
    refine A_getR (c2 := 30) (i2 := i0) dX1_read_22 fX1_15 rfl (okK1 (by omega)) rfl ?_
    refine A_iload_n dX1_read_25 rfl rfl ?_
    refine A_aload_n dX1_read_26 rfl rfl ?_
    refine A_getI dX1_read_27 fX1_21 rfl (okK1 (by omega)) ?_
    obtain ⟨j3, qj3, bj3, h⟩ := h
    refine B_iast (j := j3) dX1_read_30 (by decide) rfl (okK30 (by omega)) qj3 bj3 (fun M4 eM4 => ?_)
    replace h := h M4 eM4
    refine A_aload_n dX1_read_31 rfl rfl ?_
    refine A_ldcS (tx := "fail late early") (q := 1) dX1_read_32 (by decide +kernel) ?_
    refine B_callV_I (av := [vR 200 1]) rfl dX1_read_34 vX1_35 mX8_which ⟨rfl, rfl, by decide⟩ (okK8 (by omega)) rfl (Nat.le_of_ble_eq_true rfl) (by decide) (by decide) rfl (BC_monoI h (fun x5 N5 h => ?_))
    refine A_iload_n dX1_read_37 rfl rfl ?_
    refine B_icmp_eq (tgt := 46) dX1_read_38 (by decide) rfl rfl ⟨fun q => ?_, fun q => ?_⟩
    · replace h := h.1 q
      refine A_aload_n dX1_read_46 rfl rfl ?_
      refine B_callV_V (av := []) rfl dX1_read_47 vX1_42 mX8_next ⟨rfl, rfl, by decide⟩ (okK8 (by omega)) rfl (Nat.le_of_ble_eq_true rfl) (by decide) (by decide) rfl (BC_monoV h (fun N6 h => ?_))
      refine A_aload_n dX1_read_50 rfl rfl ?_
      refine A_aload_n dX1_read_51 rfl rfl ?_
      refine A_iconst (v := 0) dX1_read_52 rfl ?_
      obtain ⟨L53, qL53, h⟩ := h
      refine B_callV_I (av := [vR 8 0, vI 0]) rfl dX1_read_53 vX1_45 mX1_readChain ⟨rfl, rfl, by decide⟩ (okK1 (by omega)) rfl (Nat.le_of_ble_eq_true rfl) qL53 (by decide) rfl (BC_monoI h (fun x7 N7 h => ?_))
      refine B_if_eq (tgt := 68) dX1_read_56 (by decide) rfl ⟨fun q => ?_, fun q => ?_⟩
      · replace h := h.1 q
        refine A_aload_n dX1_read_68 rfl rfl ?_
        refine A_getI dX1_read_69 fX1_39 rfl (okK8 (by omega)) ?_
        exact A_iret dX1_read_72 ⟨rfl, _, rfl, h⟩
      · replace h := h.2 q
        refine A_aload_n dX1_read_59 rfl rfl ?_
        refine A_bipush (v := 59) dX1_read_60 (by decide +kernel) ?_
        refine B_callV_I (av := [vI 59]) rfl dX1_read_62 vX1_49 mX8_takesSign ⟨rfl, rfl, by decide⟩ (okK8 (by omega)) rfl (Nat.le_of_ble_eq_true rfl) (by decide) (by decide) rfl (BC_monoI h (fun x8 N8 h => ?_))
        refine B_if_ne (tgt := 73) dX1_read_65 (by decide) rfl ⟨fun q => ?_, fun q => ?_⟩
        · replace h := h.1 q
          refine A_iinc (ls' := [(2, _), (0, _), (1, _)]) dX1_read_73 (by decide) rfl rfl rfl ?_
          refine A_goto (tgt := 16) dX1_read_76 (by decide) ?_
          exact A_pick [1, 2, 0] rfl h
        · replace h := h.2 q
          refine A_aload_n dX1_read_68 rfl rfl ?_
          refine A_getI dX1_read_69 fX1_39 rfl (okK8 (by omega)) ?_
          exact A_iret dX1_read_72 ⟨rfl, _, rfl, h⟩
    · replace h := h.2 q
      refine A_aload_n dX1_read_41 rfl rfl ?_
      refine A_getI dX1_read_42 fX1_39 rfl (okK8 (by omega)) ?_
      exact A_iret dX1_read_45 ⟨rfl, _, rfl, h⟩
set_option maxRecDepth 100000 in
set_option maxHeartbeats 4000000 in
theorem vc_X1_readChain {G : GT} {Lv : Nat} {i0 : Nat} {a2 : Int} {N : NN} {K : Int → NN → Prop} (h_i0 : i0 < 6) (h : (((wI a2) ≠ 2 → (((wI a2) < 5 → (∃ L27 : Nat, L27 < Lv ∧ (C_X1_readChain G L27 i0 (a2 + 1) N (fun x1 N1 => (((wI x1) = 0 → W_X1_readChain G Lv K 49 [(0, vR 1 i0), (1, vR 8 0), (2, vI a2), (3, vI x1), (4, vI ((-1))), (5, vI 0)] [] N1) ∧ (¬ ((wI x1) = 0) → (4 < Lv ∧ (C_X1_signOf G a2 N1 (fun x2 N2 => W_X1_readChain G Lv K 49 [(0, vR 1 i0), (1, vR 8 0), (2, vI a2), (3, vI x1), (4, vI x2), (5, vI 0)] [] N2))))))))) ∧ (¬ ((wI a2) < 5) → (∃ L18 : Nat, L18 < Lv ∧ (C_X1_readOne G L18 i0 N (fun x3 N3 => ((x3 = 0 ∨ x3 = 1) ∧ K x3 N3))))))) ∧ (¬ ((wI a2) ≠ 2) → (∃ L7 : Nat, L7 < Lv ∧ (C_X1_readCompared G L7 i0 N (fun x4 N4 => ((x4 = 0 ∨ x4 = 1) ∧ K x4 N4))))))) : C_X1_readChain G Lv i0 a2 N K := by
  refine Ctr.ofAW RX1 false rfl (by decide +kernel) (fun q => by cases q) (Nat.le_of_ble_eq_true rfl) (Nat.le_refl _) ?_
  refine A_iload_n dX1_readChain_0 rfl rfl ?_
  refine A_iconst (v := 2) dX1_readChain_1 rfl ?_
  refine B_icmp_ne (tgt := 11) dX1_readChain_2 (by decide) rfl (wlitI (by decide) (by decide)) ⟨fun q => ?_, fun q => ?_⟩
  · replace h := h.1 q
    refine A_iload_n dX1_readChain_11 rfl rfl ?_
    refine A_iconst (v := 5) dX1_readChain_12 rfl ?_
    refine B_icmp_lt (tgt := 22) dX1_readChain_13 (by decide) rfl (wlitI (by decide) (by decide)) ⟨fun q => ?_, fun q => ?_⟩
    · replace h := h.1 q
      refine A_aload_n dX1_readChain_22 rfl rfl ?_
      refine A_aload_n dX1_readChain_23 rfl rfl ?_
      refine A_iload_n dX1_readChain_24 rfl rfl ?_
      refine A_iconst (v := 1) dX1_readChain_25 rfl ?_
      refine A_iadd dX1_readChain_26 ?_
      obtain ⟨L27, qL27, h⟩ := h
      refine B_callV_I (av := [vR 8 0, vI (a2 + 1)]) rfl dX1_readChain_27 vX1_45 mX1_readChain ⟨rfl, rfl, by decide⟩ (okK1 (by omega)) rfl (Nat.le_of_ble_eq_true rfl) qL27 (by decide) rfl (BC_monoI h (fun x1 N1 h => ?_))
      refine A_istore_n (ls' := [(3, _), (0, _), (1, _), (2, _)]) dX1_readChain_30 rfl (by decide) rfl ?_
      refine A_iload_n dX1_readChain_31 rfl rfl ?_
      refine B_if_eq (tgt := 43) dX1_readChain_32 (by decide) rfl ⟨fun q => ?_, fun q => ?_⟩
      · replace h := h.1 q
        refine A_iconst (v := (-1)) dX1_readChain_43 rfl ?_
        refine A_istore (ls' := [(4, _), (3, _), (0, _), (1, _), (2, _)]) dX1_readChain_44 (by decide) rfl ?_
        refine A_iconst (v := 0) dX1_readChain_46 rfl ?_
        refine A_istore (ls' := [(5, _), (4, _), (3, _), (0, _), (1, _), (2, _)]) dX1_readChain_47 (by decide) rfl ?_
        exact A_pick [3, 4, 5, 2, 1, 0] rfl h
      · replace h := h.2 q
        refine A_aload_n dX1_readChain_35 rfl rfl ?_
        refine A_iload_n dX1_readChain_36 rfl rfl ?_
        refine B_callS_I (av := [vR 8 0, vI a2]) rfl dX1_readChain_37 vX1_64 mX1_signOf rfl (Nat.le_of_ble_eq_true rfl) h.1 (by decide) rfl (BC_monoI h.2 (fun x2 N2 h => ?_))
        refine A_goto (tgt := 44) dX1_readChain_40 (by decide) ?_
        refine A_istore (ls' := [(4, _), (3, _), (0, _), (1, _), (2, _)]) dX1_readChain_44 (by decide) rfl ?_
        refine A_iconst (v := 0) dX1_readChain_46 rfl ?_
        refine A_istore (ls' := [(5, _), (4, _), (3, _), (0, _), (1, _), (2, _)]) dX1_readChain_47 (by decide) rfl ?_
        exact A_pick [3, 4, 5, 2, 1, 0] rfl h
    · replace h := h.2 q
      refine A_aload_n dX1_readChain_16 rfl rfl ?_
      refine A_aload_n dX1_readChain_17 rfl rfl ?_
      obtain ⟨L18, qL18, h⟩ := h
      refine B_callV_I (av := [vR 8 0]) rfl dX1_readChain_18 vX1_61 mX1_readOne ⟨rfl, rfl, by decide⟩ (okK1 (by omega)) rfl (Nat.le_of_ble_eq_true rfl) qL18 (by decide) rfl (BC_monoI h (fun x3 N3 h => ?_))
      exact A_zret dX1_readChain_21 h.1 ⟨rfl, _, rfl, h.2⟩
  · replace h := h.2 q
    refine A_aload_n dX1_readChain_5 rfl rfl ?_
    refine A_aload_n dX1_readChain_6 rfl rfl ?_
    obtain ⟨L7, qL7, h⟩ := h
    refine B_callV_I (av := [vR 8 0]) rfl dX1_readChain_7 vX1_57 mX1_readCompared ⟨rfl, rfl, by decide⟩ (okK1 (by omega)) rfl (Nat.le_of_ble_eq_true rfl) qL7 (by decide) rfl (BC_monoI h (fun x4 N4 h => ?_))
    exact A_zret dX1_readChain_10 h.1 ⟨rfl, _, rfl, h.2⟩
set_option maxRecDepth 100000 in
set_option maxHeartbeats 4000000 in
theorem vc_X1_readChain_49 {G : GT} {Lv : Nat} {i0 : Nat} {l2 : Int} {l3 : Int} {l4 : Int} {l5 : Int} {N : NN} {K : Int → NN → Prop} (h_i0 : i0 < 6) (h : ((160 ≤ (wI l5) → ((l3 = 0 ∨ l3 = 1) ∧ K l3 N)) ∧ (¬ (160 ≤ (wI l5)) → (((wI l4) = (-1) → ((l3 = 0 ∨ l3 = 1) ∧ K l3 N)) ∧ (¬ ((wI l4) = (-1)) → (3 < Lv ∧ (C_X8_next G  N (fun N1 => (∃ L72 : Nat, L72 < Lv ∧ (C_X1_readChain G L72 i0 (l2 + 1) N1 (fun x2 N2 => (((wI x2) = 0 → W_X1_readChain G Lv K 49 [(0, vR 1 i0), (1, vR 8 0), (2, vI l2), (3, vI 0), (4, vI ((-1))), (5, vI (l5 + 1))] [] N2) ∧ (¬ ((wI x2) = 0) → (1 < Lv ∧ (C_X1_write G i0 l4 N2 (fun x3 N3 => (((wI x3) = 0 → W_X1_readChain G Lv K 49 [(0, vR 1 i0), (1, vR 8 0), (2, vI l2), (3, vI 0), (4, vI ((-1))), (5, vI (l5 + 1))] [] N3) ∧ (¬ ((wI x3) = 0) → (4 < Lv ∧ (C_X1_signOf G l2 N3 (fun x4 N4 => W_X1_readChain G Lv K 49 [(0, vR 1 i0), (1, vR 8 0), (2, vI l2), (3, vI 1), (4, vI x4), (5, vI (l5 + 1))] [] N4))))))))))))))))))))) : W_X1_readChain G Lv K 49 [(0, vR 1 i0), (1, vR 8 0), (2, vI l2), (3, vI l3), (4, vI l4), (5, vI l5)] [] N := by
  refine A_iload dX1_readChain_49 rfl ?_
  refine A_sipush (v := 160) dX1_readChain_51 (by decide +kernel) ?_
  refine B_icmp_ge (tgt := 114) dX1_readChain_54 (by decide) rfl (wlitI (by decide) (by decide)) ⟨fun q => ?_, fun q => ?_⟩
  · replace h := h.1 q
    refine A_iload_n dX1_readChain_114 rfl rfl ?_
    exact A_zret dX1_readChain_115 h.1 ⟨rfl, _, rfl, h.2⟩
  · replace h := h.2 q
    refine A_iload dX1_readChain_57 rfl ?_
    refine A_iconst (v := (-1)) dX1_readChain_59 rfl ?_
    refine B_icmp_eq (tgt := 114) dX1_readChain_60 (by decide) rfl (wlitI (by decide) (by decide)) ⟨fun q => ?_, fun q => ?_⟩
    · replace h := h.1 q
      refine A_iload_n dX1_readChain_114 rfl rfl ?_
      exact A_zret dX1_readChain_115 h.1 ⟨rfl, _, rfl, h.2⟩
    · replace h := h.2 q
      refine A_aload_n dX1_readChain_63 rfl rfl ?_
      refine B_callV_V (av := []) rfl dX1_readChain_64 vX1_42 mX8_next ⟨rfl, rfl, by decide⟩ (okK8 (by omega)) rfl (Nat.le_of_ble_eq_true rfl) h.1 (by decide) rfl (BC_monoV h.2 (fun N1 h => ?_))
      refine A_aload_n dX1_readChain_67 rfl rfl ?_
      refine A_aload_n dX1_readChain_68 rfl rfl ?_
      refine A_iload_n dX1_readChain_69 rfl rfl ?_
      refine A_iconst (v := 1) dX1_readChain_70 rfl ?_
      refine A_iadd dX1_readChain_71 ?_
      obtain ⟨L72, qL72, h⟩ := h
      refine B_callV_I (av := [vR 8 0, vI (l2 + 1)]) rfl dX1_readChain_72 vX1_45 mX1_readChain ⟨rfl, rfl, by decide⟩ (okK1 (by omega)) rfl (Nat.le_of_ble_eq_true rfl) qL72 (by decide) rfl (BC_monoI h (fun x2 N2 h => ?_))
      refine B_if_eq (tgt := 91) dX1_readChain_75 (by decide) rfl ⟨fun q => ?_, fun q => ?_⟩
      · replace h := h.1 q
        refine A_iconst (v := 0) dX1_readChain_91 rfl ?_
        refine A_istore_n (ls' := [(3, _), (0, _), (1, _), (2, _), (4, _), (5, _)]) dX1_readChain_92 rfl (by decide) rfl ?_
        refine A_iload_n dX1_readChain_93 rfl rfl ?_
        refine B_if_eq (tgt := 105) dX1_readChain_94 (by decide) (wlitI (by decide) (by decide)) ⟨fun q => ?_, fun q => absurd (by decide) q⟩
        refine A_iconst (v := (-1)) dX1_readChain_105 rfl ?_
        refine A_istore (ls' := [(4, _), (3, _), (0, _), (1, _), (2, _), (5, _)]) dX1_readChain_106 (by decide) rfl ?_
        refine A_iinc (ls' := [(5, _), (4, _), (3, _), (0, _), (1, _), (2, _)]) dX1_readChain_108 (by decide) rfl rfl rfl ?_
        refine A_goto (tgt := 49) dX1_readChain_111 (by decide) ?_
        exact A_pick [3, 4, 5, 2, 1, 0] rfl h
      · replace h := h.2 q
        refine A_aload_n dX1_readChain_78 rfl rfl ?_
        refine A_iload dX1_readChain_79 rfl ?_
        refine B_callV_I (av := [vI l4]) rfl dX1_readChain_81 vX1_68 mX1_write ⟨rfl, rfl, by decide⟩ (okK1 (by omega)) rfl (Nat.le_of_ble_eq_true rfl) h.1 (by decide) rfl (BC_monoI h.2 (fun x3 N3 h => ?_))
        refine B_if_eq (tgt := 91) dX1_readChain_84 (by decide) rfl ⟨fun q => ?_, fun q => ?_⟩
        · replace h := h.1 q
          refine A_iconst (v := 0) dX1_readChain_91 rfl ?_
          refine A_istore_n (ls' := [(3, _), (0, _), (1, _), (2, _), (4, _), (5, _)]) dX1_readChain_92 rfl (by decide) rfl ?_
          refine A_iload_n dX1_readChain_93 rfl rfl ?_
          refine B_if_eq (tgt := 105) dX1_readChain_94 (by decide) (wlitI (by decide) (by decide)) ⟨fun q => ?_, fun q => absurd (by decide) q⟩
          refine A_iconst (v := (-1)) dX1_readChain_105 rfl ?_
          refine A_istore (ls' := [(4, _), (3, _), (0, _), (1, _), (2, _), (5, _)]) dX1_readChain_106 (by decide) rfl ?_
          refine A_iinc (ls' := [(5, _), (4, _), (3, _), (0, _), (1, _), (2, _)]) dX1_readChain_108 (by decide) rfl rfl rfl ?_
          refine A_goto (tgt := 49) dX1_readChain_111 (by decide) ?_
          exact A_pick [3, 4, 5, 2, 1, 0] rfl h
        · replace h := h.2 q
          refine A_iconst (v := 1) dX1_readChain_87 rfl ?_
          refine A_goto (tgt := 92) dX1_readChain_88 (by decide) ?_
          refine A_istore_n (ls' := [(3, _), (0, _), (1, _), (2, _), (4, _), (5, _)]) dX1_readChain_92 rfl (by decide) rfl ?_
          refine A_iload_n dX1_readChain_93 rfl rfl ?_
          refine B_if_eq (tgt := 105) dX1_readChain_94 (by decide) (wlitI (by decide) (by decide)) ⟨fun q => absurd q (by decide), fun q => ?_⟩
          refine A_aload_n dX1_readChain_97 rfl rfl ?_
          refine A_iload_n dX1_readChain_98 rfl rfl ?_
          refine B_callS_I (av := [vR 8 0, vI l2]) rfl dX1_readChain_99 vX1_64 mX1_signOf rfl (Nat.le_of_ble_eq_true rfl) h.1 (by decide) rfl (BC_monoI h.2 (fun x4 N4 h => ?_))
          refine A_goto (tgt := 106) dX1_readChain_102 (by decide) ?_
          refine A_istore (ls' := [(4, _), (3, _), (0, _), (1, _), (2, _), (5, _)]) dX1_readChain_106 (by decide) rfl ?_
          refine A_iinc (ls' := [(5, _), (4, _), (3, _), (0, _), (1, _), (2, _)]) dX1_readChain_108 (by decide) rfl rfl rfl ?_
          refine A_goto (tgt := 49) dX1_readChain_111 (by decide) ?_
          exact A_pick [3, 4, 5, 2, 1, 0] rfl h
set_option maxRecDepth 100000 in
set_option maxHeartbeats 4000000 in
theorem vc_X1_signOf {G : GT} {a1 : Int} {N : NN} {K : Int → NN → Prop}  (h : (((wI a1) = 0 → (C_X8_which G 3 N (fun x1 N1 => (((wI x1) ≠ 0 → K ((-1)) N1) ∧ (¬ ((wI x1) ≠ 0) → K 20000 N1))))) ∧ (((wI a1) = 1 → (C_X8_which G 4 N (fun x2 N2 => (((wI x2) ≠ 0 → K ((-1)) N2) ∧ (¬ ((wI x2) ≠ 0) → K 20001 N2))))) ∧ (((wI a1) = 2 → (C_X8_isSign G 60 N (fun x3 N3 => (((wI x3) = 0 → (C_X8_isSign G 61 N3 (fun x4 N4 => (((wI x4) = 0 → K ((-1)) N4) ∧ (¬ ((wI x4) = 0) → K 20004 N4))))) ∧ (¬ ((wI x3) = 0) → K 20003 N3))))) ∧ (((wI a1) = 3 → (C_X8_isSign G 43 N (fun x5 N5 => (((wI x5) = 0 → (C_X8_isSign G 45 N5 (fun x6 N6 => (((wI x6) = 0 → K ((-1)) N6) ∧ (¬ ((wI x6) = 0) → K 20006 N6))))) ∧ (¬ ((wI x5) = 0) → K 20005 N5))))) ∧ ((wI a1) < 0 ∨ 3 < (wI a1) → (C_X8_isSign G 42 N (fun x7 N7 => (((wI x7) = 0 → K ((-1)) N7) ∧ (¬ ((wI x7) = 0) → K 20007 N7)))))))))) : C_X1_signOf G a1 N K := by
  refine Ctr.ofAW RX1 false rfl (by decide +kernel) (fun q => by cases q) (Nat.le_of_ble_eq_true rfl) (Nat.le_refl _) ?_
  refine A_iload_n dX1_signOf_0 rfl rfl ?_
  by_cases q1_0 : wI a1 = 0
  · replace h := h.1 q1_0
    refine A_tableIn (tgt := 32) dX1_signOf_1 q1_0 (by decide) rfl (by decide) ?_
    refine A_aload_n dX1_signOf_32 rfl rfl ?_
    refine A_ldcS (tx := "or") (q := 3) dX1_signOf_33 (by decide +kernel) ?_
    refine B_callV_I (av := [vR 200 3]) rfl dX1_signOf_35 vX1_35 mX8_which ⟨rfl, rfl, by decide⟩ (okK8 (by omega)) rfl (Nat.le_of_ble_eq_true rfl) (by decide) (by decide) rfl (BC_monoI h (fun x1 N1 h => ?_))
    refine B_if_ne (tgt := 47) dX1_signOf_38 (by decide) rfl ⟨fun q => ?_, fun q => ?_⟩
    · replace h := h.1 q
      refine A_iconst (v := (-1)) dX1_signOf_47 rfl ?_
      exact A_iret dX1_signOf_48 ⟨rfl, _, rfl, h⟩
    · replace h := h.2 q
      refine A_sipush (v := 20000) dX1_signOf_41 (by decide +kernel) ?_
      refine A_goto (tgt := 48) dX1_signOf_44 (by decide) ?_
      exact A_iret dX1_signOf_48 ⟨rfl, _, rfl, h⟩
  replace h := h.2
  by_cases q1_1 : wI a1 = 1
  · replace h := h.1 q1_1
    refine A_tableIn (tgt := 49) dX1_signOf_1 q1_1 (by decide) rfl (by decide) ?_
    refine A_aload_n dX1_signOf_49 rfl rfl ?_
    refine A_ldcS (tx := "and") (q := 4) dX1_signOf_50 (by decide +kernel) ?_
    refine B_callV_I (av := [vR 200 4]) rfl dX1_signOf_52 vX1_35 mX8_which ⟨rfl, rfl, by decide⟩ (okK8 (by omega)) rfl (Nat.le_of_ble_eq_true rfl) (by decide) (by decide) rfl (BC_monoI h (fun x2 N2 h => ?_))
    refine B_if_ne (tgt := 64) dX1_signOf_55 (by decide) rfl ⟨fun q => ?_, fun q => ?_⟩
    · replace h := h.1 q
      refine A_iconst (v := (-1)) dX1_signOf_64 rfl ?_
      exact A_iret dX1_signOf_65 ⟨rfl, _, rfl, h⟩
    · replace h := h.2 q
      refine A_sipush (v := 20001) dX1_signOf_58 (by decide +kernel) ?_
      refine A_goto (tgt := 65) dX1_signOf_61 (by decide) ?_
      exact A_iret dX1_signOf_65 ⟨rfl, _, rfl, h⟩
  replace h := h.2
  by_cases q1_2 : wI a1 = 2
  · replace h := h.1 q1_2
    refine A_tableIn (tgt := 66) dX1_signOf_1 q1_2 (by decide) rfl (by decide) ?_
    refine A_aload_n dX1_signOf_66 rfl rfl ?_
    refine A_bipush (v := 60) dX1_signOf_67 (by decide +kernel) ?_
    refine B_callV_I (av := [vI 60]) rfl dX1_signOf_69 vX1_76 mX8_isSign ⟨rfl, rfl, by decide⟩ (okK8 (by omega)) rfl (Nat.le_of_ble_eq_true rfl) (by decide) (by decide) rfl (BC_monoI h (fun x3 N3 h => ?_))
    refine B_if_eq (tgt := 81) dX1_signOf_72 (by decide) rfl ⟨fun q => ?_, fun q => ?_⟩
    · replace h := h.1 q
      refine A_aload_n dX1_signOf_81 rfl rfl ?_
      refine A_bipush (v := 61) dX1_signOf_82 (by decide +kernel) ?_
      refine B_callV_I (av := [vI 61]) rfl dX1_signOf_84 vX1_76 mX8_isSign ⟨rfl, rfl, by decide⟩ (okK8 (by omega)) rfl (Nat.le_of_ble_eq_true rfl) (by decide) (by decide) rfl (BC_monoI h (fun x4 N4 h => ?_))
      refine B_if_eq (tgt := 96) dX1_signOf_87 (by decide) rfl ⟨fun q => ?_, fun q => ?_⟩
      · replace h := h.1 q
        refine A_iconst (v := (-1)) dX1_signOf_96 rfl ?_
        exact A_iret dX1_signOf_97 ⟨rfl, _, rfl, h⟩
      · replace h := h.2 q
        refine A_sipush (v := 20004) dX1_signOf_90 (by decide +kernel) ?_
        refine A_goto (tgt := 97) dX1_signOf_93 (by decide) ?_
        exact A_iret dX1_signOf_97 ⟨rfl, _, rfl, h⟩
    · replace h := h.2 q
      refine A_sipush (v := 20003) dX1_signOf_75 (by decide +kernel) ?_
      refine A_goto (tgt := 97) dX1_signOf_78 (by decide) ?_
      exact A_iret dX1_signOf_97 ⟨rfl, _, rfl, h⟩
  replace h := h.2
  by_cases q1_3 : wI a1 = 3
  · replace h := h.1 q1_3
    refine A_tableIn (tgt := 98) dX1_signOf_1 q1_3 (by decide) rfl (by decide) ?_
    refine A_aload_n dX1_signOf_98 rfl rfl ?_
    refine A_bipush (v := 43) dX1_signOf_99 (by decide +kernel) ?_
    refine B_callV_I (av := [vI 43]) rfl dX1_signOf_101 vX1_76 mX8_isSign ⟨rfl, rfl, by decide⟩ (okK8 (by omega)) rfl (Nat.le_of_ble_eq_true rfl) (by decide) (by decide) rfl (BC_monoI h (fun x5 N5 h => ?_))
    refine B_if_eq (tgt := 113) dX1_signOf_104 (by decide) rfl ⟨fun q => ?_, fun q => ?_⟩
    · replace h := h.1 q
      refine A_aload_n dX1_signOf_113 rfl rfl ?_
      refine A_bipush (v := 45) dX1_signOf_114 (by decide +kernel) ?_
      refine B_callV_I (av := [vI 45]) rfl dX1_signOf_116 vX1_76 mX8_isSign ⟨rfl, rfl, by decide⟩ (okK8 (by omega)) rfl (Nat.le_of_ble_eq_true rfl) (by decide) (by decide) rfl (BC_monoI h (fun x6 N6 h => ?_))
      refine B_if_eq (tgt := 128) dX1_signOf_119 (by decide) rfl ⟨fun q => ?_, fun q => ?_⟩
      · replace h := h.1 q
        refine A_iconst (v := (-1)) dX1_signOf_128 rfl ?_
        exact A_iret dX1_signOf_129 ⟨rfl, _, rfl, h⟩
      · replace h := h.2 q
        refine A_sipush (v := 20006) dX1_signOf_122 (by decide +kernel) ?_
        refine A_goto (tgt := 129) dX1_signOf_125 (by decide) ?_
        exact A_iret dX1_signOf_129 ⟨rfl, _, rfl, h⟩
    · replace h := h.2 q
      refine A_sipush (v := 20005) dX1_signOf_107 (by decide +kernel) ?_
      refine A_goto (tgt := 129) dX1_signOf_110 (by decide) ?_
      exact A_iret dX1_signOf_129 ⟨rfl, _, rfl, h⟩
  replace h := h.2
  replace h := h (by omega)
  refine A_tableOut (tgt := 130) dX1_signOf_1 (by omega) (by decide) ?_
  refine A_aload_n dX1_signOf_130 rfl rfl ?_
  refine A_bipush (v := 42) dX1_signOf_131 (by decide +kernel) ?_
  refine B_callV_I (av := [vI 42]) rfl dX1_signOf_133 vX1_76 mX8_isSign ⟨rfl, rfl, by decide⟩ (okK8 (by omega)) rfl (Nat.le_of_ble_eq_true rfl) (by decide) (by decide) rfl (BC_monoI h (fun x7 N7 h => ?_))
  refine B_if_eq (tgt := 145) dX1_signOf_136 (by decide) rfl ⟨fun q => ?_, fun q => ?_⟩
  · replace h := h.1 q
    refine A_iconst (v := (-1)) dX1_signOf_145 rfl ?_
    exact A_iret dX1_signOf_146 ⟨rfl, _, rfl, h⟩
  · replace h := h.2 q
    refine A_sipush (v := 20007) dX1_signOf_139 (by decide +kernel) ?_
    refine A_goto (tgt := 146) dX1_signOf_142 (by decide) ?_
    exact A_iret dX1_signOf_146 ⟨rfl, _, rfl, h⟩
set_option maxRecDepth 100000 in
set_option maxHeartbeats 4000000 in
theorem vc_X1_readCompared {G : GT} {Lv : Nat} {i0 : Nat} {N : NN} {K : Int → NN → Prop} (h_i0 : i0 < 6) (h : (3 < Lv ∧ (C_X8_which G 2 N (fun x1 N1 => (((wI x1) ≠ 0 → (∃ L51 : Nat, L51 < Lv ∧ (C_X1_readChain G L51 i0 3 N1 (fun x2 N2 => (((wI x2) ≠ 0 → (4 < Lv ∧ (C_X1_signOf G 2 N2 (fun x3 N3 => (((wI x3) ≠ (-1) → (3 < Lv ∧ (C_X8_next G  N3 (fun N4 => (∃ L79 : Nat, L79 < Lv ∧ (C_X1_readChain G L79 i0 3 N4 (fun x5 N5 => (((wI x5) = 0 → K 0 N5) ∧ (¬ ((wI x5) = 0) → (1 < Lv ∧ (C_X1_write G i0 x3 N5 (fun x6 N6 => (((wI x6) = 0 → K 0 N6) ∧ (¬ ((wI x6) = 0) → K 1 N6)))))))))))))) ∧ (¬ ((wI x3) ≠ (-1)) → K 1 N3)))))) ∧ (¬ ((wI x2) ≠ 0) → K 0 N2)))))) ∧ (¬ ((wI x1) ≠ 0) → (4 < Lv ∧ (C_X1_opens G i0 N1 (fun x7 N7 => (((wI x7) = 0 → K 0 N7) ∧ (¬ ((wI x7) = 0) → (∃ L19 : Nat, L19 < Lv ∧ (C_X1_readCompared G L19 i0 N7 (fun x8 N8 => (((wI x8) = 0 → K 0 N8) ∧ (¬ ((wI x8) = 0) → (1 < Lv ∧ (C_X1_closes G i0 N8 (fun x9 N9 => (((wI x9) = 0 → K 0 N9) ∧ (¬ ((wI x9) = 0) → (1 < Lv ∧ (C_X1_write G i0 20002 N9 (fun x10 N10 => (((wI x10) = 0 → K 0 N10) ∧ (¬ ((wI x10) = 0) → K 1 N10)))))))))))))))))))))))))) : C_X1_readCompared G Lv i0 N K := by
  refine Ctr.ofAW RX1 false rfl (by decide +kernel) (fun q => by cases q) (Nat.le_of_ble_eq_true rfl) (Nat.le_refl _) ?_
  refine A_aload_n dX1_readCompared_0 rfl rfl ?_
  refine A_ldcS (tx := "not") (q := 2) dX1_readCompared_1 (by decide +kernel) ?_
  refine B_callV_I (av := [vR 200 2]) rfl dX1_readCompared_3 vX1_35 mX8_which ⟨rfl, rfl, by decide⟩ (okK8 (by omega)) rfl (Nat.le_of_ble_eq_true rfl) h.1 (by decide) rfl (BC_monoI h.2 (fun x1 N1 h => ?_))
  refine B_if_ne (tgt := 48) dX1_readCompared_6 (by decide) rfl ⟨fun q => ?_, fun q => ?_⟩
  · replace h := h.1 q
    refine A_aload_n dX1_readCompared_48 rfl rfl ?_
    refine A_aload_n dX1_readCompared_49 rfl rfl ?_
    refine A_iconst (v := 3) dX1_readCompared_50 rfl ?_
    obtain ⟨L51, qL51, h⟩ := h
    refine B_callV_I (av := [vR 8 0, vI 3]) rfl dX1_readCompared_51 vX1_45 mX1_readChain ⟨rfl, rfl, by decide⟩ (okK1 (by omega)) rfl (Nat.le_of_ble_eq_true rfl) qL51 (by decide) rfl (BC_monoI h (fun x2 N2 h => ?_))
    refine B_if_ne (tgt := 59) dX1_readCompared_54 (by decide) rfl ⟨fun q => ?_, fun q => ?_⟩
    · replace h := h.1 q
      refine A_aload_n dX1_readCompared_59 rfl rfl ?_
      refine A_iconst (v := 2) dX1_readCompared_60 rfl ?_
      refine B_callS_I (av := [vR 8 0, vI 2]) rfl dX1_readCompared_61 vX1_64 mX1_signOf rfl (Nat.le_of_ble_eq_true rfl) h.1 (by decide) rfl (BC_monoI h.2 (fun x3 N3 h => ?_))
      refine A_istore_n (ls' := [(2, _), (0, _), (1, _)]) dX1_readCompared_64 rfl (by decide) rfl ?_
      refine A_iload_n dX1_readCompared_65 rfl rfl ?_
      refine A_iconst (v := (-1)) dX1_readCompared_66 rfl ?_
      refine B_icmp_ne (tgt := 72) dX1_readCompared_67 (by decide) rfl (wlitI (by decide) (by decide)) ⟨fun q => ?_, fun q => ?_⟩
      · replace h := h.1 q
        refine A_aload_n dX1_readCompared_72 rfl rfl ?_
        refine B_callV_V (av := []) rfl dX1_readCompared_73 vX1_42 mX8_next ⟨rfl, rfl, by decide⟩ (okK8 (by omega)) rfl (Nat.le_of_ble_eq_true rfl) h.1 (by decide) rfl (BC_monoV h.2 (fun N4 h => ?_))
        refine A_aload_n dX1_readCompared_76 rfl rfl ?_
        refine A_aload_n dX1_readCompared_77 rfl rfl ?_
        refine A_iconst (v := 3) dX1_readCompared_78 rfl ?_
        obtain ⟨L79, qL79, h⟩ := h
        refine B_callV_I (av := [vR 8 0, vI 3]) rfl dX1_readCompared_79 vX1_45 mX1_readChain ⟨rfl, rfl, by decide⟩ (okK1 (by omega)) rfl (Nat.le_of_ble_eq_true rfl) qL79 (by decide) rfl (BC_monoI h (fun x5 N5 h => ?_))
        refine B_if_eq (tgt := 97) dX1_readCompared_82 (by decide) rfl ⟨fun q => ?_, fun q => ?_⟩
        · replace h := h.1 q
          refine A_iconst (v := 0) dX1_readCompared_97 rfl ?_
          exact A_zret dX1_readCompared_98 (by decide) ⟨rfl, _, rfl, h⟩
        · replace h := h.2 q
          refine A_aload_n dX1_readCompared_85 rfl rfl ?_
          refine A_iload_n dX1_readCompared_86 rfl rfl ?_
          refine B_callV_I (av := [vI x3]) rfl dX1_readCompared_87 vX1_68 mX1_write ⟨rfl, rfl, by decide⟩ (okK1 (by omega)) rfl (Nat.le_of_ble_eq_true rfl) h.1 (by decide) rfl (BC_monoI h.2 (fun x6 N6 h => ?_))
          refine B_if_eq (tgt := 97) dX1_readCompared_90 (by decide) rfl ⟨fun q => ?_, fun q => ?_⟩
          · replace h := h.1 q
            refine A_iconst (v := 0) dX1_readCompared_97 rfl ?_
            exact A_zret dX1_readCompared_98 (by decide) ⟨rfl, _, rfl, h⟩
          · replace h := h.2 q
            refine A_iconst (v := 1) dX1_readCompared_93 rfl ?_
            refine A_goto (tgt := 98) dX1_readCompared_94 (by decide) ?_
            exact A_zret dX1_readCompared_98 (by decide) ⟨rfl, _, rfl, h⟩
      · replace h := h.2 q
        refine A_iconst (v := 1) dX1_readCompared_70 rfl ?_
        exact A_zret dX1_readCompared_71 (by decide) ⟨rfl, _, rfl, h⟩
    · replace h := h.2 q
      refine A_iconst (v := 0) dX1_readCompared_57 rfl ?_
      exact A_zret dX1_readCompared_58 (by decide) ⟨rfl, _, rfl, h⟩
  · replace h := h.2 q
    refine A_aload_n dX1_readCompared_9 rfl rfl ?_
    refine A_aload_n dX1_readCompared_10 rfl rfl ?_
    refine B_callV_I (av := [vR 8 0]) rfl dX1_readCompared_11 vX1_81 mX1_opens ⟨rfl, rfl, by decide⟩ (okK1 (by omega)) rfl (Nat.le_of_ble_eq_true rfl) h.1 (by decide) rfl (BC_monoI h.2 (fun x7 N7 h => ?_))
    refine B_if_eq (tgt := 46) dX1_readCompared_14 (by decide) rfl ⟨fun q => ?_, fun q => ?_⟩
    · replace h := h.1 q
      refine A_iconst (v := 0) dX1_readCompared_46 rfl ?_
      exact A_zret dX1_readCompared_47 (by decide) ⟨rfl, _, rfl, h⟩
    · replace h := h.2 q
      refine A_aload_n dX1_readCompared_17 rfl rfl ?_
      refine A_aload_n dX1_readCompared_18 rfl rfl ?_
      obtain ⟨L19, qL19, h⟩ := h
      refine B_callV_I (av := [vR 8 0]) rfl dX1_readCompared_19 vX1_57 mX1_readCompared ⟨rfl, rfl, by decide⟩ (okK1 (by omega)) rfl (Nat.le_of_ble_eq_true rfl) qL19 (by decide) rfl (BC_monoI h (fun x8 N8 h => ?_))
      refine B_if_eq (tgt := 46) dX1_readCompared_22 (by decide) rfl ⟨fun q => ?_, fun q => ?_⟩
      · replace h := h.1 q
        refine A_iconst (v := 0) dX1_readCompared_46 rfl ?_
        exact A_zret dX1_readCompared_47 (by decide) ⟨rfl, _, rfl, h⟩
      · replace h := h.2 q
        refine A_aload_n dX1_readCompared_25 rfl rfl ?_
        refine B_callV_I (av := []) rfl dX1_readCompared_26 vX1_84 mX1_closes ⟨rfl, rfl, by decide⟩ (okK1 (by omega)) rfl (Nat.le_of_ble_eq_true rfl) h.1 (by decide) rfl (BC_monoI h.2 (fun x9 N9 h => ?_))
        refine B_if_eq (tgt := 46) dX1_readCompared_29 (by decide) rfl ⟨fun q => ?_, fun q => ?_⟩
        · replace h := h.1 q
          refine A_iconst (v := 0) dX1_readCompared_46 rfl ?_
          exact A_zret dX1_readCompared_47 (by decide) ⟨rfl, _, rfl, h⟩
        · replace h := h.2 q
          refine A_aload_n dX1_readCompared_32 rfl rfl ?_
          refine A_sipush (v := 20002) dX1_readCompared_33 (by decide +kernel) ?_
          refine B_callV_I (av := [vI 20002]) rfl dX1_readCompared_36 vX1_68 mX1_write ⟨rfl, rfl, by decide⟩ (okK1 (by omega)) rfl (Nat.le_of_ble_eq_true rfl) h.1 (by decide) rfl (BC_monoI h.2 (fun x10 N10 h => ?_))
          refine B_if_eq (tgt := 46) dX1_readCompared_39 (by decide) rfl ⟨fun q => ?_, fun q => ?_⟩
          · replace h := h.1 q
            refine A_iconst (v := 0) dX1_readCompared_46 rfl ?_
            exact A_zret dX1_readCompared_47 (by decide) ⟨rfl, _, rfl, h⟩
          · replace h := h.2 q
            refine A_iconst (v := 1) dX1_readCompared_42 rfl ?_
            refine A_goto (tgt := 47) dX1_readCompared_43 (by decide) ?_
            exact A_zret dX1_readCompared_47 (by decide) ⟨rfl, _, rfl, h⟩
set_option maxRecDepth 100000 in
set_option maxHeartbeats 4000000 in
theorem vc_X1_readOne {G : GT} {Lv : Nat} {i0 : Nat} {N : NN} {K : Int → NN → Prop} (h_i0 : i0 < 6) (h : (2 < Lv ∧ (C_X8_isSign G 45 N (fun x1 N1 => (((wI x1) = 0 → (2 < Lv ∧ (C_X8_isSign G 40 N1 (fun x2 N2 => (((wI x2) = 0 → (3 < Lv ∧ (C_X8_which G 5 N2 (fun x3 N3 => (((wI x3) ≠ (-1) → (((wI x3) ≠ (-1) → (1 < Lv ∧ (C_X1_write G i0 (10000 + x3) N3 (fun x4 N4 => (3 < Lv ∧ (C_X8_next G  N4 (fun N5 => ((x4 = 0 ∨ x4 = 1) ∧ K x4 N5)))))))) ∧ (¬ ((wI x3) ≠ (-1)) → (1 < Lv ∧ (C_X1_write G i0 (N3 8 0 3) N3 (fun x6 N6 => (3 < Lv ∧ (C_X8_next G  N6 (fun N7 => ((x6 = 0 ∨ x6 = 1) ∧ K x6 N7)))))))))) ∧ (¬ ((wI x3) ≠ (-1)) → (1 < Lv ∧ (C_X8_isNumber G  N3 (fun x8 N8 => (((wI x8) ≠ 0 → (((wI x3) ≠ (-1) → (1 < Lv ∧ (C_X1_write G i0 (10000 + x3) N8 (fun x9 N9 => (3 < Lv ∧ (C_X8_next G  N9 (fun N10 => ((x9 = 0 ∨ x9 = 1) ∧ K x9 N10)))))))) ∧ (¬ ((wI x3) ≠ (-1)) → (1 < Lv ∧ (C_X1_write G i0 (N8 8 0 3) N8 (fun x11 N11 => (3 < Lv ∧ (C_X8_next G  N11 (fun N12 => ((x11 = 0 ∨ x11 = 1) ∧ K x11 N12)))))))))) ∧ (¬ ((wI x8) ≠ 0) → K 0 N8))))))))))) ∧ (¬ ((wI x2) = 0) → (4 < Lv ∧ (C_X1_opens G i0 N2 (fun x13 N13 => (((wI x13) = 0 → K 0 N13) ∧ (¬ ((wI x13) = 0) → (∃ L68 : Nat, L68 < Lv ∧ (C_X1_readChain G L68 i0 0 N13 (fun x14 N14 => (((wI x14) = 0 → K 0 N14) ∧ (¬ ((wI x14) = 0) → (4 < Lv ∧ (C_X8_takesSign G 41 N14 (fun x15 N15 => (((wI x15) = 0 → K 0 N15) ∧ (¬ ((wI x15) = 0) → (1 < Lv ∧ (C_X1_closes G i0 N15 (fun x16 N16 => (((wI x16) = 0 → K 0 N16) ∧ (¬ ((wI x16) = 0) → K 1 N16)))))))))))))))))))))))))) ∧ (¬ ((wI x1) = 0) → (4 < Lv ∧ (C_X1_opens G i0 N1 (fun x17 N17 => (((wI x17) = 0 → K 0 N17) ∧ (¬ ((wI x17) = 0) → (∃ L19 : Nat, L19 < Lv ∧ (C_X1_readOne G L19 i0 N17 (fun x18 N18 => (((wI x18) = 0 → K 0 N18) ∧ (¬ ((wI x18) = 0) → (1 < Lv ∧ (C_X1_closes G i0 N18 (fun x19 N19 => (((wI x19) = 0 → K 0 N19) ∧ (¬ ((wI x19) = 0) → (1 < Lv ∧ (C_X1_write G i0 20008 N19 (fun x20 N20 => (((wI x20) = 0 → K 0 N20) ∧ (¬ ((wI x20) = 0) → K 1 N20)))))))))))))))))))))))))) : C_X1_readOne G Lv i0 N K := by
  refine Ctr.ofAW RX1 false rfl (by decide +kernel) (fun q => by cases q) (Nat.le_of_ble_eq_true rfl) (Nat.le_refl _) ?_
  refine A_aload_n dX1_readOne_0 rfl rfl ?_
  refine A_bipush (v := 45) dX1_readOne_1 (by decide +kernel) ?_
  refine B_callV_I (av := [vI 45]) rfl dX1_readOne_3 vX1_76 mX8_isSign ⟨rfl, rfl, by decide⟩ (okK8 (by omega)) rfl (Nat.le_of_ble_eq_true rfl) h.1 (by decide) rfl (BC_monoI h.2 (fun x1 N1 h => ?_))
  refine B_if_eq (tgt := 48) dX1_readOne_6 (by decide) rfl ⟨fun q => ?_, fun q => ?_⟩
  · replace h := h.1 q
    refine A_aload_n dX1_readOne_48 rfl rfl ?_
    refine A_bipush (v := 40) dX1_readOne_49 (by decide +kernel) ?_
    refine B_callV_I (av := [vI 40]) rfl dX1_readOne_51 vX1_76 mX8_isSign ⟨rfl, rfl, by decide⟩ (okK8 (by omega)) rfl (Nat.le_of_ble_eq_true rfl) h.1 (by decide) rfl (BC_monoI h.2 (fun x2 N2 h => ?_))
    refine B_if_eq (tgt := 96) dX1_readOne_54 (by decide) rfl ⟨fun q => ?_, fun q => ?_⟩
    · replace h := h.1 q
      refine A_aload_n dX1_readOne_96 rfl rfl ?_
      refine A_ldcS (tx := "month rate left owed balance kind") (q := 5) dX1_readOne_97 (by decide +kernel) ?_
      refine B_callV_I (av := [vR 200 5]) rfl dX1_readOne_99 vX1_35 mX8_which ⟨rfl, rfl, by decide⟩ (okK8 (by omega)) rfl (Nat.le_of_ble_eq_true rfl) h.1 (by decide) rfl (BC_monoI h.2 (fun x3 N3 h => ?_))
      refine A_istore_n (ls' := [(2, _), (0, _), (1, _)]) dX1_readOne_102 rfl (by decide) rfl ?_
      refine A_iload_n dX1_readOne_103 rfl rfl ?_
      refine A_iconst (v := (-1)) dX1_readOne_104 rfl ?_
      refine B_icmp_ne (tgt := 117) dX1_readOne_105 (by decide) rfl (wlitI (by decide) (by decide)) ⟨fun q => ?_, fun q => ?_⟩
      · replace h := h.1 q
        refine A_aload_n dX1_readOne_117 rfl rfl ?_
        refine A_iload_n dX1_readOne_118 rfl rfl ?_
        refine A_iconst (v := (-1)) dX1_readOne_119 rfl ?_
        refine B_icmp_ne (tgt := 130) dX1_readOne_120 (by decide) rfl (wlitI (by decide) (by decide)) ⟨fun q => ?_, fun q => ?_⟩
        · replace h := h.1 q
          refine A_sipush (v := 10000) dX1_readOne_130 (by decide +kernel) ?_
          refine A_iload_n dX1_readOne_133 rfl rfl ?_
          refine A_iadd dX1_readOne_134 ?_
          refine B_callV_I (av := [vI (10000 + x3)]) rfl dX1_readOne_135 vX1_68 mX1_write ⟨rfl, rfl, by decide⟩ (okK1 (by omega)) rfl (Nat.le_of_ble_eq_true rfl) h.1 (by decide) rfl (BC_monoI h.2 (fun x4 N4 h => ?_))
          refine A_istore_n (ls' := [(3, _), (2, _), (0, _), (1, _)]) dX1_readOne_138 rfl (by decide) rfl ?_
          refine A_aload_n dX1_readOne_139 rfl rfl ?_
          refine B_callV_V (av := []) rfl dX1_readOne_140 vX1_42 mX8_next ⟨rfl, rfl, by decide⟩ (okK8 (by omega)) rfl (Nat.le_of_ble_eq_true rfl) h.1 (by decide) rfl (BC_monoV h.2 (fun N5 h => ?_))
          refine A_iload_n dX1_readOne_143 rfl rfl ?_
          exact A_zret dX1_readOne_144 h.1 ⟨rfl, _, rfl, h.2⟩
        · replace h := h.2 q
          refine A_aload_n dX1_readOne_123 rfl rfl ?_
          refine A_getI dX1_readOne_124 fX1_92 rfl (okK8 (by omega)) ?_
          refine A_goto (tgt := 135) dX1_readOne_127 (by decide) ?_
          refine B_callV_I (av := [vI (N3 8 0 3)]) rfl dX1_readOne_135 vX1_68 mX1_write ⟨rfl, rfl, by decide⟩ (okK1 (by omega)) rfl (Nat.le_of_ble_eq_true rfl) h.1 (by decide) rfl (BC_monoI h.2 (fun x6 N6 h => ?_))
          refine A_istore_n (ls' := [(3, _), (2, _), (0, _), (1, _)]) dX1_readOne_138 rfl (by decide) rfl ?_
          refine A_aload_n dX1_readOne_139 rfl rfl ?_
          refine B_callV_V (av := []) rfl dX1_readOne_140 vX1_42 mX8_next ⟨rfl, rfl, by decide⟩ (okK8 (by omega)) rfl (Nat.le_of_ble_eq_true rfl) h.1 (by decide) rfl (BC_monoV h.2 (fun N7 h => ?_))
          refine A_iload_n dX1_readOne_143 rfl rfl ?_
          exact A_zret dX1_readOne_144 h.1 ⟨rfl, _, rfl, h.2⟩
      · replace h := h.2 q
        refine A_aload_n dX1_readOne_108 rfl rfl ?_
        refine B_callV_I (av := []) rfl dX1_readOne_109 vX1_89 mX8_isNumber ⟨rfl, rfl, by decide⟩ (okK8 (by omega)) rfl (Nat.le_of_ble_eq_true rfl) h.1 (by decide) rfl (BC_monoI h.2 (fun x8 N8 h => ?_))
        refine B_if_ne (tgt := 117) dX1_readOne_112 (by decide) rfl ⟨fun q => ?_, fun q => ?_⟩
        · replace h := h.1 q
          refine A_aload_n dX1_readOne_117 rfl rfl ?_
          refine A_iload_n dX1_readOne_118 rfl rfl ?_
          refine A_iconst (v := (-1)) dX1_readOne_119 rfl ?_
          refine B_icmp_ne (tgt := 130) dX1_readOne_120 (by decide) rfl (wlitI (by decide) (by decide)) ⟨fun q => ?_, fun q => ?_⟩
          · replace h := h.1 q
            refine A_sipush (v := 10000) dX1_readOne_130 (by decide +kernel) ?_
            refine A_iload_n dX1_readOne_133 rfl rfl ?_
            refine A_iadd dX1_readOne_134 ?_
            refine B_callV_I (av := [vI (10000 + x3)]) rfl dX1_readOne_135 vX1_68 mX1_write ⟨rfl, rfl, by decide⟩ (okK1 (by omega)) rfl (Nat.le_of_ble_eq_true rfl) h.1 (by decide) rfl (BC_monoI h.2 (fun x9 N9 h => ?_))
            refine A_istore_n (ls' := [(3, _), (2, _), (0, _), (1, _)]) dX1_readOne_138 rfl (by decide) rfl ?_
            refine A_aload_n dX1_readOne_139 rfl rfl ?_
            refine B_callV_V (av := []) rfl dX1_readOne_140 vX1_42 mX8_next ⟨rfl, rfl, by decide⟩ (okK8 (by omega)) rfl (Nat.le_of_ble_eq_true rfl) h.1 (by decide) rfl (BC_monoV h.2 (fun N10 h => ?_))
            refine A_iload_n dX1_readOne_143 rfl rfl ?_
            exact A_zret dX1_readOne_144 h.1 ⟨rfl, _, rfl, h.2⟩
          · replace h := h.2 q
            refine A_aload_n dX1_readOne_123 rfl rfl ?_
            refine A_getI dX1_readOne_124 fX1_92 rfl (okK8 (by omega)) ?_
            refine A_goto (tgt := 135) dX1_readOne_127 (by decide) ?_
            refine B_callV_I (av := [vI (N8 8 0 3)]) rfl dX1_readOne_135 vX1_68 mX1_write ⟨rfl, rfl, by decide⟩ (okK1 (by omega)) rfl (Nat.le_of_ble_eq_true rfl) h.1 (by decide) rfl (BC_monoI h.2 (fun x11 N11 h => ?_))
            refine A_istore_n (ls' := [(3, _), (2, _), (0, _), (1, _)]) dX1_readOne_138 rfl (by decide) rfl ?_
            refine A_aload_n dX1_readOne_139 rfl rfl ?_
            refine B_callV_V (av := []) rfl dX1_readOne_140 vX1_42 mX8_next ⟨rfl, rfl, by decide⟩ (okK8 (by omega)) rfl (Nat.le_of_ble_eq_true rfl) h.1 (by decide) rfl (BC_monoV h.2 (fun N12 h => ?_))
            refine A_iload_n dX1_readOne_143 rfl rfl ?_
            exact A_zret dX1_readOne_144 h.1 ⟨rfl, _, rfl, h.2⟩
        · replace h := h.2 q
          refine A_iconst (v := 0) dX1_readOne_115 rfl ?_
          exact A_zret dX1_readOne_116 (by decide) ⟨rfl, _, rfl, h⟩
    · replace h := h.2 q
      refine A_aload_n dX1_readOne_57 rfl rfl ?_
      refine A_aload_n dX1_readOne_58 rfl rfl ?_
      refine B_callV_I (av := [vR 8 0]) rfl dX1_readOne_59 vX1_81 mX1_opens ⟨rfl, rfl, by decide⟩ (okK1 (by omega)) rfl (Nat.le_of_ble_eq_true rfl) h.1 (by decide) rfl (BC_monoI h.2 (fun x13 N13 h => ?_))
      refine B_if_eq (tgt := 94) dX1_readOne_62 (by decide) rfl ⟨fun q => ?_, fun q => ?_⟩
      · replace h := h.1 q
        refine A_iconst (v := 0) dX1_readOne_94 rfl ?_
        exact A_zret dX1_readOne_95 (by decide) ⟨rfl, _, rfl, h⟩
      · replace h := h.2 q
        refine A_aload_n dX1_readOne_65 rfl rfl ?_
        refine A_aload_n dX1_readOne_66 rfl rfl ?_
        refine A_iconst (v := 0) dX1_readOne_67 rfl ?_
        obtain ⟨L68, qL68, h⟩ := h
        refine B_callV_I (av := [vR 8 0, vI 0]) rfl dX1_readOne_68 vX1_45 mX1_readChain ⟨rfl, rfl, by decide⟩ (okK1 (by omega)) rfl (Nat.le_of_ble_eq_true rfl) qL68 (by decide) rfl (BC_monoI h (fun x14 N14 h => ?_))
        refine B_if_eq (tgt := 94) dX1_readOne_71 (by decide) rfl ⟨fun q => ?_, fun q => ?_⟩
        · replace h := h.1 q
          refine A_iconst (v := 0) dX1_readOne_94 rfl ?_
          exact A_zret dX1_readOne_95 (by decide) ⟨rfl, _, rfl, h⟩
        · replace h := h.2 q
          refine A_aload_n dX1_readOne_74 rfl rfl ?_
          refine A_bipush (v := 41) dX1_readOne_75 (by decide +kernel) ?_
          refine B_callV_I (av := [vI 41]) rfl dX1_readOne_77 vX1_49 mX8_takesSign ⟨rfl, rfl, by decide⟩ (okK8 (by omega)) rfl (Nat.le_of_ble_eq_true rfl) h.1 (by decide) rfl (BC_monoI h.2 (fun x15 N15 h => ?_))
          refine B_if_eq (tgt := 94) dX1_readOne_80 (by decide) rfl ⟨fun q => ?_, fun q => ?_⟩
          · replace h := h.1 q
            refine A_iconst (v := 0) dX1_readOne_94 rfl ?_
            exact A_zret dX1_readOne_95 (by decide) ⟨rfl, _, rfl, h⟩
          · replace h := h.2 q
            refine A_aload_n dX1_readOne_83 rfl rfl ?_
            refine B_callV_I (av := []) rfl dX1_readOne_84 vX1_84 mX1_closes ⟨rfl, rfl, by decide⟩ (okK1 (by omega)) rfl (Nat.le_of_ble_eq_true rfl) h.1 (by decide) rfl (BC_monoI h.2 (fun x16 N16 h => ?_))
            refine B_if_eq (tgt := 94) dX1_readOne_87 (by decide) rfl ⟨fun q => ?_, fun q => ?_⟩
            · replace h := h.1 q
              refine A_iconst (v := 0) dX1_readOne_94 rfl ?_
              exact A_zret dX1_readOne_95 (by decide) ⟨rfl, _, rfl, h⟩
            · replace h := h.2 q
              refine A_iconst (v := 1) dX1_readOne_90 rfl ?_
              refine A_goto (tgt := 95) dX1_readOne_91 (by decide) ?_
              exact A_zret dX1_readOne_95 (by decide) ⟨rfl, _, rfl, h⟩
  · replace h := h.2 q
    refine A_aload_n dX1_readOne_9 rfl rfl ?_
    refine A_aload_n dX1_readOne_10 rfl rfl ?_
    refine B_callV_I (av := [vR 8 0]) rfl dX1_readOne_11 vX1_81 mX1_opens ⟨rfl, rfl, by decide⟩ (okK1 (by omega)) rfl (Nat.le_of_ble_eq_true rfl) h.1 (by decide) rfl (BC_monoI h.2 (fun x17 N17 h => ?_))
    refine B_if_eq (tgt := 46) dX1_readOne_14 (by decide) rfl ⟨fun q => ?_, fun q => ?_⟩
    · replace h := h.1 q
      refine A_iconst (v := 0) dX1_readOne_46 rfl ?_
      exact A_zret dX1_readOne_47 (by decide) ⟨rfl, _, rfl, h⟩
    · replace h := h.2 q
      refine A_aload_n dX1_readOne_17 rfl rfl ?_
      refine A_aload_n dX1_readOne_18 rfl rfl ?_
      obtain ⟨L19, qL19, h⟩ := h
      refine B_callV_I (av := [vR 8 0]) rfl dX1_readOne_19 vX1_61 mX1_readOne ⟨rfl, rfl, by decide⟩ (okK1 (by omega)) rfl (Nat.le_of_ble_eq_true rfl) qL19 (by decide) rfl (BC_monoI h (fun x18 N18 h => ?_))
      refine B_if_eq (tgt := 46) dX1_readOne_22 (by decide) rfl ⟨fun q => ?_, fun q => ?_⟩
      · replace h := h.1 q
        refine A_iconst (v := 0) dX1_readOne_46 rfl ?_
        exact A_zret dX1_readOne_47 (by decide) ⟨rfl, _, rfl, h⟩
      · replace h := h.2 q
        refine A_aload_n dX1_readOne_25 rfl rfl ?_
        refine B_callV_I (av := []) rfl dX1_readOne_26 vX1_84 mX1_closes ⟨rfl, rfl, by decide⟩ (okK1 (by omega)) rfl (Nat.le_of_ble_eq_true rfl) h.1 (by decide) rfl (BC_monoI h.2 (fun x19 N19 h => ?_))
        refine B_if_eq (tgt := 46) dX1_readOne_29 (by decide) rfl ⟨fun q => ?_, fun q => ?_⟩
        · replace h := h.1 q
          refine A_iconst (v := 0) dX1_readOne_46 rfl ?_
          exact A_zret dX1_readOne_47 (by decide) ⟨rfl, _, rfl, h⟩
        · replace h := h.2 q
          refine A_aload_n dX1_readOne_32 rfl rfl ?_
          refine A_sipush (v := 20008) dX1_readOne_33 (by decide +kernel) ?_
          refine B_callV_I (av := [vI 20008]) rfl dX1_readOne_36 vX1_68 mX1_write ⟨rfl, rfl, by decide⟩ (okK1 (by omega)) rfl (Nat.le_of_ble_eq_true rfl) h.1 (by decide) rfl (BC_monoI h.2 (fun x20 N20 h => ?_))
          refine B_if_eq (tgt := 46) dX1_readOne_39 (by decide) rfl ⟨fun q => ?_, fun q => ?_⟩
          · replace h := h.1 q
            refine A_iconst (v := 0) dX1_readOne_46 rfl ?_
            exact A_zret dX1_readOne_47 (by decide) ⟨rfl, _, rfl, h⟩
          · replace h := h.2 q
            refine A_iconst (v := 1) dX1_readOne_42 rfl ?_
            refine A_goto (tgt := 47) dX1_readOne_43 (by decide) ?_
            exact A_zret dX1_readOne_47 (by decide) ⟨rfl, _, rfl, h⟩
set_option maxRecDepth 100000 in
set_option maxHeartbeats 4000000 in
theorem vc_X1_opens {G : GT} {i0 : Nat} {N : NN} {K : Int → NN → Prop} (h_i0 : i0 < 6) (h : (((wI (N 1 i0 4)) < 5 → (∀ M1 : NN, M1 = up3 N 1 i0 4 ((N 1 i0 4) + 1) → (C_X8_next G  M1 (fun N2 => K 1 N2)))) ∧ (¬ ((wI (N 1 i0 4)) < 5) → K 0 N))) : C_X1_opens G i0 N K := by
  refine Ctr.ofAW RX1 false rfl (by decide +kernel) (fun q => by cases q) (Nat.le_of_ble_eq_true rfl) (Nat.le_refl _) ?_
  refine A_aload_n dX1_opens_0 rfl rfl ?_
  refine A_getI dX1_opens_1 fX1_25 rfl (okK1 (by omega)) ?_
  refine A_iconst (v := 5) dX1_opens_4 rfl ?_
  refine B_icmp_lt (tgt := 10) dX1_opens_5 (by decide) rfl (wlitI (by decide) (by decide)) ⟨fun q => ?_, fun q => ?_⟩
  · replace h := h.1 q
    refine A_aload_n dX1_opens_10 rfl rfl ?_
    refine A_dup dX1_opens_11 rfl ?_
    refine A_getI dX1_opens_12 fX1_25 rfl (okK1 (by omega)) ?_
    refine A_iconst (v := 1) dX1_opens_15 rfl ?_
    refine A_iadd dX1_opens_16 ?_
    refine B_putI dX1_opens_17 fX1_25 (by decide) (okK1 (by omega)) (fun M1 eM1 => ?_)
    replace h := h M1 eM1
    refine A_aload_n dX1_opens_20 rfl rfl ?_
    refine B_callV_V (av := []) rfl dX1_opens_21 vX1_42 mX8_next ⟨rfl, rfl, by decide⟩ (okK8 (by omega)) rfl (Nat.le_of_ble_eq_true rfl) (by decide) (by decide) rfl (BC_monoV h (fun N2 h => ?_))
    refine A_iconst (v := 1) dX1_opens_24 rfl ?_
    exact A_zret dX1_opens_25 (by decide) ⟨rfl, _, rfl, h⟩
  · replace h := h.2 q
    refine A_iconst (v := 0) dX1_opens_8 rfl ?_
    exact A_zret dX1_opens_9 (by decide) ⟨rfl, _, rfl, h⟩
set_option maxRecDepth 100000 in
set_option maxHeartbeats 4000000 in
theorem vc_X1_closes {G : GT} {i0 : Nat} {N : NN} {K : Int → NN → Prop} (h_i0 : i0 < 6) (h : (∀ M1 : NN, M1 = up3 N 1 i0 4 ((N 1 i0 4) - 1) → K 1 M1)) : C_X1_closes G i0 N K := by
  refine Ctr.ofAW RX1 false rfl (by decide +kernel) (fun q => by cases q) (Nat.le_of_ble_eq_true rfl) (Nat.le_refl _) ?_
  refine A_aload_n dX1_closes_0 rfl rfl ?_
  refine A_dup dX1_closes_1 rfl ?_
  refine A_getI dX1_closes_2 fX1_25 rfl (okK1 (by omega)) ?_
  refine A_iconst (v := 1) dX1_closes_5 rfl ?_
  refine A_isub dX1_closes_6 ?_
  refine B_putI dX1_closes_7 fX1_25 (by decide) (okK1 (by omega)) (fun M1 eM1 => ?_)
  replace h := h M1 eM1
  refine A_iconst (v := 1) dX1_closes_10 rfl ?_
  exact A_zret dX1_closes_11 (by decide) ⟨rfl, _, rfl, h⟩
set_option maxRecDepth 100000 in
set_option maxHeartbeats 4000000 in
theorem vc_X1_write {G : GT} {i0 : Nat} {a1 : Int} {N : NN} {K : Int → NN → Prop} (h_i0 : i0 < 6) (h : (((wI (N 1 i0 3)) < 160 → (∃ j1 : Nat, (wI (N 1 i0 3)) = (j1 : Int) ∧ j1 < 160 ∧ (∀ M2 : NN, M2 = up3 N 29 i0 j1 a1 → (∀ M3 : NN, M3 = up3 M2 1 i0 3 ((M2 1 i0 3) + 1) → K 1 M3)))) ∧ (¬ ((wI (N 1 i0 3)) < 160) → K 0 N))) : C_X1_write G i0 a1 N K := by
  refine Ctr.ofAW RX1 false rfl (by decide +kernel) (fun q => by cases q) (Nat.le_of_ble_eq_true rfl) (Nat.le_refl _) ?_
  refine A_aload_n dX1_write_0 rfl rfl ?_
  refine A_getI dX1_write_1 fX1_21 rfl (okK1 (by omega)) ?_
  refine A_aload_n dX1_write_4 rfl rfl ?_
  refine A_getR (c2 := 29) (i2 := i0) dX1_write_5 fX1_9 rfl (okK1 (by omega)) rfl ?_
  refine A_alen (v := 160) dX1_write_8 (by decide) (okK29 (by omega)) (by decide) ?_
  refine B_icmp_lt (tgt := 14) dX1_write_9 (by decide) rfl (wlitI (by decide) (by decide)) ⟨fun q => ?_, fun q => ?_⟩
  · replace h := h.1 q
    refine A_aload_n dX1_write_14 rfl rfl ?_
    refine A_getR (c2 := 29) (i2 := i0) dX1_write_15 fX1_9 rfl (okK1 (by omega)) rfl ?_
    refine A_aload_n dX1_write_18 rfl rfl ?_
    refine A_getI dX1_write_19 fX1_21 rfl (okK1 (by omega)) ?_
    refine A_iload_n dX1_write_22 rfl rfl ?_
    obtain ⟨j1, qj1, bj1, h⟩ := h
    refine B_iast (j := j1) dX1_write_23 (by decide) rfl (okK29 (by omega)) qj1 bj1 (fun M2 eM2 => ?_)
    replace h := h M2 eM2
    refine A_aload_n dX1_write_24 rfl rfl ?_
    refine A_dup dX1_write_25 rfl ?_
    refine A_getI dX1_write_26 fX1_21 rfl (okK1 (by omega)) ?_
    refine A_iconst (v := 1) dX1_write_29 rfl ?_
    refine A_iadd dX1_write_30 ?_
    refine B_putI dX1_write_31 fX1_21 (by decide) (okK1 (by omega)) (fun M3 eM3 => ?_)
    replace h := h M3 eM3
    refine A_iconst (v := 1) dX1_write_34 rfl ?_
    exact A_zret dX1_write_35 (by decide) ⟨rfl, _, rfl, h⟩
  · replace h := h.2 q
    refine A_iconst (v := 0) dX1_write_12 rfl ?_
    exact A_zret dX1_write_13 (by decide) ⟨rfl, _, rfl, h⟩
set_option maxRecDepth 100000 in
set_option maxHeartbeats 4000000 in
theorem vc_X1_value {G : GT} {i0 : Nat} {a1 : Int} {i2 : Nat} {a3 : Int} {N : NN} {K : Int → NN → Prop} (h_i0 : i0 < 6) (h_i2 : i2 < 24) (h : (∃ j1 : Nat, (wI a1) = (j1 : Int) ∧ j1 < 4 ∧ W_X1_value G K 11 [(0, vR 1 i0), (1, vI a1), (2, vR 2 i2), (3, vI a3), (4, vI 0), (5, vI (N 30 i0 j1))] [] N)) : C_X1_value G i0 a1 i2 a3 N K := by
  refine Ctr.ofAW RX1 false rfl (by decide +kernel) (fun q => by cases q) (Nat.le_of_ble_eq_true rfl) (Nat.le_refl _) ?_
  refine A_iconst (v := 0) dX1_value_0 rfl ?_
  refine A_istore (ls' := [(4, _), (0, _), (1, _), (2, _), (3, _)]) dX1_value_1 (by decide) rfl ?_
  refine A_aload_n dX1_value_3 rfl rfl ?_
  refine A_getR (c2 := 30) (i2 := i0) dX1_value_4 fX1_15 rfl (okK1 (by omega)) rfl ?_
  refine A_iload_n dX1_value_7 rfl rfl ?_
  obtain ⟨j1, qj1, bj1, h⟩ := h
  refine A_iald (j := j1) dX1_value_8 (by decide) rfl (okK30 (by omega)) qj1 bj1 ?_
  refine A_istore (ls' := [(5, _), (4, _), (0, _), (1, _), (2, _), (3, _)]) dX1_value_9 (by decide) rfl ?_
  exact A_pick [2, 3, 4, 5, 1, 0] rfl h
set_option maxRecDepth 100000 in
set_option maxHeartbeats 4000000 in
theorem vc_X1_value_11 {G : GT} {i0 : Nat} {l1 : Int} {i2 : Nat} {l3 : Int} {l4 : Int} {l5 : Int} {N : NN} {K : Int → NN → Prop} (h_i0 : i0 < 6) (h_i2 : i2 < 24) (h : (∃ j1 : Nat, (wI (l1 + 1)) = (j1 : Int) ∧ j1 < 4 ∧ (((wI (N 30 i0 j1)) ≤ (wI l5) → (((wI l4) ≤ 0 → K 0 N) ∧ (¬ ((wI l4) ≤ 0) → K (N 31 i0 0) N))) ∧ (¬ ((wI (N 30 i0 j1)) ≤ (wI l5)) → ((160 ≤ (wI l5) → (((wI l4) ≤ 0 → K 0 N) ∧ (¬ ((wI l4) ≤ 0) → K (N 31 i0 0) N))) ∧ (¬ (160 ≤ (wI l5)) → (∃ j2 : Nat, (wI l5) = (j2 : Int) ∧ j2 < 160 ∧ (((wI (N 29 i0 j2)) = 20002 → W_X1_value G K 59 [(0, vR 1 i0), (1, vI l1), (2, vR 2 i2), (3, vI l3), (4, vI l4), (5, vI l5), (6, vI (N 29 i0 j2))] [] N) ∧ (¬ ((wI (N 29 i0 j2)) = 20002) → (((wI (N 29 i0 j2)) ≠ 20008 → (((wI (N 29 i0 j2)) < 20000 → (((wI l4) < 40 → ((10000 ≤ (wI (N 29 i0 j2)) → (C_X1_named G ((N 29 i0 j2) - 10000) i2 l3 N (fun x3 N3 => (∃ j4 : Nat, (wI l4) = (j4 : Int) ∧ j4 < 40 ∧ (∀ M5 : NN, M5 = up3 N3 31 i0 j4 x3 → W_X1_value G K 11 [(0, vR 1 i0), (1, vI l1), (2, vR 2 i2), (3, vI l3), (4, vI (l4 + 1)), (5, vI (l5 + 1))] [] M5))))) ∧ (¬ (10000 ≤ (wI (N 29 i0 j2))) → (∃ j6 : Nat, (wI l4) = (j6 : Int) ∧ j6 < 40 ∧ (∀ M7 : NN, M7 = up3 N 31 i0 j6 (N 29 i0 j2) → W_X1_value G K 11 [(0, vR 1 i0), (1, vI l1), (2, vR 2 i2), (3, vI l3), (4, vI (l4 + 1)), (5, vI (l5 + 1))] [] M7))))) ∧ (¬ ((wI l4) < 40) → K 0 N))) ∧ (¬ ((wI (N 29 i0 j2)) < 20000) → ((2 ≤ (wI l4) → (∃ j8 : Nat, (wI ((l4 + (-1)) - 1)) = (j8 : Int) ∧ j8 < 40 ∧ (∃ j9 : Nat, (wI (l4 + (-1))) = (j9 : Int) ∧ j9 < 40 ∧ (C_X1_joined G (N 29 i0 j2) (N 31 i0 j8) (N 31 i0 j9) N (fun x10 N10 => (∃ j11 : Nat, (wI ((l4 + (-1)) - 1)) = (j11 : Int) ∧ j11 < 40 ∧ (∀ M12 : NN, M12 = up3 N10 31 i0 j11 x10 → W_X1_value G K 11 [(0, vR 1 i0), (1, vI l1), (2, vR 2 i2), (3, vI l3), (4, vI (l4 + (-1))), (5, vI (l5 + 1))] [] M12))))))) ∧ (¬ (2 ≤ (wI l4)) → K 0 N))))) ∧ (¬ ((wI (N 29 i0 j2)) ≠ 20008) → W_X1_value G K 59 [(0, vR 1 i0), (1, vI l1), (2, vR 2 i2), (3, vI l3), (4, vI l4), (5, vI l5), (6, vI (N 29 i0 j2))] [] N))))))))))) : W_X1_value G K 11 [(0, vR 1 i0), (1, vI l1), (2, vR 2 i2), (3, vI l3), (4, vI l4), (5, vI l5)] [] N := by
  refine A_iload dX1_value_11 rfl ?_
  refine A_aload_n dX1_value_13 rfl rfl ?_
  refine A_getR (c2 := 30) (i2 := i0) dX1_value_14 fX1_15 rfl (okK1 (by omega)) rfl ?_
  refine A_iload_n dX1_value_17 rfl rfl ?_
  refine A_iconst (v := 1) dX1_value_18 rfl ?_
  refine A_iadd dX1_value_19 ?_
  obtain ⟨j1, qj1, bj1, h⟩ := h
  refine A_iald (j := j1) dX1_value_20 (by decide) rfl (okK30 (by omega)) qj1 bj1 ?_
  refine B_icmp_ge (tgt := 224) dX1_value_21 (by decide) rfl rfl ⟨fun q => ?_, fun q => ?_⟩
  · replace h := h.1 q
    refine A_iload dX1_value_224 rfl ?_
    refine B_if_le (tgt := 238) dX1_value_226 (by decide) rfl ⟨fun q => ?_, fun q => ?_⟩
    · replace h := h.1 q
      refine A_iconst (v := 0) dX1_value_238 rfl ?_
      exact A_iret dX1_value_239 ⟨rfl, _, rfl, h⟩
    · replace h := h.2 q
      refine A_aload_n dX1_value_229 rfl rfl ?_
      refine A_getR (c2 := 31) (i2 := i0) dX1_value_230 fX1_18 rfl (okK1 (by omega)) rfl ?_
      refine A_iconst (v := 0) dX1_value_233 rfl ?_
      refine A_iald (j := 0) dX1_value_234 (by decide) rfl (okK31 (by omega)) (show wI 0 = ((0 : Nat) : Int) from wlitI (by decide) (by decide)) (by decide) ?_
      refine A_goto (tgt := 239) dX1_value_235 (by decide) ?_
      exact A_iret dX1_value_239 ⟨rfl, _, rfl, h⟩
  · replace h := h.2 q
    refine A_iload dX1_value_24 rfl ?_
    refine A_aload_n dX1_value_26 rfl rfl ?_
    refine A_getR (c2 := 29) (i2 := i0) dX1_value_27 fX1_9 rfl (okK1 (by omega)) rfl ?_
    refine A_alen (v := 160) dX1_value_30 (by decide) (okK29 (by omega)) (by decide) ?_
    refine B_icmp_ge (tgt := 224) dX1_value_31 (by decide) rfl (wlitI (by decide) (by decide)) ⟨fun q => ?_, fun q => ?_⟩
    · replace h := h.1 q
      refine A_iload dX1_value_224 rfl ?_
      refine B_if_le (tgt := 238) dX1_value_226 (by decide) rfl ⟨fun q => ?_, fun q => ?_⟩
      · replace h := h.1 q
        refine A_iconst (v := 0) dX1_value_238 rfl ?_
        exact A_iret dX1_value_239 ⟨rfl, _, rfl, h⟩
      · replace h := h.2 q
        refine A_aload_n dX1_value_229 rfl rfl ?_
        refine A_getR (c2 := 31) (i2 := i0) dX1_value_230 fX1_18 rfl (okK1 (by omega)) rfl ?_
        refine A_iconst (v := 0) dX1_value_233 rfl ?_
        refine A_iald (j := 0) dX1_value_234 (by decide) rfl (okK31 (by omega)) (show wI 0 = ((0 : Nat) : Int) from wlitI (by decide) (by decide)) (by decide) ?_
        refine A_goto (tgt := 239) dX1_value_235 (by decide) ?_
        exact A_iret dX1_value_239 ⟨rfl, _, rfl, h⟩
    · replace h := h.2 q
      refine A_aload_n dX1_value_34 rfl rfl ?_
      refine A_getR (c2 := 29) (i2 := i0) dX1_value_35 fX1_9 rfl (okK1 (by omega)) rfl ?_
      refine A_iload dX1_value_38 rfl ?_
      obtain ⟨j2, qj2, bj2, h⟩ := h
      refine A_iald (j := j2) dX1_value_40 (by decide) rfl (okK29 (by omega)) qj2 bj2 ?_
      refine A_istore (ls' := [(6, _), (0, _), (1, _), (2, _), (3, _), (4, _), (5, _)]) dX1_value_41 (by decide) rfl ?_
      refine A_iload dX1_value_43 rfl ?_
      refine A_sipush (v := 20002) dX1_value_45 (by decide +kernel) ?_
      refine B_icmp_eq (tgt := 59) dX1_value_48 (by decide) rfl (wlitI (by decide) (by decide)) ⟨fun q => ?_, fun q => ?_⟩
      · replace h := h.1 q
        exact A_pick [1, 2, 3, 4, 5, 6, 0] rfl h
      · replace h := h.2 q
        refine A_iload dX1_value_51 rfl ?_
        refine A_sipush (v := 20008) dX1_value_53 (by decide +kernel) ?_
        refine B_icmp_ne (tgt := 120) dX1_value_56 (by decide) rfl (wlitI (by decide) (by decide)) ⟨fun q => ?_, fun q => ?_⟩
        · replace h := h.1 q
          refine A_iload dX1_value_120 rfl ?_
          refine A_sipush (v := 20000) dX1_value_122 (by decide +kernel) ?_
          refine B_icmp_lt (tgt := 172) dX1_value_125 (by decide) rfl (wlitI (by decide) (by decide)) ⟨fun q => ?_, fun q => ?_⟩
          · replace h := h.1 q
            refine A_iload dX1_value_172 rfl ?_
            refine A_aload_n dX1_value_174 rfl rfl ?_
            refine A_getR (c2 := 31) (i2 := i0) dX1_value_175 fX1_18 rfl (okK1 (by omega)) rfl ?_
            refine A_alen (v := 40) dX1_value_178 (by decide) (okK31 (by omega)) (by decide) ?_
            refine B_icmp_lt (tgt := 184) dX1_value_179 (by decide) rfl (wlitI (by decide) (by decide)) ⟨fun q => ?_, fun q => ?_⟩
            · replace h := h.1 q
              refine A_aload_n dX1_value_184 rfl rfl ?_
              refine A_getR (c2 := 31) (i2 := i0) dX1_value_185 fX1_18 rfl (okK1 (by omega)) rfl ?_
              refine A_iload dX1_value_188 rfl ?_
              refine A_iload dX1_value_190 rfl ?_
              refine A_sipush (v := 10000) dX1_value_192 (by decide +kernel) ?_
              refine B_icmp_ge (tgt := 203) dX1_value_195 (by decide) rfl (wlitI (by decide) (by decide)) ⟨fun q => ?_, fun q => ?_⟩
              · replace h := h.1 q
                refine A_iload dX1_value_203 rfl ?_
                refine A_sipush (v := 10000) dX1_value_205 (by decide +kernel) ?_
                refine A_isub dX1_value_208 ?_
                refine A_aload_n dX1_value_209 rfl rfl ?_
                refine A_iload_n dX1_value_210 rfl rfl ?_
                refine B_callS_I (av := [vI ((N 29 i0 j2) - 10000), vR 2 i2, vI l3]) rfl dX1_value_211 vX1_103 mX1_named rfl (Nat.le_of_ble_eq_true rfl) (by decide) (by decide) rfl (BC_monoI h (fun x3 N3 h => ?_))
                obtain ⟨j4, qj4, bj4, h⟩ := h
                refine B_iast (j := j4) dX1_value_214 (by decide) rfl (okK31 (by omega)) qj4 bj4 (fun M5 eM5 => ?_)
                replace h := h M5 eM5
                refine A_iinc (ls' := [(4, _), (6, _), (0, _), (1, _), (2, _), (3, _), (5, _)]) dX1_value_215 (by decide) rfl rfl rfl ?_
                refine A_iinc (ls' := [(5, _), (4, _), (6, _), (0, _), (1, _), (2, _), (3, _)]) dX1_value_218 (by decide) rfl rfl rfl ?_
                refine A_goto (tgt := 11) dX1_value_221 (by decide) ?_
                exact A_pick [3, 4, 5, 6, 1, 0] rfl h
              · replace h := h.2 q
                refine A_iload dX1_value_198 rfl ?_
                refine A_goto (tgt := 214) dX1_value_200 (by decide) ?_
                obtain ⟨j6, qj6, bj6, h⟩ := h
                refine B_iast (j := j6) dX1_value_214 (by decide) rfl (okK31 (by omega)) qj6 bj6 (fun M7 eM7 => ?_)
                replace h := h M7 eM7
                refine A_iinc (ls' := [(4, _), (6, _), (0, _), (1, _), (2, _), (3, _), (5, _)]) dX1_value_215 (by decide) rfl rfl rfl ?_
                refine A_iinc (ls' := [(5, _), (4, _), (6, _), (0, _), (1, _), (2, _), (3, _)]) dX1_value_218 (by decide) rfl rfl rfl ?_
                refine A_goto (tgt := 11) dX1_value_221 (by decide) ?_
                exact A_pick [3, 4, 5, 6, 1, 0] rfl h
            · replace h := h.2 q
              refine A_iconst (v := 0) dX1_value_182 rfl ?_
              exact A_iret dX1_value_183 ⟨rfl, _, rfl, h⟩
          · replace h := h.2 q
            refine A_iload dX1_value_128 rfl ?_
            refine A_iconst (v := 2) dX1_value_130 rfl ?_
            refine B_icmp_ge (tgt := 136) dX1_value_131 (by decide) rfl (wlitI (by decide) (by decide)) ⟨fun q => ?_, fun q => ?_⟩
            · replace h := h.1 q
              refine A_iinc (ls' := [(4, _), (6, _), (0, _), (1, _), (2, _), (3, _), (5, _)]) dX1_value_136 (by decide) rfl rfl rfl ?_
              refine A_aload_n dX1_value_139 rfl rfl ?_
              refine A_getR (c2 := 31) (i2 := i0) dX1_value_140 fX1_18 rfl (okK1 (by omega)) rfl ?_
              refine A_iload dX1_value_143 rfl ?_
              refine A_iconst (v := 1) dX1_value_145 rfl ?_
              refine A_isub dX1_value_146 ?_
              refine A_iload dX1_value_147 rfl ?_
              refine A_aload_n dX1_value_149 rfl rfl ?_
              refine A_getR (c2 := 31) (i2 := i0) dX1_value_150 fX1_18 rfl (okK1 (by omega)) rfl ?_
              refine A_iload dX1_value_153 rfl ?_
              refine A_iconst (v := 1) dX1_value_155 rfl ?_
              refine A_isub dX1_value_156 ?_
              obtain ⟨j8, qj8, bj8, h⟩ := h
              refine A_iald (j := j8) dX1_value_157 (by decide) rfl (okK31 (by omega)) qj8 bj8 ?_
              refine A_aload_n dX1_value_158 rfl rfl ?_
              refine A_getR (c2 := 31) (i2 := i0) dX1_value_159 fX1_18 rfl (okK1 (by omega)) rfl ?_
              refine A_iload dX1_value_162 rfl ?_
              obtain ⟨j9, qj9, bj9, h⟩ := h
              refine A_iald (j := j9) dX1_value_164 (by decide) rfl (okK31 (by omega)) qj9 bj9 ?_
              refine B_callS_I (av := [vI (N 29 i0 j2), vI (N 31 i0 j8), vI (N 31 i0 j9)]) rfl dX1_value_165 vX1_99 mX1_joined rfl (Nat.le_of_ble_eq_true rfl) (by decide) (by decide) rfl (BC_monoI h (fun x10 N10 h => ?_))
              obtain ⟨j11, qj11, bj11, h⟩ := h
              refine B_iast (j := j11) dX1_value_168 (by decide) rfl (okK31 (by omega)) qj11 bj11 (fun M12 eM12 => ?_)
              replace h := h M12 eM12
              refine A_goto (tgt := 218) dX1_value_169 (by decide) ?_
              refine A_iinc (ls' := [(5, _), (4, _), (6, _), (0, _), (1, _), (2, _), (3, _)]) dX1_value_218 (by decide) rfl rfl rfl ?_
              refine A_goto (tgt := 11) dX1_value_221 (by decide) ?_
              exact A_pick [3, 4, 5, 6, 1, 0] rfl h
            · replace h := h.2 q
              refine A_iconst (v := 0) dX1_value_134 rfl ?_
              exact A_iret dX1_value_135 ⟨rfl, _, rfl, h⟩
        · replace h := h.2 q
          exact A_pick [1, 2, 3, 4, 5, 6, 0] rfl h
set_option maxRecDepth 100000 in
set_option maxHeartbeats 4000000 in
theorem vc_X1_value_59 {G : GT} {i0 : Nat} {l1 : Int} {i2 : Nat} {l3 : Int} {l4 : Int} {l5 : Int} {l6 : Int} {N : NN} {K : Int → NN → Prop} (h_i0 : i0 < 6) (h_i2 : i2 < 24) (h : ((1 ≤ (wI l4) → (((wI l6) ≠ 20008 → (∃ j1 : Nat, (wI (l4 - 1)) = (j1 : Int) ∧ j1 < 40 ∧ (((wI (N 31 i0 j1)) ≠ 0 → (C_X1_truth G 0 N (fun x2 N2 => (∃ j3 : Nat, (wI (l4 - 1)) = (j3 : Int) ∧ j3 < 40 ∧ (∀ M4 : NN, M4 = up3 N2 31 i0 j3 x2 → W_X1_value G K 11 [(0, vR 1 i0), (1, vI l1), (2, vR 2 i2), (3, vI l3), (4, vI l4), (5, vI (l5 + 1))] [] M4))))) ∧ (¬ ((wI (N 31 i0 j1)) ≠ 0) → (C_X1_truth G 1 N (fun x5 N5 => (∃ j6 : Nat, (wI (l4 - 1)) = (j6 : Int) ∧ j6 < 40 ∧ (∀ M7 : NN, M7 = up3 N5 31 i0 j6 x5 → W_X1_value G K 11 [(0, vR 1 i0), (1, vI l1), (2, vR 2 i2), (3, vI l3), (4, vI l4), (5, vI (l5 + 1))] [] M7)))))))) ∧ (¬ ((wI l6) ≠ 20008) → (∃ j8 : Nat, (wI (l4 - 1)) = (j8 : Int) ∧ j8 < 40 ∧ (∃ j9 : Nat, (wI (l4 - 1)) = (j9 : Int) ∧ j9 < 40 ∧ (∀ M10 : NN, M10 = up3 N 31 i0 j9 ((-(N 31 i0 j8))) → W_X1_value G K 11 [(0, vR 1 i0), (1, vI l1), (2, vR 2 i2), (3, vI l3), (4, vI l4), (5, vI (l5 + 1))] [] M10)))))) ∧ (¬ (1 ≤ (wI l4)) → K 0 N))) : W_X1_value G K 59 [(0, vR 1 i0), (1, vI l1), (2, vR 2 i2), (3, vI l3), (4, vI l4), (5, vI l5), (6, vI l6)] [] N := by
  refine A_iload dX1_value_59 rfl ?_
  refine A_iconst (v := 1) dX1_value_61 rfl ?_
  refine B_icmp_ge (tgt := 67) dX1_value_62 (by decide) rfl (wlitI (by decide) (by decide)) ⟨fun q => ?_, fun q => ?_⟩
  · replace h := h.1 q
    refine A_aload_n dX1_value_67 rfl rfl ?_
    refine A_getR (c2 := 31) (i2 := i0) dX1_value_68 fX1_18 rfl (okK1 (by omega)) rfl ?_
    refine A_iload dX1_value_71 rfl ?_
    refine A_iconst (v := 1) dX1_value_73 rfl ?_
    refine A_isub dX1_value_74 ?_
    refine A_iload dX1_value_75 rfl ?_
    refine A_sipush (v := 20008) dX1_value_77 (by decide +kernel) ?_
    refine B_icmp_ne (tgt := 96) dX1_value_80 (by decide) rfl (wlitI (by decide) (by decide)) ⟨fun q => ?_, fun q => ?_⟩
    · replace h := h.1 q
      refine A_aload_n dX1_value_96 rfl rfl ?_
      refine A_getR (c2 := 31) (i2 := i0) dX1_value_97 fX1_18 rfl (okK1 (by omega)) rfl ?_
      refine A_iload dX1_value_100 rfl ?_
      refine A_iconst (v := 1) dX1_value_102 rfl ?_
      refine A_isub dX1_value_103 ?_
      obtain ⟨j1, qj1, bj1, h⟩ := h
      refine A_iald (j := j1) dX1_value_104 (by decide) rfl (okK31 (by omega)) qj1 bj1 ?_
      refine B_if_ne (tgt := 112) dX1_value_105 (by decide) rfl ⟨fun q => ?_, fun q => ?_⟩
      · replace h := h.1 q
        refine A_iconst (v := 0) dX1_value_112 rfl ?_
        refine B_callS_I (av := [vI 0]) rfl dX1_value_113 vX1_95 mX1_truth rfl (Nat.le_of_ble_eq_true rfl) (by decide) (by decide) rfl (BC_monoI h (fun x2 N2 h => ?_))
        obtain ⟨j3, qj3, bj3, h⟩ := h
        refine B_iast (j := j3) dX1_value_116 (by decide) rfl (okK31 (by omega)) qj3 bj3 (fun M4 eM4 => ?_)
        replace h := h M4 eM4
        refine A_goto (tgt := 218) dX1_value_117 (by decide) ?_
        refine A_iinc (ls' := [(5, _), (0, _), (1, _), (2, _), (3, _), (4, _), (6, _)]) dX1_value_218 (by decide) rfl rfl rfl ?_
        refine A_goto (tgt := 11) dX1_value_221 (by decide) ?_
        exact A_pick [1, 2, 3, 4, 5, 0] rfl h
      · replace h := h.2 q
        refine A_iconst (v := 1) dX1_value_108 rfl ?_
        refine A_goto (tgt := 113) dX1_value_109 (by decide) ?_
        refine B_callS_I (av := [vI 1]) rfl dX1_value_113 vX1_95 mX1_truth rfl (Nat.le_of_ble_eq_true rfl) (by decide) (by decide) rfl (BC_monoI h (fun x5 N5 h => ?_))
        obtain ⟨j6, qj6, bj6, h⟩ := h
        refine B_iast (j := j6) dX1_value_116 (by decide) rfl (okK31 (by omega)) qj6 bj6 (fun M7 eM7 => ?_)
        replace h := h M7 eM7
        refine A_goto (tgt := 218) dX1_value_117 (by decide) ?_
        refine A_iinc (ls' := [(5, _), (0, _), (1, _), (2, _), (3, _), (4, _), (6, _)]) dX1_value_218 (by decide) rfl rfl rfl ?_
        refine A_goto (tgt := 11) dX1_value_221 (by decide) ?_
        exact A_pick [1, 2, 3, 4, 5, 0] rfl h
    · replace h := h.2 q
      refine A_aload_n dX1_value_83 rfl rfl ?_
      refine A_getR (c2 := 31) (i2 := i0) dX1_value_84 fX1_18 rfl (okK1 (by omega)) rfl ?_
      refine A_iload dX1_value_87 rfl ?_
      refine A_iconst (v := 1) dX1_value_89 rfl ?_
      refine A_isub dX1_value_90 ?_
      obtain ⟨j8, qj8, bj8, h⟩ := h
      refine A_iald (j := j8) dX1_value_91 (by decide) rfl (okK31 (by omega)) qj8 bj8 ?_
      refine A_ineg dX1_value_92 ?_
      refine A_goto (tgt := 116) dX1_value_93 (by decide) ?_
      obtain ⟨j9, qj9, bj9, h⟩ := h
      refine B_iast (j := j9) dX1_value_116 (by decide) rfl (okK31 (by omega)) qj9 bj9 (fun M10 eM10 => ?_)
      replace h := h M10 eM10
      refine A_goto (tgt := 218) dX1_value_117 (by decide) ?_
      refine A_iinc (ls' := [(5, _), (0, _), (1, _), (2, _), (3, _), (4, _), (6, _)]) dX1_value_218 (by decide) rfl rfl rfl ?_
      refine A_goto (tgt := 11) dX1_value_221 (by decide) ?_
      exact A_pick [1, 2, 3, 4, 5, 0] rfl h
  · replace h := h.2 q
    refine A_iconst (v := 0) dX1_value_65 rfl ?_
    exact A_iret dX1_value_66 ⟨rfl, _, rfl, h⟩
set_option maxRecDepth 100000 in
set_option maxHeartbeats 4000000 in
theorem vc_X1_joined {G : GT} {a0 : Int} {a1 : Int} {a2 : Int} {N : NN} {K : Int → NN → Prop}  (h : (((wI a0) = 20000 → (((wI a1) ≠ 0 → (C_X1_truth G 1 N (fun x1 N1 => K x1 N1))) ∧ (¬ ((wI a1) ≠ 0) → (((wI a2) = 0 → (C_X1_truth G 0 N (fun x2 N2 => K x2 N2))) ∧ (¬ ((wI a2) = 0) → (C_X1_truth G 1 N (fun x3 N3 => K x3 N3))))))) ∧ (((wI a0) = 20001 → (((wI a1) = 0 → (C_X1_truth G 0 N (fun x4 N4 => K x4 N4))) ∧ (¬ ((wI a1) = 0) → (((wI a2) = 0 → (C_X1_truth G 0 N (fun x5 N5 => K x5 N5))) ∧ (¬ ((wI a2) = 0) → (C_X1_truth G 1 N (fun x6 N6 => K x6 N6))))))) ∧ (((wI a0) = 20002 → K (a1 * a2) N) ∧ (((wI a0) = 20003 → (((wI a2) ≤ (wI a1) → (C_X1_truth G 0 N (fun x7 N7 => K x7 N7))) ∧ (¬ ((wI a2) ≤ (wI a1)) → (C_X1_truth G 1 N (fun x8 N8 => K x8 N8))))) ∧ (((wI a0) = 20004 → (((wI a1) ≠ (wI a2) → (C_X1_truth G 0 N (fun x9 N9 => K x9 N9))) ∧ (¬ ((wI a1) ≠ (wI a2)) → (C_X1_truth G 1 N (fun x10 N10 => K x10 N10))))) ∧ (((wI a0) = 20005 → K (a1 + a2) N) ∧ (((wI a0) = 20006 → K (a1 - a2) N) ∧ ((wI a0) < 20000 ∨ 20006 < (wI a0) → K (a1 * a2) N))))))))) : C_X1_joined G a0 a1 a2 N K := by
  refine Ctr.ofAW RX1 false rfl (by decide +kernel) (fun q => by cases q) (Nat.le_of_ble_eq_true rfl) (Nat.le_refl _) ?_
  refine A_iload_n dX1_joined_0 rfl rfl ?_
  by_cases q1_20000 : wI a0 = 20000
  · replace h := h.1 q1_20000
    refine A_tableIn (tgt := 44) dX1_joined_1 q1_20000 (by decide) rfl (by decide) ?_
    refine A_iload_n dX1_joined_44 rfl rfl ?_
    refine B_if_ne (tgt := 52) dX1_joined_45 (by decide) rfl ⟨fun q => ?_, fun q => ?_⟩
    · replace h := h.1 q
      refine A_iconst (v := 1) dX1_joined_52 rfl ?_
      refine A_goto (tgt := 57) dX1_joined_53 (by decide) ?_
      refine B_callS_I (av := [vI 1]) rfl dX1_joined_57 vX1_95 mX1_truth rfl (Nat.le_of_ble_eq_true rfl) (by decide) (by decide) rfl (BC_monoI h (fun x1 N1 h => ?_))
      exact A_iret dX1_joined_60 ⟨rfl, _, rfl, h⟩
    · replace h := h.2 q
      refine A_iload_n dX1_joined_48 rfl rfl ?_
      refine B_if_eq (tgt := 56) dX1_joined_49 (by decide) rfl ⟨fun q => ?_, fun q => ?_⟩
      · replace h := h.1 q
        refine A_iconst (v := 0) dX1_joined_56 rfl ?_
        refine B_callS_I (av := [vI 0]) rfl dX1_joined_57 vX1_95 mX1_truth rfl (Nat.le_of_ble_eq_true rfl) (by decide) (by decide) rfl (BC_monoI h (fun x2 N2 h => ?_))
        exact A_iret dX1_joined_60 ⟨rfl, _, rfl, h⟩
      · replace h := h.2 q
        refine A_iconst (v := 1) dX1_joined_52 rfl ?_
        refine A_goto (tgt := 57) dX1_joined_53 (by decide) ?_
        refine B_callS_I (av := [vI 1]) rfl dX1_joined_57 vX1_95 mX1_truth rfl (Nat.le_of_ble_eq_true rfl) (by decide) (by decide) rfl (BC_monoI h (fun x3 N3 h => ?_))
        exact A_iret dX1_joined_60 ⟨rfl, _, rfl, h⟩
  replace h := h.2
  by_cases q1_20001 : wI a0 = 20001
  · replace h := h.1 q1_20001
    refine A_tableIn (tgt := 61) dX1_joined_1 q1_20001 (by decide) rfl (by decide) ?_
    refine A_iload_n dX1_joined_61 rfl rfl ?_
    refine B_if_eq (tgt := 73) dX1_joined_62 (by decide) rfl ⟨fun q => ?_, fun q => ?_⟩
    · replace h := h.1 q
      refine A_iconst (v := 0) dX1_joined_73 rfl ?_
      refine B_callS_I (av := [vI 0]) rfl dX1_joined_74 vX1_95 mX1_truth rfl (Nat.le_of_ble_eq_true rfl) (by decide) (by decide) rfl (BC_monoI h (fun x4 N4 h => ?_))
      exact A_iret dX1_joined_77 ⟨rfl, _, rfl, h⟩
    · replace h := h.2 q
      refine A_iload_n dX1_joined_65 rfl rfl ?_
      refine B_if_eq (tgt := 73) dX1_joined_66 (by decide) rfl ⟨fun q => ?_, fun q => ?_⟩
      · replace h := h.1 q
        refine A_iconst (v := 0) dX1_joined_73 rfl ?_
        refine B_callS_I (av := [vI 0]) rfl dX1_joined_74 vX1_95 mX1_truth rfl (Nat.le_of_ble_eq_true rfl) (by decide) (by decide) rfl (BC_monoI h (fun x5 N5 h => ?_))
        exact A_iret dX1_joined_77 ⟨rfl, _, rfl, h⟩
      · replace h := h.2 q
        refine A_iconst (v := 1) dX1_joined_69 rfl ?_
        refine A_goto (tgt := 74) dX1_joined_70 (by decide) ?_
        refine B_callS_I (av := [vI 1]) rfl dX1_joined_74 vX1_95 mX1_truth rfl (Nat.le_of_ble_eq_true rfl) (by decide) (by decide) rfl (BC_monoI h (fun x6 N6 h => ?_))
        exact A_iret dX1_joined_77 ⟨rfl, _, rfl, h⟩
  replace h := h.2
  by_cases q1_20002 : wI a0 = 20002
  · replace h := h.1 q1_20002
    refine A_tableIn (tgt := 114) dX1_joined_1 q1_20002 (by decide) rfl (by decide) ?_
    refine A_iload_n dX1_joined_114 rfl rfl ?_
    refine A_iload_n dX1_joined_115 rfl rfl ?_
    refine A_imul dX1_joined_116 ?_
    exact A_iret dX1_joined_117 ⟨rfl, _, rfl, h⟩
  replace h := h.2
  by_cases q1_20003 : wI a0 = 20003
  · replace h := h.1 q1_20003
    refine A_tableIn (tgt := 78) dX1_joined_1 q1_20003 (by decide) rfl (by decide) ?_
    refine A_iload_n dX1_joined_78 rfl rfl ?_
    refine A_iload_n dX1_joined_79 rfl rfl ?_
    refine B_icmp_ge (tgt := 87) dX1_joined_80 (by decide) rfl rfl ⟨fun q => ?_, fun q => ?_⟩
    · replace h := h.1 q
      refine A_iconst (v := 0) dX1_joined_87 rfl ?_
      refine B_callS_I (av := [vI 0]) rfl dX1_joined_88 vX1_95 mX1_truth rfl (Nat.le_of_ble_eq_true rfl) (by decide) (by decide) rfl (BC_monoI h (fun x7 N7 h => ?_))
      exact A_iret dX1_joined_91 ⟨rfl, _, rfl, h⟩
    · replace h := h.2 q
      refine A_iconst (v := 1) dX1_joined_83 rfl ?_
      refine A_goto (tgt := 88) dX1_joined_84 (by decide) ?_
      refine B_callS_I (av := [vI 1]) rfl dX1_joined_88 vX1_95 mX1_truth rfl (Nat.le_of_ble_eq_true rfl) (by decide) (by decide) rfl (BC_monoI h (fun x8 N8 h => ?_))
      exact A_iret dX1_joined_91 ⟨rfl, _, rfl, h⟩
  replace h := h.2
  by_cases q1_20004 : wI a0 = 20004
  · replace h := h.1 q1_20004
    refine A_tableIn (tgt := 92) dX1_joined_1 q1_20004 (by decide) rfl (by decide) ?_
    refine A_iload_n dX1_joined_92 rfl rfl ?_
    refine A_iload_n dX1_joined_93 rfl rfl ?_
    refine B_icmp_ne (tgt := 101) dX1_joined_94 (by decide) rfl rfl ⟨fun q => ?_, fun q => ?_⟩
    · replace h := h.1 q
      refine A_iconst (v := 0) dX1_joined_101 rfl ?_
      refine B_callS_I (av := [vI 0]) rfl dX1_joined_102 vX1_95 mX1_truth rfl (Nat.le_of_ble_eq_true rfl) (by decide) (by decide) rfl (BC_monoI h (fun x9 N9 h => ?_))
      exact A_iret dX1_joined_105 ⟨rfl, _, rfl, h⟩
    · replace h := h.2 q
      refine A_iconst (v := 1) dX1_joined_97 rfl ?_
      refine A_goto (tgt := 102) dX1_joined_98 (by decide) ?_
      refine B_callS_I (av := [vI 1]) rfl dX1_joined_102 vX1_95 mX1_truth rfl (Nat.le_of_ble_eq_true rfl) (by decide) (by decide) rfl (BC_monoI h (fun x10 N10 h => ?_))
      exact A_iret dX1_joined_105 ⟨rfl, _, rfl, h⟩
  replace h := h.2
  by_cases q1_20005 : wI a0 = 20005
  · replace h := h.1 q1_20005
    refine A_tableIn (tgt := 106) dX1_joined_1 q1_20005 (by decide) rfl (by decide) ?_
    refine A_iload_n dX1_joined_106 rfl rfl ?_
    refine A_iload_n dX1_joined_107 rfl rfl ?_
    refine A_iadd dX1_joined_108 ?_
    exact A_iret dX1_joined_109 ⟨rfl, _, rfl, h⟩
  replace h := h.2
  by_cases q1_20006 : wI a0 = 20006
  · replace h := h.1 q1_20006
    refine A_tableIn (tgt := 110) dX1_joined_1 q1_20006 (by decide) rfl (by decide) ?_
    refine A_iload_n dX1_joined_110 rfl rfl ?_
    refine A_iload_n dX1_joined_111 rfl rfl ?_
    refine A_isub dX1_joined_112 ?_
    exact A_iret dX1_joined_113 ⟨rfl, _, rfl, h⟩
  replace h := h.2
  replace h := h (by omega)
  refine A_tableOut (tgt := 114) dX1_joined_1 (by omega) (by decide) ?_
  refine A_iload_n dX1_joined_114 rfl rfl ?_
  refine A_iload_n dX1_joined_115 rfl rfl ?_
  refine A_imul dX1_joined_116 ?_
  exact A_iret dX1_joined_117 ⟨rfl, _, rfl, h⟩
set_option maxRecDepth 100000 in
set_option maxHeartbeats 4000000 in
theorem vc_X1_truth {G : GT} {a0 : Int} {N : NN} {K : Int → NN → Prop}  (h : (((wI a0) = 0 → K 0 N) ∧ (¬ ((wI a0) = 0) → K 1 N))) : C_X1_truth G a0 N K := by
  refine Ctr.ofAW RX1 false rfl (by decide +kernel) (fun q => by cases q) (Nat.le_of_ble_eq_true rfl) (Nat.le_refl _) ?_
  refine A_iload_n dX1_truth_0 rfl rfl ?_
  refine B_if_eq (tgt := 8) dX1_truth_1 (by decide) rfl ⟨fun q => ?_, fun q => ?_⟩
  · replace h := h.1 q
    refine A_iconst (v := 0) dX1_truth_8 rfl ?_
    exact A_iret dX1_truth_9 ⟨rfl, _, rfl, h⟩
  · replace h := h.2 q
    refine A_iconst (v := 1) dX1_truth_4 rfl ?_
    refine A_goto (tgt := 9) dX1_truth_5 (by decide) ?_
    exact A_iret dX1_truth_9 ⟨rfl, _, rfl, h⟩
set_option maxRecDepth 100000 in
set_option maxHeartbeats 4000000 in
theorem vc_X1_named {G : GT} {a0 : Int} {i1 : Nat} {a2 : Int} {N : NN} {K : Int → NN → Prop} (h_i1 : i1 < 24) (h : (((wI a0) = 0 → K a2 N) ∧ (((wI a0) = 1 → K (N 2 i1 2) N) ∧ (((wI a0) = 2 → (C_X2_left G i1 a2 N (fun x1 N1 => K x1 N1))) ∧ (((wI a0) = 3 → K (N 2 i1 4) N) ∧ (((wI a0) = 4 → K (N 2 i1 1) N) ∧ ((wI a0) < 0 ∨ 4 < (wI a0) → K (N 2 i1 0) N))))))) : C_X1_named G a0 i1 a2 N K := by
  refine Ctr.ofAW RX1 false rfl (by decide +kernel) (fun q => by cases q) (Nat.le_of_ble_eq_true rfl) (Nat.le_refl _) ?_
  refine A_iload_n dX1_named_0 rfl rfl ?_
  by_cases q1_0 : wI a0 = 0
  · replace h := h.1 q1_0
    refine A_tableIn (tgt := 36) dX1_named_1 q1_0 (by decide) rfl (by decide) ?_
    refine A_iload_n dX1_named_36 rfl rfl ?_
    exact A_iret dX1_named_37 ⟨rfl, _, rfl, h⟩
  replace h := h.2
  by_cases q1_1 : wI a0 = 1
  · replace h := h.1 q1_1
    refine A_tableIn (tgt := 38) dX1_named_1 q1_1 (by decide) rfl (by decide) ?_
    refine A_aload_n dX1_named_38 rfl rfl ?_
    refine A_getI dX1_named_39 fX1_107 rfl (okK2 (by omega)) ?_
    exact A_iret dX1_named_42 ⟨rfl, _, rfl, h⟩
  replace h := h.2
  by_cases q1_2 : wI a0 = 2
  · replace h := h.1 q1_2
    refine A_tableIn (tgt := 43) dX1_named_1 q1_2 (by decide) rfl (by decide) ?_
    refine A_aload_n dX1_named_43 rfl rfl ?_
    refine A_iload_n dX1_named_44 rfl rfl ?_
    refine B_callV_I (av := [vI a2]) rfl dX1_named_45 vX1_112 mX2_left ⟨rfl, rfl, by decide⟩ (okK2 (by omega)) rfl (Nat.le_of_ble_eq_true rfl) (by decide) (by decide) rfl (BC_monoI h (fun x1 N1 h => ?_))
    exact A_iret dX1_named_48 ⟨rfl, _, rfl, h⟩
  replace h := h.2
  by_cases q1_3 : wI a0 = 3
  · replace h := h.1 q1_3
    refine A_tableIn (tgt := 49) dX1_named_1 q1_3 (by decide) rfl (by decide) ?_
    refine A_aload_n dX1_named_49 rfl rfl ?_
    refine A_getL dX1_named_50 fX1_116 rfl (okK2 (by omega)) ?_
    refine A_l2i dX1_named_53 ?_
    exact A_iret dX1_named_54 ⟨rfl, _, rfl, h⟩
  replace h := h.2
  by_cases q1_4 : wI a0 = 4
  · replace h := h.1 q1_4
    refine A_tableIn (tgt := 55) dX1_named_1 q1_4 (by decide) rfl (by decide) ?_
    refine A_aload_n dX1_named_55 rfl rfl ?_
    refine A_getL dX1_named_56 fX1_120 rfl (okK2 (by omega)) ?_
    refine A_l2i dX1_named_59 ?_
    exact A_iret dX1_named_60 ⟨rfl, _, rfl, h⟩
  replace h := h.2
  replace h := h (by omega)
  refine A_tableOut (tgt := 61) dX1_named_1 (by omega) (by decide) ?_
  refine A_aload_n dX1_named_61 rfl rfl ?_
  refine A_getI dX1_named_62 fX1_123 rfl (okK2 (by omega)) ?_
  exact A_iret dX1_named_65 ⟨rfl, _, rfl, h⟩
set_option maxRecDepth 100000 in
set_option maxHeartbeats 4000000 in
theorem vc_X4_read {G : GT} {i0 : Nat} {N : NN} {K : Int → NN → Prop} (h_i0 : i0 < 6) (h : (C_X8_begin G  N (fun N1 => W_X4_read G K 6 [(0, vR 4 i0), (1, vR 8 0), (2, vI 0)] [] N1))) : C_X4_read G i0 N K := by
  refine Ctr.ofAW RX4 false rfl (by decide +kernel) (fun q => by cases q) (Nat.le_of_ble_eq_true rfl) (Nat.le_refl _) ?_
  refine A_aload_n dX4_read_0 rfl rfl ?_
  refine B_callV_V (av := []) rfl dX4_read_1 vX4_20 mX8_begin ⟨rfl, rfl, by decide⟩ (okK8 (by omega)) rfl (Nat.le_of_ble_eq_true rfl) (by decide) (by decide) rfl (BC_monoV h (fun N1 h => ?_))
  refine A_iconst (v := 0) dX4_read_4 rfl ?_
  refine A_istore_n (ls' := [(2, _), (0, _), (1, _)]) dX4_read_5 rfl (by decide) rfl ?_
  exact A_pick [1, 2, 0] rfl h
set_option maxRecDepth 100000 in
set_option maxHeartbeats 4000000 in
theorem vc_X4_read_6 {G : GT} {i0 : Nat} {l2 : Int} {N : NN} {K : Int → NN → Prop} (h_i0 : i0 < 6) (h : ((10 ≤ (wI l2) → K (N 8 0 2) N) ∧ (¬ (10 ≤ (wI l2)) → (C_X8_takesWord G 6 N (fun x1 N1 => (((wI x1) = 0 → ((9 ≤ (wI l2) → K (N1 8 0 2) N1) ∧ (¬ (9 ≤ (wI l2)) → (∃ j2 : Nat, (wI l2) = (j2 : Int) ∧ j2 < 10 ∧ (C_X4_readStep G (10 * i0 + j2) N1 (fun x3 N3 => (((wI x3) = 0 → K (N3 8 0 2) N3) ∧ (¬ ((wI x3) = 0) → (C_X8_takesSign G 59 N3 (fun x4 N4 => (((wI x4) ≠ 0 → W_X4_read G K 6 [(0, vR 4 i0), (1, vR 8 0), (2, vI (l2 + 1))] [] N4) ∧ (¬ ((wI x4) ≠ 0) → K (N4 8 0 2) N4)))))))))))) ∧ (¬ ((wI x1) = 0) → (C_X4_writeRest G i0 l2 N1 (fun N5 => (C_X8_isEnd G  N5 (fun x6 N6 => (((wI x6) = 0 → K (N6 8 0 2) N6) ∧ (¬ ((wI x6) = 0) → K ((-1)) N6))))))))))))) : W_X4_read G K 6 [(0, vR 4 i0), (1, vR 8 0), (2, vI l2)] [] N := by
  refine A_iload_n dX4_read_6 rfl rfl ?_
  refine A_bipush (v := 10) dX4_read_7 (by decide +kernel) ?_
  refine B_icmp_ge (tgt := 91) dX4_read_9 (by decide) rfl (wlitI (by decide) (by decide)) ⟨fun q => ?_, fun q => ?_⟩
  · replace h := h.1 q
    refine A_aload_n dX4_read_91 rfl rfl ?_
    refine A_getI dX4_read_92 fX4_35 rfl (okK8 (by omega)) ?_
    exact A_iret dX4_read_95 ⟨rfl, _, rfl, h⟩
  · replace h := h.2 q
    refine A_aload_n dX4_read_12 rfl rfl ?_
    refine A_ldcS (tx := "rest") (q := 6) dX4_read_13 (by decide +kernel) ?_
    refine B_callV_I (av := [vR 200 6]) rfl dX4_read_15 vX4_27 mX8_takesWord ⟨rfl, rfl, by decide⟩ (okK8 (by omega)) rfl (Nat.le_of_ble_eq_true rfl) (by decide) (by decide) rfl (BC_monoI h (fun x1 N1 h => ?_))
    refine B_if_eq (tgt := 42) dX4_read_18 (by decide) rfl ⟨fun q => ?_, fun q => ?_⟩
    · replace h := h.1 q
      refine A_iload_n dX4_read_42 rfl rfl ?_
      refine A_bipush (v := 9) dX4_read_43 (by decide +kernel) ?_
      refine B_icmp_ge (tgt := 52) dX4_read_45 (by decide) rfl (wlitI (by decide) (by decide)) ⟨fun q => ?_, fun q => ?_⟩
      · replace h := h.1 q
        refine A_iconst (v := 0) dX4_read_52 rfl ?_
        refine A_istore_n (ls' := [(3, _), (0, _), (1, _), (2, _)]) dX4_read_53 rfl (by decide) rfl ?_
        refine A_iload_n dX4_read_54 rfl rfl ?_
        refine B_if_eq (tgt := 80) dX4_read_55 (by decide) (wlitI (by decide) (by decide)) ⟨fun q => ?_, fun q => absurd (by decide) q⟩
        refine A_aload_n dX4_read_80 rfl rfl ?_
        refine A_getI dX4_read_81 fX4_35 rfl (okK8 (by omega)) ?_
        exact A_iret dX4_read_84 ⟨rfl, _, rfl, h⟩
      · replace h := h.2 q
        refine A_iconst (v := 1) dX4_read_48 rfl ?_
        refine A_goto (tgt := 53) dX4_read_49 (by decide) ?_
        refine A_istore_n (ls' := [(3, _), (0, _), (1, _), (2, _)]) dX4_read_53 rfl (by decide) rfl ?_
        refine A_iload_n dX4_read_54 rfl rfl ?_
        refine B_if_eq (tgt := 80) dX4_read_55 (by decide) (wlitI (by decide) (by decide)) ⟨fun q => absurd q (by decide), fun q => ?_⟩
        refine A_aload_n dX4_read_58 rfl rfl ?_
        refine A_aload_n dX4_read_59 rfl rfl ?_
        refine A_getR (c2 := 32) (i2 := i0) dX4_read_60 fX4_13 rfl (okK4 (by omega)) rfl ?_
        refine A_iload_n dX4_read_63 rfl rfl ?_
        obtain ⟨j2, qj2, bj2, h⟩ := h
        refine A_aald (j := j2) (c2 := 33) (i2 := 10 * i0 + j2) dX4_read_64 (by decide) (by decide) (okK32 (by omega)) qj2 bj2 rfl ?_
        refine B_callS_I (av := [vR 8 0, vR 33 (10 * i0 + j2)]) rfl dX4_read_65 vX4_39 mX4_readStep rfl (Nat.le_of_ble_eq_true rfl) (by decide) (by decide) rfl (BC_monoI h (fun x3 N3 h => ?_))
        refine B_if_eq (tgt := 80) dX4_read_68 (by decide) rfl ⟨fun q => ?_, fun q => ?_⟩
        · replace h := h.1 q
          refine A_aload_n dX4_read_80 rfl rfl ?_
          refine A_getI dX4_read_81 fX4_35 rfl (okK8 (by omega)) ?_
          exact A_iret dX4_read_84 ⟨rfl, _, rfl, h⟩
        · replace h := h.2 q
          refine A_aload_n dX4_read_71 rfl rfl ?_
          refine A_bipush (v := 59) dX4_read_72 (by decide +kernel) ?_
          refine B_callV_I (av := [vI 59]) rfl dX4_read_74 vX4_43 mX8_takesSign ⟨rfl, rfl, by decide⟩ (okK8 (by omega)) rfl (Nat.le_of_ble_eq_true rfl) (by decide) (by decide) rfl (BC_monoI h (fun x4 N4 h => ?_))
          refine B_if_ne (tgt := 85) dX4_read_77 (by decide) rfl ⟨fun q => ?_, fun q => ?_⟩
          · replace h := h.1 q
            refine A_iinc (ls' := [(2, _), (3, _), (0, _), (1, _)]) dX4_read_85 (by decide) rfl rfl rfl ?_
            refine A_goto (tgt := 6) dX4_read_88 (by decide) ?_
            exact A_pick [2, 3, 0] rfl h
          · replace h := h.2 q
            refine A_aload_n dX4_read_80 rfl rfl ?_
            refine A_getI dX4_read_81 fX4_35 rfl (okK8 (by omega)) ?_
            exact A_iret dX4_read_84 ⟨rfl, _, rfl, h⟩
    · replace h := h.2 q
      refine A_aload_n dX4_read_21 rfl rfl ?_
      refine A_iload_n dX4_read_22 rfl rfl ?_
      refine B_callV_V (av := [vI l2]) rfl dX4_read_23 vX4_16 mX4_writeRest ⟨rfl, rfl, by decide⟩ (okK4 (by omega)) rfl (Nat.le_of_ble_eq_true rfl) (by decide) (by decide) rfl (BC_monoV h (fun N5 h => ?_))
      refine A_aload_n dX4_read_26 rfl rfl ?_
      refine B_callV_I (av := []) rfl dX4_read_27 vX4_31 mX8_isEnd ⟨rfl, rfl, by decide⟩ (okK8 (by omega)) rfl (Nat.le_of_ble_eq_true rfl) (by decide) (by decide) rfl (BC_monoI h (fun x6 N6 h => ?_))
      refine B_if_eq (tgt := 37) dX4_read_30 (by decide) rfl ⟨fun q => ?_, fun q => ?_⟩
      · replace h := h.1 q
        refine A_aload_n dX4_read_37 rfl rfl ?_
        refine A_getI dX4_read_38 fX4_35 rfl (okK8 (by omega)) ?_
        exact A_iret dX4_read_41 ⟨rfl, _, rfl, h⟩
      · replace h := h.2 q
        refine A_iconst (v := (-1)) dX4_read_33 rfl ?_
        refine A_goto (tgt := 41) dX4_read_34 (by decide) ?_
        exact A_iret dX4_read_41 ⟨rfl, _, rfl, h⟩
set_option maxRecDepth 100000 in
set_option maxHeartbeats 4000000 in
theorem vc_X4_writeRest {G : GT} {i0 : Nat} {a1 : Int} {N : NN} {K : NN → Prop} (h_i0 : i0 < 6) (h : (((wI a1) < 0 → K N) ∧ (¬ ((wI a1) < 0) → ((10 ≤ (wI a1) → K N) ∧ (¬ (10 ≤ (wI a1)) → (∃ j1 : Nat, (wI a1) = (j1 : Int) ∧ j1 < 10 ∧ (C_X4_clear G (10 * i0 + j1) N (fun N2 => (∃ j3 : Nat, (wI a1) = (j3 : Int) ∧ j3 < 10 ∧ (∀ M4 : NN, M4 = up3 N2 33 (10 * i0 + j3) 0 5 → (∀ M5 : NN, M5 = up3 M4 4 i0 1 (a1 + 1) → K M5))))))))))) : C_X4_writeRest G i0 a1 N K := by
  refine Ctr.ofAW RX4 false rfl (by decide +kernel) (fun q => by cases q) (Nat.le_of_ble_eq_true rfl) (Nat.le_refl _) ?_
  refine A_iload_n dX4_writeRest_0 rfl rfl ?_
  refine B_if_lt (tgt := 35) dX4_writeRest_1 (by decide) rfl ⟨fun q => ?_, fun q => ?_⟩
  · replace h := h.1 q
    exact A_vret dX4_writeRest_35 ⟨rfl, rfl, h⟩
  · replace h := h.2 q
    refine A_iload_n dX4_writeRest_4 rfl rfl ?_
    refine A_bipush (v := 10) dX4_writeRest_5 (by decide +kernel) ?_
    refine B_icmp_ge (tgt := 35) dX4_writeRest_7 (by decide) rfl (wlitI (by decide) (by decide)) ⟨fun q => ?_, fun q => ?_⟩
    · replace h := h.1 q
      exact A_vret dX4_writeRest_35 ⟨rfl, rfl, h⟩
    · replace h := h.2 q
      refine A_aload_n dX4_writeRest_10 rfl rfl ?_
      refine A_getR (c2 := 32) (i2 := i0) dX4_writeRest_11 fX4_13 rfl (okK4 (by omega)) rfl ?_
      refine A_iload_n dX4_writeRest_14 rfl rfl ?_
      obtain ⟨j1, qj1, bj1, h⟩ := h
      refine A_aald (j := j1) (c2 := 33) (i2 := 10 * i0 + j1) dX4_writeRest_15 (by decide) (by decide) (okK32 (by omega)) qj1 bj1 rfl ?_
      refine B_callS_V (av := [vR 33 (10 * i0 + j1)]) rfl dX4_writeRest_16 vX4_47 mX4_clear rfl (Nat.le_of_ble_eq_true rfl) (by decide) (by decide) rfl (BC_monoV h (fun N2 h => ?_))
      refine A_aload_n dX4_writeRest_19 rfl rfl ?_
      refine A_getR (c2 := 32) (i2 := i0) dX4_writeRest_20 fX4_13 rfl (okK4 (by omega)) rfl ?_
      refine A_iload_n dX4_writeRest_23 rfl rfl ?_
      obtain ⟨j3, qj3, bj3, h⟩ := h
      refine A_aald (j := j3) (c2 := 33) (i2 := 10 * i0 + j3) dX4_writeRest_24 (by decide) (by decide) (okK32 (by omega)) qj3 bj3 rfl ?_
      refine A_iconst (v := 0) dX4_writeRest_25 rfl ?_
      refine A_iconst (v := 5) dX4_writeRest_26 rfl ?_
      refine B_iast (j := 0) dX4_writeRest_27 (by decide) rfl (okK33 (by omega)) (show wI 0 = ((0 : Nat) : Int) from wlitI (by decide) (by decide)) (by decide) (fun M4 eM4 => ?_)
      replace h := h M4 eM4
      refine A_aload_n dX4_writeRest_28 rfl rfl ?_
      refine A_iload_n dX4_writeRest_29 rfl rfl ?_
      refine A_iconst (v := 1) dX4_writeRest_30 rfl ?_
      refine A_iadd dX4_writeRest_31 ?_
      refine B_putI dX4_writeRest_32 fX4_51 (by decide) (okK4 (by omega)) (fun M5 eM5 => ?_)
      replace h := h M5 eM5
      exact A_vret dX4_writeRest_35 ⟨rfl, rfl, h⟩
set_option maxRecDepth 100000 in
set_option maxHeartbeats 4000000 in
theorem vc_X4_clear {G : GT} {i0 : Nat} {N : NN} {K : NN → Prop} (h_i0 : i0 < 60) (h : (∀ M1 : NN, M1 = up3 N 33 i0 1 ((-1)) → (∀ M2 : NN, M2 = up3 M1 33 i0 2 ((-1)) → (∀ M3 : NN, M3 = up3 M2 33 i0 3 0 → (∀ M4 : NN, M4 = up3 M3 33 i0 4 ((-1)) → (∀ M5 : NN, M5 = up3 M4 33 i0 5 ((-1)) → K M5)))))) : C_X4_clear G i0 N K := by
  refine Ctr.ofAW RX4 false rfl (by decide +kernel) (fun q => by cases q) (Nat.le_of_ble_eq_true rfl) (Nat.le_refl _) ?_
  refine A_aload_n dX4_clear_0 rfl rfl ?_
  refine A_iconst (v := 1) dX4_clear_1 rfl ?_
  refine A_iconst (v := (-1)) dX4_clear_2 rfl ?_
  refine B_iast (j := 1) dX4_clear_3 (by decide) rfl (okK33 (by omega)) (show wI 1 = ((1 : Nat) : Int) from wlitI (by decide) (by decide)) (by decide) (fun M1 eM1 => ?_)
  replace h := h M1 eM1
  refine A_aload_n dX4_clear_4 rfl rfl ?_
  refine A_iconst (v := 2) dX4_clear_5 rfl ?_
  refine A_iconst (v := (-1)) dX4_clear_6 rfl ?_
  refine B_iast (j := 2) dX4_clear_7 (by decide) rfl (okK33 (by omega)) (show wI 2 = ((2 : Nat) : Int) from wlitI (by decide) (by decide)) (by decide) (fun M2 eM2 => ?_)
  replace h := h M2 eM2
  refine A_aload_n dX4_clear_8 rfl rfl ?_
  refine A_iconst (v := 3) dX4_clear_9 rfl ?_
  refine A_iconst (v := 0) dX4_clear_10 rfl ?_
  refine B_iast (j := 3) dX4_clear_11 (by decide) rfl (okK33 (by omega)) (show wI 3 = ((3 : Nat) : Int) from wlitI (by decide) (by decide)) (by decide) (fun M3 eM3 => ?_)
  replace h := h M3 eM3
  refine A_aload_n dX4_clear_12 rfl rfl ?_
  refine A_iconst (v := 4) dX4_clear_13 rfl ?_
  refine A_iconst (v := (-1)) dX4_clear_14 rfl ?_
  refine B_iast (j := 4) dX4_clear_15 (by decide) rfl (okK33 (by omega)) (show wI 4 = ((4 : Nat) : Int) from wlitI (by decide) (by decide)) (by decide) (fun M4 eM4 => ?_)
  replace h := h M4 eM4
  refine A_aload_n dX4_clear_16 rfl rfl ?_
  refine A_iconst (v := 5) dX4_clear_17 rfl ?_
  refine A_iconst (v := (-1)) dX4_clear_18 rfl ?_
  refine B_iast (j := 5) dX4_clear_19 (by decide) rfl (okK33 (by omega)) (show wI 5 = ((5 : Nat) : Int) from wlitI (by decide) (by decide)) (by decide) (fun M5 eM5 => ?_)
  replace h := h M5 eM5
  exact A_vret dX4_clear_20 ⟨rfl, rfl, h⟩
set_option maxRecDepth 100000 in
set_option maxHeartbeats 4000000 in
theorem vc_X4_readStep {G : GT} {i1 : Nat} {N : NN} {K : Int → NN → Prop} (h_i1 : i1 < 60) (h : (C_X4_clear G i1 N (fun N1 => (C_X8_which G 7 N1 (fun x2 N2 => (((wI x2) ≠ (-1) → (∀ M3 : NN, M3 = up3 N2 33 i1 0 x2 → (C_X8_next G  M3 (fun N4 => (((wI x2) = 1 → W_X4_readStep G K 41 [(0, vR 8 0), (1, vR 33 i1), (2, vI x2)] [] N4) ∧ (¬ ((wI x2) = 1) → (((wI x2) = 2 → W_X4_readStep G K 41 [(0, vR 8 0), (1, vR 33 i1), (2, vI x2)] [] N4) ∧ (¬ ((wI x2) = 2) → (((wI x2) ≠ 3 → W_X4_readStep G K 46 [(0, vR 8 0), (1, vR 33 i1), (2, vI x2)] [vI 0] N4) ∧ (¬ ((wI x2) ≠ 3) → W_X4_readStep G K 41 [(0, vR 8 0), (1, vR 33 i1), (2, vI x2)] [] N4)))))))))) ∧ (¬ ((wI x2) ≠ (-1)) → K 0 N2))))))) : C_X4_readStep G i1 N K := by
  refine Ctr.ofAW RX4 false rfl (by decide +kernel) (fun q => by cases q) (Nat.le_of_ble_eq_true rfl) (Nat.le_refl _) ?_
  refine A_aload_n dX4_readStep_0 rfl rfl ?_
  refine B_callS_V (av := [vR 33 i1]) rfl dX4_readStep_1 vX4_47 mX4_clear rfl (Nat.le_of_ble_eq_true rfl) (by decide) (by decide) rfl (BC_monoV h (fun N1 h => ?_))
  refine A_aload_n dX4_readStep_4 rfl rfl ?_
  refine A_ldcS (tx := "fee pay own part keep") (q := 7) dX4_readStep_5 (by decide +kernel) ?_
  refine B_callV_I (av := [vR 200 7]) rfl dX4_readStep_7 vX4_56 mX8_which ⟨rfl, rfl, by decide⟩ (okK8 (by omega)) rfl (Nat.le_of_ble_eq_true rfl) (by decide) (by decide) rfl (BC_monoI h (fun x2 N2 h => ?_))
  refine A_istore_n (ls' := [(2, _), (0, _), (1, _)]) dX4_readStep_10 rfl (by decide) rfl ?_
  refine A_iload_n dX4_readStep_11 rfl rfl ?_
  refine A_iconst (v := (-1)) dX4_readStep_12 rfl ?_
  refine B_icmp_ne (tgt := 18) dX4_readStep_13 (by decide) rfl (wlitI (by decide) (by decide)) ⟨fun q => ?_, fun q => ?_⟩
  · replace h := h.1 q
    refine A_aload_n dX4_readStep_18 rfl rfl ?_
    refine A_iconst (v := 0) dX4_readStep_19 rfl ?_
    refine A_iload_n dX4_readStep_20 rfl rfl ?_
    refine B_iast (j := 0) dX4_readStep_21 (by decide) rfl (okK33 (by omega)) (show wI 0 = ((0 : Nat) : Int) from wlitI (by decide) (by decide)) (by decide) (fun M3 eM3 => ?_)
    replace h := h M3 eM3
    refine A_aload_n dX4_readStep_22 rfl rfl ?_
    refine B_callV_V (av := []) rfl dX4_readStep_23 vX4_60 mX8_next ⟨rfl, rfl, by decide⟩ (okK8 (by omega)) rfl (Nat.le_of_ble_eq_true rfl) (by decide) (by decide) rfl (BC_monoV h (fun N4 h => ?_))
    refine A_iload_n dX4_readStep_26 rfl rfl ?_
    refine A_iconst (v := 1) dX4_readStep_27 rfl ?_
    refine B_icmp_eq (tgt := 41) dX4_readStep_28 (by decide) rfl (wlitI (by decide) (by decide)) ⟨fun q => ?_, fun q => ?_⟩
    · replace h := h.1 q
      exact A_pick [1, 2, 0] rfl h
    · replace h := h.2 q
      refine A_iload_n dX4_readStep_31 rfl rfl ?_
      refine A_iconst (v := 2) dX4_readStep_32 rfl ?_
      refine B_icmp_eq (tgt := 41) dX4_readStep_33 (by decide) rfl (wlitI (by decide) (by decide)) ⟨fun q => ?_, fun q => ?_⟩
      · replace h := h.1 q
        exact A_pick [1, 2, 0] rfl h
      · replace h := h.2 q
        refine A_iload_n dX4_readStep_36 rfl rfl ?_
        refine A_iconst (v := 3) dX4_readStep_37 rfl ?_
        refine B_icmp_ne (tgt := 45) dX4_readStep_38 (by decide) rfl (wlitI (by decide) (by decide)) ⟨fun q => ?_, fun q => ?_⟩
        · replace h := h.1 q
          refine A_iconst (v := 0) dX4_readStep_45 rfl ?_
          exact A_pick [1, 2, 0] rfl h
        · replace h := h.2 q
          exact A_pick [1, 2, 0] rfl h
  · replace h := h.2 q
    refine A_iconst (v := 0) dX4_readStep_16 rfl ?_
    exact A_zret dX4_readStep_17 (by decide) ⟨rfl, _, rfl, h⟩
set_option maxRecDepth 100000 in
set_option maxHeartbeats 4000000 in
theorem vc_X4_readStep_41 {G : GT} {i1 : Nat} {l2 : Int} {N : NN} {K : Int → NN → Prop} (h_i1 : i1 < 60) (h : W_X4_readStep G K 46 [(0, vR 8 0), (1, vR 33 i1), (2, vI l2)] [vI 1] N) : W_X4_readStep G K 41 [(0, vR 8 0), (1, vR 33 i1), (2, vI l2)] [] N := by
  refine A_iconst (v := 1) dX4_readStep_41 rfl ?_
  refine A_goto (tgt := 46) dX4_readStep_42 (by decide) ?_
  exact A_pick [0, 1, 2] rfl h
set_option maxRecDepth 100000 in
set_option maxHeartbeats 4000000 in
theorem vc_X4_readStep_46 {G : GT} {i1 : Nat} {l2 : Int} {s0 : Int} {N : NN} {K : Int → NN → Prop} (h_i1 : i1 < 60) (h : (((wI l2) = 0 → W_X4_readStep G K 61 [(0, vR 8 0), (1, vR 33 i1), (3, vI s0)] [] N) ∧ (¬ ((wI l2) = 0) → (((wI l2) = 3 → W_X4_readStep G K 61 [(0, vR 8 0), (1, vR 33 i1), (3, vI s0)] [] N) ∧ (¬ ((wI l2) = 3) → (((wI l2) ≠ 4 → W_X4_readStep G K 66 [(0, vR 8 0), (1, vR 33 i1), (3, vI s0)] [vI 0] N) ∧ (¬ ((wI l2) ≠ 4) → W_X4_readStep G K 61 [(0, vR 8 0), (1, vR 33 i1), (3, vI s0)] [] N))))))) : W_X4_readStep G K 46 [(0, vR 8 0), (1, vR 33 i1), (2, vI l2)] [vI s0] N := by
  refine A_istore_n (ls' := [(3, _), (0, _), (1, _), (2, _)]) dX4_readStep_46 rfl (by decide) rfl ?_
  refine A_iload_n dX4_readStep_47 rfl rfl ?_
  refine B_if_eq (tgt := 61) dX4_readStep_48 (by decide) rfl ⟨fun q => ?_, fun q => ?_⟩
  · replace h := h.1 q
    exact A_pick [1, 2, 0] rfl h
  · replace h := h.2 q
    refine A_iload_n dX4_readStep_51 rfl rfl ?_
    refine A_iconst (v := 3) dX4_readStep_52 rfl ?_
    refine B_icmp_eq (tgt := 61) dX4_readStep_53 (by decide) rfl (wlitI (by decide) (by decide)) ⟨fun q => ?_, fun q => ?_⟩
    · replace h := h.1 q
      exact A_pick [1, 2, 0] rfl h
    · replace h := h.2 q
      refine A_iload_n dX4_readStep_56 rfl rfl ?_
      refine A_iconst (v := 4) dX4_readStep_57 rfl ?_
      refine B_icmp_ne (tgt := 65) dX4_readStep_58 (by decide) rfl (wlitI (by decide) (by decide)) ⟨fun q => ?_, fun q => ?_⟩
      · replace h := h.1 q
        refine A_iconst (v := 0) dX4_readStep_65 rfl ?_
        exact A_pick [1, 2, 0] rfl h
      · replace h := h.2 q
        exact A_pick [1, 2, 0] rfl h
set_option maxRecDepth 100000 in
set_option maxHeartbeats 4000000 in
theorem vc_X4_readStep_61 {G : GT} {i1 : Nat} {l3 : Int} {N : NN} {K : Int → NN → Prop} (h_i1 : i1 < 60) (h : W_X4_readStep G K 66 [(0, vR 8 0), (1, vR 33 i1), (3, vI l3)] [vI 1] N) : W_X4_readStep G K 61 [(0, vR 8 0), (1, vR 33 i1), (3, vI l3)] [] N := by
  refine A_iconst (v := 1) dX4_readStep_61 rfl ?_
  refine A_goto (tgt := 66) dX4_readStep_62 (by decide) ?_
  exact A_pick [0, 1, 2] rfl h
set_option maxRecDepth 100000 in
set_option maxHeartbeats 4000000 in
theorem vc_X4_readStep_66 {G : GT} {i1 : Nat} {l3 : Int} {s0 : Int} {N : NN} {K : Int → NN → Prop} (h_i1 : i1 < 60) (h : (((wI l3) = 0 → W_X4_readStep G K 85 [(0, vR 8 0), (1, vR 33 i1), (4, vI s0)] [] N) ∧ (¬ ((wI l3) = 0) → (C_X4_readWord G 8 i1 1 N (fun x1 N1 => (((wI x1) ≠ 0 → W_X4_readStep G K 85 [(0, vR 8 0), (1, vR 33 i1), (4, vI s0)] [] N1) ∧ (¬ ((wI x1) ≠ 0) → K 0 N1))))))) : W_X4_readStep G K 66 [(0, vR 8 0), (1, vR 33 i1), (3, vI l3)] [vI s0] N := by
  refine A_istore (ls' := [(4, _), (0, _), (1, _), (3, _)]) dX4_readStep_66 (by decide) rfl ?_
  refine A_iload_n dX4_readStep_68 rfl rfl ?_
  refine B_if_eq (tgt := 85) dX4_readStep_69 (by decide) rfl ⟨fun q => ?_, fun q => ?_⟩
  · replace h := h.1 q
    exact A_pick [1, 2, 0] rfl h
  · replace h := h.2 q
    refine A_aload_n dX4_readStep_72 rfl rfl ?_
    refine A_ldcS (tx := "a b c d e") (q := 8) dX4_readStep_73 (by decide +kernel) ?_
    refine A_aload_n dX4_readStep_75 rfl rfl ?_
    refine A_iconst (v := 1) dX4_readStep_76 rfl ?_
    refine B_callS_I (av := [vR 8 0, vR 200 8, vR 33 i1, vI 1]) rfl dX4_readStep_77 vX4_65 mX4_readWord rfl (Nat.le_of_ble_eq_true rfl) (by decide) (by decide) rfl (BC_monoI h (fun x1 N1 h => ?_))
    refine B_if_ne (tgt := 85) dX4_readStep_80 (by decide) rfl ⟨fun q => ?_, fun q => ?_⟩
    · replace h := h.1 q
      exact A_pick [1, 2, 0] rfl h
    · replace h := h.2 q
      refine A_iconst (v := 0) dX4_readStep_83 rfl ?_
      exact A_zret dX4_readStep_84 (by decide) ⟨rfl, _, rfl, h⟩
set_option maxRecDepth 100000 in
set_option maxHeartbeats 4000000 in
theorem vc_X4_readStep_85 {G : GT} {i1 : Nat} {l4 : Int} {N : NN} {K : Int → NN → Prop} (h_i1 : i1 < 60) (h : (((wI l4) = 0 → (C_X8_takesWord G 9 N (fun x1 N1 => (((wI x1) = 0 → K 1 N1) ∧ (¬ ((wI x1) = 0) → (C_X4_readTest G i1 N1 (fun x2 N2 => (((wI x2) = 0 → K 0 N2) ∧ (¬ ((wI x2) = 0) → K 1 N2))))))))) ∧ (¬ ((wI l4) = 0) → (C_X4_readNumber G i1 2 N (fun x3 N3 => (((wI x3) ≠ 0 → (C_X8_takesWord G 9 N3 (fun x4 N4 => (((wI x4) = 0 → K 1 N4) ∧ (¬ ((wI x4) = 0) → (C_X4_readTest G i1 N4 (fun x5 N5 => (((wI x5) = 0 → K 0 N5) ∧ (¬ ((wI x5) = 0) → K 1 N5))))))))) ∧ (¬ ((wI x3) ≠ 0) → K 0 N3))))))) : W_X4_readStep G K 85 [(0, vR 8 0), (1, vR 33 i1), (4, vI l4)] [] N := by
  refine A_iload dX4_readStep_85 rfl ?_
  refine B_if_eq (tgt := 101) dX4_readStep_87 (by decide) rfl ⟨fun q => ?_, fun q => ?_⟩
  · replace h := h.1 q
    refine A_aload_n dX4_readStep_101 rfl rfl ?_
    refine A_ldcS (tx := "if") (q := 9) dX4_readStep_102 (by decide +kernel) ?_
    refine B_callV_I (av := [vR 200 9]) rfl dX4_readStep_104 vX4_27 mX8_takesWord ⟨rfl, rfl, by decide⟩ (okK8 (by omega)) rfl (Nat.le_of_ble_eq_true rfl) (by decide) (by decide) rfl (BC_monoI h (fun x1 N1 h => ?_))
    refine B_if_eq (tgt := 118) dX4_readStep_107 (by decide) rfl ⟨fun q => ?_, fun q => ?_⟩
    · replace h := h.1 q
      refine A_iconst (v := 1) dX4_readStep_118 rfl ?_
      refine A_goto (tgt := 123) dX4_readStep_119 (by decide) ?_
      exact A_zret dX4_readStep_123 (by decide) ⟨rfl, _, rfl, h⟩
    · replace h := h.2 q
      refine A_aload_n dX4_readStep_110 rfl rfl ?_
      refine A_aload_n dX4_readStep_111 rfl rfl ?_
      refine B_callS_I (av := [vR 8 0, vR 33 i1]) rfl dX4_readStep_112 vX4_75 mX4_readTest rfl (Nat.le_of_ble_eq_true rfl) (by decide) (by decide) rfl (BC_monoI h (fun x2 N2 h => ?_))
      refine B_if_eq (tgt := 122) dX4_readStep_115 (by decide) rfl ⟨fun q => ?_, fun q => ?_⟩
      · replace h := h.1 q
        refine A_iconst (v := 0) dX4_readStep_122 rfl ?_
        exact A_zret dX4_readStep_123 (by decide) ⟨rfl, _, rfl, h⟩
      · replace h := h.2 q
        refine A_iconst (v := 1) dX4_readStep_118 rfl ?_
        refine A_goto (tgt := 123) dX4_readStep_119 (by decide) ?_
        exact A_zret dX4_readStep_123 (by decide) ⟨rfl, _, rfl, h⟩
  · replace h := h.2 q
    refine A_aload_n dX4_readStep_90 rfl rfl ?_
    refine A_aload_n dX4_readStep_91 rfl rfl ?_
    refine A_iconst (v := 2) dX4_readStep_92 rfl ?_
    refine B_callS_I (av := [vR 8 0, vR 33 i1, vI 2]) rfl dX4_readStep_93 vX4_69 mX4_readNumber rfl (Nat.le_of_ble_eq_true rfl) (by decide) (by decide) rfl (BC_monoI h (fun x3 N3 h => ?_))
    refine B_if_ne (tgt := 101) dX4_readStep_96 (by decide) rfl ⟨fun q => ?_, fun q => ?_⟩
    · replace h := h.1 q
      refine A_aload_n dX4_readStep_101 rfl rfl ?_
      refine A_ldcS (tx := "if") (q := 9) dX4_readStep_102 (by decide +kernel) ?_
      refine B_callV_I (av := [vR 200 9]) rfl dX4_readStep_104 vX4_27 mX8_takesWord ⟨rfl, rfl, by decide⟩ (okK8 (by omega)) rfl (Nat.le_of_ble_eq_true rfl) (by decide) (by decide) rfl (BC_monoI h (fun x4 N4 h => ?_))
      refine B_if_eq (tgt := 118) dX4_readStep_107 (by decide) rfl ⟨fun q => ?_, fun q => ?_⟩
      · replace h := h.1 q
        refine A_iconst (v := 1) dX4_readStep_118 rfl ?_
        refine A_goto (tgt := 123) dX4_readStep_119 (by decide) ?_
        exact A_zret dX4_readStep_123 (by decide) ⟨rfl, _, rfl, h⟩
      · replace h := h.2 q
        refine A_aload_n dX4_readStep_110 rfl rfl ?_
        refine A_aload_n dX4_readStep_111 rfl rfl ?_
        refine B_callS_I (av := [vR 8 0, vR 33 i1]) rfl dX4_readStep_112 vX4_75 mX4_readTest rfl (Nat.le_of_ble_eq_true rfl) (by decide) (by decide) rfl (BC_monoI h (fun x5 N5 h => ?_))
        refine B_if_eq (tgt := 122) dX4_readStep_115 (by decide) rfl ⟨fun q => ?_, fun q => ?_⟩
        · replace h := h.1 q
          refine A_iconst (v := 0) dX4_readStep_122 rfl ?_
          exact A_zret dX4_readStep_123 (by decide) ⟨rfl, _, rfl, h⟩
        · replace h := h.2 q
          refine A_iconst (v := 1) dX4_readStep_118 rfl ?_
          refine A_goto (tgt := 123) dX4_readStep_119 (by decide) ?_
          exact A_zret dX4_readStep_123 (by decide) ⟨rfl, _, rfl, h⟩
    · replace h := h.2 q
      refine A_iconst (v := 0) dX4_readStep_99 rfl ?_
      exact A_zret dX4_readStep_100 (by decide) ⟨rfl, _, rfl, h⟩
set_option maxRecDepth 100000 in
set_option maxHeartbeats 4000000 in
theorem vc_X4_readTest {G : GT} {i1 : Nat} {N : NN} {K : Int → NN → Prop} (h_i1 : i1 < 60) (h : (C_X8_takesWord G 2 N (fun x1 N1 => (((wI x1) = 0 → (C_X4_readWord G 10 i1 4 N1 (fun x2 N2 => (((wI x2) ≠ 0 → (C_X8_takesSign G 60 N2 (fun x3 N3 => (((wI x3) = 0 → (C_X8_takesSign G 61 N3 (fun x4 N4 => (((wI x4) = 0 → K 0 N4) ∧ (¬ ((wI x4) = 0) → (∀ M5 : NN, M5 = up3 N4 33 i1 3 (2 + 0) → (C_X4_readNumber G i1 5 M5 (fun x6 N6 => ((x6 = 0 ∨ x6 = 1) ∧ K x6 N6))))))))) ∧ (¬ ((wI x3) = 0) → (∀ M7 : NN, M7 = up3 N3 33 i1 3 (1 + 0) → (C_X4_readNumber G i1 5 M7 (fun x8 N8 => ((x8 = 0 ∨ x8 = 1) ∧ K x8 N8))))))))) ∧ (¬ ((wI x2) ≠ 0) → K 0 N2))))) ∧ (¬ ((wI x1) = 0) → (C_X4_readWord G 10 i1 4 N1 (fun x9 N9 => (((wI x9) ≠ 0 → (C_X8_takesSign G 60 N9 (fun x10 N10 => (((wI x10) = 0 → (C_X8_takesSign G 61 N10 (fun x11 N11 => (((wI x11) = 0 → K 0 N11) ∧ (¬ ((wI x11) = 0) → (∀ M12 : NN, M12 = up3 N11 33 i1 3 (2 + 2) → (C_X4_readNumber G i1 5 M12 (fun x13 N13 => ((x13 = 0 ∨ x13 = 1) ∧ K x13 N13))))))))) ∧ (¬ ((wI x10) = 0) → (∀ M14 : NN, M14 = up3 N10 33 i1 3 (1 + 2) → (C_X4_readNumber G i1 5 M14 (fun x15 N15 => ((x15 = 0 ∨ x15 = 1) ∧ K x15 N15))))))))) ∧ (¬ ((wI x9) ≠ 0) → K 0 N9))))))))) : C_X4_readTest G i1 N K := by
  refine Ctr.ofAW RX4 false rfl (by decide +kernel) (fun q => by cases q) (Nat.le_of_ble_eq_true rfl) (Nat.le_refl _) ?_
  refine A_aload_n dX4_readTest_0 rfl rfl ?_
  refine A_ldcS (tx := "not") (q := 2) dX4_readTest_1 (by decide +kernel) ?_
  refine B_callV_I (av := [vR 200 2]) rfl dX4_readTest_3 vX4_27 mX8_takesWord ⟨rfl, rfl, by decide⟩ (okK8 (by omega)) rfl (Nat.le_of_ble_eq_true rfl) (by decide) (by decide) rfl (BC_monoI h (fun x1 N1 h => ?_))
  refine B_if_eq (tgt := 13) dX4_readTest_6 (by decide) rfl ⟨fun q => ?_, fun q => ?_⟩
  · replace h := h.1 q
    refine A_iconst (v := 0) dX4_readTest_13 rfl ?_
    refine A_istore_n (ls' := [(2, _), (0, _), (1, _)]) dX4_readTest_14 rfl (by decide) rfl ?_
    refine A_aload_n dX4_readTest_15 rfl rfl ?_
    refine A_ldcS (tx := "month late lost cover trip") (q := 10) dX4_readTest_16 (by decide +kernel) ?_
    refine A_aload_n dX4_readTest_18 rfl rfl ?_
    refine A_iconst (v := 4) dX4_readTest_19 rfl ?_
    refine B_callS_I (av := [vR 8 0, vR 200 10, vR 33 i1, vI 4]) rfl dX4_readTest_20 vX4_65 mX4_readWord rfl (Nat.le_of_ble_eq_true rfl) (by decide) (by decide) rfl (BC_monoI h (fun x2 N2 h => ?_))
    refine B_if_ne (tgt := 28) dX4_readTest_23 (by decide) rfl ⟨fun q => ?_, fun q => ?_⟩
    · replace h := h.1 q
      refine A_aload_n dX4_readTest_28 rfl rfl ?_
      refine A_bipush (v := 60) dX4_readTest_29 (by decide +kernel) ?_
      refine B_callV_I (av := [vI 60]) rfl dX4_readTest_31 vX4_43 mX8_takesSign ⟨rfl, rfl, by decide⟩ (okK8 (by omega)) rfl (Nat.le_of_ble_eq_true rfl) (by decide) (by decide) rfl (BC_monoI h (fun x3 N3 h => ?_))
      refine B_if_eq (tgt := 41) dX4_readTest_34 (by decide) rfl ⟨fun q => ?_, fun q => ?_⟩
      · replace h := h.1 q
        refine A_aload_n dX4_readTest_41 rfl rfl ?_
        refine A_bipush (v := 61) dX4_readTest_42 (by decide +kernel) ?_
        refine B_callV_I (av := [vI 61]) rfl dX4_readTest_44 vX4_43 mX8_takesSign ⟨rfl, rfl, by decide⟩ (okK8 (by omega)) rfl (Nat.le_of_ble_eq_true rfl) (by decide) (by decide) rfl (BC_monoI h (fun x4 N4 h => ?_))
        refine B_if_eq (tgt := 54) dX4_readTest_47 (by decide) rfl ⟨fun q => ?_, fun q => ?_⟩
        · replace h := h.1 q
          refine A_iconst (v := (-1)) dX4_readTest_54 rfl ?_
          refine A_istore_n (ls' := [(3, _), (2, _), (0, _), (1, _)]) dX4_readTest_55 rfl (by decide) rfl ?_
          refine A_iload_n dX4_readTest_56 rfl rfl ?_
          refine A_iconst (v := (-1)) dX4_readTest_57 rfl ?_
          refine B_icmp_ne (tgt := 63) dX4_readTest_58 (by decide) (wlitI (by decide) (by decide)) (wlitI (by decide) (by decide)) ⟨fun q => absurd q (by decide), fun q => ?_⟩
          refine A_iconst (v := 0) dX4_readTest_61 rfl ?_
          exact A_zret dX4_readTest_62 (by decide) ⟨rfl, _, rfl, h⟩
        · replace h := h.2 q
          refine A_iconst (v := 2) dX4_readTest_50 rfl ?_
          refine A_goto (tgt := 55) dX4_readTest_51 (by decide) ?_
          refine A_istore_n (ls' := [(3, _), (2, _), (0, _), (1, _)]) dX4_readTest_55 rfl (by decide) rfl ?_
          refine A_iload_n dX4_readTest_56 rfl rfl ?_
          refine A_iconst (v := (-1)) dX4_readTest_57 rfl ?_
          refine B_icmp_ne (tgt := 63) dX4_readTest_58 (by decide) (wlitI (by decide) (by decide)) (wlitI (by decide) (by decide)) ⟨fun q => ?_, fun q => absurd (by decide) q⟩
          refine A_aload_n dX4_readTest_63 rfl rfl ?_
          refine A_iconst (v := 3) dX4_readTest_64 rfl ?_
          refine A_iload_n dX4_readTest_65 rfl rfl ?_
          refine A_iload_n dX4_readTest_66 rfl rfl ?_
          refine A_iadd dX4_readTest_67 ?_
          refine B_iast (j := 3) dX4_readTest_68 (by decide) rfl (okK33 (by omega)) (show wI 3 = ((3 : Nat) : Int) from wlitI (by decide) (by decide)) (by decide) (fun M5 eM5 => ?_)
          replace h := h M5 eM5
          refine A_aload_n dX4_readTest_69 rfl rfl ?_
          refine A_aload_n dX4_readTest_70 rfl rfl ?_
          refine A_iconst (v := 5) dX4_readTest_71 rfl ?_
          refine B_callS_I (av := [vR 8 0, vR 33 i1, vI 5]) rfl dX4_readTest_72 vX4_69 mX4_readNumber rfl (Nat.le_of_ble_eq_true rfl) (by decide) (by decide) rfl (BC_monoI h (fun x6 N6 h => ?_))
          exact A_zret dX4_readTest_75 h.1 ⟨rfl, _, rfl, h.2⟩
      · replace h := h.2 q
        refine A_iconst (v := 1) dX4_readTest_37 rfl ?_
        refine A_goto (tgt := 55) dX4_readTest_38 (by decide) ?_
        refine A_istore_n (ls' := [(3, _), (2, _), (0, _), (1, _)]) dX4_readTest_55 rfl (by decide) rfl ?_
        refine A_iload_n dX4_readTest_56 rfl rfl ?_
        refine A_iconst (v := (-1)) dX4_readTest_57 rfl ?_
        refine B_icmp_ne (tgt := 63) dX4_readTest_58 (by decide) (wlitI (by decide) (by decide)) (wlitI (by decide) (by decide)) ⟨fun q => ?_, fun q => absurd (by decide) q⟩
        refine A_aload_n dX4_readTest_63 rfl rfl ?_
        refine A_iconst (v := 3) dX4_readTest_64 rfl ?_
        refine A_iload_n dX4_readTest_65 rfl rfl ?_
        refine A_iload_n dX4_readTest_66 rfl rfl ?_
        refine A_iadd dX4_readTest_67 ?_
        refine B_iast (j := 3) dX4_readTest_68 (by decide) rfl (okK33 (by omega)) (show wI 3 = ((3 : Nat) : Int) from wlitI (by decide) (by decide)) (by decide) (fun M7 eM7 => ?_)
        replace h := h M7 eM7
        refine A_aload_n dX4_readTest_69 rfl rfl ?_
        refine A_aload_n dX4_readTest_70 rfl rfl ?_
        refine A_iconst (v := 5) dX4_readTest_71 rfl ?_
        refine B_callS_I (av := [vR 8 0, vR 33 i1, vI 5]) rfl dX4_readTest_72 vX4_69 mX4_readNumber rfl (Nat.le_of_ble_eq_true rfl) (by decide) (by decide) rfl (BC_monoI h (fun x8 N8 h => ?_))
        exact A_zret dX4_readTest_75 h.1 ⟨rfl, _, rfl, h.2⟩
    · replace h := h.2 q
      refine A_iconst (v := 0) dX4_readTest_26 rfl ?_
      exact A_zret dX4_readTest_27 (by decide) ⟨rfl, _, rfl, h⟩
  · replace h := h.2 q
    refine A_iconst (v := 2) dX4_readTest_9 rfl ?_
    refine A_goto (tgt := 14) dX4_readTest_10 (by decide) ?_
    refine A_istore_n (ls' := [(2, _), (0, _), (1, _)]) dX4_readTest_14 rfl (by decide) rfl ?_
    refine A_aload_n dX4_readTest_15 rfl rfl ?_
    refine A_ldcS (tx := "month late lost cover trip") (q := 10) dX4_readTest_16 (by decide +kernel) ?_
    refine A_aload_n dX4_readTest_18 rfl rfl ?_
    refine A_iconst (v := 4) dX4_readTest_19 rfl ?_
    refine B_callS_I (av := [vR 8 0, vR 200 10, vR 33 i1, vI 4]) rfl dX4_readTest_20 vX4_65 mX4_readWord rfl (Nat.le_of_ble_eq_true rfl) (by decide) (by decide) rfl (BC_monoI h (fun x9 N9 h => ?_))
    refine B_if_ne (tgt := 28) dX4_readTest_23 (by decide) rfl ⟨fun q => ?_, fun q => ?_⟩
    · replace h := h.1 q
      refine A_aload_n dX4_readTest_28 rfl rfl ?_
      refine A_bipush (v := 60) dX4_readTest_29 (by decide +kernel) ?_
      refine B_callV_I (av := [vI 60]) rfl dX4_readTest_31 vX4_43 mX8_takesSign ⟨rfl, rfl, by decide⟩ (okK8 (by omega)) rfl (Nat.le_of_ble_eq_true rfl) (by decide) (by decide) rfl (BC_monoI h (fun x10 N10 h => ?_))
      refine B_if_eq (tgt := 41) dX4_readTest_34 (by decide) rfl ⟨fun q => ?_, fun q => ?_⟩
      · replace h := h.1 q
        refine A_aload_n dX4_readTest_41 rfl rfl ?_
        refine A_bipush (v := 61) dX4_readTest_42 (by decide +kernel) ?_
        refine B_callV_I (av := [vI 61]) rfl dX4_readTest_44 vX4_43 mX8_takesSign ⟨rfl, rfl, by decide⟩ (okK8 (by omega)) rfl (Nat.le_of_ble_eq_true rfl) (by decide) (by decide) rfl (BC_monoI h (fun x11 N11 h => ?_))
        refine B_if_eq (tgt := 54) dX4_readTest_47 (by decide) rfl ⟨fun q => ?_, fun q => ?_⟩
        · replace h := h.1 q
          refine A_iconst (v := (-1)) dX4_readTest_54 rfl ?_
          refine A_istore_n (ls' := [(3, _), (2, _), (0, _), (1, _)]) dX4_readTest_55 rfl (by decide) rfl ?_
          refine A_iload_n dX4_readTest_56 rfl rfl ?_
          refine A_iconst (v := (-1)) dX4_readTest_57 rfl ?_
          refine B_icmp_ne (tgt := 63) dX4_readTest_58 (by decide) (wlitI (by decide) (by decide)) (wlitI (by decide) (by decide)) ⟨fun q => absurd q (by decide), fun q => ?_⟩
          refine A_iconst (v := 0) dX4_readTest_61 rfl ?_
          exact A_zret dX4_readTest_62 (by decide) ⟨rfl, _, rfl, h⟩
        · replace h := h.2 q
          refine A_iconst (v := 2) dX4_readTest_50 rfl ?_
          refine A_goto (tgt := 55) dX4_readTest_51 (by decide) ?_
          refine A_istore_n (ls' := [(3, _), (2, _), (0, _), (1, _)]) dX4_readTest_55 rfl (by decide) rfl ?_
          refine A_iload_n dX4_readTest_56 rfl rfl ?_
          refine A_iconst (v := (-1)) dX4_readTest_57 rfl ?_
          refine B_icmp_ne (tgt := 63) dX4_readTest_58 (by decide) (wlitI (by decide) (by decide)) (wlitI (by decide) (by decide)) ⟨fun q => ?_, fun q => absurd (by decide) q⟩
          refine A_aload_n dX4_readTest_63 rfl rfl ?_
          refine A_iconst (v := 3) dX4_readTest_64 rfl ?_
          refine A_iload_n dX4_readTest_65 rfl rfl ?_
          refine A_iload_n dX4_readTest_66 rfl rfl ?_
          refine A_iadd dX4_readTest_67 ?_
          refine B_iast (j := 3) dX4_readTest_68 (by decide) rfl (okK33 (by omega)) (show wI 3 = ((3 : Nat) : Int) from wlitI (by decide) (by decide)) (by decide) (fun M12 eM12 => ?_)
          replace h := h M12 eM12
          refine A_aload_n dX4_readTest_69 rfl rfl ?_
          refine A_aload_n dX4_readTest_70 rfl rfl ?_
          refine A_iconst (v := 5) dX4_readTest_71 rfl ?_
          refine B_callS_I (av := [vR 8 0, vR 33 i1, vI 5]) rfl dX4_readTest_72 vX4_69 mX4_readNumber rfl (Nat.le_of_ble_eq_true rfl) (by decide) (by decide) rfl (BC_monoI h (fun x13 N13 h => ?_))
          exact A_zret dX4_readTest_75 h.1 ⟨rfl, _, rfl, h.2⟩
      · replace h := h.2 q
        refine A_iconst (v := 1) dX4_readTest_37 rfl ?_
        refine A_goto (tgt := 55) dX4_readTest_38 (by decide) ?_
        refine A_istore_n (ls' := [(3, _), (2, _), (0, _), (1, _)]) dX4_readTest_55 rfl (by decide) rfl ?_
        refine A_iload_n dX4_readTest_56 rfl rfl ?_
        refine A_iconst (v := (-1)) dX4_readTest_57 rfl ?_
        refine B_icmp_ne (tgt := 63) dX4_readTest_58 (by decide) (wlitI (by decide) (by decide)) (wlitI (by decide) (by decide)) ⟨fun q => ?_, fun q => absurd (by decide) q⟩
        refine A_aload_n dX4_readTest_63 rfl rfl ?_
        refine A_iconst (v := 3) dX4_readTest_64 rfl ?_
        refine A_iload_n dX4_readTest_65 rfl rfl ?_
        refine A_iload_n dX4_readTest_66 rfl rfl ?_
        refine A_iadd dX4_readTest_67 ?_
        refine B_iast (j := 3) dX4_readTest_68 (by decide) rfl (okK33 (by omega)) (show wI 3 = ((3 : Nat) : Int) from wlitI (by decide) (by decide)) (by decide) (fun M14 eM14 => ?_)
        replace h := h M14 eM14
        refine A_aload_n dX4_readTest_69 rfl rfl ?_
        refine A_aload_n dX4_readTest_70 rfl rfl ?_
        refine A_iconst (v := 5) dX4_readTest_71 rfl ?_
        refine B_callS_I (av := [vR 8 0, vR 33 i1, vI 5]) rfl dX4_readTest_72 vX4_69 mX4_readNumber rfl (Nat.le_of_ble_eq_true rfl) (by decide) (by decide) rfl (BC_monoI h (fun x15 N15 h => ?_))
        exact A_zret dX4_readTest_75 h.1 ⟨rfl, _, rfl, h.2⟩
    · replace h := h.2 q
      refine A_iconst (v := 0) dX4_readTest_26 rfl ?_
      exact A_zret dX4_readTest_27 (by decide) ⟨rfl, _, rfl, h⟩
set_option maxRecDepth 100000 in
set_option maxHeartbeats 4000000 in
theorem vc_X4_readWord {G : GT} {i1 : Nat} {i2 : Nat} {a3 : Int} {N : NN} {K : Int → NN → Prop} (h_i1 : i1 < 11) (h_i2 : i2 < 60) (h : (C_X8_which G i1 N (fun x1 N1 => (((wI x1) ≠ (-1) → (∃ j2 : Nat, (wI a3) = (j2 : Int) ∧ j2 < 6 ∧ (∀ M3 : NN, M3 = up3 N1 33 i2 j2 x1 → (C_X8_next G  M3 (fun N4 => K 1 N4))))) ∧ (¬ ((wI x1) ≠ (-1)) → K 0 N1))))) : C_X4_readWord G i1 i2 a3 N K := by
  refine Ctr.ofAW RX4 false rfl (by decide +kernel) (fun q => by cases q) (Nat.le_of_ble_eq_true rfl) (Nat.le_refl _) ?_
  refine A_aload_n dX4_readWord_0 rfl rfl ?_
  refine A_aload_n dX4_readWord_1 rfl rfl ?_
  refine B_callV_I (av := [vR 200 i1]) rfl dX4_readWord_2 vX4_56 mX8_which ⟨rfl, rfl, by decide⟩ (okK8 (by omega)) rfl (Nat.le_of_ble_eq_true rfl) (by decide) (by decide) rfl (BC_monoI h (fun x1 N1 h => ?_))
  refine A_istore (ls' := [(4, _), (0, _), (1, _), (2, _), (3, _)]) dX4_readWord_5 (by decide) rfl ?_
  refine A_iload dX4_readWord_7 rfl ?_
  refine A_iconst (v := (-1)) dX4_readWord_9 rfl ?_
  refine B_icmp_ne (tgt := 15) dX4_readWord_10 (by decide) rfl (wlitI (by decide) (by decide)) ⟨fun q => ?_, fun q => ?_⟩
  · replace h := h.1 q
    refine A_aload_n dX4_readWord_15 rfl rfl ?_
    refine A_iload_n dX4_readWord_16 rfl rfl ?_
    refine A_iload dX4_readWord_17 rfl ?_
    obtain ⟨j2, qj2, bj2, h⟩ := h
    refine B_iast (j := j2) dX4_readWord_19 (by decide) rfl (okK33 (by omega)) qj2 bj2 (fun M3 eM3 => ?_)
    replace h := h M3 eM3
    refine A_aload_n dX4_readWord_20 rfl rfl ?_
    refine B_callV_V (av := []) rfl dX4_readWord_21 vX4_60 mX8_next ⟨rfl, rfl, by decide⟩ (okK8 (by omega)) rfl (Nat.le_of_ble_eq_true rfl) (by decide) (by decide) rfl (BC_monoV h (fun N4 h => ?_))
    refine A_iconst (v := 1) dX4_readWord_24 rfl ?_
    exact A_zret dX4_readWord_25 (by decide) ⟨rfl, _, rfl, h⟩
  · replace h := h.2 q
    refine A_iconst (v := 0) dX4_readWord_13 rfl ?_
    exact A_zret dX4_readWord_14 (by decide) ⟨rfl, _, rfl, h⟩
set_option maxRecDepth 100000 in
set_option maxHeartbeats 4000000 in
theorem vc_X4_readNumber {G : GT} {i1 : Nat} {a2 : Int} {N : NN} {K : Int → NN → Prop} (h_i1 : i1 < 60) (h : (C_X8_isNumber G  N (fun x1 N1 => (((wI x1) ≠ 0 → (∃ j2 : Nat, (wI a2) = (j2 : Int) ∧ j2 < 6 ∧ (∀ M3 : NN, M3 = up3 N1 33 i1 j2 (N1 8 0 3) → (C_X8_next G  M3 (fun N4 => K 1 N4))))) ∧ (¬ ((wI x1) ≠ 0) → K 0 N1))))) : C_X4_readNumber G i1 a2 N K := by
  refine Ctr.ofAW RX4 false rfl (by decide +kernel) (fun q => by cases q) (Nat.le_of_ble_eq_true rfl) (Nat.le_refl _) ?_
  refine A_aload_n dX4_readNumber_0 rfl rfl ?_
  refine B_callV_I (av := []) rfl dX4_readNumber_1 vX4_82 mX8_isNumber ⟨rfl, rfl, by decide⟩ (okK8 (by omega)) rfl (Nat.le_of_ble_eq_true rfl) (by decide) (by decide) rfl (BC_monoI h (fun x1 N1 h => ?_))
  refine B_if_ne (tgt := 9) dX4_readNumber_4 (by decide) rfl ⟨fun q => ?_, fun q => ?_⟩
  · replace h := h.1 q
    refine A_aload_n dX4_readNumber_9 rfl rfl ?_
    refine A_iload_n dX4_readNumber_10 rfl rfl ?_
    refine A_aload_n dX4_readNumber_11 rfl rfl ?_
    refine A_getI dX4_readNumber_12 fX4_85 rfl (okK8 (by omega)) ?_
    obtain ⟨j2, qj2, bj2, h⟩ := h
    refine B_iast (j := j2) dX4_readNumber_15 (by decide) rfl (okK33 (by omega)) qj2 bj2 (fun M3 eM3 => ?_)
    replace h := h M3 eM3
    refine A_aload_n dX4_readNumber_16 rfl rfl ?_
    refine B_callV_V (av := []) rfl dX4_readNumber_17 vX4_60 mX8_next ⟨rfl, rfl, by decide⟩ (okK8 (by omega)) rfl (Nat.le_of_ble_eq_true rfl) (by decide) (by decide) rfl (BC_monoV h (fun N4 h => ?_))
    refine A_iconst (v := 1) dX4_readNumber_20 rfl ?_
    exact A_zret dX4_readNumber_21 (by decide) ⟨rfl, _, rfl, h⟩
  · replace h := h.2 q
    refine A_iconst (v := 0) dX4_readNumber_7 rfl ?_
    exact A_zret dX4_readNumber_8 (by decide) ⟨rfl, _, rfl, h⟩
