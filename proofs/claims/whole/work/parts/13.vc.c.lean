set_option maxRecDepth 100000 in
set_option maxHeartbeats 4000000 in
theorem vc_X8_append {G : GT} {a1 : Int} {a2 : Int} {N : NN} {K : NN → Prop}  (h : W_X8_append G K 3 [(0, vR 8 0), (1, vI a1), (2, vL a2), (4, vI 0)] [] N) : C_X8_append G a1 a2 N K := by
  refine Ctr.ofAW RX8 false rfl (by decide +kernel) (fun q => by cases q) (Nat.le_of_ble_eq_true rfl) (Nat.le_refl _) ?_
  refine A_iconst (v := 0) dX8_append_0 rfl ?_
  refine A_istore (ls' := [(4, _), (0, _), (1, _), (2, _)]) dX8_append_1 (by decide) rfl ?_
  exact A_pick [1, 2, 3, 0] rfl h
set_option maxRecDepth 100000 in
set_option maxHeartbeats 4000000 in
theorem vc_X8_append_3 {G : GT} {l1 : Int} {l2 : Int} {l4 : Int} {N : NN} {K : NN → Prop}  (h : (((wI l1) ≤ (wI l4) → K N) ∧ (¬ ((wI l1) ≤ (wI l4)) → ((160 ≤ (wI (N 8 0 1)) → K N) ∧ (¬ (160 ≤ (wI (N 8 0 1))) → (∃ j1 : Nat, (wI (N 8 0 1)) = (j1 : Int) ∧ j1 < 160 ∧ (∀ M2 : NN, M2 = up3 N 24 0 j1 (wB (i2bI (ushrL l2 (8 * l4)))) → (∀ M3 : NN, M3 = up3 M2 8 0 1 ((M2 8 0 1) + 1) → W_X8_append G K 3 [(0, vR 8 0), (1, vI l1), (2, vL l2), (4, vI (l4 + 1))] [] M3)))))))) : W_X8_append G K 3 [(0, vR 8 0), (1, vI l1), (2, vL l2), (4, vI l4)] [] N := by
  refine A_iload dX8_append_3 rfl ?_
  refine A_iload_n dX8_append_5 rfl rfl ?_
  refine B_icmp_ge (tgt := 53) dX8_append_6 (by decide) rfl rfl ⟨fun q => ?_, fun q => ?_⟩
  · replace h := h.1 q
    exact A_vret dX8_append_53 ⟨rfl, rfl, h⟩
  · replace h := h.2 q
    refine A_aload_n dX8_append_9 rfl rfl ?_
    refine A_getI dX8_append_10 fX8_15 rfl (okK8 (by omega)) ?_
    refine A_sipush (v := 160) dX8_append_13 (by decide +kernel) ?_
    refine B_icmp_ge (tgt := 53) dX8_append_16 (by decide) rfl (wlitI (by decide) (by decide)) ⟨fun q => ?_, fun q => ?_⟩
    · replace h := h.1 q
      exact A_vret dX8_append_53 ⟨rfl, rfl, h⟩
    · replace h := h.2 q
      refine A_aload_n dX8_append_19 rfl rfl ?_
      refine A_getR (c2 := 24) (i2 := 0) dX8_append_20 fX8_9 rfl (okK8 (by omega)) rfl ?_
      refine A_aload_n dX8_append_23 rfl rfl ?_
      refine A_getI dX8_append_24 fX8_15 rfl (okK8 (by omega)) ?_
      refine A_lload_n dX8_append_27 rfl rfl ?_
      refine A_bipush (v := 8) dX8_append_28 (by decide +kernel) ?_
      refine A_iload dX8_append_30 rfl ?_
      refine A_imul dX8_append_32 ?_
      refine A_lushr dX8_append_33 ?_
      refine A_l2i dX8_append_34 ?_
      refine A_i2b dX8_append_35 ?_
      obtain ⟨j1, qj1, bj1, h⟩ := h
      refine B_bast (j := j1) dX8_append_36 (by decide) rfl (okK24 (by omega)) qj1 bj1 (fun M2 eM2 => ?_)
      replace h := h M2 eM2
      refine A_aload_n dX8_append_37 rfl rfl ?_
      refine A_dup dX8_append_38 rfl ?_
      refine A_getI dX8_append_39 fX8_15 rfl (okK8 (by omega)) ?_
      refine A_iconst (v := 1) dX8_append_42 rfl ?_
      refine A_iadd dX8_append_43 ?_
      refine B_putI dX8_append_44 fX8_15 (by decide) (okK8 (by omega)) (fun M3 eM3 => ?_)
      replace h := h M3 eM3
      refine A_iinc (ls' := [(4, _), (0, _), (1, _), (2, _)]) dX8_append_47 (by decide) rfl rfl rfl ?_
      refine A_goto (tgt := 3) dX8_append_50 (by decide) ?_
      exact A_pick [1, 2, 3, 0] rfl h
set_option maxRecDepth 100000 in
set_option maxHeartbeats 4000000 in
theorem vc_X8_begin {G : GT} {N : NN} {K : NN → Prop}  (h : (∀ M1 : NN, M1 = up3 N 8 0 4 0 → (C_X8_next G  M1 (fun N2 => K N2)))) : C_X8_begin G N K := by
  refine Ctr.ofAW RX8 false rfl (by decide +kernel) (fun q => by cases q) (Nat.le_of_ble_eq_true rfl) (Nat.le_refl _) ?_
  refine A_aload_n dX8_begin_0 rfl rfl ?_
  refine A_iconst (v := 0) dX8_begin_1 rfl ?_
  refine B_putI dX8_begin_2 fX8_19 (by decide) (okK8 (by omega)) (fun M1 eM1 => ?_)
  replace h := h M1 eM1
  refine A_aload_n dX8_begin_5 rfl rfl ?_
  refine B_callV_V (av := []) rfl dX8_begin_6 vX8_22 mX8_next ⟨rfl, rfl, by decide⟩ (okK8 (by omega)) rfl (Nat.le_of_ble_eq_true rfl) (by decide) (by decide) rfl (BC_monoV h (fun N2 h => ?_))
  exact A_vret dX8_begin_9 ⟨rfl, rfl, h⟩
set_option maxRecDepth 100000 in
set_option maxHeartbeats 4000000 in
theorem vc_X8_next {G : GT} {N : NN} {K : NN → Prop}  (h : (∀ M1 : NN, M1 = up3 N 8 0 2 (N 8 0 4) → W_X8_next G K 8 [(0, vR 8 0)] [] M1)) : C_X8_next G N K := by
  refine Ctr.ofAW RX8 false rfl (by decide +kernel) (fun q => by cases q) (Nat.le_of_ble_eq_true rfl) (Nat.le_refl _) ?_
  refine A_aload_n dX8_next_0 rfl rfl ?_
  refine A_aload_n dX8_next_1 rfl rfl ?_
  refine A_getI dX8_next_2 fX8_19 rfl (okK8 (by omega)) ?_
  refine B_putI dX8_next_5 fX8_25 (by decide) (okK8 (by omega)) (fun M1 eM1 => ?_)
  replace h := h M1 eM1
  exact A_pick [0] rfl h
set_option maxRecDepth 100000 in
set_option maxHeartbeats 4000000 in
theorem vc_X8_next_8 {G : GT} {N : NN} {K : NN → Prop}  (h : (((wI (N 8 0 1)) ≤ (wI (N 8 0 2)) → (∀ M1 : NN, M1 = up3 N 8 0 4 (N 8 0 2) → (C_X8_at G (M1 8 0 2) M1 (fun x2 N2 => (((wI (N2 8 0 2)) < (wI (N2 8 0 1)) → (C_X8_isLetter G x2 N2 (fun x3 N3 => (((wI x3) = 0 → (C_X8_isDigit G x2 N3 (fun x4 N4 => (((wI x4) = 0 → (((wI (strIx 0 (i2cI x2))) < 0 → (∀ M5 : NN, M5 = up3 N4 8 0 5 4 → (∀ M6 : NN, M6 = up3 M5 8 0 4 ((M5 8 0 4) + 1) → K M6))) ∧ (¬ ((wI (strIx 0 (i2cI x2))) < 0) → (∀ M7 : NN, M7 = up3 N4 8 0 5 3 → (∀ M8 : NN, M8 = up3 M7 8 0 4 ((M7 8 0 4) + 1) → K M8))))) ∧ (¬ ((wI x4) = 0) → (C_X8_readNumber G  N4 (fun N9 => K N9))))))) ∧ (¬ ((wI x3) = 0) → (∀ M10 : NN, M10 = up3 N3 8 0 5 1 → W_X8_next G K 94 [(0, vR 8 0)] [] M10)))))) ∧ (¬ ((wI (N2 8 0 2)) < (wI (N2 8 0 1))) → (∀ M11 : NN, M11 = up3 N2 8 0 5 0 → K M11))))))) ∧ (¬ ((wI (N 8 0 1)) ≤ (wI (N 8 0 2))) → (C_X8_at G (N 8 0 2) N (fun x12 N12 => (C_X8_isBlank G x12 N12 (fun x13 N13 => (((wI x13) = 0 → (∀ M14 : NN, M14 = up3 N13 8 0 4 (N13 8 0 2) → (C_X8_at G (M14 8 0 2) M14 (fun x15 N15 => (((wI (N15 8 0 2)) < (wI (N15 8 0 1)) → (C_X8_isLetter G x15 N15 (fun x16 N16 => (((wI x16) = 0 → (C_X8_isDigit G x15 N16 (fun x17 N17 => (((wI x17) = 0 → (((wI (strIx 0 (i2cI x15))) < 0 → (∀ M18 : NN, M18 = up3 N17 8 0 5 4 → (∀ M19 : NN, M19 = up3 M18 8 0 4 ((M18 8 0 4) + 1) → K M19))) ∧ (¬ ((wI (strIx 0 (i2cI x15))) < 0) → (∀ M20 : NN, M20 = up3 N17 8 0 5 3 → (∀ M21 : NN, M21 = up3 M20 8 0 4 ((M20 8 0 4) + 1) → K M21))))) ∧ (¬ ((wI x17) = 0) → (C_X8_readNumber G  N17 (fun N22 => K N22))))))) ∧ (¬ ((wI x16) = 0) → (∀ M23 : NN, M23 = up3 N16 8 0 5 1 → W_X8_next G K 94 [(0, vR 8 0)] [] M23)))))) ∧ (¬ ((wI (N15 8 0 2)) < (wI (N15 8 0 1))) → (∀ M24 : NN, M24 = up3 N15 8 0 5 0 → K M24))))))) ∧ (¬ ((wI x13) = 0) → (∀ M25 : NN, M25 = up3 N13 8 0 2 ((N13 8 0 2) + 1) → W_X8_next G K 8 [(0, vR 8 0)] [] M25)))))))))) : W_X8_next G K 8 [(0, vR 8 0)] [] N := by
  refine A_aload_n dX8_next_8 rfl rfl ?_
  refine A_getI dX8_next_9 fX8_25 rfl (okK8 (by omega)) ?_
  refine A_aload_n dX8_next_12 rfl rfl ?_
  refine A_getI dX8_next_13 fX8_15 rfl (okK8 (by omega)) ?_
  refine B_icmp_ge (tgt := 46) dX8_next_16 (by decide) rfl rfl ⟨fun q => ?_, fun q => ?_⟩
  · replace h := h.1 q
    refine A_aload_n dX8_next_46 rfl rfl ?_
    refine A_aload_n dX8_next_47 rfl rfl ?_
    refine A_getI dX8_next_48 fX8_25 rfl (okK8 (by omega)) ?_
    refine B_putI dX8_next_51 fX8_19 (by decide) (okK8 (by omega)) (fun M1 eM1 => ?_)
    replace h := h M1 eM1
    refine A_aload_n dX8_next_54 rfl rfl ?_
    refine A_aload_n dX8_next_55 rfl rfl ?_
    refine A_getI dX8_next_56 fX8_25 rfl (okK8 (by omega)) ?_
    refine B_callV_I (av := [vI (M1 8 0 2)]) rfl dX8_next_59 vX8_28 mX8_at ⟨rfl, rfl, by decide⟩ (okK8 (by omega)) rfl (Nat.le_of_ble_eq_true rfl) (by decide) (by decide) rfl (BC_monoI h (fun x2 N2 h => ?_))
    refine A_istore_n (ls' := [(1, _), (0, _)]) dX8_next_62 rfl (by decide) rfl ?_
    refine A_aload_n dX8_next_63 rfl rfl ?_
    refine A_getI dX8_next_64 fX8_25 rfl (okK8 (by omega)) ?_
    refine A_aload_n dX8_next_67 rfl rfl ?_
    refine A_getI dX8_next_68 fX8_15 rfl (okK8 (by omega)) ?_
    refine B_icmp_lt (tgt := 82) dX8_next_71 (by decide) rfl rfl ⟨fun q => ?_, fun q => ?_⟩
    · replace h := h.1 q
      refine A_iload_n dX8_next_82 rfl rfl ?_
      refine B_callS_I (av := [vI x2]) rfl dX8_next_83 vX8_39 mX8_isLetter rfl (Nat.le_of_ble_eq_true rfl) (by decide) (by decide) rfl (BC_monoI h (fun x3 N3 h => ?_))
      refine B_if_eq (tgt := 132) dX8_next_86 (by decide) rfl ⟨fun q => ?_, fun q => ?_⟩
      · replace h := h.1 q
        refine A_iload_n dX8_next_132 rfl rfl ?_
        refine B_callS_I (av := [vI x2]) rfl dX8_next_133 vX8_42 mX8_isDigit rfl (Nat.le_of_ble_eq_true rfl) (by decide) (by decide) rfl (BC_monoI h (fun x4 N4 h => ?_))
        refine B_if_eq (tgt := 146) dX8_next_136 (by decide) rfl ⟨fun q => ?_, fun q => ?_⟩
        · replace h := h.1 q
          refine A_aload_n dX8_next_146 rfl rfl ?_
          refine A_ldcS (tx := "();+-*<=") (q := 0) dX8_next_147 (by decide +kernel) ?_
          refine A_iload_n dX8_next_149 rfl rfl ?_
          refine A_i2c dX8_next_150 ?_
          refine J_indexOf dX8_next_151 (by omega) (Nat.le_of_ble_eq_true rfl) ?_
          refine B_if_lt (tgt := 161) dX8_next_154 (by decide) rfl ⟨fun q => ?_, fun q => ?_⟩
          · replace h := h.1 q
            refine A_iconst (v := 4) dX8_next_161 rfl ?_
            refine B_putI dX8_next_162 fX8_36 (by decide) (okK8 (by omega)) (fun M5 eM5 => ?_)
            replace h := h M5 eM5
            refine A_aload_n dX8_next_165 rfl rfl ?_
            refine A_dup dX8_next_166 rfl ?_
            refine A_getI dX8_next_167 fX8_19 rfl (okK8 (by omega)) ?_
            refine A_iconst (v := 1) dX8_next_170 rfl ?_
            refine A_iadd dX8_next_171 ?_
            refine B_putI dX8_next_172 fX8_19 (by decide) (okK8 (by omega)) (fun M6 eM6 => ?_)
            replace h := h M6 eM6
            exact A_vret dX8_next_175 ⟨rfl, rfl, h⟩
          · replace h := h.2 q
            refine A_iconst (v := 3) dX8_next_157 rfl ?_
            refine A_goto (tgt := 162) dX8_next_158 (by decide) ?_
            refine B_putI dX8_next_162 fX8_36 (by decide) (okK8 (by omega)) (fun M7 eM7 => ?_)
            replace h := h M7 eM7
            refine A_aload_n dX8_next_165 rfl rfl ?_
            refine A_dup dX8_next_166 rfl ?_
            refine A_getI dX8_next_167 fX8_19 rfl (okK8 (by omega)) ?_
            refine A_iconst (v := 1) dX8_next_170 rfl ?_
            refine A_iadd dX8_next_171 ?_
            refine B_putI dX8_next_172 fX8_19 (by decide) (okK8 (by omega)) (fun M8 eM8 => ?_)
            replace h := h M8 eM8
            exact A_vret dX8_next_175 ⟨rfl, rfl, h⟩
        · replace h := h.2 q
          refine A_aload_n dX8_next_139 rfl rfl ?_
          refine B_callV_V (av := []) rfl dX8_next_140 vX8_45 mX8_readNumber ⟨rfl, rfl, by decide⟩ (okK8 (by omega)) rfl (Nat.le_of_ble_eq_true rfl) (by decide) (by decide) rfl (BC_monoV h (fun N9 h => ?_))
          refine A_goto (tgt := 175) dX8_next_143 (by decide) ?_
          exact A_vret dX8_next_175 ⟨rfl, rfl, h⟩
      · replace h := h.2 q
        refine A_aload_n dX8_next_89 rfl rfl ?_
        refine A_iconst (v := 1) dX8_next_90 rfl ?_
        refine B_putI dX8_next_91 fX8_36 (by decide) (okK8 (by omega)) (fun M10 eM10 => ?_)
        replace h := h M10 eM10
        exact A_pick [1] rfl h
    · replace h := h.2 q
      refine A_aload_n dX8_next_74 rfl rfl ?_
      refine A_iconst (v := 0) dX8_next_75 rfl ?_
      refine B_putI dX8_next_76 fX8_36 (by decide) (okK8 (by omega)) (fun M11 eM11 => ?_)
      replace h := h M11 eM11
      refine A_goto (tgt := 175) dX8_next_79 (by decide) ?_
      exact A_vret dX8_next_175 ⟨rfl, rfl, h⟩
  · replace h := h.2 q
    refine A_aload_n dX8_next_19 rfl rfl ?_
    refine A_aload_n dX8_next_20 rfl rfl ?_
    refine A_getI dX8_next_21 fX8_25 rfl (okK8 (by omega)) ?_
    refine B_callV_I (av := [vI (N 8 0 2)]) rfl dX8_next_24 vX8_28 mX8_at ⟨rfl, rfl, by decide⟩ (okK8 (by omega)) rfl (Nat.le_of_ble_eq_true rfl) (by decide) (by decide) rfl (BC_monoI h (fun x12 N12 h => ?_))
    refine B_callS_I (av := [vI x12]) rfl dX8_next_27 vX8_32 mX8_isBlank rfl (Nat.le_of_ble_eq_true rfl) (by decide) (by decide) rfl (BC_monoI h (fun x13 N13 h => ?_))
    refine B_if_eq (tgt := 46) dX8_next_30 (by decide) rfl ⟨fun q => ?_, fun q => ?_⟩
    · replace h := h.1 q
      refine A_aload_n dX8_next_46 rfl rfl ?_
      refine A_aload_n dX8_next_47 rfl rfl ?_
      refine A_getI dX8_next_48 fX8_25 rfl (okK8 (by omega)) ?_
      refine B_putI dX8_next_51 fX8_19 (by decide) (okK8 (by omega)) (fun M14 eM14 => ?_)
      replace h := h M14 eM14
      refine A_aload_n dX8_next_54 rfl rfl ?_
      refine A_aload_n dX8_next_55 rfl rfl ?_
      refine A_getI dX8_next_56 fX8_25 rfl (okK8 (by omega)) ?_
      refine B_callV_I (av := [vI (M14 8 0 2)]) rfl dX8_next_59 vX8_28 mX8_at ⟨rfl, rfl, by decide⟩ (okK8 (by omega)) rfl (Nat.le_of_ble_eq_true rfl) (by decide) (by decide) rfl (BC_monoI h (fun x15 N15 h => ?_))
      refine A_istore_n (ls' := [(1, _), (0, _)]) dX8_next_62 rfl (by decide) rfl ?_
      refine A_aload_n dX8_next_63 rfl rfl ?_
      refine A_getI dX8_next_64 fX8_25 rfl (okK8 (by omega)) ?_
      refine A_aload_n dX8_next_67 rfl rfl ?_
      refine A_getI dX8_next_68 fX8_15 rfl (okK8 (by omega)) ?_
      refine B_icmp_lt (tgt := 82) dX8_next_71 (by decide) rfl rfl ⟨fun q => ?_, fun q => ?_⟩
      · replace h := h.1 q
        refine A_iload_n dX8_next_82 rfl rfl ?_
        refine B_callS_I (av := [vI x15]) rfl dX8_next_83 vX8_39 mX8_isLetter rfl (Nat.le_of_ble_eq_true rfl) (by decide) (by decide) rfl (BC_monoI h (fun x16 N16 h => ?_))
        refine B_if_eq (tgt := 132) dX8_next_86 (by decide) rfl ⟨fun q => ?_, fun q => ?_⟩
        · replace h := h.1 q
          refine A_iload_n dX8_next_132 rfl rfl ?_
          refine B_callS_I (av := [vI x15]) rfl dX8_next_133 vX8_42 mX8_isDigit rfl (Nat.le_of_ble_eq_true rfl) (by decide) (by decide) rfl (BC_monoI h (fun x17 N17 h => ?_))
          refine B_if_eq (tgt := 146) dX8_next_136 (by decide) rfl ⟨fun q => ?_, fun q => ?_⟩
          · replace h := h.1 q
            refine A_aload_n dX8_next_146 rfl rfl ?_
            refine A_ldcS (tx := "();+-*<=") (q := 0) dX8_next_147 (by decide +kernel) ?_
            refine A_iload_n dX8_next_149 rfl rfl ?_
            refine A_i2c dX8_next_150 ?_
            refine J_indexOf dX8_next_151 (by omega) (Nat.le_of_ble_eq_true rfl) ?_
            refine B_if_lt (tgt := 161) dX8_next_154 (by decide) rfl ⟨fun q => ?_, fun q => ?_⟩
            · replace h := h.1 q
              refine A_iconst (v := 4) dX8_next_161 rfl ?_
              refine B_putI dX8_next_162 fX8_36 (by decide) (okK8 (by omega)) (fun M18 eM18 => ?_)
              replace h := h M18 eM18
              refine A_aload_n dX8_next_165 rfl rfl ?_
              refine A_dup dX8_next_166 rfl ?_
              refine A_getI dX8_next_167 fX8_19 rfl (okK8 (by omega)) ?_
              refine A_iconst (v := 1) dX8_next_170 rfl ?_
              refine A_iadd dX8_next_171 ?_
              refine B_putI dX8_next_172 fX8_19 (by decide) (okK8 (by omega)) (fun M19 eM19 => ?_)
              replace h := h M19 eM19
              exact A_vret dX8_next_175 ⟨rfl, rfl, h⟩
            · replace h := h.2 q
              refine A_iconst (v := 3) dX8_next_157 rfl ?_
              refine A_goto (tgt := 162) dX8_next_158 (by decide) ?_
              refine B_putI dX8_next_162 fX8_36 (by decide) (okK8 (by omega)) (fun M20 eM20 => ?_)
              replace h := h M20 eM20
              refine A_aload_n dX8_next_165 rfl rfl ?_
              refine A_dup dX8_next_166 rfl ?_
              refine A_getI dX8_next_167 fX8_19 rfl (okK8 (by omega)) ?_
              refine A_iconst (v := 1) dX8_next_170 rfl ?_
              refine A_iadd dX8_next_171 ?_
              refine B_putI dX8_next_172 fX8_19 (by decide) (okK8 (by omega)) (fun M21 eM21 => ?_)
              replace h := h M21 eM21
              exact A_vret dX8_next_175 ⟨rfl, rfl, h⟩
          · replace h := h.2 q
            refine A_aload_n dX8_next_139 rfl rfl ?_
            refine B_callV_V (av := []) rfl dX8_next_140 vX8_45 mX8_readNumber ⟨rfl, rfl, by decide⟩ (okK8 (by omega)) rfl (Nat.le_of_ble_eq_true rfl) (by decide) (by decide) rfl (BC_monoV h (fun N22 h => ?_))
            refine A_goto (tgt := 175) dX8_next_143 (by decide) ?_
            exact A_vret dX8_next_175 ⟨rfl, rfl, h⟩
        · replace h := h.2 q
          refine A_aload_n dX8_next_89 rfl rfl ?_
          refine A_iconst (v := 1) dX8_next_90 rfl ?_
          refine B_putI dX8_next_91 fX8_36 (by decide) (okK8 (by omega)) (fun M23 eM23 => ?_)
          replace h := h M23 eM23
          exact A_pick [1] rfl h
      · replace h := h.2 q
        refine A_aload_n dX8_next_74 rfl rfl ?_
        refine A_iconst (v := 0) dX8_next_75 rfl ?_
        refine B_putI dX8_next_76 fX8_36 (by decide) (okK8 (by omega)) (fun M24 eM24 => ?_)
        replace h := h M24 eM24
        refine A_goto (tgt := 175) dX8_next_79 (by decide) ?_
        exact A_vret dX8_next_175 ⟨rfl, rfl, h⟩
    · replace h := h.2 q
      refine A_aload_n dX8_next_33 rfl rfl ?_
      refine A_dup dX8_next_34 rfl ?_
      refine A_getI dX8_next_35 fX8_25 rfl (okK8 (by omega)) ?_
      refine A_iconst (v := 1) dX8_next_38 rfl ?_
      refine A_iadd dX8_next_39 ?_
      refine B_putI dX8_next_40 fX8_25 (by decide) (okK8 (by omega)) (fun M25 eM25 => ?_)
      replace h := h M25 eM25
      refine A_goto (tgt := 8) dX8_next_43 (by decide) ?_
      exact A_pick [0] rfl h
set_option maxRecDepth 100000 in
set_option maxHeartbeats 4000000 in
theorem vc_X8_next_94 {G : GT} {N : NN} {K : NN → Prop}  (h : (((wI (N 8 0 1)) ≤ (wI (N 8 0 4)) → K N) ∧ (¬ ((wI (N 8 0 1)) ≤ (wI (N 8 0 4))) → (C_X8_at G (N 8 0 4) N (fun x1 N1 => (C_X8_isLetter G x1 N1 (fun x2 N2 => (((wI x2) = 0 → K N2) ∧ (¬ ((wI x2) = 0) → (∀ M3 : NN, M3 = up3 N2 8 0 4 ((N2 8 0 4) + 1) → W_X8_next G K 94 [(0, vR 8 0)] [] M3)))))))))) : W_X8_next G K 94 [(0, vR 8 0)] [] N := by
  refine A_aload_n dX8_next_94 rfl rfl ?_
  refine A_getI dX8_next_95 fX8_19 rfl (okK8 (by omega)) ?_
  refine A_aload_n dX8_next_98 rfl rfl ?_
  refine A_getI dX8_next_99 fX8_15 rfl (okK8 (by omega)) ?_
  refine B_icmp_ge (tgt := 175) dX8_next_102 (by decide) rfl rfl ⟨fun q => ?_, fun q => ?_⟩
  · replace h := h.1 q
    exact A_vret dX8_next_175 ⟨rfl, rfl, h⟩
  · replace h := h.2 q
    refine A_aload_n dX8_next_105 rfl rfl ?_
    refine A_aload_n dX8_next_106 rfl rfl ?_
    refine A_getI dX8_next_107 fX8_19 rfl (okK8 (by omega)) ?_
    refine B_callV_I (av := [vI (N 8 0 4)]) rfl dX8_next_110 vX8_28 mX8_at ⟨rfl, rfl, by decide⟩ (okK8 (by omega)) rfl (Nat.le_of_ble_eq_true rfl) (by decide) (by decide) rfl (BC_monoI h (fun x1 N1 h => ?_))
    refine B_callS_I (av := [vI x1]) rfl dX8_next_113 vX8_39 mX8_isLetter rfl (Nat.le_of_ble_eq_true rfl) (by decide) (by decide) rfl (BC_monoI h (fun x2 N2 h => ?_))
    refine B_if_eq (tgt := 175) dX8_next_116 (by decide) rfl ⟨fun q => ?_, fun q => ?_⟩
    · replace h := h.1 q
      exact A_vret dX8_next_175 ⟨rfl, rfl, h⟩
    · replace h := h.2 q
      refine A_aload_n dX8_next_119 rfl rfl ?_
      refine A_dup dX8_next_120 rfl ?_
      refine A_getI dX8_next_121 fX8_19 rfl (okK8 (by omega)) ?_
      refine A_iconst (v := 1) dX8_next_124 rfl ?_
      refine A_iadd dX8_next_125 ?_
      refine B_putI dX8_next_126 fX8_19 (by decide) (okK8 (by omega)) (fun M3 eM3 => ?_)
      replace h := h M3 eM3
      refine A_goto (tgt := 94) dX8_next_129 (by decide) ?_
      exact A_pick [0] rfl h
set_option maxRecDepth 100000 in
set_option maxHeartbeats 4000000 in
theorem vc_X8_readNumber {G : GT} {N : NN} {K : NN → Prop}  (h : (∀ M1 : NN, M1 = up3 N 8 0 3 0 → W_X8_readNumber G K 5 [(0, vR 8 0)] [] M1)) : C_X8_readNumber G N K := by
  refine Ctr.ofAW RX8 false rfl (by decide +kernel) (fun q => by cases q) (Nat.le_of_ble_eq_true rfl) (Nat.le_refl _) ?_
  refine A_aload_n dX8_readNumber_0 rfl rfl ?_
  refine A_iconst (v := 0) dX8_readNumber_1 rfl ?_
  refine B_putI dX8_readNumber_2 fX8_55 (by decide) (okK8 (by omega)) (fun M1 eM1 => ?_)
  replace h := h M1 eM1
  exact A_pick [0] rfl h
set_option maxRecDepth 100000 in
set_option maxHeartbeats 4000000 in
theorem vc_X8_readNumber_5 {G : GT} {N : NN} {K : NN → Prop}  (h : (((wI (N 8 0 1)) ≤ (wI (N 8 0 4)) → (((wI ((N 8 0 4) - (N 8 0 2))) ≤ 4 → (∀ M1 : NN, M1 = up3 N 8 0 5 2 → K M1)) ∧ (¬ ((wI ((N 8 0 4) - (N 8 0 2))) ≤ 4) → (∀ M2 : NN, M2 = up3 N 8 0 5 4 → K M2)))) ∧ (¬ ((wI (N 8 0 1)) ≤ (wI (N 8 0 4))) → (C_X8_at G (N 8 0 4) N (fun x3 N3 => (C_X8_isDigit G x3 N3 (fun x4 N4 => (((wI x4) = 0 → (((wI ((N4 8 0 4) - (N4 8 0 2))) ≤ 4 → (∀ M5 : NN, M5 = up3 N4 8 0 5 2 → K M5)) ∧ (¬ ((wI ((N4 8 0 4) - (N4 8 0 2))) ≤ 4) → (∀ M6 : NN, M6 = up3 N4 8 0 5 4 → K M6)))) ∧ (¬ ((wI x4) = 0) → (C_X8_at G (N4 8 0 4) N4 (fun x7 N7 => (∀ M8 : NN, M8 = up3 N7 8 0 3 ((((N4 8 0 3) * 10) + x7) - 48) → (∀ M9 : NN, M9 = up3 M8 8 0 4 ((M8 8 0 4) + 1) → W_X8_readNumber G K 5 [(0, vR 8 0)] [] M9))))))))))))) : W_X8_readNumber G K 5 [(0, vR 8 0)] [] N := by
  refine A_aload_n dX8_readNumber_5 rfl rfl ?_
  refine A_getI dX8_readNumber_6 fX8_19 rfl (okK8 (by omega)) ?_
  refine A_aload_n dX8_readNumber_9 rfl rfl ?_
  refine A_getI dX8_readNumber_10 fX8_15 rfl (okK8 (by omega)) ?_
  refine B_icmp_ge (tgt := 66) dX8_readNumber_13 (by decide) rfl rfl ⟨fun q => ?_, fun q => ?_⟩
  · replace h := h.1 q
    refine A_aload_n dX8_readNumber_66 rfl rfl ?_
    refine A_aload_n dX8_readNumber_67 rfl rfl ?_
    refine A_getI dX8_readNumber_68 fX8_19 rfl (okK8 (by omega)) ?_
    refine A_aload_n dX8_readNumber_71 rfl rfl ?_
    refine A_getI dX8_readNumber_72 fX8_25 rfl (okK8 (by omega)) ?_
    refine A_isub dX8_readNumber_75 ?_
    refine A_iconst (v := 4) dX8_readNumber_76 rfl ?_
    refine B_icmp_le (tgt := 84) dX8_readNumber_77 (by decide) rfl (wlitI (by decide) (by decide)) ⟨fun q => ?_, fun q => ?_⟩
    · replace h := h.1 q
      refine A_iconst (v := 2) dX8_readNumber_84 rfl ?_
      refine B_putI dX8_readNumber_85 fX8_36 (by decide) (okK8 (by omega)) (fun M1 eM1 => ?_)
      replace h := h M1 eM1
      exact A_vret dX8_readNumber_88 ⟨rfl, rfl, h⟩
    · replace h := h.2 q
      refine A_iconst (v := 4) dX8_readNumber_80 rfl ?_
      refine A_goto (tgt := 85) dX8_readNumber_81 (by decide) ?_
      refine B_putI dX8_readNumber_85 fX8_36 (by decide) (okK8 (by omega)) (fun M2 eM2 => ?_)
      replace h := h M2 eM2
      exact A_vret dX8_readNumber_88 ⟨rfl, rfl, h⟩
  · replace h := h.2 q
    refine A_aload_n dX8_readNumber_16 rfl rfl ?_
    refine A_aload_n dX8_readNumber_17 rfl rfl ?_
    refine A_getI dX8_readNumber_18 fX8_19 rfl (okK8 (by omega)) ?_
    refine B_callV_I (av := [vI (N 8 0 4)]) rfl dX8_readNumber_21 vX8_28 mX8_at ⟨rfl, rfl, by decide⟩ (okK8 (by omega)) rfl (Nat.le_of_ble_eq_true rfl) (by decide) (by decide) rfl (BC_monoI h (fun x3 N3 h => ?_))
    refine B_callS_I (av := [vI x3]) rfl dX8_readNumber_24 vX8_42 mX8_isDigit rfl (Nat.le_of_ble_eq_true rfl) (by decide) (by decide) rfl (BC_monoI h (fun x4 N4 h => ?_))
    refine B_if_eq (tgt := 66) dX8_readNumber_27 (by decide) rfl ⟨fun q => ?_, fun q => ?_⟩
    · replace h := h.1 q
      refine A_aload_n dX8_readNumber_66 rfl rfl ?_
      refine A_aload_n dX8_readNumber_67 rfl rfl ?_
      refine A_getI dX8_readNumber_68 fX8_19 rfl (okK8 (by omega)) ?_
      refine A_aload_n dX8_readNumber_71 rfl rfl ?_
      refine A_getI dX8_readNumber_72 fX8_25 rfl (okK8 (by omega)) ?_
      refine A_isub dX8_readNumber_75 ?_
      refine A_iconst (v := 4) dX8_readNumber_76 rfl ?_
      refine B_icmp_le (tgt := 84) dX8_readNumber_77 (by decide) rfl (wlitI (by decide) (by decide)) ⟨fun q => ?_, fun q => ?_⟩
      · replace h := h.1 q
        refine A_iconst (v := 2) dX8_readNumber_84 rfl ?_
        refine B_putI dX8_readNumber_85 fX8_36 (by decide) (okK8 (by omega)) (fun M5 eM5 => ?_)
        replace h := h M5 eM5
        exact A_vret dX8_readNumber_88 ⟨rfl, rfl, h⟩
      · replace h := h.2 q
        refine A_iconst (v := 4) dX8_readNumber_80 rfl ?_
        refine A_goto (tgt := 85) dX8_readNumber_81 (by decide) ?_
        refine B_putI dX8_readNumber_85 fX8_36 (by decide) (okK8 (by omega)) (fun M6 eM6 => ?_)
        replace h := h M6 eM6
        exact A_vret dX8_readNumber_88 ⟨rfl, rfl, h⟩
    · replace h := h.2 q
      refine A_aload_n dX8_readNumber_30 rfl rfl ?_
      refine A_aload_n dX8_readNumber_31 rfl rfl ?_
      refine A_getI dX8_readNumber_32 fX8_55 rfl (okK8 (by omega)) ?_
      refine A_bipush (v := 10) dX8_readNumber_35 (by decide +kernel) ?_
      refine A_imul dX8_readNumber_37 ?_
      refine A_aload_n dX8_readNumber_38 rfl rfl ?_
      refine A_aload_n dX8_readNumber_39 rfl rfl ?_
      refine A_getI dX8_readNumber_40 fX8_19 rfl (okK8 (by omega)) ?_
      refine B_callV_I (av := [vI (N4 8 0 4)]) rfl dX8_readNumber_43 vX8_28 mX8_at ⟨rfl, rfl, by decide⟩ (okK8 (by omega)) rfl (Nat.le_of_ble_eq_true rfl) (by decide) (by decide) rfl (BC_monoI h (fun x7 N7 h => ?_))
      refine A_iadd dX8_readNumber_46 ?_
      refine A_bipush (v := 48) dX8_readNumber_47 (by decide +kernel) ?_
      refine A_isub dX8_readNumber_49 ?_
      refine B_putI dX8_readNumber_50 fX8_55 (by decide) (okK8 (by omega)) (fun M8 eM8 => ?_)
      replace h := h M8 eM8
      refine A_aload_n dX8_readNumber_53 rfl rfl ?_
      refine A_dup dX8_readNumber_54 rfl ?_
      refine A_getI dX8_readNumber_55 fX8_19 rfl (okK8 (by omega)) ?_
      refine A_iconst (v := 1) dX8_readNumber_58 rfl ?_
      refine A_iadd dX8_readNumber_59 ?_
      refine B_putI dX8_readNumber_60 fX8_19 (by decide) (okK8 (by omega)) (fun M9 eM9 => ?_)
      replace h := h M9 eM9
      refine A_goto (tgt := 5) dX8_readNumber_63 (by decide) ?_
      exact A_pick [0] rfl h
set_option maxRecDepth 100000 in
set_option maxHeartbeats 4000000 in
theorem vc_X8_at {G : GT} {a1 : Int} {N : NN} {K : Int → NN → Prop}  (h : (((wI a1) < 0 → K 0 N) ∧ (¬ ((wI a1) < 0) → (((wI (N 8 0 1)) ≤ (wI a1) → K 0 N) ∧ (¬ ((wI (N 8 0 1)) ≤ (wI a1)) → ((160 ≤ (wI a1) → K 0 N) ∧ (¬ (160 ≤ (wI a1)) → (∃ j1 : Nat, (wI a1) = (j1 : Int) ∧ j1 < 160 ∧ K (andI (N 24 0 j1) 255) N)))))))) : C_X8_at G a1 N K := by
  refine Ctr.ofAW RX8 false rfl (by decide +kernel) (fun q => by cases q) (Nat.le_of_ble_eq_true rfl) (Nat.le_refl _) ?_
  refine A_iload_n dX8_at_0 rfl rfl ?_
  refine B_if_lt (tgt := 32) dX8_at_1 (by decide) rfl ⟨fun q => ?_, fun q => ?_⟩
  · replace h := h.1 q
    refine A_iconst (v := 0) dX8_at_32 rfl ?_
    exact A_iret dX8_at_33 ⟨rfl, _, rfl, h⟩
  · replace h := h.2 q
    refine A_iload_n dX8_at_4 rfl rfl ?_
    refine A_aload_n dX8_at_5 rfl rfl ?_
    refine A_getI dX8_at_6 fX8_15 rfl (okK8 (by omega)) ?_
    refine B_icmp_ge (tgt := 32) dX8_at_9 (by decide) rfl rfl ⟨fun q => ?_, fun q => ?_⟩
    · replace h := h.1 q
      refine A_iconst (v := 0) dX8_at_32 rfl ?_
      exact A_iret dX8_at_33 ⟨rfl, _, rfl, h⟩
    · replace h := h.2 q
      refine A_iload_n dX8_at_12 rfl rfl ?_
      refine A_sipush (v := 160) dX8_at_13 (by decide +kernel) ?_
      refine B_icmp_ge (tgt := 32) dX8_at_16 (by decide) rfl (wlitI (by decide) (by decide)) ⟨fun q => ?_, fun q => ?_⟩
      · replace h := h.1 q
        refine A_iconst (v := 0) dX8_at_32 rfl ?_
        exact A_iret dX8_at_33 ⟨rfl, _, rfl, h⟩
      · replace h := h.2 q
        refine A_aload_n dX8_at_19 rfl rfl ?_
        refine A_getR (c2 := 24) (i2 := 0) dX8_at_20 fX8_9 rfl (okK8 (by omega)) rfl ?_
        refine A_iload_n dX8_at_23 rfl rfl ?_
        obtain ⟨j1, qj1, bj1, h⟩ := h
        refine A_bald (j := j1) dX8_at_24 (by decide) rfl (okK24 (by omega)) qj1 bj1 ?_
        refine A_sipush (v := 255) dX8_at_25 (by decide +kernel) ?_
        refine A_iand dX8_at_28 ?_
        refine A_goto (tgt := 33) dX8_at_29 (by decide) ?_
        exact A_iret dX8_at_33 ⟨rfl, _, rfl, h⟩
set_option maxRecDepth 100000 in
set_option maxHeartbeats 4000000 in
theorem vc_X8_isBlank {G : GT} {a0 : Int} {N : NN} {K : Int → NN → Prop}  (h : (((wI a0) = 32 → K 1 N) ∧ (¬ ((wI a0) = 32) → (((wI a0) ≠ 10 → K 0 N) ∧ (¬ ((wI a0) ≠ 10) → K 1 N))))) : C_X8_isBlank G a0 N K := by
  refine Ctr.ofAW RX8 false rfl (by decide +kernel) (fun q => by cases q) (Nat.le_of_ble_eq_true rfl) (Nat.le_refl _) ?_
  refine A_iload_n dX8_isBlank_0 rfl rfl ?_
  refine A_bipush (v := 32) dX8_isBlank_1 (by decide +kernel) ?_
  refine B_icmp_eq (tgt := 12) dX8_isBlank_3 (by decide) rfl (wlitI (by decide) (by decide)) ⟨fun q => ?_, fun q => ?_⟩
  · replace h := h.1 q
    refine A_iconst (v := 1) dX8_isBlank_12 rfl ?_
    refine A_goto (tgt := 17) dX8_isBlank_13 (by decide) ?_
    exact A_zret dX8_isBlank_17 (by decide) ⟨rfl, _, rfl, h⟩
  · replace h := h.2 q
    refine A_iload_n dX8_isBlank_6 rfl rfl ?_
    refine A_bipush (v := 10) dX8_isBlank_7 (by decide +kernel) ?_
    refine B_icmp_ne (tgt := 16) dX8_isBlank_9 (by decide) rfl (wlitI (by decide) (by decide)) ⟨fun q => ?_, fun q => ?_⟩
    · replace h := h.1 q
      refine A_iconst (v := 0) dX8_isBlank_16 rfl ?_
      exact A_zret dX8_isBlank_17 (by decide) ⟨rfl, _, rfl, h⟩
    · replace h := h.2 q
      refine A_iconst (v := 1) dX8_isBlank_12 rfl ?_
      refine A_goto (tgt := 17) dX8_isBlank_13 (by decide) ?_
      exact A_zret dX8_isBlank_17 (by decide) ⟨rfl, _, rfl, h⟩
set_option maxRecDepth 100000 in
set_option maxHeartbeats 4000000 in
theorem vc_X8_isLetter {G : GT} {a0 : Int} {N : NN} {K : Int → NN → Prop}  (h : (((wI a0) < 97 → K 0 N) ∧ (¬ ((wI a0) < 97) → ((122 < (wI a0) → K 0 N) ∧ (¬ (122 < (wI a0)) → K 1 N))))) : C_X8_isLetter G a0 N K := by
  refine Ctr.ofAW RX8 false rfl (by decide +kernel) (fun q => by cases q) (Nat.le_of_ble_eq_true rfl) (Nat.le_refl _) ?_
  refine A_iload_n dX8_isLetter_0 rfl rfl ?_
  refine A_bipush (v := 97) dX8_isLetter_1 (by decide +kernel) ?_
  refine B_icmp_lt (tgt := 16) dX8_isLetter_3 (by decide) rfl (wlitI (by decide) (by decide)) ⟨fun q => ?_, fun q => ?_⟩
  · replace h := h.1 q
    refine A_iconst (v := 0) dX8_isLetter_16 rfl ?_
    exact A_zret dX8_isLetter_17 (by decide) ⟨rfl, _, rfl, h⟩
  · replace h := h.2 q
    refine A_iload_n dX8_isLetter_6 rfl rfl ?_
    refine A_bipush (v := 122) dX8_isLetter_7 (by decide +kernel) ?_
    refine B_icmp_gt (tgt := 16) dX8_isLetter_9 (by decide) rfl (wlitI (by decide) (by decide)) ⟨fun q => ?_, fun q => ?_⟩
    · replace h := h.1 q
      refine A_iconst (v := 0) dX8_isLetter_16 rfl ?_
      exact A_zret dX8_isLetter_17 (by decide) ⟨rfl, _, rfl, h⟩
    · replace h := h.2 q
      refine A_iconst (v := 1) dX8_isLetter_12 rfl ?_
      refine A_goto (tgt := 17) dX8_isLetter_13 (by decide) ?_
      exact A_zret dX8_isLetter_17 (by decide) ⟨rfl, _, rfl, h⟩
set_option maxRecDepth 100000 in
set_option maxHeartbeats 4000000 in
theorem vc_X8_isDigit {G : GT} {a0 : Int} {N : NN} {K : Int → NN → Prop}  (h : (((wI a0) < 48 → K 0 N) ∧ (¬ ((wI a0) < 48) → ((57 < (wI a0) → K 0 N) ∧ (¬ (57 < (wI a0)) → K 1 N))))) : C_X8_isDigit G a0 N K := by
  refine Ctr.ofAW RX8 false rfl (by decide +kernel) (fun q => by cases q) (Nat.le_of_ble_eq_true rfl) (Nat.le_refl _) ?_
  refine A_iload_n dX8_isDigit_0 rfl rfl ?_
  refine A_bipush (v := 48) dX8_isDigit_1 (by decide +kernel) ?_
  refine B_icmp_lt (tgt := 16) dX8_isDigit_3 (by decide) rfl (wlitI (by decide) (by decide)) ⟨fun q => ?_, fun q => ?_⟩
  · replace h := h.1 q
    refine A_iconst (v := 0) dX8_isDigit_16 rfl ?_
    exact A_zret dX8_isDigit_17 (by decide) ⟨rfl, _, rfl, h⟩
  · replace h := h.2 q
    refine A_iload_n dX8_isDigit_6 rfl rfl ?_
    refine A_bipush (v := 57) dX8_isDigit_7 (by decide +kernel) ?_
    refine B_icmp_gt (tgt := 16) dX8_isDigit_9 (by decide) rfl (wlitI (by decide) (by decide)) ⟨fun q => ?_, fun q => ?_⟩
    · replace h := h.1 q
      refine A_iconst (v := 0) dX8_isDigit_16 rfl ?_
      exact A_zret dX8_isDigit_17 (by decide) ⟨rfl, _, rfl, h⟩
    · replace h := h.2 q
      refine A_iconst (v := 1) dX8_isDigit_12 rfl ?_
      refine A_goto (tgt := 17) dX8_isDigit_13 (by decide) ?_
      exact A_zret dX8_isDigit_17 (by decide) ⟨rfl, _, rfl, h⟩
set_option maxRecDepth 100000 in
set_option maxHeartbeats 4000000 in
theorem vc_X8_isEnd {G : GT} {N : NN} {K : Int → NN → Prop}  (h : (((wI (N 8 0 5)) ≠ 0 → K 0 N) ∧ (¬ ((wI (N 8 0 5)) ≠ 0) → K 1 N))) : C_X8_isEnd G N K := by
  refine Ctr.ofAW RX8 false rfl (by decide +kernel) (fun q => by cases q) (Nat.le_of_ble_eq_true rfl) (Nat.le_refl _) ?_
  refine A_aload_n dX8_isEnd_0 rfl rfl ?_
  refine A_getI dX8_isEnd_1 fX8_36 rfl (okK8 (by omega)) ?_
  refine B_if_ne (tgt := 11) dX8_isEnd_4 (by decide) rfl ⟨fun q => ?_, fun q => ?_⟩
  · replace h := h.1 q
    refine A_iconst (v := 0) dX8_isEnd_11 rfl ?_
    exact A_zret dX8_isEnd_12 (by decide) ⟨rfl, _, rfl, h⟩
  · replace h := h.2 q
    refine A_iconst (v := 1) dX8_isEnd_7 rfl ?_
    refine A_goto (tgt := 12) dX8_isEnd_8 (by decide) ?_
    exact A_zret dX8_isEnd_12 (by decide) ⟨rfl, _, rfl, h⟩
set_option maxRecDepth 100000 in
set_option maxHeartbeats 4000000 in
theorem vc_X8_isNumber {G : GT} {N : NN} {K : Int → NN → Prop}  (h : (((wI (N 8 0 5)) ≠ 2 → K 0 N) ∧ (¬ ((wI (N 8 0 5)) ≠ 2) → K 1 N))) : C_X8_isNumber G N K := by
  refine Ctr.ofAW RX8 false rfl (by decide +kernel) (fun q => by cases q) (Nat.le_of_ble_eq_true rfl) (Nat.le_refl _) ?_
  refine A_aload_n dX8_isNumber_0 rfl rfl ?_
  refine A_getI dX8_isNumber_1 fX8_36 rfl (okK8 (by omega)) ?_
  refine A_iconst (v := 2) dX8_isNumber_4 rfl ?_
  refine B_icmp_ne (tgt := 12) dX8_isNumber_5 (by decide) rfl (wlitI (by decide) (by decide)) ⟨fun q => ?_, fun q => ?_⟩
  · replace h := h.1 q
    refine A_iconst (v := 0) dX8_isNumber_12 rfl ?_
    exact A_zret dX8_isNumber_13 (by decide) ⟨rfl, _, rfl, h⟩
  · replace h := h.2 q
    refine A_iconst (v := 1) dX8_isNumber_8 rfl ?_
    refine A_goto (tgt := 13) dX8_isNumber_9 (by decide) ?_
    exact A_zret dX8_isNumber_13 (by decide) ⟨rfl, _, rfl, h⟩
set_option maxRecDepth 100000 in
set_option maxHeartbeats 4000000 in
theorem vc_X8_isSign {G : GT} {a1 : Int} {N : NN} {K : Int → NN → Prop}  (h : (((wI (N 8 0 5)) ≠ 3 → K 0 N) ∧ (¬ ((wI (N 8 0 5)) ≠ 3) → (C_X8_at G (N 8 0 2) N (fun x1 N1 => (((wI x1) ≠ (wI a1) → K 0 N1) ∧ (¬ ((wI x1) ≠ (wI a1)) → K 1 N1))))))) : C_X8_isSign G a1 N K := by
  refine Ctr.ofAW RX8 false rfl (by decide +kernel) (fun q => by cases q) (Nat.le_of_ble_eq_true rfl) (Nat.le_refl _) ?_
  refine A_aload_n dX8_isSign_0 rfl rfl ?_
  refine A_getI dX8_isSign_1 fX8_36 rfl (okK8 (by omega)) ?_
  refine A_iconst (v := 3) dX8_isSign_4 rfl ?_
  refine B_icmp_ne (tgt := 24) dX8_isSign_5 (by decide) rfl (wlitI (by decide) (by decide)) ⟨fun q => ?_, fun q => ?_⟩
  · replace h := h.1 q
    refine A_iconst (v := 0) dX8_isSign_24 rfl ?_
    exact A_zret dX8_isSign_25 (by decide) ⟨rfl, _, rfl, h⟩
  · replace h := h.2 q
    refine A_aload_n dX8_isSign_8 rfl rfl ?_
    refine A_aload_n dX8_isSign_9 rfl rfl ?_
    refine A_getI dX8_isSign_10 fX8_25 rfl (okK8 (by omega)) ?_
    refine B_callV_I (av := [vI (N 8 0 2)]) rfl dX8_isSign_13 vX8_28 mX8_at ⟨rfl, rfl, by decide⟩ (okK8 (by omega)) rfl (Nat.le_of_ble_eq_true rfl) (by decide) (by decide) rfl (BC_monoI h (fun x1 N1 h => ?_))
    refine A_iload_n dX8_isSign_16 rfl rfl ?_
    refine B_icmp_ne (tgt := 24) dX8_isSign_17 (by decide) rfl rfl ⟨fun q => ?_, fun q => ?_⟩
    · replace h := h.1 q
      refine A_iconst (v := 0) dX8_isSign_24 rfl ?_
      exact A_zret dX8_isSign_25 (by decide) ⟨rfl, _, rfl, h⟩
    · replace h := h.2 q
      refine A_iconst (v := 1) dX8_isSign_20 rfl ?_
      refine A_goto (tgt := 25) dX8_isSign_21 (by decide) ?_
      exact A_zret dX8_isSign_25 (by decide) ⟨rfl, _, rfl, h⟩
set_option maxRecDepth 100000 in
set_option maxHeartbeats 4000000 in
theorem vc_X8_takesSign {G : GT} {a1 : Int} {N : NN} {K : Int → NN → Prop}  (h : (C_X8_isSign G a1 N (fun x1 N1 => (((wI x1) = 0 → ((x1 = 0 ∨ x1 = 1) ∧ K x1 N1)) ∧ (¬ ((wI x1) = 0) → (C_X8_next G  N1 (fun N2 => ((x1 = 0 ∨ x1 = 1) ∧ K x1 N2)))))))) : C_X8_takesSign G a1 N K := by
  refine Ctr.ofAW RX8 false rfl (by decide +kernel) (fun q => by cases q) (Nat.le_of_ble_eq_true rfl) (Nat.le_refl _) ?_
  refine A_aload_n dX8_takesSign_0 rfl rfl ?_
  refine A_iload_n dX8_takesSign_1 rfl rfl ?_
  refine B_callV_I (av := [vI a1]) rfl dX8_takesSign_2 vX8_58 mX8_isSign ⟨rfl, rfl, by decide⟩ (okK8 (by omega)) rfl (Nat.le_of_ble_eq_true rfl) (by decide) (by decide) rfl (BC_monoI h (fun x1 N1 h => ?_))
  refine A_istore_n (ls' := [(2, _), (0, _), (1, _)]) dX8_takesSign_5 rfl (by decide) rfl ?_
  refine A_iload_n dX8_takesSign_6 rfl rfl ?_
  refine B_if_eq (tgt := 14) dX8_takesSign_7 (by decide) rfl ⟨fun q => ?_, fun q => ?_⟩
  · replace h := h.1 q
    refine A_iload_n dX8_takesSign_14 rfl rfl ?_
    exact A_zret dX8_takesSign_15 h.1 ⟨rfl, _, rfl, h.2⟩
  · replace h := h.2 q
    refine A_aload_n dX8_takesSign_10 rfl rfl ?_
    refine B_callV_V (av := []) rfl dX8_takesSign_11 vX8_22 mX8_next ⟨rfl, rfl, by decide⟩ (okK8 (by omega)) rfl (Nat.le_of_ble_eq_true rfl) (by decide) (by decide) rfl (BC_monoV h (fun N2 h => ?_))
    refine A_iload_n dX8_takesSign_14 rfl rfl ?_
    exact A_zret dX8_takesSign_15 h.1 ⟨rfl, _, rfl, h.2⟩
set_option maxRecDepth 100000 in
set_option maxHeartbeats 4000000 in
theorem vc_X8_takesWord {G : GT} {i1 : Nat} {N : NN} {K : Int → NN → Prop} (h_i1 : i1 < 11) (h : (C_X8_which G i1 N (fun x1 N1 => (((wI x1) ≠ 0 → K 0 N1) ∧ (¬ ((wI x1) ≠ 0) → (C_X8_next G  N1 (fun N2 => K 1 N2))))))) : C_X8_takesWord G i1 N K := by
  refine Ctr.ofAW RX8 false rfl (by decide +kernel) (fun q => by cases q) (Nat.le_of_ble_eq_true rfl) (Nat.le_refl _) ?_
  refine A_aload_n dX8_takesWord_0 rfl rfl ?_
  refine A_aload_n dX8_takesWord_1 rfl rfl ?_
  refine B_callV_I (av := [vR 200 i1]) rfl dX8_takesWord_2 vX8_62 mX8_which ⟨rfl, rfl, by decide⟩ (okK8 (by omega)) rfl (Nat.le_of_ble_eq_true rfl) (by decide) (by decide) rfl (BC_monoI h (fun x1 N1 h => ?_))
  refine B_if_ne (tgt := 12) dX8_takesWord_5 (by decide) rfl ⟨fun q => ?_, fun q => ?_⟩
  · replace h := h.1 q
    refine A_iconst (v := 0) dX8_takesWord_12 rfl ?_
    refine A_istore_n (ls' := [(2, _), (0, _), (1, _)]) dX8_takesWord_13 rfl (by decide) rfl ?_
    refine A_iload_n dX8_takesWord_14 rfl rfl ?_
    refine B_if_eq (tgt := 22) dX8_takesWord_15 (by decide) (wlitI (by decide) (by decide)) ⟨fun q => ?_, fun q => absurd (by decide) q⟩
    refine A_iload_n dX8_takesWord_22 rfl rfl ?_
    exact A_zret dX8_takesWord_23 (by decide) ⟨rfl, _, rfl, h⟩
  · replace h := h.2 q
    refine A_iconst (v := 1) dX8_takesWord_8 rfl ?_
    refine A_goto (tgt := 13) dX8_takesWord_9 (by decide) ?_
    refine A_istore_n (ls' := [(2, _), (0, _), (1, _)]) dX8_takesWord_13 rfl (by decide) rfl ?_
    refine A_iload_n dX8_takesWord_14 rfl rfl ?_
    refine B_if_eq (tgt := 22) dX8_takesWord_15 (by decide) (wlitI (by decide) (by decide)) ⟨fun q => absurd q (by decide), fun q => ?_⟩
    refine A_aload_n dX8_takesWord_18 rfl rfl ?_
    refine B_callV_V (av := []) rfl dX8_takesWord_19 vX8_22 mX8_next ⟨rfl, rfl, by decide⟩ (okK8 (by omega)) rfl (Nat.le_of_ble_eq_true rfl) (by decide) (by decide) rfl (BC_monoV h (fun N2 h => ?_))
    refine A_iload_n dX8_takesWord_22 rfl rfl ?_
    exact A_zret dX8_takesWord_23 (by decide) ⟨rfl, _, rfl, h⟩
set_option maxRecDepth 100000 in
set_option maxHeartbeats 4000000 in
theorem vc_X8_which {G : GT} {i1 : Nat} {N : NN} {K : Int → NN → Prop} (h_i1 : i1 < 11) (h : (((wI (N 8 0 5)) = 1 → W_X8_which G K 17 [(0, vR 8 0), (1, vR 200 i1), (2, vI 0), (3, vI 0), (4, vI 0)] [] N) ∧ (¬ ((wI (N 8 0 5)) = 1) → K ((-1)) N))) : C_X8_which G i1 N K := by
  refine Ctr.ofAW RX8 false rfl (by decide +kernel) (fun q => by cases q) (Nat.le_of_ble_eq_true rfl) (Nat.le_refl _) ?_
  refine A_aload_n dX8_which_0 rfl rfl ?_
  refine A_getI dX8_which_1 fX8_36 rfl (okK8 (by omega)) ?_
  refine A_iconst (v := 1) dX8_which_4 rfl ?_
  refine B_icmp_eq (tgt := 10) dX8_which_5 (by decide) rfl (wlitI (by decide) (by decide)) ⟨fun q => ?_, fun q => ?_⟩
  · replace h := h.1 q
    refine A_iconst (v := 0) dX8_which_10 rfl ?_
    refine A_istore_n (ls' := [(2, _), (0, _), (1, _)]) dX8_which_11 rfl (by decide) rfl ?_
    refine A_iconst (v := 0) dX8_which_12 rfl ?_
    refine A_istore_n (ls' := [(3, _), (2, _), (0, _), (1, _)]) dX8_which_13 rfl (by decide) rfl ?_
    refine A_iconst (v := 0) dX8_which_14 rfl ?_
    refine A_istore (ls' := [(4, _), (3, _), (2, _), (0, _), (1, _)]) dX8_which_15 (by decide) rfl ?_
    exact A_pick [3, 4, 2, 1, 0] rfl h
  · replace h := h.2 q
    refine A_iconst (v := (-1)) dX8_which_8 rfl ?_
    exact A_iret dX8_which_9 ⟨rfl, _, rfl, h⟩
set_option maxRecDepth 100000 in
set_option maxHeartbeats 4000000 in
theorem vc_X8_which_17 {G : GT} {i1 : Nat} {l2 : Int} {l3 : Int} {l4 : Int} {N : NN} {K : Int → NN → Prop} (h_i1 : i1 < 11) (h : (((wI (strLen i1)) < (wI l4) → K ((-1)) N) ∧ (¬ ((wI (strLen i1)) < (wI l4)) → (((wI l4) = (wI (strLen i1)) → (C_X8_isSame G i1 l3 l4 N (fun x1 N1 => (((wI x1) = 0 → W_X8_which G K 17 [(0, vR 8 0), (1, vR 200 i1), (2, vI (l2 + 1)), (3, vI (l4 + 1)), (4, vI (l4 + 1))] [] N1) ∧ (¬ ((wI x1) = 0) → K l2 N1))))) ∧ (¬ ((wI l4) = (wI (strLen i1))) → (∃ j2 : Nat, (wI l4) = (j2 : Int) ∧ j2 < strLenN i1 ∧ (((wI (strAt i1 j2)) ≠ 32 → W_X8_which G K 17 [(0, vR 8 0), (1, vR 200 i1), (2, vI l2), (3, vI l3), (4, vI (l4 + 1))] [] N) ∧ (¬ ((wI (strAt i1 j2)) ≠ 32) → (C_X8_isSame G i1 l3 l4 N (fun x3 N3 => (((wI x3) = 0 → W_X8_which G K 17 [(0, vR 8 0), (1, vR 200 i1), (2, vI (l2 + 1)), (3, vI (l4 + 1)), (4, vI (l4 + 1))] [] N3) ∧ (¬ ((wI x3) = 0) → K l2 N3)))))))))))) : W_X8_which G K 17 [(0, vR 8 0), (1, vR 200 i1), (2, vI l2), (3, vI l3), (4, vI l4)] [] N := by
  refine A_iload dX8_which_17 rfl ?_
  refine A_aload_n dX8_which_19 rfl rfl ?_
  refine J_length dX8_which_20 (by omega) (Nat.le_of_ble_eq_true rfl) ?_
  refine B_icmp_gt (tgt := 73) dX8_which_23 (by decide) rfl rfl ⟨fun q => ?_, fun q => ?_⟩
  · replace h := h.1 q
    refine A_iconst (v := (-1)) dX8_which_73 rfl ?_
    exact A_iret dX8_which_74 ⟨rfl, _, rfl, h⟩
  · replace h := h.2 q
    refine A_iload dX8_which_26 rfl ?_
    refine A_aload_n dX8_which_28 rfl rfl ?_
    refine J_length dX8_which_29 (by omega) (Nat.le_of_ble_eq_true rfl) ?_
    refine B_icmp_eq (tgt := 46) dX8_which_32 (by decide) rfl rfl ⟨fun q => ?_, fun q => ?_⟩
    · replace h := h.1 q
      refine A_aload_n dX8_which_46 rfl rfl ?_
      refine A_aload_n dX8_which_47 rfl rfl ?_
      refine A_iload_n dX8_which_48 rfl rfl ?_
      refine A_iload dX8_which_49 rfl ?_
      refine B_callV_I (av := [vR 200 i1, vI l3, vI l4]) rfl dX8_which_51 vX8_74 mX8_isSame ⟨rfl, rfl, by decide⟩ (okK8 (by omega)) rfl (Nat.le_of_ble_eq_true rfl) (by decide) (by decide) rfl (BC_monoI h (fun x1 N1 h => ?_))
      refine B_if_eq (tgt := 59) dX8_which_54 (by decide) rfl ⟨fun q => ?_, fun q => ?_⟩
      · replace h := h.1 q
        refine A_iinc (ls' := [(2, _), (0, _), (1, _), (3, _), (4, _)]) dX8_which_59 (by decide) rfl rfl rfl ?_
        refine A_iload dX8_which_62 rfl ?_
        refine A_iconst (v := 1) dX8_which_64 rfl ?_
        refine A_iadd dX8_which_65 ?_
        refine A_istore_n (ls' := [(3, _), (2, _), (0, _), (1, _), (4, _)]) dX8_which_66 rfl (by decide) rfl ?_
        refine A_iinc (ls' := [(4, _), (3, _), (2, _), (0, _), (1, _)]) dX8_which_67 (by decide) rfl rfl rfl ?_
        refine A_goto (tgt := 17) dX8_which_70 (by decide) ?_
        exact A_pick [3, 4, 2, 1, 0] rfl h
      · replace h := h.2 q
        refine A_iload_n dX8_which_57 rfl rfl ?_
        exact A_iret dX8_which_58 ⟨rfl, _, rfl, h⟩
    · replace h := h.2 q
      refine A_aload_n dX8_which_35 rfl rfl ?_
      refine A_iload dX8_which_36 rfl ?_
      obtain ⟨j2, qj2, bj2, h⟩ := h
      refine J_charAt (j := j2) dX8_which_38 (by omega) qj2 bj2 (Nat.le_of_ble_eq_true rfl) ?_
      refine A_bipush (v := 32) dX8_which_41 (by decide +kernel) ?_
      refine B_icmp_ne (tgt := 67) dX8_which_43 (by decide) rfl (wlitI (by decide) (by decide)) ⟨fun q => ?_, fun q => ?_⟩
      · replace h := h.1 q
        refine A_iinc (ls' := [(4, _), (0, _), (1, _), (2, _), (3, _)]) dX8_which_67 (by decide) rfl rfl rfl ?_
        refine A_goto (tgt := 17) dX8_which_70 (by decide) ?_
        exact A_pick [1, 2, 3, 4, 0] rfl h
      · replace h := h.2 q
        refine A_aload_n dX8_which_46 rfl rfl ?_
        refine A_aload_n dX8_which_47 rfl rfl ?_
        refine A_iload_n dX8_which_48 rfl rfl ?_
        refine A_iload dX8_which_49 rfl ?_
        refine B_callV_I (av := [vR 200 i1, vI l3, vI l4]) rfl dX8_which_51 vX8_74 mX8_isSame ⟨rfl, rfl, by decide⟩ (okK8 (by omega)) rfl (Nat.le_of_ble_eq_true rfl) (by decide) (by decide) rfl (BC_monoI h (fun x3 N3 h => ?_))
        refine B_if_eq (tgt := 59) dX8_which_54 (by decide) rfl ⟨fun q => ?_, fun q => ?_⟩
        · replace h := h.1 q
          refine A_iinc (ls' := [(2, _), (0, _), (1, _), (3, _), (4, _)]) dX8_which_59 (by decide) rfl rfl rfl ?_
          refine A_iload dX8_which_62 rfl ?_
          refine A_iconst (v := 1) dX8_which_64 rfl ?_
          refine A_iadd dX8_which_65 ?_
          refine A_istore_n (ls' := [(3, _), (2, _), (0, _), (1, _), (4, _)]) dX8_which_66 rfl (by decide) rfl ?_
          refine A_iinc (ls' := [(4, _), (3, _), (2, _), (0, _), (1, _)]) dX8_which_67 (by decide) rfl rfl rfl ?_
          refine A_goto (tgt := 17) dX8_which_70 (by decide) ?_
          exact A_pick [3, 4, 2, 1, 0] rfl h
        · replace h := h.2 q
          refine A_iload_n dX8_which_57 rfl rfl ?_
          exact A_iret dX8_which_58 ⟨rfl, _, rfl, h⟩
set_option maxRecDepth 100000 in
set_option maxHeartbeats 4000000 in
theorem vc_X8_isSame {G : GT} {i1 : Nat} {a2 : Int} {a3 : Int} {N : NN} {K : Int → NN → Prop} (h_i1 : i1 < 11) (h : (((wI (a3 - a2)) = (wI ((N 8 0 4) - (N 8 0 2))) → W_X8_isSame G K 20 [(0, vR 8 0), (1, vR 200 i1), (2, vI a2), (3, vI a3), (4, vI a2)] [] N) ∧ (¬ ((wI (a3 - a2)) = (wI ((N 8 0 4) - (N 8 0 2)))) → K 0 N))) : C_X8_isSame G i1 a2 a3 N K := by
  refine Ctr.ofAW RX8 false rfl (by decide +kernel) (fun q => by cases q) (Nat.le_of_ble_eq_true rfl) (Nat.le_refl _) ?_
  refine A_iload_n dX8_isSame_0 rfl rfl ?_
  refine A_iload_n dX8_isSame_1 rfl rfl ?_
  refine A_isub dX8_isSame_2 ?_
  refine A_aload_n dX8_isSame_3 rfl rfl ?_
  refine A_getI dX8_isSame_4 fX8_19 rfl (okK8 (by omega)) ?_
  refine A_aload_n dX8_isSame_7 rfl rfl ?_
  refine A_getI dX8_isSame_8 fX8_25 rfl (okK8 (by omega)) ?_
  refine A_isub dX8_isSame_11 ?_
  refine B_icmp_eq (tgt := 17) dX8_isSame_12 (by decide) rfl rfl ⟨fun q => ?_, fun q => ?_⟩
  · replace h := h.1 q
    refine A_iload_n dX8_isSame_17 rfl rfl ?_
    refine A_istore (ls' := [(4, _), (0, _), (1, _), (2, _), (3, _)]) dX8_isSame_18 (by decide) rfl ?_
    exact A_pick [1, 2, 3, 4, 0] rfl h
  · replace h := h.2 q
    refine A_iconst (v := 0) dX8_isSame_15 rfl ?_
    exact A_zret dX8_isSame_16 (by decide) ⟨rfl, _, rfl, h⟩
set_option maxRecDepth 100000 in
set_option maxHeartbeats 4000000 in
theorem vc_X8_isSame_20 {G : GT} {i1 : Nat} {l2 : Int} {l3 : Int} {l4 : Int} {N : NN} {K : Int → NN → Prop} (h_i1 : i1 < 11) (h : (((wI l3) ≤ (wI l4) → K 1 N) ∧ (¬ ((wI l3) ≤ (wI l4)) → (∃ j1 : Nat, (wI l4) = (j1 : Int) ∧ j1 < strLenN i1 ∧ (C_X8_at G (((N 8 0 2) + l4) - l2) N (fun x2 N2 => (((wI (strAt i1 j1)) = (wI x2) → W_X8_isSame G K 20 [(0, vR 8 0), (1, vR 200 i1), (2, vI l2), (3, vI l3), (4, vI (l4 + 1))] [] N2) ∧ (¬ ((wI (strAt i1 j1)) = (wI x2)) → K 0 N2)))))))) : W_X8_isSame G K 20 [(0, vR 8 0), (1, vR 200 i1), (2, vI l2), (3, vI l3), (4, vI l4)] [] N := by
  refine A_iload dX8_isSame_20 rfl ?_
  refine A_iload_n dX8_isSame_22 rfl rfl ?_
  refine B_icmp_ge (tgt := 56) dX8_isSame_23 (by decide) rfl rfl ⟨fun q => ?_, fun q => ?_⟩
  · replace h := h.1 q
    refine A_iconst (v := 1) dX8_isSame_56 rfl ?_
    exact A_zret dX8_isSame_57 (by decide) ⟨rfl, _, rfl, h⟩
  · replace h := h.2 q
    refine A_aload_n dX8_isSame_26 rfl rfl ?_
    refine A_iload dX8_isSame_27 rfl ?_
    obtain ⟨j1, qj1, bj1, h⟩ := h
    refine J_charAt (j := j1) dX8_isSame_29 (by omega) qj1 bj1 (Nat.le_of_ble_eq_true rfl) ?_
    refine A_aload_n dX8_isSame_32 rfl rfl ?_
    refine A_aload_n dX8_isSame_33 rfl rfl ?_
    refine A_getI dX8_isSame_34 fX8_25 rfl (okK8 (by omega)) ?_
    refine A_iload dX8_isSame_37 rfl ?_
    refine A_iadd dX8_isSame_39 ?_
    refine A_iload_n dX8_isSame_40 rfl rfl ?_
    refine A_isub dX8_isSame_41 ?_
    refine B_callV_I (av := [vI (((N 8 0 2) + l4) - l2)]) rfl dX8_isSame_42 vX8_28 mX8_at ⟨rfl, rfl, by decide⟩ (okK8 (by omega)) rfl (Nat.le_of_ble_eq_true rfl) (by decide) (by decide) rfl (BC_monoI h (fun x2 N2 h => ?_))
    refine B_icmp_eq (tgt := 50) dX8_isSame_45 (by decide) rfl rfl ⟨fun q => ?_, fun q => ?_⟩
    · replace h := h.1 q
      refine A_iinc (ls' := [(4, _), (0, _), (1, _), (2, _), (3, _)]) dX8_isSame_50 (by decide) rfl rfl rfl ?_
      refine A_goto (tgt := 20) dX8_isSame_53 (by decide) ?_
      exact A_pick [1, 2, 3, 4, 0] rfl h
    · replace h := h.2 q
      refine A_iconst (v := 0) dX8_isSame_48 rfl ?_
      exact A_zret dX8_isSame_49 (by decide) ⟨rfl, _, rfl, h⟩
