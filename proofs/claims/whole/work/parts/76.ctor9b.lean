/-! the class's own constructor -/
def N0 : NN := fun _ _ _ => 0
def R0 : RR := fun _ _ _ => none
theorem Bl0 : Bl 0 N0 R0 := fun _ _ _ _ => ⟨rfl, rfl⟩
theorem lay_p (p : Nat) (f : Nat → Nat × Nat) (b s len : Nat) (h : ∀ j, j < len → layF (b + s * j) = f j) : ∀ j, j < len → layF (b + s * j) = f j := h
theorem h9_X3 {G : GT} {n1 i m : Nat} {Z : ZT} {ls : List (Nat × AV)} {st : List AV} {N : NN} {R : RR} (hl : layF m = (3, i)) (hl1 : layF (m + 1) = (28, i)) (hm : m + 2 ≤ TOT) (hn : m + 2 ≤ n1) (hst : (st.map fun v => if isL v then 2 else 1).sum ≤ 8) (hB : Bl m N R) (h : AW G RX9 cX9_init 2 none true (rmL 4 1 n1) 1 Z 146 ls st (m + 2) (pt m (m + 2) NB N) (pt m (m + 2) RB R)) : AW G RX9 cX9_init 2 none true (rmL 4 1 n1) 1 Z 143 ls (vR 3 i :: st) (m + 1) N R := by
  refine A_callN (av := []) (st := st) (L := 1) (n1 := m + 2) dX9_init_143 vX9_31 mX3_init rfl hst ⟨by omega, hm⟩ ⟨Nat.le_of_ble_eq_true rfl, Nat.le_of_ble_eq_true rfl⟩ (rm_le hn) (Ctr.mono (i_X3 hl hl1 hm N R hB) (fun r N1 R1 hh => ?_)) rfl
  obtain ⟨rfl, rfl, rfl⟩ := hh
  exact h
theorem h9_X1 {G : GT} {n1 i m : Nat} {Z : ZT} {ls : List (Nat × AV)} {st : List AV} {N : NN} {R : RR} (hl : layF m = (1, i)) (hl1 : layF (m + 1) = (29, i)) (hl2 : layF (m + 2) = (30, i)) (hl3 : layF (m + 3) = (31, i)) (hm : m + 4 ≤ TOT) (hn : m + 4 ≤ n1) (hst : (st.map fun v => if isL v then 2 else 1).sum ≤ 8) (hB : Bl m N R) (h : AW G RX9 cX9_init 2 none true (rmL 4 1 n1) 1 Z 176 ls st (m + 4) (pt m (m + 4) NB N) (pt m (m + 4) RB R)) : AW G RX9 cX9_init 2 none true (rmL 4 1 n1) 1 Z 173 ls (vR 1 i :: st) (m + 1) N R := by
  refine A_callN (av := []) (st := st) (L := 1) (n1 := m + 4) dX9_init_173 vX9_76 mX1_init rfl hst ⟨by omega, hm⟩ ⟨Nat.le_of_ble_eq_true rfl, Nat.le_of_ble_eq_true rfl⟩ (rm_le hn) (Ctr.mono (i_X1 hl hl1 hl2 hl3 hm N R hB) (fun r N1 R1 hh => ?_)) rfl
  obtain ⟨rfl, rfl, rfl⟩ := hh
  exact h
theorem h9_X4 {G : GT} {n1 i m : Nat} {Z : ZT} {ls : List (Nat × AV)} {st : List AV} {N : NN} {R : RR} (hl : layF m = (4, i)) (hl1 : layF (m + 1) = (32, i)) (hlj : ∀ j, j < 10 → layF (m + 1 + (j + 1)) = (33, 10 * i + j)) (hm : m + 12 ≤ TOT) (hn : m + 12 ≤ n1) (hst : (st.map fun v => if isL v then 2 else 1).sum ≤ 8) (hB : Bl m N R) (h : AW G RX9 cX9_init 2 none true (rmL 4 1 n1) 1 Z 206 ls st (m + 12) (pt m (m + 12) NB N) (pt m (m + 12) RB R)) : AW G RX9 cX9_init 2 none true (rmL 4 1 n1) 1 Z 203 ls (vR 4 i :: st) (m + 1) N R := by
  refine A_callI (av := []) (st := st) (L := 3) (n1 := m + 12) dX9_init_203 vX9_77 mX4_init rfl hst ⟨by omega, hm⟩ ⟨Nat.le_of_ble_eq_true rfl, Nat.le_of_ble_eq_true rfl⟩ (rm_le hn) (Ctr.mono (i_X4 hl hl1 hlj hm N R hB) (fun r N1 R1 hh => ?_)) rfl
  obtain ⟨rfl, rfl, rfl⟩ := hh
  exact h
theorem h9_X7 {G : GT} {n1 i m : Nat} {Z : ZT} {ls : List (Nat × AV)} {st : List AV} {N : NN} {R : RR} (hl : layF m = (7, i)) (hl1 : layF (m + 1) = (34, i)) (hm : m + 2 ≤ TOT) (hn : m + 2 ≤ n1) (hst : (st.map fun v => if isL v then 2 else 1).sum ≤ 8) (hB : Bl m N R) (h : AW G RX9 cX9_init 2 none true (rmL 4 1 n1) 1 Z 236 ls st (m + 2) (pt m (m + 2) NB N) (pt m (m + 2) RB R)) : AW G RX9 cX9_init 2 none true (rmL 4 1 n1) 1 Z 233 ls (vR 7 i :: st) (m + 1) N R := by
  refine A_callN (av := []) (st := st) (L := 1) (n1 := m + 2) dX9_init_233 vX9_78 mX7_init rfl hst ⟨by omega, hm⟩ ⟨Nat.le_of_ble_eq_true rfl, Nat.le_of_ble_eq_true rfl⟩ (rm_le hn) (Ctr.mono (i_X7 hl hl1 hm N R hB) (fun r N1 R1 hh => ?_)) rfl
  obtain ⟨rfl, rfl, rfl⟩ := hh
  exact h
def NE9 : NN := pt 270 278 NB (pt 198 270 NB (pt 174 198 NB (pt 52 174 NB (up3 (up3 (pt 47 49 NB (pt 43 45 NB (pt 36 43 NB (pt 22 36 NB (pt 15 22 NB (pt 1 15 NB N0)))))) 9 0 12 1) 9 0 13 1))))
def RE9 : RR := upR (rowR (pt 270 278 RB (rowR (pt 198 270 RB (rowR (pt 174 198 RB (rowR (pt 52 174 RB (upR (upR (upR (upR (pt 47 49 RB (upR (upR (upR (pt 43 45 RB (upR (pt 36 43 RB (upR (pt 22 36 RB (upR (pt 15 22 RB (upR (pt 1 15 RB (R0)) 9 0 0 (some (6, 0)))) 9 0 1 (some (0, 0)))) 9 0 2 (some (6, 1)))) 9 0 3 (some (0, 1)))) 9 0 4 (some (3, 61))) 9 0 5 (some (22, 0))) 9 0 6 (some (23, 0)))) 9 0 7 (some (8, 0))) 9 0 8 (some (25, 0))) 9 0 9 (some (26, 0))) 9 0 10 (some (27, 0)))) 22 0 61 (fun k => (3, k)))) 25 0 6 (fun k => (1, k)))) 26 0 6 (fun k => (4, k)))) 27 0 4 (fun k => (7, k))) 6 0 6 (some (1, 0))
def Q9 : QT := fun r N' R' => r = none ∧ N' = NE9 ∧ R' = RE9
set_option maxHeartbeats 4000000 in
theorem i_X9 {G : GT} : Ctr G yX9_init cX9_init 2 none 4 1 278 [vR 9 0] N0 R0 Q9 := by
  refine Ctr.ofAW RX9 true rfl (by decide) (fun _ => rfl) (Nat.le_of_ble_eq_true rfl) (by decide) ?_
  have hB : Bl 1 N0 R0 := Bl0.up (by decide)
  refine A_aload_n (i := 0) dX9_init_0 rfl rfl ?_
  refine A_objInit dX9_init_1 (mT1 (i := 23) rfl rfl) ob_i ob_c (by decide) (Nat.le_of_ble_eq_true rfl) (Nat.le_of_ble_eq_true rfl) ?_
  refine A_aload_n (i := 0) dX9_init_4 rfl rfl ?_
  refine A_new (c := 6) (i := 0) dX9_init_5 CF6 (mT1 (i := 26) rfl rfl) (mT1 (i := 27) rfl rfl) (mT1 (i := 2) rfl rfl) (by decide +kernel) (by decide) (rm_le (by decide)) (fun k => (hB.at (by decide +kernel : layF 1 = (6, 0)) (by decide) k).1) (fun k => (hB.at (by decide +kernel : layF 1 = (6, 0)) (by decide) k).2) ?_
  refine A_dup dX9_init_8 rfl ?_
  refine A_callI (av := []) (L := 2) (c := 6) (i := 0) (n := 2) (n1 := 15) dX9_init_9 vX9_9 mX6_init rfl (by decide) (by decide) ⟨Nat.le_of_ble_eq_true rfl, Nat.le_of_ble_eq_true rfl⟩ (rm_le (by decide)) (Ctr.mono (i_X6 (m := 1) (by decide +kernel : layF 1 = (6, 0)) (by decide +kernel) (by decide +kernel) (by decide) _ _ hB) (fun r N1 R1 hh => ?_)) rfl
  obtain ⟨rfl, rfl, rfl⟩ := hh
  refine A_putR dX9_init_12 fX9_10 (fun _ => rfl) (fun _ q hq => by cases hq; rfl) rfl (fun _ => ⟨rfl, rfl⟩) ⟨by decide +kernel, by decide +kernel⟩ ?_
  replace hB := ((hB.up (by decide : 1 ≤ 15)).p (F0 := NB) (F1 := RB) (a := 1)).r (c := 9) (i := 0) (k := 0) (v := some (6, 0)) ⟨by decide +kernel, by decide +kernel⟩
  refine A_aload_n (i := 0) dX9_init_15 rfl rfl ?_
  refine A_new (c := 0) (i := 0) dX9_init_16 CF0 (mT1 (i := 109) rfl rfl) (mT1 (i := 110) rfl rfl) (mT1 (i := 4) rfl rfl) (by decide +kernel) (by decide) (rm_le (by decide)) (fun k => (hB.at (by decide +kernel : layF 15 = (0, 0)) (by decide) k).1) (fun k => (hB.at (by decide +kernel : layF 15 = (0, 0)) (by decide) k).2) ?_
  refine A_dup dX9_init_19 rfl ?_
  refine A_callI (av := []) (L := 2) (c := 0) (i := 0) (n := 16) (n1 := 22) dX9_init_20 vX9_18 mX0_init rfl (by decide) (by decide) ⟨Nat.le_of_ble_eq_true rfl, Nat.le_of_ble_eq_true rfl⟩ (rm_le (by decide)) (Ctr.mono (i_X0 (m := 15) (by decide +kernel : layF 15 = (0, 0)) (by decide +kernel) (by decide +kernel) (by decide) _ _ hB) (fun r N1 R1 hh => ?_)) rfl
  obtain ⟨rfl, rfl, rfl⟩ := hh
  refine A_putR dX9_init_23 fX9_19 (fun _ => rfl) (fun _ q hq => by cases hq; rfl) rfl (fun _ => ⟨rfl, rfl⟩) ⟨by decide +kernel, by decide +kernel⟩ ?_
  replace hB := ((hB.up (by decide : 15 ≤ 22)).p (F0 := NB) (F1 := RB) (a := 15)).r (c := 9) (i := 0) (k := 1) (v := some (0, 0)) ⟨by decide +kernel, by decide +kernel⟩
  refine A_aload_n (i := 0) dX9_init_26 rfl rfl ?_
  refine A_new (c := 6) (i := 1) dX9_init_27 CF6 (mT1 (i := 26) rfl rfl) (mT1 (i := 27) rfl rfl) (mT1 (i := 2) rfl rfl) (by decide +kernel) (by decide) (rm_le (by decide)) (fun k => (hB.at (by decide +kernel : layF 22 = (6, 1)) (by decide) k).1) (fun k => (hB.at (by decide +kernel : layF 22 = (6, 1)) (by decide) k).2) ?_
  refine A_dup dX9_init_30 rfl ?_
  refine A_callI (av := []) (L := 2) (c := 6) (i := 1) (n := 23) (n1 := 36) dX9_init_31 vX9_9 mX6_init rfl (by decide) (by decide) ⟨Nat.le_of_ble_eq_true rfl, Nat.le_of_ble_eq_true rfl⟩ (rm_le (by decide)) (Ctr.mono (i_X6 (m := 22) (by decide +kernel : layF 22 = (6, 1)) (by decide +kernel) (by decide +kernel) (by decide) _ _ hB) (fun r N1 R1 hh => ?_)) rfl
  obtain ⟨rfl, rfl, rfl⟩ := hh
  refine A_putR dX9_init_34 fX9_23 (fun _ => rfl) (fun _ q hq => by cases hq; rfl) rfl (fun _ => ⟨rfl, rfl⟩) ⟨by decide +kernel, by decide +kernel⟩ ?_
  replace hB := ((hB.up (by decide : 22 ≤ 36)).p (F0 := NB) (F1 := RB) (a := 22)).r (c := 9) (i := 0) (k := 2) (v := some (6, 1)) ⟨by decide +kernel, by decide +kernel⟩
  refine A_aload_n (i := 0) dX9_init_37 rfl rfl ?_
  refine A_new (c := 0) (i := 1) dX9_init_38 CF0 (mT1 (i := 109) rfl rfl) (mT1 (i := 110) rfl rfl) (mT1 (i := 4) rfl rfl) (by decide +kernel) (by decide) (rm_le (by decide)) (fun k => (hB.at (by decide +kernel : layF 36 = (0, 1)) (by decide) k).1) (fun k => (hB.at (by decide +kernel : layF 36 = (0, 1)) (by decide) k).2) ?_
  refine A_dup dX9_init_41 rfl ?_
  refine A_callI (av := []) (L := 2) (c := 0) (i := 1) (n := 37) (n1 := 43) dX9_init_42 vX9_18 mX0_init rfl (by decide) (by decide) ⟨Nat.le_of_ble_eq_true rfl, Nat.le_of_ble_eq_true rfl⟩ (rm_le (by decide)) (Ctr.mono (i_X0 (m := 36) (by decide +kernel : layF 36 = (0, 1)) (by decide +kernel) (by decide +kernel) (by decide) _ _ hB) (fun r N1 R1 hh => ?_)) rfl
  obtain ⟨rfl, rfl, rfl⟩ := hh
  refine A_putR dX9_init_45 fX9_26 (fun _ => rfl) (fun _ q hq => by cases hq; rfl) rfl (fun _ => ⟨rfl, rfl⟩) ⟨by decide +kernel, by decide +kernel⟩ ?_
  replace hB := ((hB.up (by decide : 36 ≤ 43)).p (F0 := NB) (F1 := RB) (a := 36)).r (c := 9) (i := 0) (k := 3) (v := some (0, 1)) ⟨by decide +kernel, by decide +kernel⟩
  refine A_aload_n (i := 0) dX9_init_48 rfl rfl ?_
  refine A_new (c := 3) (i := 61) dX9_init_49 CF3 (mT1 (i := 197) rfl rfl) (mT1 (i := 198) rfl rfl) (mT1 (i := 6) rfl rfl) (by decide +kernel) (by decide) (rm_le (by decide)) (fun k => (hB.at (by decide +kernel : layF 43 = (3, 61)) (by decide) k).1) (fun k => (hB.at (by decide +kernel : layF 43 = (3, 61)) (by decide) k).2) ?_
  refine A_dup dX9_init_52 rfl ?_
  refine A_callN (av := []) (L := 1) (c := 3) (i := 61) (n := 44) (n1 := 45) dX9_init_53 vX9_31 mX3_init rfl (by decide) (by decide) ⟨Nat.le_of_ble_eq_true rfl, Nat.le_of_ble_eq_true rfl⟩ (rm_le (by decide)) (Ctr.mono (i_X3 (m := 43) (by decide +kernel : layF 43 = (3, 61)) (by decide +kernel) (by decide) _ _ hB) (fun r N1 R1 hh => ?_)) rfl
  obtain ⟨rfl, rfl, rfl⟩ := hh
  refine A_putR dX9_init_56 fX9_32 (fun _ => rfl) (fun _ q hq => by cases hq; rfl) rfl (fun _ => ⟨rfl, rfl⟩) ⟨by decide +kernel, by decide +kernel⟩ ?_
  replace hB := ((hB.up (by decide : 43 ≤ 45)).p (F0 := NB) (F1 := RB) (a := 43)).r (c := 9) (i := 0) (k := 4) (v := some (3, 61)) ⟨by decide +kernel, by decide +kernel⟩
  refine A_aload_n (i := 0) dX9_init_59 rfl rfl ?_
  refine A_bipush (v := 61) dX9_init_60 (by decide +kernel) ?_
  refine A_anew (c := 22) (i := 0) dX9_init_62 (by decide) rfl (mT1 (i := 197) rfl rfl) (by decide) rfl (by decide) (by decide +kernel) (by decide) (rm_le (by decide)) (fun k => (hB.at (by decide +kernel : layF 45 = (22, 0)) (by decide) k).1) (fun k => (hB.at (by decide +kernel : layF 45 = (22, 0)) (by decide) k).2) ?_
  refine A_putR dX9_init_65 fX9_36 (fun _ => rfl) (fun _ q hq => by cases hq; rfl) rfl (fun _ => ⟨rfl, rfl⟩) ⟨by decide +kernel, by decide +kernel⟩ ?_
  replace hB := (hB.up (by decide : 45 ≤ 46)).r (c := 9) (i := 0) (k := 5) (v := some (22, 0)) ⟨by decide +kernel, by decide +kernel⟩
  refine A_aload_n (i := 0) dX9_init_68 rfl rfl ?_
  refine A_bipush (v := 62) dX9_init_69 (by decide +kernel) ?_
  refine A_newa (c := 23) (i := 0) (atype := .int) dX9_init_71 (by decide) rfl (mT2 (i := 56) rfl rfl) rfl (by decide) (by decide +kernel) (by decide) (rm_le (by decide)) (fun k => (hB.at (by decide +kernel : layF 46 = (23, 0)) (by decide) k).1) (fun k => (hB.at (by decide +kernel : layF 46 = (23, 0)) (by decide) k).2) ?_
  refine A_putR dX9_init_73 fX9_40 (fun _ => rfl) (fun _ q hq => by cases hq; rfl) rfl (fun _ => ⟨rfl, rfl⟩) ⟨by decide +kernel, by decide +kernel⟩ ?_
  replace hB := (hB.up (by decide : 46 ≤ 47)).r (c := 9) (i := 0) (k := 6) (v := some (23, 0)) ⟨by decide +kernel, by decide +kernel⟩
  refine A_aload_n (i := 0) dX9_init_76 rfl rfl ?_
  refine A_new (c := 8) (i := 0) dX9_init_77 CF8 (mT2 (i := 26) rfl rfl) (mT2 (i := 27) rfl rfl) (mT1 (i := 7) rfl rfl) (by decide +kernel) (by decide) (rm_le (by decide)) (fun k => (hB.at (by decide +kernel : layF 47 = (8, 0)) (by decide) k).1) (fun k => (hB.at (by decide +kernel : layF 47 = (8, 0)) (by decide) k).2) ?_
  refine A_dup dX9_init_80 rfl ?_
  refine A_callN (av := []) (L := 1) (c := 8) (i := 0) (n := 48) (n1 := 49) dX9_init_81 vX9_46 mX8_init rfl (by decide) (by decide) ⟨Nat.le_of_ble_eq_true rfl, Nat.le_of_ble_eq_true rfl⟩ (rm_le (by decide)) (Ctr.mono (i_X8 (m := 47) (by decide +kernel : layF 47 = (8, 0)) (by decide +kernel) (by decide) _ _ hB) (fun r N1 R1 hh => ?_)) rfl
  obtain ⟨rfl, rfl, rfl⟩ := hh
  refine A_putR dX9_init_84 fX9_47 (fun _ => rfl) (fun _ q hq => by cases hq; rfl) rfl (fun _ => ⟨rfl, rfl⟩) ⟨by decide +kernel, by decide +kernel⟩ ?_
  replace hB := ((hB.up (by decide : 47 ≤ 49)).p (F0 := NB) (F1 := RB) (a := 47)).r (c := 9) (i := 0) (k := 7) (v := some (8, 0)) ⟨by decide +kernel, by decide +kernel⟩
  refine A_aload_n (i := 0) dX9_init_87 rfl rfl ?_
  refine A_bipush (v := 6) dX9_init_88 (by decide +kernel) ?_
  refine A_anew (c := 25) (i := 0) dX9_init_90 (by decide) rfl (mT2 (i := 58) rfl rfl) (by decide) rfl (by decide) (by decide +kernel) (by decide) (rm_le (by decide)) (fun k => (hB.at (by decide +kernel : layF 49 = (25, 0)) (by decide) k).1) (fun k => (hB.at (by decide +kernel : layF 49 = (25, 0)) (by decide) k).2) ?_
  refine A_putR dX9_init_93 fX9_53 (fun _ => rfl) (fun _ q hq => by cases hq; rfl) rfl (fun _ => ⟨rfl, rfl⟩) ⟨by decide +kernel, by decide +kernel⟩ ?_
  replace hB := (hB.up (by decide : 49 ≤ 50)).r (c := 9) (i := 0) (k := 8) (v := some (25, 0)) ⟨by decide +kernel, by decide +kernel⟩
  refine A_aload_n (i := 0) dX9_init_96 rfl rfl ?_
  refine A_bipush (v := 6) dX9_init_97 (by decide +kernel) ?_
  refine A_anew (c := 26) (i := 0) dX9_init_99 (by decide) rfl (mT2 (i := 60) rfl rfl) (by decide) rfl (by decide) (by decide +kernel) (by decide) (rm_le (by decide)) (fun k => (hB.at (by decide +kernel : layF 50 = (26, 0)) (by decide) k).1) (fun k => (hB.at (by decide +kernel : layF 50 = (26, 0)) (by decide) k).2) ?_
  refine A_putR dX9_init_102 fX9_59 (fun _ => rfl) (fun _ q hq => by cases hq; rfl) rfl (fun _ => ⟨rfl, rfl⟩) ⟨by decide +kernel, by decide +kernel⟩ ?_
  replace hB := (hB.up (by decide : 50 ≤ 51)).r (c := 9) (i := 0) (k := 9) (v := some (26, 0)) ⟨by decide +kernel, by decide +kernel⟩
  refine A_aload_n (i := 0) dX9_init_105 rfl rfl ?_
  refine A_iconst (v := 4) dX9_init_106 rfl ?_
  refine A_anew (c := 27) (i := 0) dX9_init_107 (by decide) rfl (mT2 (i := 62) rfl rfl) (by decide) rfl (by decide) (by decide +kernel) (by decide) (rm_le (by decide)) (fun k => (hB.at (by decide +kernel : layF 51 = (27, 0)) (by decide) k).1) (fun k => (hB.at (by decide +kernel : layF 51 = (27, 0)) (by decide) k).2) ?_
  refine A_putR dX9_init_110 fX9_65 (fun _ => rfl) (fun _ q hq => by cases hq; rfl) rfl (fun _ => ⟨rfl, rfl⟩) ⟨by decide +kernel, by decide +kernel⟩ ?_
  replace hB := (hB.up (by decide : 51 ≤ 52)).r (c := 9) (i := 0) (k := 10) (v := some (27, 0)) ⟨by decide +kernel, by decide +kernel⟩
  refine A_aload_n (i := 0) dX9_init_113 rfl rfl ?_
  refine A_iconst (v := 1) dX9_init_114 rfl ?_
  refine A_putI dX9_init_115 fX9_69 ⟨by decide +kernel, by decide +kernel⟩ ?_
  replace hB := hB.n (c := 9) (i := 0) (k := 12) (v := 1) ⟨by decide +kernel, by decide +kernel⟩
  refine A_aload_n (i := 0) dX9_init_118 rfl rfl ?_
  refine A_iconst (v := 1) dX9_init_119 rfl ?_
  refine A_putI dX9_init_120 fX9_73 ⟨by decide +kernel, by decide +kernel⟩ ?_
  replace hB := hB.n (c := 9) (i := 0) (k := 13) (v := 1) ⟨by decide +kernel, by decide +kernel⟩
  refine A_iconst (v := 0) dX9_init_123 rfl ?_
  refine A_istore_n (i := 1) dX9_init_124 rfl (by decide) (ls' := [(1, vI 0), (0, vR 9 0)]) rfl ?_
  have hb : ∀ j, j < 61 → layF (52 + 2 * j) = (3, j) := by decide +kernel
  have hb1 : ∀ j, j < 61 → layF (52 + 2 * j + 1) = (28, j) := by decide +kernel
  have w := loop_new (G := G) (o := RX9) (cc := cX9_init) (nL := 2) (L := 4) (n0 := 1) (n1 := 278) (Z := ZQ G 1 278 Q9) (h := 125) (b := 52) (s := 2) (co := 9) (io := 0) (ca := 22) (ia := 0) (ce := 3) (ie := fun j => j) (len := 61) dX9_init_125 dX9_init_126 dX9_init_127 dX9_init_130 dX9_init_131 dX9_init_134 dX9_init_135 dX9_init_138 dX9_init_139 dX9_init_142 dX9_init_146 dX9_init_147 dX9_init_150 fX9_36 rfl (by decide +kernel) ⟨by decide +kernel, by decide +kernel⟩ ⟨by decide +kernel, by decide +kernel⟩ (by decide) (by decide) rfl rfl CF3 (mT1 (i := 197) rfl rfl) (mT1 (i := 198) rfl rfl) (mT1 (i := 6) rfl rfl) hb (by decide) (by decide) (by decide) (by decide) (by decide) hB (fun j hj N R hBj hh => h9_X3 (hb j hj) (hb1 j hj) (Nat.le_trans (show 52 + 2 * j + 2 ≤ 278 by omega) (by decide)) (by omega) (Nat.le_of_ble_eq_true rfl) hBj hh) ?_ 61 0 rfl
  · rw [Nat.mul_zero, Nat.add_zero, pt_nil, pt_nil, rowR_0] at w
    exact w
  clear hb hb1
  replace hB := ((hB.up (by decide : 52 ≤ 174)).p (F0 := NB) (F1 := RB) (a := 52)).w (c := 22) (i := 0) (j := 61) (g := fun k => (3, k)) ⟨by decide +kernel, by decide +kernel⟩
  refine A_iconst (v := 0) dX9_init_153 rfl ?_
  refine A_istore_n (i := 1) dX9_init_154 rfl (by decide) (ls' := [(1, vI 0), (0, vR 9 0)]) rfl ?_
  have hb : ∀ j, j < 6 → layF (174 + 4 * j) = (1, j) := by decide +kernel
  have hb1 : ∀ j, j < 6 → layF (174 + 4 * j + 1) = (29, j) := by decide +kernel
  have hb2 : ∀ j, j < 6 → layF (174 + 4 * j + 2) = (30, j) := by decide +kernel
  have hb3 : ∀ j, j < 6 → layF (174 + 4 * j + 3) = (31, j) := by decide +kernel
  have w := loop_new (G := G) (o := RX9) (cc := cX9_init) (nL := 2) (L := 4) (n0 := 1) (n1 := 278) (Z := ZQ G 1 278 Q9) (h := 155) (b := 174) (s := 4) (co := 9) (io := 0) (ca := 25) (ia := 0) (ce := 1) (ie := fun j => j) (len := 6) dX9_init_155 dX9_init_156 dX9_init_157 dX9_init_160 dX9_init_161 dX9_init_164 dX9_init_165 dX9_init_168 dX9_init_169 dX9_init_172 dX9_init_176 dX9_init_177 dX9_init_180 fX9_53 rfl (by decide +kernel) ⟨by decide +kernel, by decide +kernel⟩ ⟨by decide +kernel, by decide +kernel⟩ (by decide) (by decide) rfl rfl CF1 (mT2 (i := 58) rfl rfl) (mT2 (i := 64) rfl rfl) (mT1 (i := 8) rfl rfl) hb (by decide) (by decide) (by decide) (by decide) (by decide) hB (fun j hj N R hBj hh => h9_X1 (hb j hj) (hb1 j hj) (hb2 j hj) (hb3 j hj) (Nat.le_trans (show 174 + 4 * j + 4 ≤ 278 by omega) (by decide)) (by omega) (Nat.le_of_ble_eq_true rfl) hBj hh) ?_ 6 0 rfl
  · rw [Nat.mul_zero, Nat.add_zero, pt_nil, pt_nil, rowR_0] at w
    exact w
  clear hb hb1 hb2 hb3
  replace hB := ((hB.up (by decide : 174 ≤ 198)).p (F0 := NB) (F1 := RB) (a := 174)).w (c := 25) (i := 0) (j := 6) (g := fun k => (1, k)) ⟨by decide +kernel, by decide +kernel⟩
  refine A_iconst (v := 0) dX9_init_183 rfl ?_
  refine A_istore_n (i := 1) dX9_init_184 rfl (by decide) (ls' := [(1, vI 0), (0, vR 9 0)]) rfl ?_
  have hb : ∀ j, j < 6 → layF (198 + 12 * j) = (4, j) := by decide +kernel
  have hb1 : ∀ j, j < 6 → layF (198 + 12 * j + 1) = (32, j) := by decide +kernel
  have hb2 : ∀ j, j < 6 → ∀ e, e < 10 → layF (198 + 12 * j + 1 + (e + 1)) = (33, 10 * j + e) := by decide +kernel
  have w := loop_new (G := G) (o := RX9) (cc := cX9_init) (nL := 2) (L := 4) (n0 := 1) (n1 := 278) (Z := ZQ G 1 278 Q9) (h := 185) (b := 198) (s := 12) (co := 9) (io := 0) (ca := 26) (ia := 0) (ce := 4) (ie := fun j => j) (len := 6) dX9_init_185 dX9_init_186 dX9_init_187 dX9_init_190 dX9_init_191 dX9_init_194 dX9_init_195 dX9_init_198 dX9_init_199 dX9_init_202 dX9_init_206 dX9_init_207 dX9_init_210 fX9_59 rfl (by decide +kernel) ⟨by decide +kernel, by decide +kernel⟩ ⟨by decide +kernel, by decide +kernel⟩ (by decide) (by decide) rfl rfl CF4 (mT2 (i := 60) rfl rfl) (mT2 (i := 85) rfl rfl) (mT1 (i := 9) rfl rfl) hb (by decide) (by decide) (by decide) (by decide) (by decide) hB (fun j hj N R hBj hh => h9_X4 (hb j hj) (hb1 j hj) (hb2 j hj) (Nat.le_trans (show 198 + 12 * j + 12 ≤ 278 by omega) (by decide)) (by omega) (Nat.le_of_ble_eq_true rfl) hBj hh) ?_ 6 0 rfl
  · rw [Nat.mul_zero, Nat.add_zero, pt_nil, pt_nil, rowR_0] at w
    exact w
  clear hb hb1 hb2
  replace hB := ((hB.up (by decide : 198 ≤ 270)).p (F0 := NB) (F1 := RB) (a := 198)).w (c := 26) (i := 0) (j := 6) (g := fun k => (4, k)) ⟨by decide +kernel, by decide +kernel⟩
  refine A_iconst (v := 0) dX9_init_213 rfl ?_
  refine A_istore_n (i := 1) dX9_init_214 rfl (by decide) (ls' := [(1, vI 0), (0, vR 9 0)]) rfl ?_
  have hb : ∀ j, j < 4 → layF (270 + 2 * j) = (7, j) := by decide +kernel
  have hb1 : ∀ j, j < 4 → layF (270 + 2 * j + 1) = (34, j) := by decide +kernel
  have w := loop_new (G := G) (o := RX9) (cc := cX9_init) (nL := 2) (L := 4) (n0 := 1) (n1 := 278) (Z := ZQ G 1 278 Q9) (h := 215) (b := 270) (s := 2) (co := 9) (io := 0) (ca := 27) (ia := 0) (ce := 7) (ie := fun j => j) (len := 4) dX9_init_215 dX9_init_216 dX9_init_217 dX9_init_220 dX9_init_221 dX9_init_224 dX9_init_225 dX9_init_228 dX9_init_229 dX9_init_232 dX9_init_236 dX9_init_237 dX9_init_240 fX9_65 rfl (by decide +kernel) ⟨by decide +kernel, by decide +kernel⟩ ⟨by decide +kernel, by decide +kernel⟩ (by decide) (by decide) rfl rfl CF7 (mT2 (i := 62) rfl rfl) (mT2 (i := 110) rfl rfl) (mT1 (i := 10) rfl rfl) hb (by decide) (by decide) (by decide) (by decide) (by decide) hB (fun j hj N R hBj hh => h9_X7 (hb j hj) (hb1 j hj) (Nat.le_trans (show 270 + 2 * j + 2 ≤ 278 by omega) (by decide)) (by omega) (Nat.le_of_ble_eq_true rfl) hBj hh) ?_ 4 0 rfl
  · rw [Nat.mul_zero, Nat.add_zero, pt_nil, pt_nil, rowR_0] at w
    exact w
  clear hb hb1
  replace hB := ((hB.up (by decide : 270 ≤ 278)).p (F0 := NB) (F1 := RB) (a := 270)).w (c := 27) (i := 0) (j := 4) (g := fun k => (7, k)) ⟨by decide +kernel, by decide +kernel⟩
  refine A_aload_n (i := 0) dX9_init_243 rfl rfl ?_
  refine A_getR (c2 := 6) (i2 := 0) dX9_init_244 fX9_10 rfl ⟨by decide +kernel, by decide +kernel⟩ (by decide +kernel) ?_
  refine A_aload_n (i := 0) dX9_init_247 rfl rfl ?_
  refine A_getR (c2 := 25) (i2 := 0) dX9_init_248 fX9_53 rfl ⟨by decide +kernel, by decide +kernel⟩ (by decide +kernel) ?_
  refine A_iconst (v := 0) dX9_init_251 rfl ?_
  refine A_aald (j := 0) (c2 := 1) (i2 := 0) dX9_init_252 (by decide) (by decide) ⟨by decide +kernel, by decide +kernel⟩ (by decide) (by decide) (by decide +kernel) ?_
  refine A_putR dX9_init_253 fX9_79 (fun q => by cases q) (fun q => by cases q) rfl (fun _ => ⟨rfl, rfl⟩) ⟨by decide +kernel, by decide +kernel⟩ ?_
  exact A_vret dX9_init_256 ⟨rfl, rfl, rfl⟩
