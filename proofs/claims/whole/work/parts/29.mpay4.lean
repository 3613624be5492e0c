/-! the reference's month of paying -/
theorem up2_self {F : Nat → Nat → Int} {q k : Nat} {v : Int} (h : F q k = v) : up2 F q k v = F := by
  funext a b
  unfold up2
  split
  · rename_i e
    rw [e.1, e.2, h]
  · rfl
theorem begP_9 {c : Nat} {F : Nat → Nat → Int} {k : Nat} {v : Int} (h : c ≤ 5) : begP c (up2 F 9 k v) = up2 (begP c F) 9 k v := by
  funext a b
  unfold begP up2
  dsimp only
  by_cases h9 : a = 9
  · subst h9
    rw [if_neg (by omega)]
    by_cases e : b = k
    · rw [if_pos ⟨rfl, e⟩, if_pos ⟨rfl, e⟩]
    · rw [if_neg (by omega), if_neg (by omega), if_neg (by omega)]
  · rw [if_neg (c := a = 9 ∧ b = k) (by omega), if_neg (c := a = 9 ∧ b = k) (by omega)]
    by_cases e : a < c ∧ b = 8
    · rw [if_pos e, if_pos e, if_neg (by omega), if_neg (by omega), if_neg (by omega)]
    · rw [if_neg e, if_neg e]
section MP
variable {G : GT} {kk c o : Nat} {K : NN → Prop} {N : NN}
theorem s_mPay (hk : 1 ≤ kk ∧ kk ≤ 60) (S : OKF c ((kk : Int) - 1) (VM N)) (hm : OKm (MM N kk)) (ho : N 76 0 kk = (o : Int)) (o6 : o < 6) (hr : ∀ i : Nat, i < 10 → ¬ wI (N 60 0 o) ≤ (i : Int) → okR (RM N o i))
    (k : ∀ N', VM N' = pourF c kk (MM N kk) (N 60 0 o) (RM N o) (VM N) → N' 77 0 kk = pourC (MM N kk) (VM N) → N' 78 0 kk = VM N' 9 4 → N' 79 0 kk = startP kk (MM N kk) (VM N) 9 5 →
      (∀ i, i < 10 → N' 80 0 (10 * kk + i) = tookP (N 60 0 o) kk (MM N kk) (RM N o) (pourB c kk (MM N kk) (VM N)) (pourC (MM N kk) (VM N)) i) → FrM N N' kk → K N') : C_X10_pay G kk N K := by
  have ek := wI_id (x := (kk : Int)) (by omega) (by omega)
  have hkz : (1 : Int) ≤ kk ∧ (kk : Int) ≤ 60 := by omega
  have Sb := pourB_ok hkz S hm
  have Se := pourS_ok (cnt := N 60 0 o) hkz S hr hm
  have Pc := pourC_ok S hm
  obtain ⟨c5, h1, hq, hs⟩ := S
  unfold sOK at hs
  have hN : N 10 0 53 = (c : Int) := (VM_c (N := N)).symm.trans h1
  have b7 : 0 ≤ N 54 0 kk ∧ N 54 0 kk ≤ 100000000 := by
    unfold OKm at hm
    exact ⟨hm.2.2.2.2.2.2.2.2.2.1, hm.2.2.2.2.2.2.2.2.2.2.1⟩
  -- the months' facts that stay
  have mmE : ∀ (M : NN) (f : Nat), (∀ c i k, ¬ (69 ≤ c ∧ c ≤ 75 ∧ i = 0) → ¬ (c = 10 ∧ i = 0 ∧ 64 ≤ k ∧ k ≤ 68) → ¬ ((c = 77 ∨ c = 79) ∧ i = 0 ∧ k = kk) → M c i k = N c i k) → f ≠ 5 → f ≠ 11 → MM M kk f = MM N kk f := by
    intro M f h h5 h11
    unfold MM
    have : mF f = 78 ∨ mF f < 60 := by
      unfold mF
      rw [if_neg h5, if_neg h11]
      by_cases a : f < 5
      · rw [if_pos a]; omega
      · rw [if_neg a]
        by_cases b : f < 10
        · rw [if_pos b]; omega
        · rw [if_neg b]
          by_cases d : f = 10
          · rw [if_pos d]; omega
          · rw [if_neg d]; omega
    exact h _ _ _ (by omega) (by omega) (by omega)
  have mid : ∀ (d n : Nat) (B M : NN), n + d = c → VM B = up2 (startP kk (MM N kk) (VM N)) 9 4 0 → B 77 0 kk = pourC (MM N kk) (VM N) → B 79 0 kk = startP kk (MM N kk) (VM N) 9 5 → (∀ c i k, ¬ (69 ≤ c ∧ c ≤ 75 ∧ i = 0) → ¬ (c = 10 ∧ i = 0 ∧ 64 ≤ k ∧ k ≤ 68) → ¬ ((c = 77 ∨ c = 79) ∧ i = 0 ∧ k = kk) → B c i k = N c i k) →
      VM M = begP n (VM B) → (∀ c i k, ¬ (c = 75 ∧ i = 0) → M c i k = B c i k) → W_X10_pay G K 164 [(0, vR 10 0), (1, vI kk), (2, vL (pourC (MM N kk) (VM N))), (4, vI (n : Int))] [] M := by
    intro d
    induction d with
    | zero =>
      intro n B M hn hB h77 h79 fB hV fr
      have en : n = c := by omega
      subst en
      have fM : ∀ c i k, ¬ (69 ≤ c ∧ c ≤ 75 ∧ i = 0) → ¬ (c = 10 ∧ i = 0 ∧ 64 ≤ k ∧ k ≤ 68) → ¬ ((c = 77 ∨ c = 79) ∧ i = 0 ∧ k = kk) → M c i k = N c i k := fun c i k a1 a2 a3 => by rw [fr _ _ _ (by omega), fB _ _ _ a1 a2 a3]
      have oM : M 76 0 kk = (o : Int) := by rw [fM _ _ _ (by omega) (by omega) (by omega), ho]
      have VB : VM M = pourB n kk (MM N kk) (VM N) := by rw [hV, hB, begP_9 c5]; rfl
      have cM : M 60 0 o = N 60 0 o := fM _ _ _ (by omega) (by omega) (by omega)
      have RR : RM M o = RM N o := funext fun i => funext fun f => by
        unfold RM
        by_cases h : f < 6
        · rw [if_pos h, if_pos h]
          exact fM _ _ _ (by omega) (by omega) (by omega)
        · rw [if_neg h, if_neg h]
      have me : ∀ f, f ≠ 5 → f ≠ 11 → MM M kk f = MM N kk f := fun f a b => mmE M f fM a b
      have hmM : OKm (MM M kk) := by
        unfold OKm
        rw [me 0 (by decide) (by decide), me 1 (by decide) (by decide), me 2 (by decide) (by decide), me 3 (by decide) (by decide), me 4 (by decide) (by decide), me 6 (by decide) (by decide), me 7 (by decide) (by decide), me 8 (by decide) (by decide), me 9 (by decide) (by decide)]
        exact hm
      have sm := fun R F cash i => stepsP_mo (cnt := N 60 0 o) (m := kk) (R := R) (F := F) (cash := cash) (me 1 (by decide) (by decide)) (me 6 (by decide) (by decide)) (me 7 (by decide) (by decide)) (me 9 (by decide) (by decide)) i
      have tm := fun R F cash i => tookP_mo (cnt := N 60 0 o) (m := kk) (R := R) (F := F) (cash := cash) (me 1 (by decide) (by decide)) (me 6 (by decide) (by decide)) (me 7 (by decide) (by decide)) (me 9 (by decide) (by decide)) i
      refine vc_X10_pay_164 ?_
      rw [fr 10 0 53 (by omega), fB 10 0 53 (by omega) (by omega) (by omega), hN, ek, wI_id (x := (n : Int)) (by omega) (by omega)]
      refine ⟨fun _ => ⟨kk, rfl, by omega, ?_⟩, fun q => by omega⟩
      rw [oM]
      have st := m_steps (G := G) (K := K) (B := M) hk hmM oM o6 (by rw [RR, cM]; exact hr) (pourC (MM N kk) (VM N)) (by rw [VB]; exact Sb) (fun M4 v4 t4 f4 => ?_) 10 0 M (by omega) rfl (fun t h => by omega) (fun _ _ _ _ _ _ => rfl)
      · exact st
      · rw [cM, RR, VB, sm] at v4
        have x7 : M4 54 0 kk = N 54 0 kk := by rw [f4 _ _ _ (by omega) (by omega) (by omega), fM _ _ _ (by omega) (by omega) (by omega)]
        have e4 : M4 10 0 64 = VM M4 9 4 := rfl
        have eo : -(M4 54 0 kk) - M4 10 0 64 = ovP (VM M4) (N 54 0 kk) 0 := by rw [x7]; rfl
        rw [eo]
        have cM4 : M4 10 0 53 = (n : Int) := by rw [f4 _ _ _ (by omega) (by omega) (by omega), fM _ _ _ (by omega) (by omega) (by omega), hN]
        have ps : endP n (VM M4) = pourS n kk (MM N kk) (N 60 0 o) (RM N o) (VM N) := by rw [v4]; rfl
        refine m_end (B := M4) hk b7 cM4 c5 (by rw [ps]; exact Se) (fun N' v1 v2 v3 => k N' ?_ ?_ v2 ?_ (fun i hi => ?_) (fun c' i k a1 a2 a3 a4 => ?_)) n 0 M4 (by omega) (by rw [endP_0]) (fun _ _ _ _ => rfl)
        · rw [v1, ps]
          rfl
        · rw [v3 _ _ _ (by omega) (by omega), f4 _ _ _ (by omega) (by omega) (by omega), fr _ _ _ (by omega), h77]
        · rw [v3 _ _ _ (by omega) (by omega), f4 _ _ _ (by omega) (by omega) (by omega), fr _ _ _ (by omega), h79]
        · rw [v3 _ _ _ (by omega) (by omega), t4 i hi, cM, RR, VB, tm]
        · rw [v3 _ _ _ (by omega) (by omega), f4 _ _ _ a1 (by omega) a4, fM _ _ _ a1 a2 (by omega)]
    | succ d ih =>
      intro n B M hn hB h77 h79 fB hV fr
      refine vc_X10_pay_164 ?_
      rw [fr 10 0 53 (by omega), fB 10 0 53 (by omega) (by omega) (by omega), hN, ek, wI_id (x := (n : Int)) (by omega) (by omega), wI_id (x := (c : Int)) (by omega) (by omega)]
      refine ⟨fun q => by omega, fun _ => ⟨n, rfl, by omega, n, rfl, by omega, n, rfl, by omega, n, rfl, by omega, fun M6 e6 => ih (n + 1) B M6 (by omega) hB h77 h79 fB ?_ (fun c' i k a => ?_)⟩⟩
      · have e2 : VM M n 2 = M 69 0 n := VMp (by omega) (by decide)
        have e0 : VM M n 0 = M 68 0 n := VMp (by omega) (by decide)
        have e3 : VM M n 3 = M 70 0 n := VMp (by omega) (by decide)
        rw [e6, VM_75 (by omega), ← begP_s, ← e2, ← e0, ← e3, hV, begP_n (by omega), begP_n (by omega), begP_n (by omega)]
      · rw [← fr _ _ _ a]
        subst e6
        simp only [up3]
        rw [if_neg (by omega)]
  have tail : ∀ (Z : NN), VM Z = startP kk (MM N kk) (VM N) → (∀ c i k, ¬ (c = 10 ∧ i = 0 ∧ (k = 65 ∨ k = 67 ∨ k = 68)) → Z c i k = N c i k) →
      (∃ j5 : Nat, (kk : Int) = (j5 : Int) ∧ j5 < 61 ∧ ((Z 10 0 67 = 0 ∨ Z 10 0 67 = 1) ∧ (∀ M6 : NN, M6 = up3 Z 79 0 j5 (Z 10 0 67) → (∃ j7 : Nat, (kk : Int) = (j7 : Int) ∧ j7 < 61 ∧ (∃ j8 : Nat, (kk : Int) = (j8 : Int) ∧ j8 < 61 ∧ (∃ j9 : Nat, (kk : Int) = (j9 : Int) ∧ j9 < 61 ∧ (∃ j10 : Nat, (kk : Int) = (j10 : Int) ∧ j10 < 61 ∧ (∃ j11 : Nat, (kk : Int) = (j11 : Int) ∧ j11 < 61 ∧ (∃ j12 : Nat, (kk : Int) = (j12 : Int) ∧ j12 < 61 ∧ (∀ M13 : NN, M13 = up3 M6 77 0 j12 ((((((M6 48 0 j7) + (M6 49 0 j8)) + (M6 50 0 j9)) + (M6 51 0 j10)) - (M6 52 0 j11)) + (M6 10 0 64)) → (∀ M14 : NN, M14 = up3 M13 10 0 64 0 → W_X10_pay G K 164 [(0, vR 10 0), (1, vI kk), (2, vL ((((((M6 48 0 j7) + (M6 49 0 j8)) + (M6 50 0 j9)) + (M6 51 0 j10)) - (M6 52 0 j11)) + (M6 10 0 64))), (4, vI 0)] [] M14))))))))))) := by
    intro Z hV fr
    have z5 : Z 10 0 67 = startP kk (MM N kk) (VM N) 9 5 := by rw [← hV]; rfl
    refine ⟨kk, rfl, by omega, by rw [z5]; exact startP_5, fun M6 e6 => ⟨kk, rfl, by omega, kk, rfl, by omega, kk, rfl, by omega, kk, rfl, by omega, kk, rfl, by omega, kk, rfl, by omega, ?_⟩⟩
    have f6 : ∀ c i k, ¬ (c = 10 ∧ i = 0 ∧ (k = 65 ∨ k = 67 ∨ k = 68)) → ¬ (c = 79 ∧ i = 0 ∧ k = kk) → M6 c i k = N c i k := by
      intro c i k a b
      rw [← fr _ _ _ a]
      subst e6
      exact if_neg (by omega)
    have ec : M6 48 0 kk + M6 49 0 kk + M6 50 0 kk + M6 51 0 kk - M6 52 0 kk + M6 10 0 64 = pourC (MM N kk) (VM N) := by
      rw [f6 _ _ _ (by omega) (by omega), f6 _ _ _ (by omega) (by omega), f6 _ _ _ (by omega) (by omega), f6 _ _ _ (by omega) (by omega), f6 _ _ _ (by omega) (by omega), f6 10 0 64 (by omega) (by omega)]
      rfl
    rw [ec]
    intro M13 e13 M14 e14
    have V14 : VM M14 = up2 (startP kk (MM N kk) (VM N)) 9 4 0 := by rw [e14, VM_s64, e13, VM_ot (by decide), e6, VM_ot (by decide), hV]
    refine mid c 0 M14 M14 (by omega) V14 ?_ ?_ (fun c' i k a1 a2 a3 => ?_) (by rw [begP_0]) (fun _ _ _ _ => rfl)
    · subst e14 e13
      rw [up3_o _ _ _ (by omega), up3_s]
    · rw [← z5]
      subst e14 e13 e6
      rw [up3_o _ _ _ (by omega), up3_o _ _ _ (by omega), up3_s]
    · rw [← f6 _ _ _ (by omega) (by omega)]
      subst e14 e13
      simp only [up3]
      rw [if_neg (by omega), if_neg (by omega)]
  -- the trip
  have hst : startP kk (MM N kk) (VM N) = tripP (MM N kk 8) (up2 (VM N) 9 7 (VM N 9 7 + MM N kk 8)) := by
    unfold startP
    split
    · rfl
    · rename_i h
      rw [ek] at h
      have : kk = 1 := by omega
      rw [up2_self (v := MM N kk 6) (by rw [this]; rfl)]
  generalize hF : up2 (VM N) 9 7 (VM N 9 7 + MM N kk 8) = F1 at hst
  have f5 : F1 9 5 = N 10 0 67 := by rw [← hF, up2_s]; rfl
  have f3 : F1 9 3 = N 10 0 70 := by rw [← hF, up2_s]; rfl
  have f2 : F1 9 2 = N 10 0 69 := by rw [← hF, up2_s]; rfl
  have f6 : F1 9 6 = N 10 0 68 := by rw [← hF, up2_s]; rfl
  have f8 : F1 9 8 = VM N 9 8 := by rw [← hF, up2_s]; rfl
  have e8 : MM N kk 8 = N 55 0 kk := rfl
  have e75 : VM N 9 5 = N 10 0 67 := rfl
  have h5 : N 10 0 67 = 0 ∨ N 10 0 67 = 1 := by omega
  have w5 := wI_id (x := N 10 0 67) (by omega) (by omega)
  rw [e8] at hst hF
  refine vc_X10_pay ?_
  rw [ek]
  refine ⟨kk, rfl, by omega, fun M2 e2 => ⟨kk, rfl, by omega, ?_⟩⟩
  have V2 : VM M2 = F1 := by rw [e2, VM_s65, ← hF]; rfl
  have g2 : ∀ c i k, ¬ (c = 10 ∧ i = 0 ∧ k = 65) → M2 c i k = N c i k := by
    intro c i k a
    subst e2
    exact if_neg (by omega)
  rw [g2 55 0 kk (by omega)]
  -- with quiet q
  have br : ∀ (qv : Int) (M4 : NN), qv = quP (N 55 0 kk) F1 → M4 = up3 M2 10 0 68 qv → VM M4 = up2 F1 9 6 (quP (N 55 0 kk) F1) ∧ (∀ c i k, ¬ (c = 10 ∧ i = 0 ∧ (k = 65 ∨ k = 68)) → M4 c i k = N c i k) ∧ M4 10 0 68 = qv := by
    intro qv M4 hq4 e4
    refine ⟨by rw [e4, VM_s68, V2, hq4], fun c i k a => ?_, by subst e4; exact up3_s⟩
    rw [← g2 _ _ _ (by omega)]
    subst e4
    exact if_neg (by omega)
  have fin0 : ∀ (M4 Z : NN) (v : Int), VM M4 = up2 F1 9 6 (quP (N 55 0 kk) F1) → (∀ c i k, ¬ (c = 10 ∧ i = 0 ∧ (k = 65 ∨ k = 68)) → M4 c i k = N c i k) → v = onP (N 55 0 kk) F1 → Z = up3 M4 10 0 67 v → VM Z = startP kk (MM N kk) (VM N) ∧ (∀ c i k, ¬ (c = 10 ∧ i = 0 ∧ (k = 65 ∨ k = 67 ∨ k = 68)) → Z c i k = N c i k) := by
    intro M4 Z v a b hv e
    refine ⟨by rw [e, VM_s67, a, hst, hv]; rfl, fun c i k h => ?_⟩
    rw [← b _ _ _ (by omega)]
    subst e
    exact if_neg (by omega)
  have fin1 : ∀ (M4 : NN), VM M4 = up2 F1 9 6 (quP (N 55 0 kk) F1) → (∀ c i k, ¬ (c = 10 ∧ i = 0 ∧ (k = 65 ∨ k = 68)) → M4 c i k = N c i k) → N 10 0 67 = onP (N 55 0 kk) F1 → VM M4 = startP kk (MM N kk) (VM N) ∧ (∀ c i k, ¬ (c = 10 ∧ i = 0 ∧ (k = 65 ∨ k = 67 ∨ k = 68)) → M4 c i k = N c i k) := by
    intro M4 a b hv
    refine ⟨?_, fun c i k h => b _ _ _ (by omega)⟩
    rw [a, hst]
    unfold tripP
    rw [up2_self (k := 5)]
    rw [up2_s, if_neg (by decide), f5, hv]
  have lo : ∀ (M4 : NN), VM M4 = up2 F1 9 6 (quP (N 55 0 kk) F1) → lostP (VM M4) = lostP F1 := by
    intro M4 a
    rw [a]
    rfl
  refine ⟨fun q M4 e4 => ?_, fun q M4 e4 => ?_⟩
  · have hqu : M2 10 0 68 + 1 = quP (N 55 0 kk) F1 := by
      unfold quP
      rw [if_pos q, f6, g2 10 0 68 (by omega)]
    obtain ⟨v4, g4, q4⟩ := br _ M4 hqu e4
    rw [g4 10 0 67 (by omega), g4 10 0 70 (by omega), q4, w5]
    refine ⟨fun a => ⟨fun b => ?_, fun b Z eZ => ?_⟩, fun a => ⟨kk, rfl, by omega, ?_⟩⟩
    · obtain ⟨z1, z2⟩ := fin1 M4 v4 g4 (by unfold onP; rw [f5, w5, if_neg a, f3, ← hqu, if_neg (by omega)]; omega)
      have := tail M4 z1 z2
      rw [g4 10 0 67 (by omega)] at this
      exact this
    · obtain ⟨z1, z2⟩ := fin0 M4 Z 0 v4 g4 (by unfold onP; rw [f5, w5, if_neg a, f3, ← hqu, if_pos (by omega)]) eZ
      exact tail Z z1 z2
    · rw [g4 55 0 kk (by omega)]
      refine ⟨fun _ Z eZ => ?_, fun b => absurd q b⟩
      obtain ⟨z1, z2⟩ := fin0 M4 Z 0 v4 g4 (by unfold onP; rw [f5, w5, if_pos (by omega), if_pos q]) eZ
      exact tail Z z1 z2
  · have hqu : 0 = quP (N 55 0 kk) F1 := by
      unfold quP
      rw [if_neg q]
    obtain ⟨v4, g4, q4⟩ := br _ M4 hqu e4
    rw [g4 10 0 67 (by omega), g4 10 0 70 (by omega), q4, w5]
    refine ⟨fun a => ⟨fun b => ?_, fun b Z eZ => ?_⟩, fun a => ⟨kk, rfl, by omega, ?_⟩⟩
    · obtain ⟨z1, z2⟩ := fin1 M4 v4 g4 (by unfold onP; rw [f5, w5, if_neg a, f3, ← hqu, if_neg (by omega)]; omega)
      have := tail M4 z1 z2
      rw [g4 10 0 67 (by omega)] at this
      exact this
    · obtain ⟨z1, z2⟩ := fin0 M4 Z 0 v4 g4 (by unfold onP; rw [f5, w5, if_neg a, f3, ← hqu, if_pos (by omega)]) eZ
      exact tail Z z1 z2
    · rw [g4 55 0 kk (by omega)]
      refine ⟨fun b => absurd b q, fun _ => s_mLost (by rw [v4, up2_s, if_neg (by decide), f8]; omega) ?_⟩
      rw [lo M4 v4, g4 10 0 69 (by omega)]
      refine ⟨fun b Z eZ => ?_, fun b Z eZ => ?_⟩
      · obtain ⟨z1, z2⟩ := fin0 M4 Z 0 v4 g4 (by unfold onP; rw [f5, w5, if_pos (by omega), if_neg q, f2, if_pos b]) eZ
        exact tail Z z1 z2
      · obtain ⟨z1, z2⟩ := fin0 M4 Z 1 v4 g4 (by unfold onP; rw [f5, w5, if_pos (by omega), if_neg q, f2, if_neg b]) eZ
        exact tail Z z1 z2
end MP
