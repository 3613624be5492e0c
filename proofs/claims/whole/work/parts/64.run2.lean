/-! the class runs, and both run -/
def CSp (c cp p f oo t : Nat) (cd sts : Nat → Int) (B0 : NN) (kk : Nat) (A : NN) : Prop :=
  BL c p kk A ∧ OKF cp kk (VF A f) ∧ A 6 p 6 = (t : Int) ∧ A 29 t = cd ∧ A 30 t = sts ∧ A 9 0 13 = (oo : Int) ∧ ∀ m, 1 ≤ m → m ≤ 61 → ∃ o : Nat, o < oo ∧ A 23 0 m = (o : Int) ∧ relO o A B0
section RUN
variable {G : GT} {lv : Nat → (Nat → Int) → Int → Int} {c cp p f oo t : Nat} {cd sts : Nat → Int} {B0 : NN}
theorem CSp_fr {kk : Nat} {A A' : NN} (h : CSp c cp p f oo t cd sts B0 kk A) (e : ∀ x i g, ¬ (x = 9 ∧ i = 0 ∧ g = 11) → A' x i g = A x i g) : CSp c cp p f oo t cd sts B0 kk A' := by
  obtain ⟨h1, h2, h3, h4, h5, h6, h7⟩ := h
  refine ⟨BL_fr h1 fun x i g d => e _ _ _ (by omega), ?_, by rw [e _ _ _ (by omega)]; exact h3, ?_, ?_, by rw [e _ _ _ (by omega)]; exact h6, fun m m1 m2 => ?_⟩
  · rw [VF_un (M := A') (N := A) fun x i g d => e _ _ _ (by omega)]; exact h2
  · rw [← h4]; exact funext fun g => e _ _ _ (by omega)
  · rw [← h5]; exact funext fun g => e _ _ _ (by omega)
  · obtain ⟨o, ho, c1, rO⟩ := h7 m m1 m2
    exact ⟨o, ho, by rw [e _ _ _ (by omega)]; exact c1, relO_fr2 rO (fun x i g d => e _ _ _ (by omega)) (fun _ _ _ _ => rfl)⟩
/-- a month of the class's -/
theorem c_mon {j kk cc : Nat} {A : NN} {K P : NN → Prop} (hc : cc = kk + 1) (hp : p < 2) (hf : f < 2) (hj : j < 62) (hk : kk < 60) (oo6 : oo ≤ 6) (V : VOK G t cd sts lv) (h : CSp c cp p f oo t cd sts B0 kk A) (k : ∀ A2, MoC lv c cp p f j cc A A2 → CSp c cp p f oo t cd sts B0 cc A2 → A2 9 0 11 = A 9 0 11 → K A2)
    (hP : ∀ A1 : NN, A1 9 0 11 = A 9 0 11 → C_X9_orderIn G (cc : Int) A1 (fun x N => C_X0_pour G f (cc : Int) j x N K) → P A1) : C_X6_collect G p (cc : Int) j A P := by
  subst hc
  obtain ⟨h1, h2, h3, h4, h5, h6, h7⟩ := h
  have k1 : (((kk + 1 : Nat) : Int)) - 1 = (kk : Int) := by omega
  refine c_collect (t := t) hp hj (by omega) (by rw [k1]; exact h1) V h3 h4 h5 (fun A1 hA hb hm => ?_)
  have fA1 := coll_fr hA
  obtain ⟨o, ho, c1, rO⟩ := h7 (kk + 1) (by omega) (by omega)
  refine hP A1 (fA1 _ _ _ (by omega) (by omega) (by omega) (by omega)) (t_orderIn (oo := oo) (o := o) (by omega) (by rw [fA1 _ _ _ (by omega) (by omega) (by omega) (by omega)]; exact h6) oo6 (by rw [fA1 _ _ _ (by omega) (by omega) (by omega) (by omega)]; exact c1) ho ?_)
  have eVF : VF A1 f = VF A f := VF_un fun x i g d => fA1 _ _ _ (by omega) (by omega) (by omega) (by omega)
  have rO1 : relO o A1 B0 := relO_fr2 rO (fun x i g d => fA1 _ _ _ (by omega) (by omega) (by omega) (by omega)) (fun _ _ _ _ => rfl)
  refine c_pour (B := B0) (c := cp) hf hj (by omega) (by omega) (by rw [k1, eVF]; exact h2) hm rO1 (fun A2 hP2 hF2 => ?_)
  have M : MoC lv c cp p f j (kk + 1) A A2 := ⟨A, A1, o, fun _ _ _ _ => rfl, c1, hA, hP2, hb, hm, hF2⟩
  have fr := MoC_fr M
  refine k A2 M ⟨MoC_BL M, hF2, ?_, ?_, ?_, ?_, fun m m1 m2 => ?_⟩ ?_
  · rw [fr _ _ _ (by omega) (by omega) (by omega) (by omega) (by omega) (by omega) (by omega) (by omega)]; exact h3
  · rw [← h4]; exact funext fun g => fr _ _ _ (by omega) (by omega) (by omega) (by omega) (by omega) (by omega) (by omega) (by omega)
  · rw [← h5]; exact funext fun g => fr _ _ _ (by omega) (by omega) (by omega) (by omega) (by omega) (by omega) (by omega) (by omega)
  · rw [fr _ _ _ (by omega) (by omega) (by omega) (by omega) (by omega) (by omega) (by omega) (by omega)]; exact h6
  · obtain ⟨o, ho, c1, rO⟩ := h7 m m1 m2
    exact ⟨o, ho, by rw [fr _ _ _ (by omega) (by omega) (by omega) (by omega) (by omega) (by omega) (by omega) (by omega)]; exact c1, relO_fr2 rO (fun x i g d => fr _ _ _ (by omega) (by omega) (by omega) (by omega) (by omega) (by omega) (by omega) (by omega)) (fun _ _ _ _ => rfl)⟩
  · rw [hP2.2.2.2.2.2 _ _ _ (by omega) (by omega) (by omega) (by omega), fA1 _ _ _ (by omega) (by omega) (by omega) (by omega)]
theorem MoC_pre {j kk : Nat} {A M A2 : NN} (e : ∀ x i g, ¬ (x = 9 ∧ i = 0 ∧ g = 11) → M x i g = A x i g) (h : MoC lv c cp p f j kk M A2) : MoC lv c cp p f j kk A A2 := by
  obtain ⟨A0, A1, o, f0, r⟩ := h
  exact ⟨A0, A1, o, fun x i g d => (f0 x i g d).trans (e x i g d), r⟩
theorem c_runW {n : Nat} {K : Int → NN → Prop} (V : VOK G t cd sts lv) (oo6 : oo ≤ 6) (hn : n ≤ 12) : ∀ (d i kk : Nat) (A : NN), i + d = n → kk + d ≤ 60 → CSp c cp 0 0 oo t cd sts B0 kk A → A 9 0 11 = (kk : Int) → (∀ Z ws, ChL lv c cp 0 0 (fun m => m) 0 d kk A Z ws → Z 9 0 11 = ((kk + d : Nat) : Int) → K ((kk + d : Nat) : Int) Z) → W_X9_run G K 29 [(0, vR 9 0), (1, vI (n : Int)), (2, vI (i : Int))] [] A
  | 0, i, kk, A, hd, hk, h, h9, k => by
    have : i = n := by omega
    subst this
    refine vc_X9_run_29 ⟨fun _ => ?_, fun q => absurd (Int.le_refl _) q⟩
    rw [h9]
    exact k A [] ⟨rfl, rfl⟩ h9
  | d + 1, i, kk, A, hd, hk, h, h9, k => by
    have wn := fun _ : Unit => wI_id (x := (n : Int)) (by omega) (by omega)
    have wi := fun _ : Unit => wI_id (x := (i : Int)) (by omega) (by omega)
    refine vc_X9_run_29 ?_
    rw [wn (), wi ()]
    refine ⟨fun q => absurd q (by omega), fun _ M1 e1 => ⟨kk + 1, ?_⟩⟩
    have f1 : ∀ x i e, ¬ (x = 9 ∧ i = 0 ∧ e = 11) → M1 x i e = A x i e := fun x i e d => by rw [e1, up3_o' (by omega)]
    have v1 : M1 9 0 11 = ((kk + 1 : Nat) : Int) := by rw [e1, up3_s, h9]; omega
    rw [v1]
    refine ⟨wI_id (by omega) (by omega), by omega, ?_⟩
    refine c_mon (lv := lv) (c := c) (cp := cp) (oo := oo) (t := t) (cd := cd) (sts := sts) (B0 := B0) (kk := kk) (K := fun N6 => W_X9_run G K 29 [(0, vR 9 0), (1, vI (n : Int)), (2, vI ((i : Int) + 1))] [] N6) rfl (by decide) (by decide) (by omega) (by omega) oo6 V (CSp_fr h f1) (fun A2 M C2 e9 => ?_) (fun A1 e9 hP => ?_)
    · refine c_runW V oo6 hn d (i + 1) (kk + 1) A2 (by omega) (by omega) C2 (e9.trans v1) (fun Z ws hc hz => ?_)
      rw [show kk + 1 + d = kk + (d + 1) by omega] at hz ⊢
      exact k Z _ ⟨A2, ws, rfl, MoC_pre f1 M, hc⟩ hz
    · rw [v1] at e9
      rw [e9]
      exact ⟨kk + 1, wI_id (by omega) (by omega), by omega, hP⟩
theorem goOn_mono {B : NN} {K K' : NN → Prop} (h : C_X10_goOn G B K) (hq : ∀ N, K N → K' N) : C_X10_goOn G B K' := Ctr.mono h fun r N' R' z => ⟨z.1, z.2.1, hq _ z.2.2⟩
theorem m_runW {n : Nat} {K : Int → NN → Prop} (hn : n ≤ 12) : ∀ (d i : Nat) (B : NN), i + d = n → GoN G (fun B' => K (B' 10 0 1) B') d B → W_X10_run G K 29 [(0, vR 10 0), (1, vI (n : Int)), (2, vI (i : Int))] [] B
  | 0, i, B, hd, h => by
    have : i = n := by omega
    subst this
    exact vc_X10_run_29 ⟨fun _ => h, fun q => absurd (Int.le_refl _) q⟩
  | d + 1, i, B, hd, h => by
    have wn := fun _ : Unit => wI_id (x := (n : Int)) (by omega) (by omega)
    have wi := fun _ : Unit => wI_id (x := (i : Int)) (by omega) (by omega)
    refine vc_X10_run_29 ?_
    rw [wn (), wi ()]
    refine ⟨fun q => absurd q (by omega), fun _ => ?_⟩
    unfold GoN at h
    exact goOn_mono h fun B1 hB => m_runW hn d (i + 1) B1 (by omega) hB
theorem iO_CSp {k oo' : Nat} {N : NN} (O : iO oo' N) (h : iL c k N) (F : iF cp k N) {to : Nat} (T : iT to t N) : CSp c cp 0 0 oo' t (N 29 t) (N 30 t) N k N := by
  refine ⟨h.1, F.1, T.2.2.2.2.2.1, rfl, rfl, O.1, fun m m1 m2 => ?_⟩
  obtain ⟨o, ho, c1, c2⟩ := O.2.2.2.2.1 m m1 m2
  exact ⟨o, ho, c1, O.2.2.2.2.2 o ho⟩
theorem op_run {a1 : Int} {N : NN} (I : Inv N) (h1 : IR a1) : C_X9_run G a1 N (fun r N1 => C_X10_run G a1 N1 (fun r' N2 => wI r = wI r' ∧ Inv N2)) := by
  have I' := I
  obtain ⟨k, c, cp, oo, to, t, sz, k60, m9, m10, L, F, M, O, T, P, H⟩ := I
  have C0 := iO_CSp O L F T
  have O' := O
  have T' := T
  obtain ⟨o1, o2, o3, o4, o5, o6⟩ := O'
  obtain ⟨t1, t2, t3, t4, t5, t6, t7, t8, t9⟩ := T'
  refine vc_X9_run (t_in h1 ⟨by decide, by decide⟩ ⟨by decide, by decide⟩ (fun g => tn1 ?_) (fun g => tn0 (vc_X10_run (t_min h1 ⟨by decide, by decide⟩ ⟨by decide, by decide⟩ (fun n => absurd n g) (fun _ => tn0 ⟨rfl, I'⟩)))))
  obtain ⟨n, en⟩ : ∃ n : Nat, a1 = (n : Int) := ⟨a1.toNat, by omega⟩
  subst en
  have ws := fun _ : Unit => wI_id (x := (k : Int) + (n : Int)) (by omega) (by omega)
  rw [m9, ws ()]
  refine ⟨fun q => ?_, fun q => vc_X10_run (t_min h1 ⟨by decide, by decide⟩ ⟨by decide, by decide⟩ (fun _ => tn1 ?_) (fun n => absurd g n))⟩
  · obtain ⟨lv, lC, V, Vm⟩ := V_of (G := G) (N := N) (t := t) (by omega) (t9 t t5)
    refine c_runW V o4 (by omega) n 0 k N (by omega) (by omega) C0 m9 (fun Z vs hc hz => ?_)
    have fz := ChL_fr n k N Z vs hc
    have fZ : ∀ x i e, ¬ (x = 2 ∧ i < c) → ¬ (x = 3 ∧ k < i ∧ i ≤ k + n) → ¬ (x = 6 ∧ i = 0 ∧ e = 5) → x ≠ 31 → ¬ (x = 0 ∧ i = 0) → ¬ (x = 5 ∧ i < 5) → ¬ (x = 28 ∧ k < i ∧ i ≤ k + n) → ¬ (x = 9 ∧ i = 0 ∧ e = 11) → Z x i e = N x i e := fun x i e d1 d2 d3 d4 d5 d6 d7 d8 => fz x i e (by omega) (fun y => y.2.elim fun m z => by omega) d3 d4 d5 (by omega) (fun y => y.2.elim fun m z => by omega) d8
    have CS := ChL_CS n k N Z vs hc L.1 F.1
    refine vc_X10_run (t_min h1 ⟨by decide, by decide⟩ ⟨by decide, by decide⟩ (fun _ => tn1 ?_) (fun n => absurd g n))
    rw [fZ 10 0 1 (by omega) (by omega) (by omega) (by omega) (by omega) (by omega) (by omega) (by omega), m10, ws ()]
    refine ⟨fun _ => m_runW (by omega) n 0 Z (by omega) ?_, fun z => absurd q z⟩
    have toZ : ∀ x i e, (x = 10 ∨ (40 ≤ x ∧ x ≤ 90)) → Z x i e = N x i e := fun x i e d => fZ _ _ _ (by omega) (by omega) (by omega) (by omega) (by omega) (by omega) (by omega) (by omega)
    refine m_months (p := 0) (f := 0) (jf := fun m => m) (g := 0) (t := t) (tx := fun j => N 57 0 (160 * t + j)) (ts := N 58 0 t) lC (by decide) Vm n k N Z Z vs hc (by omega) L.1 F.1 ?_ ?_ ?_ ((toZ _ _ _ (by omega)).trans m10) ((toZ _ _ _ (by omega)).trans t8) (fun j hj => toZ _ _ _ (by omega)) (toZ _ _ _ (by omega)) (fun m m1 m2 => ?_) (fun B S R E b1 fB pB _ rt => ?_)
    · obtain ⟨s1, s2, s3, s4⟩ := L.2.1
      exact ⟨by rw [toZ _ _ _ (by omega)]; exact s1, by rw [toZ _ _ _ (by omega)]; exact s2, by rw [toZ _ _ _ (by omega)]; exact s3, by rw [toZ _ _ _ (by omega)]; exact s4⟩
    · exact ⟨fun n hn g hg => by rw [toZ _ _ _ (by omega)]; exact L.2.2.1.1 n hn g hg, by rw [toZ _ _ _ (by omega)]; exact L.2.2.1.2⟩
    · rw [VM_un (M := Z) (N := N) fun x i e d => toZ _ _ _ (by omega)]; exact F.2.1
    · obtain ⟨o, ho, c1, c2⟩ := o5 m m1 m2
      exact ⟨o, by omega, c1, by rw [toZ _ _ _ (by omega)]; exact c2, relO_fr2 (o6 o ho) (fun _ _ _ _ => rfl) (fun x i e d => toZ _ _ _ (by omega))⟩
    · have c12 := L.1.2.1
      have f : ∀ x i e, ¬ (x = 2 ∧ i < c) → ¬ (x = 3 ∧ k < i ∧ i ≤ k + n) → ¬ (x = 6 ∧ i = 0 ∧ e = 5) → x ≠ 31 → ¬ (x = 0 ∧ i = 0) → ¬ (x = 5 ∧ i < 5) → ¬ (x = 28 ∧ k < i ∧ i ≤ k + n) → ¬ (x = 9 ∧ i = 0 ∧ e = 11) → ¬ (40 ≤ x ∧ x < 48 ∧ i = 0 ∧ e < c) → ¬ (48 ≤ x ∧ x ≤ 56 ∧ i = 0 ∧ k < e ∧ e ≤ k + n) → ¬ (77 ≤ x ∧ x ≤ 79 ∧ i = 0 ∧ k < e ∧ e ≤ k + n) → ¬ (x = 10 ∧ i = 0 ∧ (e = 1 ∨ e = 14 ∨ (30 ≤ e ∧ e ≤ 44) ∨ (64 ≤ e ∧ e ≤ 68))) → ¬ (69 ≤ x ∧ x ≤ 75 ∧ i = 0) → ¬ (x = 80 ∧ i = 0 ∧ 10 * k + 10 ≤ e ∧ e < 10 * (k + n) + 10) → B x i e = N x i e := fun x i e d1 d2 d3 d4 d5 d6 d7 d8 q1 q2 q3 q4 q5 q6 => by rw [fB x i e q1 q2 q3 q4 q5 q6, fZ x i e d1 d2 d3 d4 d5 d6 d7 d8]
      have gB : ∀ x i e, x < 40 → x ≠ 10 → B x i e = Z x i e := fun x i e d d2 => fB x i e (by omega) (by omega) (by omega) (by omega) (by omega) (by omega)
      rw [b1]
      refine ⟨rfl, k + n, c, cp, oo, to, t, sz, by omega, (gB _ _ _ (by omega) (by omega)).trans hz, b1, ?_, ?_, ?_, iO_fr O fun x i e d => f _ _ _ (by omega) (by omega) (by omega) (by omega) (by omega) (by omega) (by omega) (by omega) (by omega) (by omega) (by omega) (by omega) (by omega) (by omega), iT_fr T fun x i e d => f _ _ _ (by omega) (by omega) (by omega) (by omega) (by omega) (by omega) (by omega) (by omega) (by omega) (by omega) (by omega) (by omega) (by omega) (by omega), iP_fr P fun x i e d => f _ _ _ (by omega) (by omega) (by omega) (by omega) (by omega) (by omega) (by omega) (by omega) (by omega) (by omega) (by omega) (by omega) (by omega) (by omega), iH_fr H fun x i e d => f _ _ _ (by omega) (by omega) (by omega) (by omega) (by omega) (by omega) (by omega) (by omega) (by omega) (by omega) (by omega) (by omega) (by omega) (by omega)⟩
      · refine ⟨BL_fr CS.1 fun x i e d => gB _ _ _ (by omega) (by omega), ?_, ?_, fun q q1 q2 => ?_⟩
        · obtain ⟨s1, s2, s3, s4⟩ := S
          exact ⟨s1, by rw [gB 6 _ _ (by omega) (by omega)]; exact s2, by rw [gB 6 _ _ (by omega) (by omega)]; exact s3, by rw [gB 6 _ _ (by omega) (by omega)]; exact s4⟩
        · exact ⟨fun q hq e he => by rw [gB 2 _ _ (by omega) (by omega)]; exact R.1 q hq e he, by rw [gB 6 _ _ (by omega) (by omega)]; exact R.2⟩
        · obtain ⟨z1, z2⟩ := L.2.2.2 q q1 q2
          exact ⟨fun e e1 e2 => by rw [f _ _ _ (by omega) (by omega) (by omega) (by omega) (by omega) (by omega) (by omega) (by omega) (by omega) (by omega) (by omega) (by omega) (by omega) (by omega)]; exact z1 e e1 e2, by rw [f _ _ _ (by omega) (by omega) (by omega) (by omega) (by omega) (by omega) (by omega) (by omega) (by omega) (by omega) (by omega) (by omega) (by omega) (by omega)]; exact z2⟩
      · have eV : VF B 0 = VF Z 0 := VF_un fun x i e d => gB _ _ _ (by omega) (by omega)
        refine ⟨by rw [eV]; exact CS.2, by rw [eV]; exact E, fun q q1 q2 => ?_⟩
        obtain ⟨z0, z1, z2, z3, z4⟩ := F.2.2 q q1 q2
        refine ⟨(pB q 3 q1 q2 (by decide)).trans ((toZ _ _ _ (by decide)).trans z0), (pB q 4 q1 q2 (by decide)).trans ((toZ _ _ _ (by decide)).trans z1), (pB q 5 q1 q2 (by decide)).trans ((toZ _ _ _ (by decide)).trans z2), (pB q 7 q1 q2 (by decide)).trans ((toZ _ _ _ (by decide)).trans z3), (pB q 6 q1 q2 (by decide)).trans ((toZ _ _ _ (by decide)).trans z4)⟩
      · have old : iM k B := iM_fr M fun x i e d => f _ _ _ (by omega) (by omega) (by omega) (by omega) (by omega) (by omega) (by omega) (by omega) (by omega) (by omega) (by omega) (by omega) (by omega) (by omega)
        have row := ChL_row n k N Z vs hc (fun m m1 m2 o ho => by
          obtain ⟨o', ho', c1, _⟩ := o5 m (by omega) (by omega)
          have : o = o' := by omega
          subst this
          have := o6 o ho'
          exact ⟨this.2.1, this.2.2.1⟩)
        intro m m1 m2
        by_cases y : m ≤ k
        · exact old m m1 y
        · obtain ⟨w1, w2⟩ := rt (fun _ => rfl) m (by omega) m2
          obtain ⟨r1, r2⟩ := row m (by omega) m2
          refine ⟨⟨fun e he => by rw [gB 3 _ _ (by omega) (by omega)]; exact w1 e he, fun i hi => by rw [gB 28 _ _ (by omega) (by omega)]; exact w2 i hi⟩, OKm_10 (fun e _ => gB _ _ _ (by omega) (by omega)) r1, fun o ho i hi hl => ?_⟩
          rw [gB 28 _ _ (by omega) (by omega)]
          exact r2 o ((gB 23 _ _ (by omega) (by omega)).symm.trans ho) i hi (by rw [← gB 4 _ _ (by omega) (by omega)]; exact hl)
  · rw [m10, ws ()]
    exact ⟨fun z => absurd z q, fun _ => ⟨rfl, I'⟩⟩
end RUN
