/-! an order read -/
section ORO
variable {G : GT} {N : NN}
theorem iM_fr2 {k oo : Nat} {N' : NN} (h : iM k N) (k60 : k ≤ 60) (h5 : ∀ m, 1 ≤ m → m ≤ 61 → ∃ o : Nat, o < oo ∧ N 23 0 m = (o : Int) ∧ N 76 0 m = (o : Int)) (f : ∀ c i m, (c = 3 ∧ 1 ≤ i ∧ i ≤ k ∧ m < 12) ∨ (c = 28 ∧ 1 ≤ i ∧ i ≤ k) ∨ (((48 ≤ c ∧ c ≤ 56) ∨ (77 ≤ c ∧ c ≤ 79)) ∧ i = 0 ∧ 1 ≤ m ∧ m ≤ k) ∨ (c = 80 ∧ i = 0 ∧ 10 ≤ m ∧ m < 10 * k + 10) ∨ (c = 23 ∧ i = 0) ∨ (c = 4 ∧ i < oo) → N' c i m = N c i m) : iM k N' := by
  intro m m1 m2
  obtain ⟨⟨a, b⟩, c, d⟩ := h m m1 m2
  refine ⟨⟨fun e he => ?_, fun i hi => ?_⟩, OKm_10 (fun e he => f _ _ _ (by omega)) c, fun o ho i hi hc => ?_⟩
  · have q := mF_in he
    show N' (mF e) 0 m = N' 3 m e
    rw [f _ _ _ (by omega), f 3 _ _ (by omega)]
    exact a e he
  · rw [f _ _ _ (by omega), f 28 _ _ (by omega)]
    exact b i hi
  · obtain ⟨o', ho', c1, _⟩ := h5 m m1 (by omega)
    rw [f _ _ _ (by omega)] at ho
    have : o = o' := by omega
    subst this
    rw [f _ _ _ (by omega)] at hc ⊢
    exact d o ho i hi hc
theorem op_order (I : Inv N) : C_X9_order G N (fun r N1 => C_X10_order G N1 (fun r' N2 => wI r = wI r' ∧ Inv N2)) := by
  have I' := I
  obtain ⟨k, c, cp, oo, to, t, sz, k60, m9, m10, L, F, M, O, T, P, H⟩ := I
  obtain ⟨o1, o2, o3, o4, o5, o6⟩ := O
  obtain ⟨p1, p2, p3, p4⟩ := P
  have wo := fun _ : Unit => wI_id (x := (oo : Int)) (by omega) (by omega)
  refine vc_X9_order ?_
  rw [o1, wo ()]
  refine ⟨fun q => ⟨oo, rfl, by omega, ?_⟩, fun q => s_mOrderF (by omega) ⟨rfl, I'⟩⟩
  have oo6 : oo < 6 := by omega
  have tp : TP (N 59 0) sz N := ⟨p2, p1, p4⟩
  have ple := pOrd_le (b := N 59 0) (sz := sz) 10 0 0 (fun _ _ => 0) (Nat.zero_le _)
  have pok := pOrd_ok (b := N 59 0) (sz := sz) 10 0 0 (fun _ _ => 0) (Nat.zero_le _) (by decide) (fun a ha => absurd ha (by omega))
  refine s_cOrder oo6 tp (fun ok A fA a4 a33 M3 e3 => ?_) (fun no A fA M3 e3 => ?_)
  · refine ⟨fun _ M4 e4 => ?_, fun z => absurd (by decide) z⟩
    obtain ⟨n1, n2, rows⟩ := pok ok
    have fM : ∀ c i k, ¬ (c = 8 ∧ i = 0 ∧ 1 ≤ k ∧ k ≤ 5) → ¬ (c = 33 ∧ 10 * oo ≤ i ∧ i < 10 * oo + 10) → ¬ (c = 4 ∧ i = oo ∧ k = 1) → ¬ (c = 9 ∧ i = 0 ∧ k = 13) → M4 c i k = N c i k := fun c i k d1 d2 d3 d4 => by rw [e4, up3_o' (by omega), e3, up3_o' (by omega), fA _ _ _ (by omega) d2 d3]
    have v : M4 9 0 13 = (oo : Int) + 1 := by rw [e4, up3_s, e3, up3_o' (by omega), fA _ _ _ (by omega) (by omega) (by omega), o1]
    rw [v, show (oo : Int) + 1 - 1 = (oo : Int) by omega]
    refine s_mOrder (b := N 59 0) (sz := sz) oo6 (by rw [fM _ _ _ (by omega) (by omega) (by omega) (by omega)]; exact o2) (by rw [fM _ _ _ (by omega) (by omega) (by omega) (by omega)]; exact p3) p1 (fun j hj => by rw [fM _ _ _ (by omega) (by omega) (by omega) (by omega)]; exact ⟨rfl, (p4 j hj).2⟩) (fun _ B fB b29 b45 b60 b61 => ⟨rfl, ?_⟩) (fun n => absurd (ok.symm.trans n) (by decide))
    have f : ∀ c i k, ¬ (c = 8 ∧ i = 0 ∧ 1 ≤ k ∧ k ≤ 5) → ¬ (c = 33 ∧ 10 * oo ≤ i ∧ i < 10 * oo + 10) → ¬ (c = 4 ∧ i = oo ∧ k = 1) → ¬ (c = 9 ∧ i = 0 ∧ k = 13) → ¬ (c = 57 ∧ i = 0 ∧ 960 ≤ k) → ¬ (c = 10 ∧ i = 0 ∧ ((29 ≤ k ∧ k ≤ 38) ∨ k = 45)) → ¬ (c = 60 ∧ i = 0 ∧ k = oo) → ¬ (61 ≤ c ∧ c ≤ 66 ∧ i = 0 ∧ 10 * oo ≤ k ∧ k < 10 * oo + 10) → B c i k = N c i k := fun c i k d1 d2 d3 d4 d5 d6 d7 d8 => by rw [fB _ _ _ d5 d6 d7 d8, fM _ _ _ d1 d2 d3 d4]
    have x4 : B 4 oo 1 = ((pOrd (N 59 0) sz 10 0 0 (fun _ _ => 0)).2.2.1 : Int) := by rw [fB _ _ _ (by omega) (by omega) (by omega) (by omega), e4, up3_o' (by omega), e3, up3_o' (by omega), a4]
    have x33 : ∀ i, i < (pOrd (N 59 0) sz 10 0 0 (fun _ _ => 0)).2.2.1 → ∀ g, g < 6 → B 33 (10 * oo + i) g = (pOrd (N 59 0) sz 10 0 0 (fun _ _ => 0)).2.2.2 i g := fun i hi g hg => by rw [fB _ _ _ (by omega) (by omega) (by omega) (by omega), e4, up3_o' (by omega), e3, up3_o' (by omega), a33 i hi g hg]
    generalize pOrd (N 59 0) sz 10 0 0 (fun _ _ => 0) = R at *
    refine ⟨k, c, cp, oo + 1, to, t, 0, k60, by rw [f _ _ _ (by omega) (by omega) (by omega) (by omega) (by omega) (by omega) (by omega) (by omega)]; exact m9, by rw [f _ _ _ (by omega) (by omega) (by omega) (by omega) (by omega) (by omega) (by omega) (by omega)]; exact m10, iL_fr L fun x i g d => f _ _ _ (by omega) (by omega) (by omega) (by omega) (by omega) (by omega) (by omega) (by omega), iF_fr F fun x i g d => f _ _ _ (by omega) (by omega) (by omega) (by omega) (by omega) (by omega) (by omega) (by omega), iM_fr2 M k60 o5 fun x i g d => f _ _ _ (by omega) (by omega) (by omega) (by omega) (by omega) (by omega) (by omega) (by omega), ⟨?_, b45, by omega, by omega, fun m x1 x2 => ?_, fun o ho => ?_⟩, iT_fr T fun x i g d => f _ _ _ (by omega) (by omega) (by omega) (by omega) (by omega) (by omega) (by omega) (by omega), ⟨by omega, ?_, b29, fun j hj => absurd hj (by omega)⟩, iH_fr H fun x i g d => f _ _ _ (by omega) (by omega) (by omega) (by omega) (by omega) (by omega) (by omega) (by omega)⟩
    · rw [fB _ _ _ (by omega) (by omega) (by omega) (by omega), v]; omega
    · obtain ⟨o, ho, c1, c2⟩ := o5 m x1 x2
      exact ⟨o, by omega, by rw [f _ _ _ (by omega) (by omega) (by omega) (by omega) (by omega) (by omega) (by omega) (by omega)]; exact c1, by rw [f _ _ _ (by omega) (by omega) (by omega) (by omega) (by omega) (by omega) (by omega) (by omega)]; exact c2⟩
    · by_cases e : o = oo
      · subst e
        refine ⟨x4.trans b60.symm, by rw [x4]; omega, by rw [x4]; omega, fun i hi => ?_⟩
        rw [x4] at hi
        have hi' : i < R.2.2.1 := by omega
        exact ⟨okR_8 (fun g hg => (x33 i hi' g hg).symm) (rows i hi'), fun g hg => (b61 i hi' g hg).trans (x33 i hi' g hg).symm⟩
      · exact relO_fr (o6 o (by omega)) fun x i g d => f _ _ _ (by omega) (by omega) (by omega) (by omega) (by omega) (by omega) (by omega) (by omega)
    · rw [fB _ _ _ (by omega) (by omega) (by omega) (by omega), e4, up3_o' (by omega), e3, up3_s]; rfl
  · refine ⟨fun z => absurd z (by rw [wI_id (by omega) (by omega)]; omega), fun _ => ?_⟩
    have fM : ∀ c i k, ¬ (c = 8 ∧ i = 0 ∧ 1 ≤ k ∧ k ≤ 5) → ¬ (c = 33 ∧ 10 * oo ≤ i ∧ i < 10 * oo + 10) → ¬ (c = 4 ∧ i = oo ∧ k = 1) → M3 c i k = N c i k := fun c i k d1 d2 d3 => by rw [e3, up3_o' (by omega), fA _ _ _ (by omega) d2 d3]
    refine s_mOrder (b := N 59 0) (sz := sz) oo6 (by rw [fM _ _ _ (by omega) (by omega) (by omega)]; exact o2) (by rw [fM _ _ _ (by omega) (by omega) (by omega)]; exact p3) p1 (fun j hj => by rw [fM _ _ _ (by omega) (by omega) (by omega)]; exact ⟨rfl, (p4 j hj).2⟩) (fun n => absurd (no.symm.trans n) (by decide)) (fun _ B fB b29 b45 => ⟨rfl, ?_⟩)
    have f : ∀ c i k, ¬ (c = 8 ∧ i = 0 ∧ 1 ≤ k ∧ k ≤ 5) → ¬ (c = 33 ∧ 10 * oo ≤ i ∧ i < 10 * oo + 10) → ¬ (c = 4 ∧ i = oo ∧ k = 1) → ¬ (c = 57 ∧ i = 0 ∧ 960 ≤ k) → ¬ (c = 10 ∧ i = 0 ∧ ((29 ≤ k ∧ k ≤ 38) ∨ k = 45)) → ¬ (c = 60 ∧ i = 0 ∧ k = oo) → ¬ (61 ≤ c ∧ c ≤ 66 ∧ i = 0 ∧ 10 * oo ≤ k ∧ k < 10 * oo + 10) → B c i k = N c i k := fun c i k d1 d2 d3 d5 d6 d7 d8 => by rw [fB _ _ _ d5 d6 d7 d8, fM _ _ _ d1 d2 d3]
    refine ⟨k, c, cp, oo, to, t, 0, k60, by rw [f _ _ _ (by omega) (by omega) (by omega) (by omega) (by omega) (by omega) (by omega)]; exact m9, by rw [f _ _ _ (by omega) (by omega) (by omega) (by omega) (by omega) (by omega) (by omega)]; exact m10, iL_fr L fun x i g d => f _ _ _ (by omega) (by omega) (by omega) (by omega) (by omega) (by omega) (by omega), iF_fr F fun x i g d => f _ _ _ (by omega) (by omega) (by omega) (by omega) (by omega) (by omega) (by omega), iM_fr2 M k60 o5 fun x i g d => f _ _ _ (by omega) (by omega) (by omega) (by omega) (by omega) (by omega) (by omega), ⟨?_, b45, o3, o4, fun m x1 x2 => ?_, fun o ho => relO_fr (o6 o ho) fun x i g d => f _ _ _ (by omega) (by omega) (by omega) (by omega) (by omega) (by omega) (by omega)⟩, iT_fr T fun x i g d => f _ _ _ (by omega) (by omega) (by omega) (by omega) (by omega) (by omega) (by omega), ⟨by omega, ?_, b29, fun j hj => absurd hj (by omega)⟩, iH_fr H fun x i g d => f _ _ _ (by omega) (by omega) (by omega) (by omega) (by omega) (by omega) (by omega)⟩
    · rw [f _ _ _ (by omega) (by omega) (by omega) (by omega) (by omega) (by omega) (by omega)]; exact o1
    · obtain ⟨o, ho, c1, c2⟩ := o5 m x1 x2
      exact ⟨o, ho, by rw [f _ _ _ (by omega) (by omega) (by omega) (by omega) (by omega) (by omega) (by omega)]; exact c1, by rw [f _ _ _ (by omega) (by omega) (by omega) (by omega) (by omega) (by omega) (by omega)]; exact c2⟩
    · rw [fB _ _ _ (by omega) (by omega) (by omega) (by omega), e3, up3_s]; rfl
end ORO
