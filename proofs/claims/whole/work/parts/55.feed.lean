/-! bytes out of a long, and the tape that is fed -/
theorem by_i2b (z : Int) : i2bI z = z.bmod 256 := by
  unfold i2bI
  rw [Int8.toInt_toInt32, Int32.toInt8_ofInt, Int8.toInt_ofInt]
theorem by_wB (z : Int) : wB z = z.bmod 256 := by
  show (Int32.ofInt z).toInt8.toInt32.toInt = _
  rw [Int8.toInt_toInt32, Int32.toInt8_ofInt, Int8.toInt_ofInt]
theorem by_and {w : Nat} (b : BitVec w) (h : 9 ≤ w) : (b &&& BitVec.ofNat w 255).toInt = ((b.toNat % 256 : Nat) : Int) := by
  have p : 2 ^ 9 ≤ 2 ^ w := Nat.pow_le_pow_right (by decide) h
  have e : (b &&& BitVec.ofNat w 255).toNat = b.toNat % 256 := by
    rw [BitVec.toNat_and, BitVec.toNat_ofNat, Nat.mod_eq_of_lt (a := 255) (by omega)]
    exact Nat.and_two_pow_sub_one_eq_mod b.toNat 8
  rw [BitVec.toInt_eq_toNat_of_lt (by rw [e]; omega), e]
theorem by_nat {w : Nat} (z : Int) (h : 8 ≤ w) : (((BitVec.ofInt w z).toNat % 256 : Nat) : Int) = z % 256 := by
  rw [BitVec.toNat_ofInt]
  have hw : (0 : Int) < ((2 ^ w : Nat) : Int) := by exact_mod_cast Nat.two_pow_pos w
  have q : (256 : Int) ∣ ((2 ^ w : Nat) : Int) := by
    have : (256 : Nat) ∣ 2 ^ w := Nat.pow_dvd_pow 2 h
    exact Int.natCast_dvd_natCast.mpr this
  rw [Int.natCast_emod, Int.toNat_of_nonneg (Int.emod_nonneg _ (by omega))]
  exact Int.emod_emod_of_dvd z q
theorem by_andI (z : Int) : andI z 255 = z % 256 := by
  show (BitVec.ofInt 32 z &&& BitVec.ofNat 32 255).toInt = _
  rw [by_and _ (by decide), by_nat _ (by decide)]
theorem by_andL (z : Int) : andL z 255 = z % 256 := by
  show (BitVec.ofInt 64 z &&& BitVec.ofNat 64 255).toInt = _
  rw [by_and _ (by decide), by_nat _ (by decide)]
theorem by_shr (x : Int) (i : Nat) (h : i < 8) : shrL x (8 * (i : Int)) = wL x / 2 ^ (8 * i) := by
  have e : shrL x (8 * (i : Int)) = ((Int64.ofInt x).toBitVec.sshiftRight (8 * i)).toInt := by
    rcases (by omega : i = 0 ∨ i = 1 ∨ i = 2 ∨ i = 3 ∨ i = 4 ∨ i = 5 ∨ i = 6 ∨ i = 7) with rfl | rfl | rfl | rfl | rfl | rfl | rfl | rfl <;> rfl
  have hw : wL x = (Int64.ofInt x).toInt := (Int64.toInt_ofInt).symm
  rw [e, BitVec.toInt_sshiftRight, Int.shiftRight_eq_div_pow, hw]
  rfl
theorem by_ushr (x : Int) (i : Nat) (h : i < 8) : ushrL x (8 * (i : Int)) % 256 = (x % 18446744073709551616) / 2 ^ (8 * i) % 256 := by
  have e : ushrL x (8 * (i : Int)) = ((BitVec.ofInt 64 x) >>> (8 * i)).toInt := by
    rcases (by omega : i = 0 ∨ i = 1 ∨ i = 2 ∨ i = 3 ∨ i = 4 ∨ i = 5 ∨ i = 6 ∨ i = 7) with rfl | rfl | rfl | rfl | rfl | rfl | rfl | rfl <;> rfl
  have n : ((BitVec.ofInt 64 x) >>> (8 * i)).toNat = (x % 18446744073709551616).toNat / 2 ^ (8 * i) := by
    rw [BitVec.toNat_ushiftRight, BitVec.toNat_ofInt, Nat.shiftRight_eq_div_pow]
    rfl
  have c := BitVec.toInt_eq_toNat_cond ((BitVec.ofInt 64 x) >>> (8 * i))
  have d : (256 : Int) ∣ ((2 ^ 64 : Nat) : Int) := by decide
  have m : ((((x % 18446744073709551616).toNat / 2 ^ (8 * i) : Nat) : Int)) = (x % 18446744073709551616) / 2 ^ (8 * i) := by
    rw [Int.natCast_ediv, Int.toNat_of_nonneg (Int.emod_nonneg _ (by decide)), Int.natCast_pow]
    rfl
  rw [e, c, n, ← m]
  by_cases y : 2 * ((x % 18446744073709551616).toNat / 2 ^ (8 * i)) < 2 ^ 64
  · rw [if_pos y]
  · rw [if_neg y]
    omega
theorem by_byte (x : Int) (i : Nat) (h : i < 8) : andI (wB (i2bI (ushrL x (8 * (i : Int))))) 255 = andL (shrL x (8 * (i : Int))) 255 ∧ 0 ≤ andL (shrL x (8 * (i : Int))) 255 ∧ andL (shrL x (8 * (i : Int))) 255 ≤ 255 := by
  refine ⟨?_, ?_⟩
  · rw [by_andI, by_andL, by_wB, by_i2b, by_shr x i h]
    have u := by_ushr x i h
    have b : (((ushrL x (8 * (i : Int))).bmod 256).bmod 256) % 256 = ushrL x (8 * (i : Int)) % 256 := by
      rw [Int.bmod_bmod]
      exact Int.bmod_emod
    rw [b, u]
    have w : wL x % 18446744073709551616 = x % 18446744073709551616 := by unfold wL; exact Int.bmod_emod
    rw [← w]
    clear u b w
    generalize wL x = y
    rcases (by omega : i = 0 ∨ i = 1 ∨ i = 2 ∨ i = 3 ∨ i = 4 ∨ i = 5 ∨ i = 6 ∨ i = 7) with rfl | rfl | rfl | rfl | rfl | rfl | rfl | rfl <;> simp only [Nat.reduceMul, Int.reducePow] <;> omega
  · rw [by_andL]
    omega
section FEE
variable {G : GT} {N : NN}
theorem lp_append {n sz : Nat} {x : Int} {K : NN → Prop} (n8 : n ≤ 8) (hs : sz + n ≤ 160) : ∀ (d i : Nat) (N : NN), i + d = n → N 8 0 1 = ((sz + i : Nat) : Int) → (∀ N' : NN, (∀ j, i ≤ j → j < n → N' 24 0 (sz + j) = wB (i2bI (ushrL x (8 * (j : Int))))) → (∀ c r k, ¬ (c = 24 ∧ r = 0 ∧ sz + i ≤ k ∧ k < sz + n) → ¬ (c = 8 ∧ r = 0 ∧ k = 1) → N' c r k = N c r k) → N' 8 0 1 = ((sz + n : Nat) : Int) → K N') → W_X8_append G K 3 [(0, vR 8 0), (1, vI (n : Int)), (2, vL x), (4, vI (i : Int))] [] N
  | 0, i, N, hd, h8, k => by
    have : i = n := by omega
    subst this
    refine vc_X8_append_3 ⟨fun _ => k N (fun j h1 h2 => by omega) (fun _ _ _ _ _ => rfl) h8, fun q => absurd (Int.le_refl _) q⟩
  | d + 1, i, N, hd, h8, k => by
    have wn := fun _ : Unit => wI_id (x := (n : Int)) (by omega) (by omega)
    have wi := fun _ : Unit => wI_id (x := (i : Int)) (by omega) (by omega)
    refine vc_X8_append_3 ?_
    rw [wn (), wi (), h8]
    refine ⟨fun q => absurd q (by omega), fun _ => ⟨fun q => absurd q (by rw [wI_id (by omega) (by omega)]; omega), fun _ => ⟨sz + i, by rw [wI_id (by omega) (by omega)], by omega, fun M2 e2 M3 e3 => ?_⟩⟩⟩
    have f : ∀ c r k, ¬ (c = 24 ∧ r = 0 ∧ k = sz + i) → ¬ (c = 8 ∧ r = 0 ∧ k = 1) → M3 c r k = N c r k := fun c r k d1 d2 => by rw [e3, up3_o' (by omega), e2, up3_o' (by omega)]
    refine lp_append n8 hs d (i + 1) M3 (by omega) ?_ (fun N' g1 g2 g3 => k N' (fun j j1 j2 => ?_) (fun c r k d1 d2 => ?_) g3)
    · rw [e3, up3_s, e2, up3_o' (by omega), h8]; omega
    · by_cases e : j = i
      · subst e
        rw [g2 _ _ _ (by omega) (by omega), e3, up3_o' (by omega), e2, up3_s]
      · exact g1 j (by omega) j2
    · rw [g2 _ _ _ (by omega) d2, f _ _ _ (by omega) d2]
theorem lp_feed {n sz : Nat} {x : Int} {K : Int → NN → Prop} (n8 : n ≤ 8) (hs : sz + n ≤ 160) : ∀ (d i : Nat) (N : NN), i + d = n → N 10 0 29 = ((sz + i : Nat) : Int) → (∀ N' : NN, (∀ j, i ≤ j → j < n → N' 59 0 (sz + j) = andL (shrL x (8 * (j : Int))) 255) → (∀ c r k, ¬ (c = 59 ∧ r = 0 ∧ sz + i ≤ k ∧ k < sz + n) → ¬ (c = 10 ∧ r = 0 ∧ k = 29) → N' c r k = N c r k) → N' 10 0 29 = ((sz + n : Nat) : Int) → K ((sz + n : Nat) : Int) N') → W_X10_feed G K 31 [(0, vR 10 0), (1, vI (n : Int)), (2, vL x), (4, vI (i : Int))] [] N
  | 0, i, N, hd, h8, k => by
    have : i = n := by omega
    subst this
    refine vc_X10_feed_31 ⟨fun _ => ?_, fun q => absurd (Int.le_refl _) q⟩
    rw [h8]
    exact k N (fun j h1 h2 => by omega) (fun _ _ _ _ _ => rfl) h8
  | d + 1, i, N, hd, h8, k => by
    have wn := fun _ : Unit => wI_id (x := (n : Int)) (by omega) (by omega)
    have wi := fun _ : Unit => wI_id (x := (i : Int)) (by omega) (by omega)
    refine vc_X10_feed_31 ?_
    rw [wn (), wi (), h8]
    refine ⟨fun q => absurd q (by omega), fun _ => ⟨sz + i, by rw [wI_id (by omega) (by omega)], by omega, fun M2 e2 M3 e3 => ?_⟩⟩
    have f : ∀ c r k, ¬ (c = 59 ∧ r = 0 ∧ k = sz + i) → ¬ (c = 10 ∧ r = 0 ∧ k = 29) → M3 c r k = N c r k := fun c r k d1 d2 => by rw [e3, up3_o' (by omega), e2, up3_o' (by omega)]
    refine lp_feed n8 hs d (i + 1) M3 (by omega) ?_ (fun N' g1 g2 g3 => k N' (fun j j1 j2 => ?_) (fun c r k d1 d2 => ?_) g3)
    · rw [e3, up3_s, e2, up3_o' (by omega), h8]; omega
    · by_cases e : j = i
      · subst e
        rw [g2 _ _ _ (by omega) (by omega), e3, up3_o' (by omega), e2, up3_s]
      · exact g1 j (by omega) j2
    · rw [g2 _ _ _ (by omega) d2, f _ _ _ (by omega) d2]
theorem op_feed {a1 a2 : Int} (I : Inv N) (h1 : IR a1) : C_X9_feed G a1 a2 N (fun r N1 => C_X10_feed G a1 a2 N1 (fun r' N2 => wI r = wI r' ∧ Inv N2)) := by
  have I' := I
  obtain ⟨k, c, cp, oo, to, t, sz, k60, m9, m10, L, F, M, O, T, P, H⟩ := I
  obtain ⟨p1, p2, p3, p4⟩ := P
  refine vc_X9_feed (t_in h1 ⟨by decide, by decide⟩ ⟨by decide, by decide⟩ (fun g => tn1 ?_) (fun g => tn0 (vc_X10_feed (t_min h1 ⟨by decide, by decide⟩ ⟨by decide, by decide⟩ (fun n => absurd n g) (fun _ => tn0 ⟨rfl, I'⟩)))))
  obtain ⟨n, en⟩ : ∃ n : Nat, a1 = (n : Int) := ⟨a1.toNat, by omega⟩
  subst en
  have ws : wI ((sz : Int) + (n : Int)) = (sz : Int) + (n : Int) := wI_id (by omega) (by omega)
  rw [p2, ws]
  refine ⟨fun q => vc_X8_append (lp_append (n := n) (sz := sz) (by omega) (by omega) n 0 N (by omega) p2 (fun A g1 g2 g3 => ?_)), fun q => vc_X10_feed (t_min h1 ⟨by decide, by decide⟩ ⟨by decide, by decide⟩ (fun _ => tn1 ?_) (fun n => absurd g n))⟩
  · refine vc_X10_feed (t_min h1 ⟨by decide, by decide⟩ ⟨by decide, by decide⟩ (fun _ => tn1 ?_) (fun n => absurd g n))
    have fA : ∀ c r k, c ≠ 24 → c ≠ 8 → A c r k = N c r k := fun c r k d1 d2 => g2 _ _ _ (by omega) (by omega)
    rw [fA 10 0 29 (by decide) (by decide), p3, ws]
    refine ⟨fun _ => lp_feed (n := n) (sz := sz) (by omega) (by omega) n 0 A (by omega) ((fA 10 0 29 (by decide) (by decide)).trans p3) (fun B b1 b2 b3 => ?_), fun z => absurd q z⟩
    have f : ∀ c r k, ¬ (c = 24 ∧ r = 0 ∧ sz ≤ k) → ¬ (c = 8 ∧ r = 0 ∧ k = 1) → ¬ (c = 59 ∧ r = 0 ∧ sz ≤ k) → ¬ (c = 10 ∧ r = 0 ∧ k = 29) → B c r k = N c r k := fun c r k d1 d2 d3 d4 => by rw [b2 _ _ _ (by omega) d4, g2 _ _ _ (by omega) d2]
    refine ⟨by rw [g3], k, c, cp, oo, to, t, sz + n, k60, by rw [f _ _ _ (by omega) (by omega) (by omega) (by omega)]; exact m9, by rw [f _ _ _ (by omega) (by omega) (by omega) (by omega)]; exact m10, iL_fr L fun x i g d => f _ _ _ (by omega) (by omega) (by omega) (by omega), iF_fr F fun x i g d => f _ _ _ (by omega) (by omega) (by omega) (by omega), iM_fr M fun x i g d => f _ _ _ (by omega) (by omega) (by omega) (by omega), iO_fr O fun x i g d => f _ _ _ (by omega) (by omega) (by omega) (by omega), iT_fr T fun x i g d => f _ _ _ (by omega) (by omega) (by omega) (by omega), ⟨by omega, by rw [b2 _ _ _ (by omega) (by omega)]; exact g3, b3, fun j hj => ?_⟩, iH_fr H fun x i g d => f _ _ _ (by omega) (by omega) (by omega) (by omega)⟩
    by_cases e : j < sz
    · rw [f _ _ _ (by omega) (by omega) (by omega) (by omega), f 59 _ _ (by omega) (by omega) (by omega) (by omega)]
      exact p4 j e
    · have u := b1 (j - sz) (by omega) (by omega)
      have v := g1 (j - sz) (by omega) (by omega)
      rw [show sz + (j - sz) = j by omega] at u v
      rw [b2 _ _ _ (by omega) (by omega), v, u]
      exact by_byte a2 (j - sz) (by omega)
  · rw [p3, ws]
    exact ⟨fun z => absurd z q, fun _ => ⟨rfl, I'⟩⟩
end FEE
