/-! an order, by the reference -/
def WRT (K : Int → NN → Prop) (l1 l2 : Int) (N : NN) : Prop := (∃ j1 : Nat, (wI (l1 + l2)) = (j1 : Int) ∧ j1 < 60 ∧ (∀ M2 : NN, M2 = up3 N 61 0 j1 5 → (∃ j3 : Nat, (wI (l1 + l2)) = (j3 : Int) ∧ j3 < 60 ∧ (∀ M4 : NN, M4 = up3 M2 62 0 j3 ((-1)) → (∃ j5 : Nat, (wI (l1 + l2)) = (j5 : Int) ∧ j5 < 60 ∧ (∀ M6 : NN, M6 = up3 M4 63 0 j5 ((-1)) → (∃ j7 : Nat, (wI (l1 + l2)) = (j7 : Int) ∧ j7 < 60 ∧ (∀ M8 : NN, M8 = up3 M6 64 0 j7 0 → (∃ j9 : Nat, (wI (l1 + l2)) = (j9 : Int) ∧ j9 < 60 ∧ (∀ M10 : NN, M10 = up3 M8 65 0 j9 ((-1)) → (∃ j11 : Nat, (wI (l1 + l2)) = (j11 : Int) ∧ j11 < 60 ∧ (∀ M12 : NN, M12 = up3 M10 66 0 j11 ((-1)) → (∃ j13 : Nat, (wI (M12 10 0 45)) = (j13 : Int) ∧ j13 < 6 ∧ (∀ M14 : NN, M14 = up3 M12 60 0 j13 (l2 + 1) → (∀ M15 : NN, M15 = up3 M14 10 0 45 ((M14 10 0 45) + 1) → K ((M15 10 0 45) - 1) M15)))))))))))))))
/-- what reading an order may change in the reference -/
def FrMO (oc : Nat) (N N' : NN) : Prop := ∀ c i k, ¬ (c = 57 ∧ i = 0 ∧ 960 ≤ k) → ¬ (c = 10 ∧ i = 0 ∧ ((29 ≤ k ∧ k ≤ 38) ∨ k = 45)) → ¬ (c = 60 ∧ i = 0 ∧ k = oc) → ¬ (61 ≤ c ∧ c ≤ 66 ∧ i = 0 ∧ 10 * oc ≤ k ∧ k < 10 * oc + 10) → N' c i k = N c i k
section MOR
variable {G : GT} {b : Nat → Int} {sz oc : Nat}
theorem m_wrt {K : Int → NN → Prop} {i : Nat} {N : NN} (ho : oc < 6) (hi : i < 10) (h45 : N 10 0 45 = (oc : Int)) (k : ∀ N', (∀ c j k, ¬ (61 ≤ c ∧ c ≤ 66 ∧ j = 0 ∧ k = 10 * oc + i) → ¬ (c = 60 ∧ j = 0 ∧ k = oc) → ¬ (c = 10 ∧ j = 0 ∧ k = 45) → N' c j k = N c j k) → (∀ f, f < 6 → N' (61 + f) 0 (10 * oc + i) = restRow f) → N' 60 0 oc = ((i + 1 : Nat) : Int) → N' 10 0 45 = ((oc + 1 : Nat) : Int) → K (oc : Int) N') : WRT K (10 * (oc : Int)) (i : Int) N := by
  unfold WRT
  rw [show 10 * (oc : Int) + (i : Int) = ((10 * oc + i : Nat) : Int) by omega, wI_id (x := ((10 * oc + i : Nat) : Int)) (by omega) (by omega)]
  refine ⟨10 * oc + i, rfl, by omega, fun M2 e2 => ⟨10 * oc + i, rfl, by omega, fun M4 e4 => ⟨10 * oc + i, rfl, by omega, fun M6 e6 => ⟨10 * oc + i, rfl, by omega, fun M8 e8 => ⟨10 * oc + i, rfl, by omega, fun M10 e10 => ⟨10 * oc + i, rfl, by omega, fun M12 e12 => ?_⟩⟩⟩⟩⟩⟩
  have f12 : ∀ c j k, ¬ (61 ≤ c ∧ c ≤ 66 ∧ j = 0 ∧ k = 10 * oc + i) → M12 c j k = N c j k := fun c j k a => by rw [e12, up3_o' (by omega), e10, up3_o' (by omega), e8, up3_o' (by omega), e6, up3_o' (by omega), e4, up3_o' (by omega), e2, up3_o' (by omega)]
  rw [f12 10 0 45 (by omega), h45, wI_id (x := (oc : Int)) (by omega) (by omega)]
  refine ⟨oc, rfl, ho, fun M14 e14 M15 e15 => ?_⟩
  have x45 : M14 10 0 45 = (oc : Int) := by rw [e14, up3_o' (by omega), f12 _ _ _ (by omega), h45]
  have y45 : M15 10 0 45 = (oc : Int) + 1 := by rw [e15, up3_s, x45]
  rw [y45, show (oc : Int) + 1 - 1 = (oc : Int) by omega]
  have o : ∀ c j k, ¬ (c = 60 ∧ j = 0 ∧ k = oc) → ¬ (c = 10 ∧ j = 0 ∧ k = 45) → M15 c j k = M12 c j k := fun c j k a d => by rw [e15, up3_o' (by omega), e14, up3_o' (by omega)]
  refine k M15 (fun c j k a d e => by rw [o _ _ _ d e, f12 _ _ _ a]) (fun f hf => ?_) ?_ ?_
  · rw [o _ _ _ (by omega) (by omega)]
    rcases (by omega : f = 0 ∨ f = 1 ∨ f = 2 ∨ f = 3 ∨ f = 4 ∨ f = 5) with rfl | rfl | rfl | rfl | rfl | rfl
    · show M12 61 0 _ = 5
      rw [e12, up3_o' (by omega), e10, up3_o' (by omega), e8, up3_o' (by omega), e6, up3_o' (by omega), e4, up3_o' (by omega), e2, up3_s]
    · show M12 62 0 _ = -1
      rw [e12, up3_o' (by omega), e10, up3_o' (by omega), e8, up3_o' (by omega), e6, up3_o' (by omega), e4, up3_s]
    · show M12 63 0 _ = -1
      rw [e12, up3_o' (by omega), e10, up3_o' (by omega), e8, up3_o' (by omega), e6, up3_s]
    · show M12 64 0 _ = 0
      rw [e12, up3_o' (by omega), e10, up3_o' (by omega), e8, up3_s]
    · show M12 65 0 _ = -1
      rw [e12, up3_o' (by omega), e10, up3_s]
    · show M12 66 0 _ = -1
      rw [e12, up3_s]
  · rw [e15, up3_o' (by omega), e14, up3_s]
    omega
  · rw [y45]
    omega
theorem m_155B {K : Int → NN → Prop} {i q : Nat} {N : NN} {l1 : Int} (bd : BAD q N) (k : K (-100 - (q : Int)) N) : W_X10_order G K 155 [(0, vR 10 0), (1, vI l1), (2, vI (i : Int))] [] N := by
  refine vc_X10_order_155 ?_
  rw [bd.1, bd.2, wlitI (k := 1) (by decide) (by decide)]
  exact ⟨fun _ => ⟨fun _ => ⟨fun z => absurd z (by decide), fun _ => k⟩, fun z => absurd (by decide) z⟩, fun z => absurd (by decide) z⟩
theorem m_155 {K : Int → NN → Prop} {i p : Nat} {N : NN} (ho : oc < 6) (hi : i < 10) (h45 : N 10 0 45 = (oc : Int)) (S : MSo b sz 960 p N) (w : isW b sz p 358472)
    (k1 : tT b sz (tE b sz p) = 0 → ∀ N', (∀ c j k, ¬ (61 ≤ c ∧ c ≤ 66 ∧ j = 0 ∧ k = 10 * oc + i) → ¬ (c = 60 ∧ j = 0 ∧ k = oc) → ¬ (c = 10 ∧ j = 0 ∧ ((32 ≤ k ∧ k ≤ 38) ∨ k = 45)) → N' c j k = N c j k) → (∀ f, f < 6 → N' (61 + f) 0 (10 * oc + i) = restRow f) → N' 60 0 oc = ((i + 1 : Nat) : Int) → N' 10 0 45 = ((oc + 1 : Nat) : Int) → K (oc : Int) N')
    (k0 : ¬ tT b sz (tE b sz p) = 0 → ∀ N', FrP N N' → K (-100 - (tS b sz (tE b sz p) : Int)) N') : W_X10_order G K 155 [(0, vR 10 0), (1, vI (10 * (oc : Int))), (2, vI (i : Int))] [] N := by
  refine vc_X10_order_155 ?_
  rw [S.2, wlitI (k := 0) (by decide) (by decide)]
  refine ⟨fun z => absurd rfl z, fun _ => s_mOn S.1 (by have := w.1; omega) fun N1 f1 T1 => ?_⟩
  have S1 := S.on f1 T1
  have r := tT_rng (b := b) (sz := sz) (p := tE b sz p)
  rw [S1.2, S1.1.2.2.2.1, wlitI (k := 0) (by decide) (by decide), wI_id (x := tT b sz (tE b sz p)) (by omega) (by omega)]
  refine ⟨fun z => absurd rfl z, fun _ => ⟨fun t0 => ⟨fun _ => ?_, fun z => absurd rfl z⟩, fun n0 => s_fail S1.1 S1.2 fun N2 f2 bd _ => ?_⟩⟩
  · exact m_wrt ho hi (by rw [f1 _ _ _ (by omega), h45]) (fun N' f rows c60 c45 => k1 t0 N' (fun c j k a d e => by rw [f _ _ _ a d (by omega), f1 _ _ _ (by omega)]) rows c60 c45)
  · rw [bd.1, bd.2, wlitI (k := 1) (by decide) (by decide)]
    exact ⟨fun z => absurd z (by decide), fun _ => k0 n0 N2 (f1.toP.tr f2)⟩
theorem s_mOrder {K : Int → NN → Prop} {N : NN} (ho : oc < 6) (h45 : N 10 0 45 = (oc : Int)) (h29 : N 10 0 29 = (sz : Int)) (hsz : sz ≤ 160) (hb : ∀ j, j < sz → N 59 0 j = b j ∧ 0 ≤ b j ∧ b j ≤ 255)
    (k1 : (pOrd b sz 10 0 0 (fun _ _ => 0)).1 = true → ∀ N', FrMO oc N N' → N' 10 0 29 = 0 → N' 10 0 45 = ((oc + 1 : Nat) : Int) → N' 60 0 oc = ((pOrd b sz 10 0 0 (fun _ _ => 0)).2.2.1 : Int) → (∀ i, i < (pOrd b sz 10 0 0 (fun _ _ => 0)).2.2.1 → ∀ f, f < 6 → N' (61 + f) 0 (10 * oc + i) = (pOrd b sz 10 0 0 (fun _ _ => 0)).2.2.2 i f) → K (oc : Int) N')
    (k0 : (pOrd b sz 10 0 0 (fun _ _ => 0)).1 = false → ∀ N', FrMO oc N N' → N' 10 0 29 = 0 → N' 10 0 45 = (oc : Int) → K (-100 - ((pOrd b sz 10 0 0 (fun _ _ => 0)).2.1 : Int)) N') : C_X10_order G N K := by
  refine vc_X10_order ?_
  rw [h45, wI_id (x := (oc : Int)) (by omega) (by omega)]
  refine ⟨fun _ => ?_, fun z => absurd (by omega) z⟩
  -- the steps
  have loop : ∀ (k i p : Nat) (R : Nat → Nat → Int) (M : NN), i + k = 10 → FrMO oc N M → M 10 0 29 = 0 → M 10 0 45 = (oc : Int) → MSo b sz 960 p M → (∀ a, a < i → ∀ f, f < 6 → M (61 + f) 0 (10 * oc + a) = R a f) →
      ((pOrd b sz k i p R).1 = true → ∀ N', FrMO oc N N' → N' 10 0 29 = 0 → N' 10 0 45 = ((oc + 1 : Nat) : Int) → N' 60 0 oc = ((pOrd b sz k i p R).2.2.1 : Int) → (∀ i', i' < (pOrd b sz k i p R).2.2.1 → ∀ f, f < 6 → N' (61 + f) 0 (10 * oc + i') = (pOrd b sz k i p R).2.2.2 i' f) → K (oc : Int) N') →
      ((pOrd b sz k i p R).1 = false → ∀ N', FrMO oc N N' → N' 10 0 29 = 0 → N' 10 0 45 = (oc : Int) → K (-100 - ((pOrd b sz k i p R).2.1 : Int)) N') → 0 < k → W_X10_order G K 88 [(0, vR 10 0), (1, vI (10 * (oc : Int))), (2, vI (i : Int))] [] M := by
    intro k
    induction k with
    | zero => intro i p R M _ _ _ _ _ _ _ _ h; omega
    | succ k ih =>
      intro i p R M hi F z29 z45 S rows k1 k0 _
      have wi := fun _ : Unit => wI_id (x := (i : Int)) (by omega) (by omega)
      unfold pOrd at k1 k0
      -- where it has failed
      have out : ∀ (M' : NN) (q j : Nat), FrMO oc N M' → M' 10 0 29 = 0 → M' 10 0 45 = (oc : Int) → BAD q M' → (∀ N', FrMO oc N N' → N' 10 0 29 = 0 → N' 10 0 45 = (oc : Int) → K (-100 - (q : Int)) N') → W_X10_order G K 88 [(0, vR 10 0), (1, vI (10 * (oc : Int))), (2, vI (j : Int))] [] M' := by
        intro M' q j F' y29 y45 bd kk
        refine vc_X10_order_88 ?_
        rw [bd.1, wlitI (k := 1) (by decide) (by decide)]
        exact ⟨fun _ => m_155B bd (kk M' F' y29 y45), fun z => absurd (by decide) z⟩
      have P : ∀ {A B : NN}, FrMO oc N A → FrP A B → FrMO oc N B := fun h f c j k a d e g => by rw [f _ _ _ (by omega), h _ _ _ a d e g]
      refine vc_X10_order_88 ?_
      rw [S.2, wlitI (k := 0) (by decide) (by decide)]
      refine ⟨fun z => absurd rfl z, fun _ => s_isWord (by decide) S.1 S.2 ?_⟩
      by_cases w : isW b sz p 358472
      · rw [if_pos w] at k1 k0
        rw [bI_t w, wlitI (by decide) (by decide)]
        refine ⟨fun _ => m_155 ho (by omega) z45 S w (fun t0 N' f r c60 c45 => ?_) (fun n0 N' f => ?_), fun z => absurd (by decide) z⟩
        · rw [if_pos t0] at k1
          refine k1 rfl N' (fun c j k a d e g => by rw [f _ _ _ (by omega) e (by omega), F _ _ _ a d e g]) (by rw [f _ _ _ (by omega) (by omega) (by omega), z29]) c45 c60 (fun a ha f' hf => ?_)
          have ha' : a < i + 1 := ha
          show _ = (if a = i then restRow else R a) f'
          by_cases e : a = i
          · subst e
            rw [if_pos rfl, r f' hf]
          · rw [if_neg e, f _ _ _ (by omega) (by omega) (by omega), rows a (by omega) f' hf]
        · rw [if_neg n0] at k0
          exact k0 rfl N' (P F f) (by rw [f _ _ _ (by omega), z29]) (by rw [f _ _ _ (by omega), z45])
      · rw [if_neg w] at k1 k0
        rw [bI_f w, wlitI (k := 0) (by decide) (by decide), wi ()]
        refine ⟨fun z => absurd rfl z, fun _ => ⟨fun n9 => ?_, fun y9 => ?_⟩⟩
        · rw [if_neg (by omega)] at k1 k0
          rw [show 10 * (oc : Int) + (i : Int) = ((10 * oc + i : Nat) : Int) by omega]
          refine s_mStep (by omega) S (fun ok N3 f3 r3 S3 => ?_) (fun ok N3 f3 bd => ?_)
          · rw [if_pos ok] at k1 k0
            have F3 : FrMO oc N N3 := fun c j k a d e g => by rw [f3 _ _ _ (by omega) (by omega), F _ _ _ a d e g]
            refine s_mIsSign (by decide) S3.1 S3.2 ?_
            by_cases s : isS b sz (pStep b sz p).2.1 59
            · rw [if_pos s] at k1 k0
              rw [bI_t s, wlitI (k := 1) (by decide) (by decide), S3.2, wlitI (k := 0) (by decide) (by decide)]
              refine ⟨fun _ => ⟨fun z => absurd rfl z, fun _ => s_mOn S3.1 (by have := s.1; omega) fun N4 f4 T4 => ?_⟩, fun z => absurd (by decide) z⟩
              rw [show (i : Int) + 1 = ((i + 1 : Nat) : Int) by omega]
              refine ih (i + 1) _ _ N4 (by omega) (P F3 f4.toP) (by rw [f4 _ _ _ (by omega), f3 _ _ _ (by omega) (by omega), z29]) (by rw [f4 _ _ _ (by omega), f3 _ _ _ (by omega) (by omega), z45]) (S3.on f4 T4) (fun a ha f hf => ?_) k1 k0 (by omega)
              rw [f4 _ _ _ (by omega)]
              show _ = (if a = i then (pStep b sz p).2.2 else R a) f
              by_cases e : a = i
              · subst e
                rw [if_pos rfl, r3 f hf]
              · rw [if_neg e, f3 _ _ _ (by omega) (by omega), rows a (by omega) f hf]
            · rw [if_neg s] at k0
              rw [bI_f s, wlitI (k := 0) (by decide) (by decide)]
              refine ⟨fun z => absurd rfl z, fun _ => s_fail S3.1 S3.2 fun N4 f4 bd _ => ?_⟩
              rw [bd.1, wlitI (k := 1) (by decide) (by decide), show (i : Int) + 1 = ((i + 1 : Nat) : Int) by omega]
              exact ⟨fun _ => out N4 _ (i + 1) (P F3 f4) (by rw [f4 _ _ _ (by omega), f3 _ _ _ (by omega) (by omega), z29]) (by rw [f4 _ _ _ (by omega), f3 _ _ _ (by omega) (by omega), z45]) bd (k0 rfl), fun z => absurd (by decide) z⟩
          · have ok' : ¬ (pStep b sz p).1 = true := by rw [ok]; decide
            rw [if_neg ok'] at k0
            have F3 : FrMO oc N N3 := fun c j k a d e g => by rw [f3 _ _ _ (by omega) (by omega), F _ _ _ a d e g]
            refine s_mIsSignB bd.1 ?_
            rw [wlitI (k := 0) (by decide) (by decide)]
            refine ⟨fun z => absurd rfl z, fun _ => s_failB bd.1 ?_⟩
            rw [bd.1, wlitI (k := 1) (by decide) (by decide), show (i : Int) + 1 = ((i + 1 : Nat) : Int) by omega]
            exact ⟨fun _ => out N3 _ (i + 1) F3 (by rw [f3 _ _ _ (by omega) (by omega), z29]) (by rw [f3 _ _ _ (by omega) (by omega), z45]) bd (k0 rfl), fun z => absurd (by decide) z⟩
        · rw [if_pos (by omega)] at k0
          refine s_fail S.1 S.2 fun N3 f3 bd _ => s_mIsSignB bd.1 ?_
          rw [wlitI (k := 0) (by decide) (by decide)]
          refine ⟨fun z => absurd rfl z, fun _ => s_failB bd.1 ?_⟩
          rw [bd.1, wlitI (k := 1) (by decide) (by decide), show (i : Int) + 1 = ((i + 1 : Nat) : Int) by omega]
          exact ⟨fun _ => out N3 _ (i + 1) (P F f3) (by rw [f3 _ _ _ (by omega), z29]) (by rw [f3 _ _ _ (by omega), z45]) bd (k0 rfl), fun z => absurd (by decide) z⟩
  -- the bytes
  have cp : ∀ (d i : Nat) (M : NN), i + d = sz → (∀ c j k, ¬ (c = 57 ∧ j = 0 ∧ 960 ≤ k) → M c j k = N c j k) → (∀ j, j < i → M 57 0 (960 + j) = b j) → W_X10_order G K 14 [(0, vR 10 0), (1, vI (i : Int))] [] M := by
    intro d
    induction d with
    | zero =>
      intro i M hi F B
      refine vc_X10_order_14 ?_
      rw [F 10 0 29 (by omega), h29, wI_id (x := (sz : Int)) (by omega) (by omega), wI_id (x := (i : Int)) (by omega) (by omega)]
      refine ⟨fun _ M1 e1 M2 e2 M3 e3 M4 e4 M5 e5 => ?_, fun z => absurd (by omega) z⟩
      have f5 : ∀ c j k, ¬ (c = 10 ∧ j = 0 ∧ 29 ≤ k ∧ k ≤ 37) → M5 c j k = M c j k := fun c j k a => by rw [e5, up3_o' (by omega), e4, up3_o' (by omega), e3, up3_o' (by omega), e2, up3_o' (by omega), e1, up3_o' (by omega)]
      have tp : TPm b sz 960 M5 := by
        refine ⟨?_, ?_, by decide, hsz, fun j hj => ?_⟩
        · rw [e5, up3_o' (by omega), e4, up3_o' (by omega), e3, up3_o' (by omega), e2, up3_s, e1, up3_o' (by omega), F _ _ _ (by omega), h29]
        · rw [e5, up3_o' (by omega), e4, up3_o' (by omega), e3, up3_o' (by omega), e2, up3_o' (by omega), e1, up3_s]
          rfl
        · rw [f5 _ _ _ (by omega), B j (by omega)]
          exact ⟨rfl, (hb j hj).2⟩
      have z35 : M5 10 0 35 = ((0 : Nat) : Int) := by rw [e5, up3_o' (by omega), e4, up3_s]; rfl
      have z29 : M5 10 0 29 = 0 := by rw [e5, up3_o' (by omega), e4, up3_o' (by omega), e3, up3_s]
      have z45 : M5 10 0 45 = (oc : Int) := by rw [f5 _ _ _ (by omega), F _ _ _ (by omega), h45]
      have z37 : M5 10 0 37 = 0 := by rw [e5, up3_s]
      refine s_mNext tp (Nat.zero_le _) z35 fun N6 f6 T6 => ?_
      rw [f6 10 0 45 (by omega), z45]
      exact loop 10 0 0 _ N6 rfl (fun c j k a d e g => by rw [f6 _ _ _ (by omega), f5 _ _ _ (by omega), F _ _ _ a]) (by rw [f6 _ _ _ (by omega), z29]) (by rw [f6 _ _ _ (by omega), z45]) ⟨T6, by rw [f6 _ _ _ (by omega), z37]⟩ (fun a ha => by omega) k1 k0 (by decide)
    | succ d ih =>
      intro i M hi F B
      refine vc_X10_order_14 ?_
      rw [F 10 0 29 (by omega), h29, wI_id (x := (sz : Int)) (by omega) (by omega), wI_id (x := (i : Int)) (by omega) (by omega), wI_id (x := 960 + (i : Int)) (by omega) (by omega)]
      refine ⟨fun z => by omega, fun _ => ⟨i, rfl, by omega, 960 + i, by omega, by omega, fun M9 e9 => ih (i + 1) M9 (by omega) (fun c j k a => ?_) (fun j hj => ?_)⟩⟩
      · rw [e9, up3_o' (by omega), F _ _ _ a]
      · by_cases e : j = i
        · subst e
          rw [e9, up3_s, F _ _ _ (by omega)]
          exact (hb j (by omega)).1
        · rw [e9, up3_o' (by omega), B j (by omega)]
  exact cp sz 0 N (by omega) (fun _ _ _ _ => rfl) (fun j hj => by omega)
theorem s_mOrderF {K : Int → NN → Prop} {N : NN} (h45 : N 10 0 45 = 6) (k : K (-4) N) : C_X10_order G N K := by
  refine vc_X10_order ?_
  rw [h45, wlitI (by decide) (by decide)]
  exact ⟨fun z => absurd rfl z, fun _ => k⟩
end MOR
