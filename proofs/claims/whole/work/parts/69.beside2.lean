/-! beside: both -/
theorem vFin_0 {lv : Nat → (Nat → Int) → Int → Int} {m seed : Int} {n : Nat} {v : Nat → Int} : vFin lv m seed n v 0 = v 0 := by
  have b : vBeg m v 0 = v 0 := by unfold vBeg; rw [if_neg (by decide), if_neg (by decide)]
  have h1 : ∀ w : Nat → Int, vFail m w 0 = w 0 := fun w => by unfold vFail; rw [if_neg (by decide), if_neg (by decide), if_neg (by decide)]
  have h2 : ∀ w : Nat → Int, vLate m w 0 = w 0 := fun w => by unfold vLate; rw [if_neg (by decide), if_neg (by decide), if_neg (by decide)]
  have h3 : ∀ (st : Int) (w : Nat → Int), vAll st w 0 = w 0 := fun st w => by unfold vAll; rw [if_neg (by decide), if_neg (by decide), if_neg (by decide)]
  have h4 : ∀ w : Nat → Int, vMon m w 0 = w 0 := fun w => by unfold vMon; rw [if_neg (by decide), if_neg (by decide), if_neg (by decide)]
  have h5 : ∀ w : Nat → Int, vSell w 0 = w 0 := fun w => by unfold vSell; rw [if_neg (by decide), if_neg (by decide)]
  have h6 : ∀ (f l e x : Int) (w : Nat → Int), vDraw m f l e x w 0 = w 0 := fun f l e x w => by
    unfold vDraw
    repeat' split
    all_goals first
      | exact h1 _
      | exact h2 _
      | exact h3 _ _
      | exact h4 _
  unfold vFin vStep
  repeat' split
  all_goals first
    | exact b
    | exact (h5 _).trans b
    | exact (h6 _ _ _ _ _).trans b
    | exact (h3 _ _).trans b
    | exact (h4 _).trans b
section BE2
variable {G : GT} {lv : Nat → (Nat → Int) → Int → Int} {c cp p f : Nat} {jf : Nat → Nat} {g : Nat}
theorem ChL_kind : ∀ (n kk : Nat) (A Z : NN) (ws : List Int), ChL lv c cp p f jf g n kk A Z ws → ∀ q, q < c → Z 2 (12 * p + q) 0 = A 2 (12 * p + q) 0
  | 0, kk, A, Z, ws, h, q, hq => by rw [h.1]
  | n + 1, kk, A, Z, ws, h, q, hq => by
    obtain ⟨A1, r, _, hm, hc⟩ := h
    rw [ChL_kind n (kk + 1) A1 Z r hc q hq]
    obtain ⟨A0, A2, o, f0, ho, hcl, hp, _⟩ := hm
    rw [hp.2.2.2.2.2 _ _ _ (by omega) (by omega) (by omega) (by omega), hcl.1 q hq 0 (by decide), vFin_0, f0 _ _ _ (by omega)]
def gW (a3 : Int) : Nat := if a3 = 0 then 8 else if a3 = 1 then 1 else 0
theorem c_besW {n k oo t : Nat} {cd sts : Nat → Int} {B0 : NN} {a3 : Int} {K : Int → NN → Prop} (i3 : IR a3) (V : VOK G t cd sts lv) (oo6 : oo ≤ 6) (hn : n ≤ 12) (hkn : k + n ≤ 60) (h3 : 0 ≤ a3 ∧ a3 ≤ 2 + (cp : Int)) (c5 : cp ≤ 5) : ∀ (d kk : Nat) (s : Int) (A : NN), kk + d = k + n → CSp c cp 1 1 oo t cd sts B0 kk A → A 9 0 11 = (k : Int) → (∀ Z ws, ChL lv c cp 1 1 (fun _ => 61) (gW a3) d kk A Z ws → Z 9 0 11 = (k : Int) → K (if 2 < a3 then (Z 5 (5 + (a3 - 3).toNat) 4 + Z 5 (5 + (a3 - 3).toNat) 5) - (Z 5 (a3 - 3).toNat 4 + Z 5 (a3 - 3).toNat 5) else lsum s ws) Z) →
    W_X9_beside G K 93 [(0, vR 9 0), (1, vI (n : Int)), (3, vI a3), (4, vL s), (6, vI ((kk + 1 : Nat) : Int))] [] A
  | 0, kk, s, A, hd, h, h9, kc => by
    have wk := fun _ : Unit => wI_id (x := (k : Int) + (n : Int)) (by omega) (by omega)
    have w1 := fun _ : Unit => wI_id (x := ((kk + 1 : Nat) : Int)) (by omega) (by omega)
    refine vc_X9_beside_93 ?_
    rw [h9, wk (), w1 (), IR_id i3]
    have kc' := kc A [] ⟨rfl, rfl⟩ h9
    refine ⟨fun _ => ⟨fun q => ?_, fun q => ?_⟩, fun q => absurd q (by omega)⟩
    · rw [if_pos q] at kc'
      have w3 : wI (a3 - 3) = (((a3 - 3).toNat : Nat) : Int) := by rw [wI_id (by omega) (by omega)]; omega
      exact ⟨(a3 - 3).toNat, w3, by omega, vc_X5_got (by omega) ⟨(a3 - 3).toNat, w3, by omega, vc_X5_got (by omega) kc'⟩⟩
    · rw [if_neg q] at kc'
      exact kc'
  | d + 1, kk, s, A, hd, h, h9, kc => by
    have wk := fun _ : Unit => wI_id (x := (k : Int) + (n : Int)) (by omega) (by omega)
    have w1 := fun _ : Unit => wI_id (x := ((kk + 1 : Nat) : Int)) (by omega) (by omega)
    refine vc_X9_beside_93 ?_
    rw [h9, wk (), w1 (), IR_id i3]
    refine ⟨fun q => absurd q (by omega), fun _ => ?_⟩
    refine c_mon (lv := lv) (c := c) (cp := cp) (oo := oo) (t := t) (cd := cd) (sts := sts) (B0 := B0) (kk := kk) (K := fun N7 => ((a3 ≠ 0 → ((a3 ≠ 1 → W_X9_beside G K 93 [(0, vR 9 0), (1, vI (n : Int)), (3, vI a3), (4, vL (s + (N7 3 61 0))), (6, vI (((kk + 1 : Nat) : Int) + 1))] [] N7) ∧ (¬ (a3 ≠ 1) → W_X9_beside G K 93 [(0, vR 9 0), (1, vI (n : Int)), (3, vI a3), (4, vL (s + (N7 3 61 1))), (6, vI (((kk + 1 : Nat) : Int) + 1))] [] N7))) ∧ (¬ (a3 ≠ 0) → W_X9_beside G K 93 [(0, vR 9 0), (1, vI (n : Int)), (3, vI a3), (4, vL (s + (N7 3 61 8))), (6, vI (((kk + 1 : Nat) : Int) + 1))] [] N7))) rfl (by decide) (by decide) (by decide) (by omega) oo6 V h (fun A2 M C2 e9 => ?_) (fun A1 e9 hP => hP)
    have nx : W_X9_beside G K 93 [(0, vR 9 0), (1, vI (n : Int)), (3, vI a3), (4, vL (s + (A2 3 61 (gW a3)))), (6, vI (((kk + 1 + 1 : Nat) : Int)))] [] A2 := c_besW i3 V oo6 hn hkn h3 c5 d (kk + 1) _ A2 (by omega) C2 (e9.trans h9) (fun Z ws hc => kc Z _ ⟨A2, ws, rfl, M, hc⟩)
    unfold gW at nx
    refine ⟨fun q => ⟨fun q2 => ?_, fun q2 => ?_⟩, fun q => ?_⟩
    · rw [if_neg q, if_neg q2] at nx; exact nx
    · rw [if_neg q, if_pos (Decidable.not_not.mp q2)] at nx; exact nx
    · rw [if_pos (Decidable.not_not.mp q)] at nx; exact nx
theorem m_96 {n k : Nat} {a1 a3 l5 : Int} {K : Int → NN → Prop} (hn : n ≤ 12) (e1 : a1 = (n : Int)) : ∀ (d i : Nat) (B : NN), i + d = n → GoN G (fun B' => (wI a3 ≤ 2 → W_X10_beside G K 149 [(0, vR 10 0), (1, vI a1), (3, vI a3), (4, vI (k : Int)), (7, vL 0), (9, vI ((k : Int) + 1))] [] B') ∧ (¬ (wI a3 ≤ 2) → (∃ j1 : Nat, wI (a3 - 3) = (j1 : Int) ∧ j1 < 5 ∧ (∃ j2 : Nat, wI (a3 - 3) = (j2 : Int) ∧ j2 < 5 ∧ W_X10_beside G K 149 [(0, vR 10 0), (1, vI a1), (3, vI a3), (4, vI (k : Int)), (7, vL (((B' 71 0 j1) + (B' 72 0 j2)) - l5)), (9, vI ((k : Int) + 1))] [] B')))) d B → W_X10_beside G K 96 [(0, vR 10 0), (1, vI a1), (3, vI a3), (4, vI (k : Int)), (5, vL l5), (7, vI (i : Int))] [] B
  | 0, i, B, hd, h => by
    have : i = n := hd
    subst this
    refine vc_X10_beside_96 ?_
    rw [e1] at h ⊢
    exact ⟨fun _ => h, fun q => absurd (Int.le_refl _) q⟩
  | d + 1, i, B, hd, h => by
    have wn := fun _ : Unit => wI_id (x := (n : Int)) (by omega) (by omega)
    have wi := fun _ : Unit => wI_id (x := (i : Int)) (by omega) (by omega)
    refine vc_X10_beside_96 ?_
    rw [show wI a1 = (n : Int) by rw [e1]; exact wn (), wi ()]
    refine ⟨fun q => absurd q (by omega), fun _ => ?_⟩
    unfold GoN at h
    exact goOn_mono h fun B1 hB => m_96 hn e1 d (i + 1) B1 (by omega) hB
theorem m_149 {n k : Nat} {a3 : Int} {K : Int → NN → Prop} {B : NN} (hkn : k + n ≤ 60) (i3 : IR a3) (h3 : 0 ≤ a3 ∧ a3 ≤ 2) : ∀ (ws : List Int) (m : Nat) (s : Int), 1 ≤ m → m + ws.length = k + n + 1 → (∀ i, i < ws.length → MM B (m + i) (gW a3) = ws.getD i 0) → C_X10_turn G 0 B (fun N1 => K (lsum s ws) N1) → W_X10_beside G K 149 [(0, vR 10 0), (1, vI (n : Int)), (3, vI a3), (4, vI (k : Int)), (7, vL s), (9, vI (m : Int))] [] B
  | [], m, s, h1, hl, hw, ht => by
    have wk := fun _ : Unit => wI_id (x := (k : Int) + (n : Int)) (by omega) (by omega)
    rw [List.length_nil] at hl
    have wm := fun _ : Unit => wI_id (x := (m : Int)) (by omega) (by omega)
    refine vc_X10_beside_149 ?_
    rw [wk (), wm ()]
    exact ⟨fun _ => ht, fun q => absurd q (by omega)⟩
  | v :: r, m, s, h1, hl, hw, ht => by
    have wk := fun _ : Unit => wI_id (x := (k : Int) + (n : Int)) (by omega) (by omega)
    rw [List.length_cons] at hl
    have wm := fun _ : Unit => wI_id (x := (m : Int)) (by omega) (by omega)
    have v0 : MM B m (gW a3) = v := hw 0 (by rw [List.length_cons]; omega)
    have nx : W_X10_beside G K 149 [(0, vR 10 0), (1, vI (n : Int)), (3, vI a3), (4, vI (k : Int)), (7, vL (s + v)), (9, vI ((m + 1 : Nat) : Int))] [] B := m_149 hkn i3 h3 r (m + 1) (s + v) (by omega) (by omega) (fun i hi => by rw [show m + 1 + i = m + (i + 1) by omega, hw (i + 1) (by rw [List.length_cons]; omega)]; rfl) ht
    refine vc_X10_beside_149 ?_
    rw [wk (), wm (), IR_id i3]
    unfold gW at v0
    refine ⟨fun q => absurd q (by omega), fun _ => ⟨fun q => absurd q (by omega), fun _ => ⟨fun q => ⟨fun q2 => ⟨m, rfl, by omega, ?_⟩, fun q2 => ⟨m, rfl, by omega, ?_⟩⟩, fun q => ⟨m, rfl, by omega, ?_⟩⟩⟩⟩
    · rw [if_neg q, if_neg q2] at v0
      rw [show B 48 0 m = v from v0]
      exact nx
    · rw [if_neg q, if_pos (Decidable.not_not.mp q2)] at v0
      rw [show B 49 0 m = v from v0]
      exact nx
    · rw [if_pos (Decidable.not_not.mp q)] at v0
      rw [show B 55 0 m = v from v0]
      exact nx
theorem m_149s {n k : Nat} {a3 s : Int} {K : Int → NN → Prop} {B : NN} (hkn : k + n ≤ 60) (i3 : IR a3) (h3 : 3 ≤ a3) {m : Int} (ht : C_X10_turn G 0 B (fun N1 => K s N1)) : W_X10_beside G K 149 [(0, vR 10 0), (1, vI (n : Int)), (3, vI a3), (4, vI (k : Int)), (7, vL s), (9, vI m)] [] B := by
  refine vc_X10_beside_149 ?_
  rw [IR_id i3]
  exact ⟨fun _ => ht, fun _ => ⟨fun _ => ht, fun q => absurd h3 q⟩⟩
end BE2
