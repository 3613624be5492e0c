/-! an order's text, by the reference -/
def TAIL (G : GT) (K : NN → Prop) (l1 : Int) (M2 : NN) : Prop := (∃ j3 : Nat, (wI l1) = (j3 : Int) ∧ j3 < 60 ∧ (∀ M4 : NN, M4 = up3 M2 64 0 j3 0 → (∃ j5 : Nat, (wI l1) = (j5 : Int) ∧ j5 < 60 ∧ (∀ M6 : NN, M6 = up3 M4 65 0 j5 ((-1)) → (∃ j7 : Nat, (wI l1) = (j7 : Int) ∧ j7 < 60 ∧ (∀ M8 : NN, M8 = up3 M6 66 0 j7 ((-1)) → (C_X10_isWord G 249 M8 (fun x9 N9 => (((wI x9) ≠ 0 → (C_X10_next G  N9 (fun N10 => (C_X10_isWord G 10631 N10 (fun x11 N11 => (((wI x11) = 0 → (C_X10_fieldHere G  N11 (fun x12 N12 => (∃ j13 : Nat, (wI l1) = (j13 : Int) ∧ j13 < 60 ∧ (∀ M14 : NN, M14 = up3 N12 65 0 j13 x12 → (C_X10_isSign G 60 M14 (fun x15 N15 => (((wI x15) ≠ 0 → W_X10_readStep G K 228 [(0, vR 10 0), (1, vI l1), (3, vI x11), (4, vI x15)] [] N15) ∧ (¬ ((wI x15) ≠ 0) → (C_X10_isSign G 61 N15 (fun x16 N16 => (((wI x16) ≠ 0 → W_X10_readStep G K 228 [(0, vR 10 0), (1, vI l1), (3, vI x11), (4, vI x15)] [] N16) ∧ (¬ ((wI x16) ≠ 0) → (C_X10_fail G  N16 (fun N17 => W_X10_readStep G K 228 [(0, vR 10 0), (1, vI l1), (3, vI x11), (4, vI x15)] [] N17))))))))))))))) ∧ (¬ ((wI x11) = 0) → (C_X10_next G  N11 (fun N18 => (C_X10_fieldHere G  N18 (fun x19 N19 => (∃ j20 : Nat, (wI l1) = (j20 : Int) ∧ j20 < 60 ∧ (∀ M21 : NN, M21 = up3 N19 65 0 j20 x19 → (C_X10_isSign G 60 M21 (fun x22 N22 => (((wI x22) ≠ 0 → W_X10_readStep G K 228 [(0, vR 10 0), (1, vI l1), (3, vI x11), (4, vI x22)] [] N22) ∧ (¬ ((wI x22) ≠ 0) → (C_X10_isSign G 61 N22 (fun x23 N23 => (((wI x23) ≠ 0 → W_X10_readStep G K 228 [(0, vR 10 0), (1, vI l1), (3, vI x11), (4, vI x22)] [] N23) ∧ (¬ ((wI x23) ≠ 0) → (C_X10_fail G  N23 (fun N24 => W_X10_readStep G K 228 [(0, vR 10 0), (1, vI l1), (3, vI x11), (4, vI x22)] [] N24))))))))))))))))))))))) ∧ (¬ ((wI x9) ≠ 0) → K N9))))))))))
def NUMK (K : NN → Prop) (l1 l3 l4 x1 : Int) (N1 : NN) : Prop := (∃ j2 : Nat, (wI l1) = (j2 : Int) ∧ j2 < 60 ∧ (∀ M3 : NN, M3 = up3 N1 66 0 j2 x1 → (((wI l4) = 0 → (((wI l3) = 0 → (∃ j4 : Nat, (wI l1) = (j4 : Int) ∧ j4 < 60 ∧ (∀ M5 : NN, M5 = up3 M3 64 0 j4 (2 + 0) → K M5))) ∧ (¬ ((wI l3) = 0) → (∃ j6 : Nat, (wI l1) = (j6 : Int) ∧ j6 < 60 ∧ (∀ M7 : NN, M7 = up3 M3 64 0 j6 (2 + 2) → K M7))))) ∧ (¬ ((wI l4) = 0) → (((wI l3) = 0 → (∃ j8 : Nat, (wI l1) = (j8 : Int) ∧ j8 < 60 ∧ (∀ M9 : NN, M9 = up3 M3 64 0 j8 (1 + 0) → K M9))) ∧ (¬ ((wI l3) = 0) → (∃ j10 : Nat, (wI l1) = (j10 : Int) ∧ j10 < 60 ∧ (∀ M11 : NN, M11 = up3 M3 64 0 j10 (1 + 2) → K M11))))))))
def FLDK (G : GT) (K : NN → Prop) (l1 x11 x12 : Int) (N12 : NN) : Prop := (∃ j13 : Nat, (wI l1) = (j13 : Int) ∧ j13 < 60 ∧ (∀ M14 : NN, M14 = up3 N12 65 0 j13 x12 → (C_X10_isSign G 60 M14 (fun x15 N15 => (((wI x15) ≠ 0 → W_X10_readStep G K 228 [(0, vR 10 0), (1, vI l1), (3, vI x11), (4, vI x15)] [] N15) ∧ (¬ ((wI x15) ≠ 0) → (C_X10_isSign G 61 N15 (fun x16 N16 => (((wI x16) ≠ 0 → W_X10_readStep G K 228 [(0, vR 10 0), (1, vI l1), (3, vI x11), (4, vI x15)] [] N16) ∧ (¬ ((wI x16) ≠ 0) → (C_X10_fail G  N16 (fun N17 => W_X10_readStep G K 228 [(0, vR 10 0), (1, vI l1), (3, vI x11), (4, vI x15)] [] N17))))))))))))
/-- what a step's reading may change in the reference -/
def FrQ (at' : Nat) (N N' : NN) : Prop := ∀ c i k, ¬ (c = 10 ∧ i = 0 ∧ 32 ≤ k ∧ k ≤ 38) → ¬ (61 ≤ c ∧ c ≤ 66 ∧ i = 0 ∧ k = at') → N' c i k = N c i k
theorem FrQ.rf {r : Nat} {N : NN} : FrQ r N N := fun _ _ _ _ _ => rfl
theorem FrQ.tr {r : Nat} {N N' N'' : NN} (h1 : FrQ r N N') (h2 : FrQ r N' N'') : FrQ r N N'' := fun c i k a b => (h2 c i k a b).trans (h1 c i k a b)
theorem FrP.toQ {r : Nat} {N N' : NN} (h : FrP N N') : FrQ r N N' := fun c i k a _ => h c i k a
theorem FrU.toQ {r : Nat} {N N' : NN} (h : FrU N N') : FrQ r N N' := h.toP.toQ
def MSo (b : Nat → Int) (sz fr p : Nat) (N : NN) : Prop := TM b sz fr p N ∧ N 10 0 37 = 0
section MO
variable {G : GT} {b : Nat → Int} {sz fr at' : Nat}
theorem MSo.on {N N' : NN} {p q : Nat} (h : MSo b sz fr p N) (f : FrU N N') (c : TM b sz fr q N') : MSo b sz fr q N' := ⟨c, by rw [f _ _ _ (by omega)]; exact h.2⟩
theorem TM.kq {N N' : NN} {p : Nat} (h : TM b sz fr p N) (f : ∀ c i k, c = 10 ∨ c = 57 → N' c i k = N c i k) : TM b sz fr p N' := by
  obtain ⟨⟨t1, t2, t3, t4, t5⟩, h2, h3, h4, h5, h6⟩ := h
  exact ⟨⟨by rw [f _ _ _ (.inl rfl)]; exact t1, by rw [f _ _ _ (.inl rfl)]; exact t2, t3, t4, fun j hj => by rw [f _ _ _ (.inr rfl)]; exact t5 j hj⟩, h2, by rw [f _ _ _ (.inl rfl)]; exact h3, by rw [f _ _ _ (.inl rfl)]; exact h4, fun q => by rw [f _ _ _ (.inl rfl)]; exact h5 q, fun q r => by rw [f _ _ _ (.inl rfl)]; exact h6 q r⟩
theorem MSo.kq {N N' : NN} {p : Nat} (h : MSo b sz fr p N) (f : ∀ c i k, c = 10 ∨ c = 57 → N' c i k = N c i k) : MSo b sz fr p N' := ⟨h.1.kq f, by rw [f _ _ _ (.inl rfl)]; exact h.2⟩
theorem BAD.kq {N N' : NN} {q : Nat} (h : BAD q N) (f : ∀ c i k, c = 10 ∨ c = 57 → N' c i k = N c i k) : BAD q N' := ⟨by rw [f _ _ _ (.inl rfl)]; exact h.1, by rw [f _ _ _ (.inl rfl)]; exact h.2⟩
theorem s_numB {K : Int → NN → Prop} {N : NN} (h : N 10 0 37 = 1) (k : K (-1) N) : C_X10_numberHere G N K := by
  refine vc_X10_numberHere ?_
  rw [h, wlitI (by decide) (by decide)]
  exact ⟨fun _ => s_failB h k, fun q => absurd (by decide) q⟩
theorem s_num {K : Int → NN → Prop} {N : NN} {p : Nat} (h : MSo b sz fr p N) (k1 : tT b sz p = 2 → ∀ N', FrU N N' → MSo b sz fr (tE b sz p) N' → K (tV b sz p) N') (k0 : ¬ tT b sz p = 2 → ∀ N', FrP N N' → BAD (tS b sz p) N' → K (-1) N') : C_X10_numberHere G N K := by
  have r := tT_rng (b := b) (sz := sz) (p := p)
  refine vc_X10_numberHere ?_
  rw [h.2, h.1.2.2.2.1, wlitI (by decide) (by decide), wI_id (x := tT b sz p) (by omega) (by omega)]
  refine ⟨fun q => absurd rfl q, fun _ => ⟨fun t2 => s_mOn h.1 (by omega) fun N' f T => ?_, fun n2 => s_fail h.1 h.2 fun N' f bd _ => k0 n2 N' f bd⟩⟩
  rw [h.1.2.2.2.2.2 (by omega) (by omega)]
  exact k1 t2 N' f (h.on f T)
theorem paX_iff {v : Int} : paX v ≠ -1 ↔ 1 ≤ v ∧ v ≤ 5 := by
  unfold paX
  repeat' split
  all_goals omega
theorem paX_val {v : Int} (h : 1 ≤ v ∧ v ≤ 5) : paX v = v - 1 := by
  unfold paX
  repeat' split
  all_goals omega
theorem s_pap {K : Int → NN → Prop} {N : NN} {p : Nat} (h : MSo b sz fr p N) (k1 : tT b sz p = 1 ∧ paX (tV b sz p) ≠ -1 → ∀ N', FrU N N' → MSo b sz fr (tE b sz p) N' → K (paX (tV b sz p)) N') (k0 : ¬ (tT b sz p = 1 ∧ paX (tV b sz p) ≠ -1) → ∀ N', FrP N N' → BAD (tS b sz p) N' → K (-1) N') : C_X10_paperHere G N K := by
  have r := tT_rng (b := b) (sz := sz) (p := p)
  refine vc_X10_paperHere ?_
  rw [h.2, h.1.2.2.2.1, wlitI (by decide) (by decide), wI_id (x := tT b sz p) (by omega) (by omega)]
  refine ⟨fun q => absurd rfl q, fun _ => ⟨fun n1 => s_fail h.1 h.2 fun N' f bd _ => k0 (fun q => n1 q.1) N' f bd, fun t1 => ?_⟩⟩
  have t1' : tT b sz p = 1 := Decidable.not_not.mp t1
  have vr := word_rng t1'
  rw [h.1.2.2.2.2.2 (by omega) (by omega), wL_id (x := tV b sz p) (by omega) (by omega)]
  refine ⟨fun q => s_fail h.1 h.2 fun N' f bd _ => k0 (fun z => by have := paX_iff.mp z.2; omega) N' f bd, fun q => ⟨fun q2 => s_mOn h.1 (by omega) fun N' f T => ?_, fun q2 => s_fail h.1 h.2 fun N' f bd _ => k0 (fun z => by have := paX_iff.mp z.2; omega) N' f bd⟩⟩
  have v15 : 1 ≤ tV b sz p ∧ tV b sz p ≤ 5 := by omega
  rw [← paX_val v15]
  exact k1 ⟨t1', paX_iff.mpr v15⟩ N' f (h.on f T)
theorem s_papB {K : Int → NN → Prop} {N : NN} (h : N 10 0 37 = 1) (k : K (-1) N) : C_X10_paperHere G N K := by
  refine vc_X10_paperHere ?_
  rw [h, wlitI (by decide) (by decide)]
  exact ⟨fun _ => s_failB h k, fun q => absurd (by decide) q⟩
theorem s_fld {K : Int → NN → Prop} {N : NN} {p : Nat} (h : MSo b sz fr p N) (k1 : tT b sz p = 1 ∧ fxX (tV b sz p) ≠ -1 → ∀ N', FrU N N' → MSo b sz fr (tE b sz p) N' → K (fxX (tV b sz p)) N') (k0 : ¬ (tT b sz p = 1 ∧ fxX (tV b sz p) ≠ -1) → ∀ N', FrP N N' → BAD (tS b sz p) N' → K (-1) N') : C_X10_fieldHere G N K := by
  have on : tT b sz p = 1 → ∀ (x : Int), fxX (tV b sz p) = x → x ≠ -1 → C_X10_next G N (fun N' => K x N') := by
    intro t1 x hx hn
    subst hx
    exact s_mOn h.1 (by omega) fun N' f T => k1 ⟨t1, hn⟩ N' f (h.on f T)
  unfold fxX at on
  refine vc_X10_fieldHere (s_isWord (by decide) h.1 h.2 ?_)
  by_cases g0 : isW b sz p 7214732
  · rw [bI_t g0, wlitI (by decide) (by decide)]
    exact ⟨fun q => absurd q (by decide), fun _ => on g0.1 0 (by rw [if_pos g0.2.symm]) (by decide)⟩
  · rw [bI_f g0, wlitI (by decide) (by decide)]
    refine ⟨fun _ => s_isWord (by decide) h.1 h.2 ?_, fun q => absurd rfl q⟩
    by_cases g1 : isW b sz p 237470
    · rw [bI_t g1, wlitI (by decide) (by decide)]
      exact ⟨fun q => absurd q (by decide), fun _ => on g1.1 1 (by rw [if_neg (by have := g1.2; omega), if_pos g1.2.symm]) (by decide)⟩
    · rw [bI_f g1, wlitI (by decide) (by decide)]
      refine ⟨fun _ => s_isWord (by decide) h.1 h.2 ?_, fun q => absurd rfl q⟩
      by_cases g2 : isW b sz p 247664
      · rw [bI_t g2, wlitI (by decide) (by decide)]
        exact ⟨fun q => absurd q (by decide), fun _ => on g2.1 2 (by rw [if_neg (by have := g2.2; omega), if_neg (by have := g2.2; omega), if_pos g2.2.symm]) (by decide)⟩
      · rw [bI_f g2, wlitI (by decide) (by decide)]
        refine ⟨fun _ => s_isWord (by decide) h.1 h.2 ?_, fun q => absurd rfl q⟩
        by_cases g3 : isW b sz p 1905759
        · rw [bI_t g3, wlitI (by decide) (by decide)]
          exact ⟨fun q => absurd q (by decide), fun _ => on g3.1 3 (by rw [if_neg (by have := g3.2; omega), if_neg (by have := g3.2; omega), if_neg (by have := g3.2; omega), if_pos g3.2.symm]) (by decide)⟩
        · rw [bI_f g3, wlitI (by decide) (by decide)]
          refine ⟨fun _ => s_isWord (by decide) h.1 h.2 ?_, fun q => absurd rfl q⟩
          by_cases g4 : isW b sz p 407041
          · rw [bI_t g4, wlitI (by decide) (by decide)]
            exact ⟨fun q => absurd q (by decide), fun _ => on g4.1 4 (by rw [if_neg (by have := g4.2; omega), if_neg (by have := g4.2; omega), if_neg (by have := g4.2; omega), if_neg (by have := g4.2; omega), if_pos g4.2.symm]) (by decide)⟩
          · rw [bI_f g4, wlitI (by decide) (by decide)]
            refine ⟨fun _ => s_fail h.1 h.2 fun N' f bd _ => k0 (fun q => ?_) N' f bd, fun q => absurd rfl q⟩
            obtain ⟨t1, q⟩ := q
            unfold fxX at q
            rw [if_neg (fun e => g0 ⟨t1, e.symm⟩), if_neg (fun e => g1 ⟨t1, e.symm⟩), if_neg (fun e => g2 ⟨t1, e.symm⟩), if_neg (fun e => g3 ⟨t1, e.symm⟩), if_neg (fun e => g4 ⟨t1, e.symm⟩)] at q
            exact q rfl
theorem s_fldB {K : Int → NN → Prop} {N : NN} (h : N 10 0 37 = 1) (k : K (-1) N) : C_X10_fieldHere G N K := by
  refine vc_X10_fieldHere (s_isWordB h ?_)
  rw [wlitI (by decide) (by decide)]
  refine ⟨fun _ => s_isWordB h ?_, fun q => absurd rfl q⟩
  rw [wlitI (by decide) (by decide)]
  refine ⟨fun _ => s_isWordB h ?_, fun q => absurd rfl q⟩
  rw [wlitI (by decide) (by decide)]
  refine ⟨fun _ => s_isWordB h ?_, fun q => absurd rfl q⟩
  rw [wlitI (by decide) (by decide)]
  refine ⟨fun _ => s_isWordB h ?_, fun q => absurd rfl q⟩
  rw [wlitI (by decide) (by decide)]
  exact ⟨fun _ => s_failB h k, fun q => absurd rfl q⟩
theorem m_numk {K : NN → Prop} {l3 l4 x : Int} {N1 : NN} (ha : at' < 60) (k : ∀ Q5, (∀ c i k, ¬ ((c = 64 ∨ c = 66) ∧ i = 0 ∧ k = at') → Q5 c i k = N1 c i k) → Q5 66 0 at' = x → Q5 64 0 at' = (if wI l4 = 0 then 2 else 1) + (if wI l3 = 0 then 0 else 2) → K Q5) : NUMK K (at' : Int) l3 l4 x N1 := by
  unfold NUMK
  rw [wI_id (x := (at' : Int)) (by omega) (by omega)]
  refine ⟨at', rfl, ha, fun M3 e3 => ?_⟩
  have go : ∀ (te : Int) (M5 : NN), te = (if wI l4 = 0 then 2 else 1) + (if wI l3 = 0 then 0 else 2) → M5 = up3 M3 64 0 at' te → K M5 := by
    intro te M5 ht e5
    refine k M5 (fun c i k a => ?_) ?_ ?_
    · rw [e5, up3_o' (by omega), e3, up3_o' (by omega)]
    · rw [e5, up3_o' (by omega), e3, up3_s]
    · rw [e5, up3_s, ht]
  exact ⟨fun q4 => ⟨fun q3 => ⟨at', rfl, ha, fun M5 e5 => go _ M5 (by rw [if_pos q4, if_pos q3]) e5⟩, fun q3 => ⟨at', rfl, ha, fun M5 e5 => go _ M5 (by rw [if_pos q4, if_neg q3]) e5⟩⟩, fun q4 => ⟨fun q3 => ⟨at', rfl, ha, fun M5 e5 => go _ M5 (by rw [if_neg q4, if_pos q3]) e5⟩, fun q3 => ⟨at', rfl, ha, fun M5 e5 => go _ M5 (by rw [if_neg q4, if_neg q3]) e5⟩⟩⟩
theorem m_228B {K : NN → Prop} {M : NN} {l3 l4 : Int} {q : Nat} (ha : at' < 60) (bd : BAD q M) (k : ∀ N', FrQ at' M N' → BAD q N' → K N') : W_X10_readStep G K 228 [(0, vR 10 0), (1, vI (at' : Int)), (3, vI l3), (4, vI l4)] [] M := by
  refine vc_X10_readStep_228 ?_
  rw [bd.1, wlitI (by decide) (by decide)]
  exact ⟨fun _ => s_numB bd.1 (m_numk ha fun Q5 f _ _ => k Q5 (fun c i k' _ a => f _ _ _ (by omega)) (bd.kq fun c i k' h => f _ _ _ (by omega))), fun q => absurd (by decide) q⟩
theorem m_228 {K : NN → Prop} {M : NN} {l3 l4 : Int} {p : Nat} (ha : at' < 60) (h : MSo b sz fr p M) (h4 : tT b sz p ≠ 4)
    (k1 : tT b sz (tE b sz p) = 2 → ∀ N', (∀ c i k, ¬ (c = 10 ∧ i = 0 ∧ 32 ≤ k ∧ k ≤ 38) → ¬ ((c = 64 ∨ c = 66) ∧ i = 0 ∧ k = at') → N' c i k = M c i k) → N' 66 0 at' = tV b sz (tE b sz p) → N' 64 0 at' = (if wI l4 = 0 then 2 else 1) + (if wI l3 = 0 then 0 else 2) → MSo b sz fr (tE b sz (tE b sz p)) N' → K N')
    (k0 : ¬ tT b sz (tE b sz p) = 2 → ∀ N', FrQ at' M N' → BAD (tS b sz (tE b sz p)) N' → K N') : W_X10_readStep G K 228 [(0, vR 10 0), (1, vI (at' : Int)), (3, vI l3), (4, vI l4)] [] M := by
  refine vc_X10_readStep_228 ?_
  rw [h.2, wlitI (by decide) (by decide)]
  refine ⟨fun q => absurd rfl q, fun _ => s_mOn h.1 h4 fun N1 f1 T1 => s_num (h.on f1 T1) (fun t2 N2 f2 S2 => m_numk ha fun Q5 f e66 e64 => k1 t2 Q5 (fun c i k' a d => ?_) e66 e64 (S2.kq fun c i k' z => f _ _ _ (by omega))) (fun n2 N2 f2 bd => m_numk ha fun Q5 f _ _ => k0 n2 Q5 (fun c i k' a d => ?_) (bd.kq fun c i k' z => f _ _ _ (by omega)))⟩
  · rw [f _ _ _ d, f2 _ _ _ (by omega), f1 _ _ _ (by omega)]
  · rw [f _ _ _ (by omega), f2 _ _ _ (by omega), f1 _ _ _ (by omega)]
theorem m_fldkB {K : NN → Prop} {M : NN} {ng x : Int} {q : Nat} (ha : at' < 60) (bd : BAD q M) (k : ∀ N', FrQ at' M N' → BAD q N' → K N') : FLDK G K (at' : Int) ng x M := by
  unfold FLDK
  rw [wI_id (x := (at' : Int)) (by omega) (by omega)]
  refine ⟨at', rfl, ha, fun M14 e14 => ?_⟩
  have f14 : ∀ c i k, ¬ (c = 65 ∧ i = 0 ∧ k = at') → M14 c i k = M c i k := fun c i k a => by rw [e14]; exact up3_o' (by omega)
  have F14 : FrQ at' M M14 := fun c i k _ a => f14 _ _ _ (by omega)
  have B14 : BAD q M14 := bd.kq fun c i k z => f14 _ _ _ (by omega)
  refine s_mIsSignB B14.1 ?_
  rw [wlitI (by decide) (by decide)]
  refine ⟨fun z => absurd rfl z, fun _ => s_mIsSignB B14.1 ?_⟩
  rw [wlitI (by decide) (by decide)]
  exact ⟨fun z => absurd rfl z, fun _ => s_failB B14.1 (m_228B ha B14 fun N' f bd' => k N' (F14.tr f) bd')⟩
/-- a test, behind its 'not' or none -/
theorem m_fldk {K : NN → Prop} {M : NN} {ng : Int} {p : Nat} (ha : at' < 60) (h : MSo b sz fr p M)
    (k1 : (tT b sz p = 1 ∧ fxX (tV b sz p) ≠ -1) ∧ (isS b sz (tE b sz p) 60 ∨ isS b sz (tE b sz p) 61) ∧ tT b sz (tE b sz (tE b sz p)) = 2 → ∀ N', (∀ c i k, ¬ (c = 10 ∧ i = 0 ∧ 32 ≤ k ∧ k ≤ 38) → ¬ ((c = 64 ∨ c = 65 ∨ c = 66) ∧ i = 0 ∧ k = at') → N' c i k = M c i k) → N' 65 0 at' = fxX (tV b sz p) → N' 66 0 at' = tV b sz (tE b sz (tE b sz p)) → N' 64 0 at' = (if isS b sz (tE b sz p) 60 then 1 else 2) + (if wI ng = 0 then 0 else 2) → MSo b sz fr (tE b sz (tE b sz (tE b sz p))) N' → K N')
    (k0 : ∀ q N', ((¬ (tT b sz p = 1 ∧ fxX (tV b sz p) ≠ -1)) ∧ q = tS b sz p ∨ (tT b sz p = 1 ∧ fxX (tV b sz p) ≠ -1) ∧ ¬ (isS b sz (tE b sz p) 60 ∨ isS b sz (tE b sz p) 61) ∧ q = tS b sz (tE b sz p) ∨ (tT b sz p = 1 ∧ fxX (tV b sz p) ≠ -1) ∧ (isS b sz (tE b sz p) 60 ∨ isS b sz (tE b sz p) 61) ∧ ¬ tT b sz (tE b sz (tE b sz p)) = 2 ∧ q = tS b sz (tE b sz (tE b sz p))) → FrQ at' M N' → BAD q N' → K N') :
    C_X10_fieldHere G M (fun x12 N12 => FLDK G K (at' : Int) ng x12 N12) := by
  refine s_fld h (fun g N1 f1 S1 => ?_) (fun g N1 f1 bd => m_fldkB ha bd fun N' f bd' => k0 _ N' (.inl ⟨g, rfl⟩) (f1.toQ.tr f) bd')
  unfold FLDK
  rw [wI_id (x := (at' : Int)) (by omega) (by omega)]
  refine ⟨at', rfl, ha, fun M14 e14 => ?_⟩
  have f14 : ∀ c i k, ¬ (c = 65 ∧ i = 0 ∧ k = at') → M14 c i k = N1 c i k := fun c i k a => by rw [e14]; exact up3_o' (by omega)
  have F14 : FrQ at' M M14 := fun c i k z a => by rw [f14 _ _ _ (by omega), f1 _ _ _ (by omega)]
  have S14 : MSo b sz fr (tE b sz p) M14 := S1.kq fun c i k z => f14 _ _ _ (by omega)
  have v65 : M14 65 0 at' = fxX (tV b sz p) := by rw [e14, up3_s]
  have fin : ∀ ls : Int, (isS b sz (tE b sz p) 60 ∨ isS b sz (tE b sz p) 61) → (if wI ls = 0 then (2 : Int) else 1) = (if isS b sz (tE b sz p) 60 then 1 else 2) → W_X10_readStep G K 228 [(0, vR 10 0), (1, vI (at' : Int)), (3, vI ng), (4, vI ls)] [] M14 := by
    intro ls hs hl
    have t3 : tT b sz (tE b sz p) = 3 := hs.elim (fun q => q.1) (fun q => q.1)
    refine m_228 ha S14 (by omega) (fun t2 N' f e66 e64 S' => k1 ⟨g, hs, t2⟩ N' (fun c i k a d => by rw [f _ _ _ a (by omega), f14 _ _ _ (by omega), f1 _ _ _ (by omega)]) (by rw [f _ _ _ (by omega) (by omega), v65]) e66 (by rw [e64, hl]) S') (fun n2 N' f bd' => k0 _ N' (.inr (.inr ⟨g, hs, n2, rfl⟩)) (F14.tr f) bd')
  refine s_mIsSign (by decide) S14.1 S14.2 ?_
  by_cases y1 : isS b sz (tE b sz p) 60
  · rw [bI_t y1, wlitI (by decide) (by decide)]
    exact ⟨fun _ => fin 1 (.inl y1) (by rw [if_pos y1]; rfl), fun q => absurd (by decide) q⟩
  · rw [bI_f y1, wlitI (by decide) (by decide)]
    refine ⟨fun q => absurd rfl q, fun _ => s_mIsSign (by decide) S14.1 S14.2 ?_⟩
    by_cases y2 : isS b sz (tE b sz p) 61
    · rw [bI_t y2, wlitI (by decide) (by decide)]
      exact ⟨fun _ => fin 0 (.inr y2) (by rw [if_neg y1]; rfl), fun q => absurd (by decide) q⟩
    · rw [bI_f y2, wlitI (by decide) (by decide)]
      exact ⟨fun q => absurd rfl q, fun _ => s_fail S14.1 S14.2 fun N2 f2 bd _ => m_228B ha bd fun N' f bd' => k0 _ N' (.inr (.inl ⟨g, fun z => z.elim y1 y2, rfl⟩)) ((F14.tr f2.toQ).tr f) bd'⟩
/-- behind a step's number -/
theorem m_tailB {K : NN → Prop} {M : NN} {q : Nat} (ha : at' < 60) (bd : BAD q M) (k : ∀ N', FrQ at' M N' → BAD q N' → K N') : TAIL G K (at' : Int) M := by
  unfold TAIL
  rw [wI_id (x := (at' : Int)) (by omega) (by omega)]
  refine ⟨at', rfl, ha, fun M4 e4 => ⟨at', rfl, ha, fun M6 e6 => ⟨at', rfl, ha, fun M8 e8 => ?_⟩⟩⟩
  have f8 : ∀ c i k, ¬ (64 ≤ c ∧ c ≤ 66 ∧ i = 0 ∧ k = at') → M8 c i k = M c i k := fun c i k a => by rw [e8, up3_o' (by omega), e6, up3_o' (by omega), e4, up3_o' (by omega)]
  have B8 : BAD q M8 := bd.kq fun c i k z => f8 _ _ _ (by omega)
  refine s_isWordB B8.1 ?_
  rw [wlitI (by decide) (by decide)]
  exact ⟨fun z => absurd rfl z, fun _ => k M8 (fun c i k _ a => f8 _ _ _ (by omega)) B8⟩
theorem m_tail {K : NN → Prop} {M : NN} {p : Nat} (ha : at' < 60) (h : MSo b sz fr p M)
    (k1 : isW b sz p 249 → (pTest b sz (tE b sz p)).1 = true → ∀ N', (∀ c i k, ¬ (c = 10 ∧ i = 0 ∧ 32 ≤ k ∧ k ≤ 38) → ¬ ((c = 64 ∨ c = 65 ∨ c = 66) ∧ i = 0 ∧ k = at') → N' c i k = M c i k) → N' 64 0 at' = (pTest b sz (tE b sz p)).2.2.1 → N' 65 0 at' = (pTest b sz (tE b sz p)).2.2.2.1 → N' 66 0 at' = (pTest b sz (tE b sz p)).2.2.2.2 → MSo b sz fr (pTest b sz (tE b sz p)).2.1 N' → K N')
    (k2 : ¬ isW b sz p 249 → ∀ N', (∀ c i k, ¬ ((c = 64 ∨ c = 65 ∨ c = 66) ∧ i = 0 ∧ k = at') → N' c i k = M c i k) → N' 64 0 at' = 0 → N' 65 0 at' = -1 → N' 66 0 at' = -1 → MSo b sz fr p N' → K N')
    (k0 : isW b sz p 249 → (pTest b sz (tE b sz p)).1 = false → ∀ N', FrQ at' M N' → BAD (pTest b sz (tE b sz p)).2.1 N' → K N') : TAIL G K (at' : Int) M := by
  have wa := fun _ : Unit => wI_id (x := (at' : Int)) (by omega) (by omega)
  unfold TAIL
  refine ⟨at', wa (), ha, fun M4 e4 => ⟨at', wa (), ha, fun M6 e6 => ⟨at', wa (), ha, fun M8 e8 => ?_⟩⟩⟩
  have f8 : ∀ c i k, ¬ (64 ≤ c ∧ c ≤ 66 ∧ i = 0 ∧ k = at') → M8 c i k = M c i k := fun c i k a => by rw [e8, up3_o' (by omega), e6, up3_o' (by omega), e4, up3_o' (by omega)]
  have S8 : MSo b sz fr p M8 := h.kq fun c i k z => f8 _ _ _ (by omega)
  have z64 : M8 64 0 at' = 0 := by rw [e8, up3_o' (by omega), e6, up3_o' (by omega), e4, up3_s]
  have z65 : M8 65 0 at' = -1 := by rw [e8, up3_o' (by omega), e6, up3_s]
  have z66 : M8 66 0 at' = -1 := by rw [e8, up3_s]
  refine s_isWord (by decide) S8.1 S8.2 ?_
  by_cases w : isW b sz p 249
  · rw [bI_t w, wlitI (by decide) (by decide)]
    refine ⟨fun _ => s_mOn S8.1 (by have := w.1; omega) fun N9 f9 T9 => ?_, fun q => absurd (by decide) q⟩
    have S9 := S8.on f9 T9
    have k1' := k1 w
    have k0' := k0 w
    unfold pTest at k1' k0'
    have go : ∀ (N10 : NN) (ng : Int), FrU N9 N10 → MSo b sz fr (nP b sz (tE b sz p)) N10 → (if wI ng = 0 then (0 : Int) else 2) = (if isW b sz (tE b sz p) 10631 then 2 else 0) → C_X10_fieldHere G N10 (fun x12 N12 => FLDK G K (at' : Int) ng x12 N12) := by
      intro N10 ng f10 S10 hng
      have F10 : FrQ at' M N10 := fun c i k a d => by rw [f10 _ _ _ (by omega), f9 _ _ _ (by omega), f8 _ _ _ (by omega)]
      refine m_fldk ha S10 (fun c N' f e65 e66 e64 S' => ?_) (fun q N' c f bd => ?_)
      · obtain ⟨c1, c2, c3⟩ := c
        rw [if_pos c1, if_pos c2, if_pos c3] at k1'
        exact k1' rfl N' (fun c i k a d => by rw [f _ _ _ a (by omega), f10 _ _ _ (by omega), f9 _ _ _ (by omega), f8 _ _ _ (by omega)]) (by rw [e64, hng]) e65 e66 S'
      · rcases c with ⟨c1, rfl⟩ | ⟨c1, c2, rfl⟩ | ⟨c1, c2, c3, rfl⟩
        · rw [if_neg c1] at k0'
          exact k0' rfl N' (F10.tr f) bd
        · rw [if_pos c1, if_neg c2] at k0'
          exact k0' rfl N' (F10.tr f) bd
        · rw [if_pos c1, if_pos c2, if_neg c3] at k0'
          exact k0' rfl N' (F10.tr f) bd
    refine s_isWord (by decide) S9.1 S9.2 ?_
    by_cases w2 : isW b sz (tE b sz p) 10631
    · rw [bI_t w2, wlitI (by decide) (by decide)]
      have en : nP b sz (tE b sz p) = tE b sz (tE b sz p) := by unfold nP; rw [if_pos w2]
      refine ⟨fun q => absurd q (by decide), fun _ => s_mOn S9.1 (by have := w2.1; omega) fun N10 f10 T10 => go N10 1 f10 (by rw [en]; exact S9.on f10 T10) (by rw [if_pos w2]; rfl)⟩
    · rw [bI_f w2, wlitI (by decide) (by decide)]
      have en : nP b sz (tE b sz p) = tE b sz p := by unfold nP; rw [if_neg w2]
      exact ⟨fun _ => go N9 0 FrU.rf (by rw [en]; exact S9) (by rw [if_neg w2]; rfl), fun q => absurd rfl q⟩
  · rw [bI_f w, wlitI (by decide) (by decide)]
    exact ⟨fun q => absurd rfl q, fun _ => k2 w M8 (fun c i k a => f8 _ _ _ (by omega)) z64 z65 z66 S8⟩
/-- a step -/
theorem s_mStep {K : NN → Prop} {N : NN} {p : Nat} (ha : at' < 60) (h : MSo b sz fr p N)
    (k1 : (pStep b sz p).1 = true → ∀ N', FrQ at' N N' → (∀ f, f < 6 → N' (61 + f) 0 at' = (pStep b sz p).2.2 f) → MSo b sz fr (pStep b sz p).2.1 N' → K N')
    (k0 : (pStep b sz p).1 = false → ∀ N', FrQ at' N N' → BAD (pStep b sz p).2.1 N' → K N') : C_X10_readStep G (at' : Int) N K := by
  have wa := fun _ : Unit => wI_id (x := (at' : Int)) (by omega) (by omega)
  unfold pStep at k1 k0
  have at71 : ∀ s : Int, s = (if tT b sz p = 1 then sxX (tV b sz p) else -1) → W_X10_readStep G K 71 [(0, vR 10 0), (1, vI (at' : Int))] [vI s] N := by
    intro s hs
    have sr := sxX_rng (v := tV b sz p)
    refine vc_X10_readStep_71 ?_
    by_cases g : tT b sz p = 1 ∧ sxX (tV b sz p) ≠ -1
    · rw [if_pos g] at k1 k0
      rw [if_pos g.1] at hs
      rw [← hs] at k1 k0 sr
      have gs : s ≠ -1 := by rw [hs]; exact g.2
      have ws := fun _ : Unit => wI_id (x := s) (by omega) (by omega)
      rw [ws ()]
      refine ⟨fun _ => s_mOn h.1 (by have := g.1; omega) fun N1 f1 T1 => ⟨at', wa (), ha, fun M3 e3 => ?_⟩, fun q => absurd gs q⟩
      have f3 : ∀ c i k, ¬ (c = 61 ∧ i = 0 ∧ k = at') → M3 c i k = N1 c i k := fun c i k a => by rw [e3]; exact up3_o' (by omega)
      have S3 : MSo b sz fr (tE b sz p) M3 := (h.on f1 T1).kq fun c i k z => f3 _ _ _ (by omega)
      have F3 : FrQ at' N M3 := fun c i k a d => by rw [f3 _ _ _ (by omega), f1 _ _ _ (by omega)]
      have u0 : M3 61 0 at' = s := by rw [e3, up3_s]
      unfold pRest at k1 k0
      -- behind the number
      have tl : ∀ M : NN, FrQ at' N M → M 61 0 at' = s → M 62 0 at' = (if 1 ≤ s ∧ s ≤ 3 then paX (tV b sz (tE b sz p)) else -1) → M 63 0 at' = (if s = 0 ∨ s = 3 ∨ s = 4 then tV b sz (pPp b sz s (tE b sz p)) else -1) → MSo b sz fr (pNn b sz s (pPp b sz s (tE b sz p))) M →
          ¬ ((1 ≤ s ∧ s ≤ 3) ∧ ¬ (tT b sz (tE b sz p) = 1 ∧ paX (tV b sz (tE b sz p)) ≠ -1)) → ¬ ((s = 0 ∨ s = 3 ∨ s = 4) ∧ ¬ tT b sz (pPp b sz s (tE b sz p)) = 2) → TAIL G K (at' : Int) M := by
        intro M F v0 v1 v2 S na nc
        rw [if_neg na, if_neg nc] at k1 k0
        refine m_tail ha S (fun w ok N' f e64 e65 e66 S' => ?_) (fun w N' f e64 e65 e66 S' => ?_) (fun w ok N' f bd => ?_)
        · rw [if_pos w, if_pos ok] at k1
          refine k1 rfl N' (fun c i k a d => by rw [f _ _ _ a (by omega), F _ _ _ a d]) (fun f' hf => ?_) S'
          rcases (by omega : f' = 0 ∨ f' = 1 ∨ f' = 2 ∨ f' = 3 ∨ f' = 4 ∨ f' = 5) with rfl | rfl | rfl | rfl | rfl | rfl
          · show N' 61 0 at' = s
            rw [f _ _ _ (by omega) (by omega), v0]
          · show N' 62 0 at' = _
            rw [f _ _ _ (by omega) (by omega), v1]; rfl
          · show N' 63 0 at' = _
            rw [f _ _ _ (by omega) (by omega), v2]; rfl
          · show N' 64 0 at' = _
            rw [e64]; rfl
          · show N' 65 0 at' = _
            rw [e65]; rfl
          · show N' 66 0 at' = _
            rw [e66]; rfl
        · rw [if_neg w] at k1
          refine k1 rfl N' (fun c i k a d => by rw [f _ _ _ (by omega), F _ _ _ a d]) (fun f' hf => ?_) S'
          rcases (by omega : f' = 0 ∨ f' = 1 ∨ f' = 2 ∨ f' = 3 ∨ f' = 4 ∨ f' = 5) with rfl | rfl | rfl | rfl | rfl | rfl
          · show N' 61 0 at' = s
            rw [f _ _ _ (by omega), v0]
          · show N' 62 0 at' = _
            rw [f _ _ _ (by omega), v1]; rfl
          · show N' 63 0 at' = _
            rw [f _ _ _ (by omega), v2]; rfl
          · show N' 64 0 at' = _
            rw [e64]; rfl
          · show N' 65 0 at' = _
            rw [e65]; rfl
          · show N' 66 0 at' = _
            rw [e66]; rfl
        · have ok' : ¬ (pTest b sz (tE b sz (pNn b sz s (pPp b sz s (tE b sz p))))).1 = true := by rw [ok]; decide
          rw [if_pos w, if_neg ok'] at k0
          exact k0 rfl N' (F.tr f) bd
      -- what is left where nothing more can stand
      have tlB : ∀ (M : NN) (q : Nat), FrQ at' N M → BAD q M → (∀ N', FrQ at' N N' → BAD q N' → K N') → TAIL G K (at' : Int) M := fun M q F bd kk => m_tailB ha bd fun N' f bd' => kk N' (F.tr f) bd'
      -- behind the paper
      have at115 : ∀ (M : NN) (x : Int), FrQ at' N M → M 61 0 at' = s → x = (if 1 ≤ s ∧ s ≤ 3 then paX (tV b sz (tE b sz p)) else -1) → MSo b sz fr (pPp b sz s (tE b sz p)) M → ¬ ((1 ≤ s ∧ s ≤ 3) ∧ ¬ (tT b sz (tE b sz p) = 1 ∧ paX (tV b sz (tE b sz p)) ≠ -1)) → W_X10_readStep G K 115 [(0, vR 10 0), (1, vI (at' : Int)), (2, vI s)] [vI x, vI (at' : Int), vR 62 0] M := by
        intro M x F v0 hx S na
        refine vc_X10_readStep_115 ?_
        rw [ws ()]
        refine ⟨at', wa (), ha, fun M2 e2 => ?_⟩
        have f2 : ∀ c i k, ¬ (c = 62 ∧ i = 0 ∧ k = at') → M2 c i k = M c i k := fun c i k a => by rw [e2]; exact up3_o' (by omega)
        have F2 : FrQ at' N M2 := fun c i k a d => by rw [f2 _ _ _ (by omega), F _ _ _ a d]
        have S2 : MSo b sz fr (pPp b sz s (tE b sz p)) M2 := S.kq fun c i k z => f2 _ _ _ (by omega)
        have w0 : M2 61 0 at' = s := by rw [f2 _ _ _ (by omega), v0]
        have w1 : M2 62 0 at' = (if 1 ≤ s ∧ s ≤ 3 then paX (tV b sz (tE b sz p)) else -1) := by rw [e2, up3_s, hx]
        have none : ¬ (s = 0 ∨ s = 3 ∨ s = 4) → W_X10_readStep G K 131 [(0, vR 10 0), (1, vI (at' : Int))] [vI (at' : Int), vR 63 0] M2 := by
          intro c
          refine vc_X10_readStep_131 ⟨at', wa (), ha, fun M5 e5 => ?_⟩
          have f5 : ∀ c i k, ¬ (c = 63 ∧ i = 0 ∧ k = at') → M5 c i k = M2 c i k := fun c i k a => by rw [e5]; exact up3_o' (by omega)
          refine tl M5 (fun c i k a d => by rw [f5 _ _ _ (by omega), F2 _ _ _ a d]) (by rw [f5 _ _ _ (by omega), w0]) (by rw [f5 _ _ _ (by omega), w1]) (by rw [e5, up3_s, if_neg c]) ?_ na (fun q => c q.1)
          unfold pNn
          rw [if_neg c]
          exact S2.kq fun c i k z => f5 _ _ _ (by omega)
        refine ⟨fun q => none (by omega), fun q1 => ⟨fun q2 => ?_, fun q2 => none (by omega)⟩⟩
        have c : s = 0 ∨ s = 3 ∨ s = 4 := by omega
        refine s_num S2 (fun t2 N3 f3 S3' => ⟨at', wa (), ha, fun M5 e5 => ?_⟩) (fun n2 N3 f3 bd => ⟨at', wa (), ha, fun M5 e5 => ?_⟩)
        · have f5 : ∀ c i k, ¬ (c = 63 ∧ i = 0 ∧ k = at') → M5 c i k = N3 c i k := fun c i k a => by rw [e5]; exact up3_o' (by omega)
          refine tl M5 (fun c i k a d => by rw [f5 _ _ _ (by omega), f3 _ _ _ (by omega), F2 _ _ _ a d]) (by rw [f5 _ _ _ (by omega), f3 _ _ _ (by omega), w0]) (by rw [f5 _ _ _ (by omega), f3 _ _ _ (by omega), w1]) (by rw [e5, up3_s, if_pos c]) ?_ na (fun q => q.2 t2)
          unfold pNn
          rw [if_pos c]
          exact S3'.kq fun c i k z => f5 _ _ _ (by omega)
        · have f5 : ∀ c i k, ¬ (c = 63 ∧ i = 0 ∧ k = at') → M5 c i k = N3 c i k := fun c i k a => by rw [e5]; exact up3_o' (by omega)
          rw [if_neg na, if_pos ⟨c, n2⟩] at k0
          exact tlB M5 _ (fun c i k a d => by rw [f5 _ _ _ (by omega), f3 _ _ _ (by omega), F2 _ _ _ a d]) (bd.kq fun c i k z => f5 _ _ _ (by omega)) (k0 rfl)
      have at115B : ∀ (M : NN) (q : Nat), FrQ at' N M → BAD q M → (∀ N', FrQ at' N N' → BAD q N' → K N') → W_X10_readStep G K 115 [(0, vR 10 0), (1, vI (at' : Int)), (2, vI s)] [vI (-1), vI (at' : Int), vR 62 0] M := by
        intro M q F bd kk
        refine vc_X10_readStep_115 ?_
        rw [ws ()]
        refine ⟨at', wa (), ha, fun M2 e2 => ?_⟩
        have f2 : ∀ c i k, ¬ (c = 62 ∧ i = 0 ∧ k = at') → M2 c i k = M c i k := fun c i k a => by rw [e2]; exact up3_o' (by omega)
        have F2 : FrQ at' N M2 := fun c i k a d => by rw [f2 _ _ _ (by omega), F _ _ _ a d]
        have B2 : BAD q M2 := bd.kq fun c i k z => f2 _ _ _ (by omega)
        have z131 : W_X10_readStep G K 131 [(0, vR 10 0), (1, vI (at' : Int))] [vI (at' : Int), vR 63 0] M2 := by
          refine vc_X10_readStep_131 ⟨at', wa (), ha, fun M5 e5 => ?_⟩
          have f5 : ∀ c i k, ¬ (c = 63 ∧ i = 0 ∧ k = at') → M5 c i k = M2 c i k := fun c i k a => by rw [e5]; exact up3_o' (by omega)
          exact tlB M5 q (fun c i k a d => by rw [f5 _ _ _ (by omega), F2 _ _ _ a d]) (B2.kq fun c i k z => f5 _ _ _ (by omega)) kk
        refine ⟨fun _ => z131, fun _ => ⟨fun _ => s_numB B2.1 ⟨at', wa (), ha, fun M5 e5 => ?_⟩, fun _ => z131⟩⟩
        have f5 : ∀ c i k, ¬ (c = 63 ∧ i = 0 ∧ k = at') → M5 c i k = M2 c i k := fun c i k a => by rw [e5]; exact up3_o' (by omega)
        exact tlB M5 q (fun c i k a d => by rw [f5 _ _ _ (by omega), F2 _ _ _ a d]) (B2.kq fun c i k z => f5 _ _ _ (by omega)) kk
      have n107 : ¬ (1 ≤ s ∧ s ≤ 3) → W_X10_readStep G K 107 [(0, vR 10 0), (1, vI (at' : Int)), (2, vI s)] [vI (at' : Int), vR 62 0] M3 := by
        intro c
        refine vc_X10_readStep_107 (at115 M3 (-1) F3 u0 (by rw [if_neg c]) ?_ (fun q => c q.1))
        unfold pPp
        rw [if_neg c]
        exact S3
      refine ⟨fun q => n107 (by omega), fun q => ⟨fun q4 => ?_, fun q4 => n107 (by omega)⟩⟩
      have c : 1 ≤ s ∧ s ≤ 3 := by omega
      refine s_pap S3 (fun g2 N4 f4 S4 => ?_) (fun g2 N4 f4 bd => ?_)
      · refine at115 N4 _ (F3.tr f4.toQ) (by rw [f4 _ _ _ (by omega), u0]) (by rw [if_pos c]) ?_ (fun q => q.2 g2)
        unfold pPp
        rw [if_pos c]
        exact S4
      · rw [if_pos ⟨c, g2⟩] at k0
        exact at115B N4 _ (F3.tr f4.toQ) bd (k0 rfl)
    · rw [if_neg g] at k0
      have e : s = -1 := by
        rw [hs]
        by_cases t1 : tT b sz p = 1
        · rw [if_pos t1]
          by_cases z : sxX (tV b sz p) = -1
          · exact z
          · exact absurd ⟨t1, z⟩ g
        · rw [if_neg t1]
      rw [e, wlitI (by decide) (by decide)]
      exact ⟨fun q => absurd rfl q, fun _ => s_fail h.1 h.2 fun N' f bd _ => k0 rfl N' f.toQ bd⟩
  unfold sxX at at71
  refine vc_X10_readStep (s_isWord (by decide) h.1 h.2 ?_)
  by_cases g0 : isW b sz p 4514
  · rw [bI_t g0, wlitI (by decide) (by decide)]
    exact ⟨fun q => absurd q (by decide), fun _ => at71 0 (by rw [if_pos g0.1, if_pos g0.2.symm])⟩
  · rw [bI_f g0, wlitI (by decide) (by decide)]
    refine ⟨fun _ => s_isWord (by decide) h.1 h.2 ?_, fun q => absurd rfl q⟩
    by_cases g1 : isW b sz p 11716
    · rw [bI_t g1, wlitI (by decide) (by decide)]
      exact ⟨fun q => absurd q (by decide), fun _ => at71 1 (by rw [if_pos g1.1, if_neg (by have := g1.2; omega), if_pos g1.2.symm])⟩
    · rw [bI_f g1, wlitI (by decide) (by decide)]
      refine ⟨fun _ => s_isWord (by decide) h.1 h.2 ?_, fun q => absurd rfl q⟩
      by_cases g2 : isW b sz p 11570
      · rw [bI_t g2, wlitI (by decide) (by decide)]
        exact ⟨fun q => absurd q (by decide), fun _ => at71 2 (by rw [if_pos g2.1, if_neg (by have := g2.2; omega), if_neg (by have := g2.2; omega), if_pos g2.2.symm])⟩
      · rw [bI_f g2, wlitI (by decide) (by decide)]
        refine ⟨fun _ => s_isWord (by decide) h.1 h.2 ?_, fun q => absurd rfl q⟩
        by_cases g3 : isW b sz p 316163
        · rw [bI_t g3, wlitI (by decide) (by decide)]
          exact ⟨fun q => absurd q (by decide), fun _ => at71 3 (by rw [if_pos g3.1, if_neg (by have := g3.2; omega), if_neg (by have := g3.2; omega), if_neg (by have := g3.2; omega), if_pos g3.2.symm])⟩
        · rw [bI_f g3, wlitI (by decide) (by decide)]
          refine ⟨fun _ => s_isWord (by decide) h.1 h.2 ?_, fun q => absurd rfl q⟩
          by_cases g4 : isW b sz p 220309
          · rw [bI_t g4, wlitI (by decide) (by decide)]
            exact ⟨fun q => absurd q (by decide), fun _ => at71 4 (by rw [if_pos g4.1, if_neg (by have := g4.2; omega), if_neg (by have := g4.2; omega), if_neg (by have := g4.2; omega), if_neg (by have := g4.2; omega), if_pos g4.2.symm])⟩
          · rw [bI_f g4, wlitI (by decide) (by decide)]
            refine ⟨fun _ => at71 (-1) ?_, fun q => absurd rfl q⟩
            by_cases t1 : tT b sz p = 1
            · rw [if_pos t1, if_neg (fun e => g0 ⟨t1, e.symm⟩), if_neg (fun e => g1 ⟨t1, e.symm⟩), if_neg (fun e => g2 ⟨t1, e.symm⟩), if_neg (fun e => g3 ⟨t1, e.symm⟩), if_neg (fun e => g4 ⟨t1, e.symm⟩)]
            · rw [if_neg t1]
end MO
