/-! the class reads a text -/
def FrL (t : Nat) (N N' : NN) : Prop := ∀ c i k, ¬ (c = 8 ∧ i = 0 ∧ 2 ≤ k ∧ k ≤ 5) → ¬ (c = 1 ∧ i = t ∧ (k = 3 ∨ k = 4)) → ¬ (c = 29 ∧ i = t) → N' c i k = N c i k
theorem FrL.rf {t : Nat} {N : NN} : FrL t N N := fun _ _ _ _ _ _ => rfl
theorem FrL.tr {t : Nat} {N N' N'' : NN} (h1 : FrL t N N') (h2 : FrL t N' N'') : FrL t N N'' := fun c i k a b d => (h2 c i k a b d).trans (h1 c i k a b d)
theorem FrT.toL {t : Nat} {N N' : NN} (h : FrT N N') : FrL t N N' := fun c i k a _ _ => h c i k a
/-- the token from p on, o open, len items written -/
def LST (b : Nat → Int) (sz p t o len : Nat) (N : NN) : Prop := TC b sz p N ∧ N 1 t 3 = (len : Int) ∧ N 1 t 4 = (o : Int)
/-- items from len on -/
def CDX (t len : Nat) (code : List Int) (N N' : NN) : Prop := (∀ j, j < len → N' 29 t j = N 29 t j) ∧ ∀ j, j < code.length → N' 29 t (len + j) = code.getD j 0
theorem CDX.nil {t len : Nat} {N N' : NN} (h : ∀ j, N' 29 t j = N 29 t j) : CDX t len [] N N' := ⟨fun j _ => h j, fun j hj => by cases hj⟩
theorem CDX.app {t len : Nat} {c d : List Int} {N N' N'' : NN} (h1 : CDX t len c N N') (h2 : CDX t (len + c.length) d N' N'') : CDX t len (c ++ d) N N'' := by
  refine ⟨fun j hj => by rw [h2.1 j (by omega), h1.1 j hj], fun j hj => ?_⟩
  rw [List.length_append] at hj
  rw [List.getD_eq_getElem?_getD]
  by_cases a : j < c.length
  · rw [List.getElem?_append_left a, h2.1 _ (by omega), h1.2 j a, List.getD_eq_getElem?_getD]
  · rw [List.getElem?_append_right (by omega), show len + j = len + c.length + (j - c.length) by omega, h2.2 _ (by omega), List.getD_eq_getElem?_getD]
theorem CDX.pre {t len : Nat} {c : List Int} {N0 N N' : NN} (h : CDX t len c N N') (e : ∀ j, N 29 t j = N0 29 t j) : CDX t len c N0 N' := ⟨fun j hj => by rw [h.1 j hj, e], h.2⟩
theorem CDX.post {t len : Nat} {c : List Int} {N N' N1 : NN} (h : CDX t len c N N') (e : ∀ j, N1 29 t j = N' 29 t j) : CDX t len c N N1 := ⟨fun j hj => by rw [e, h.1 j hj], fun j hj => by rw [e, h.2 j hj]⟩
/-- how a reading goes on -/
def CNT (b : Nat → Int) (sz t o len : Nat) (r : RES) (N : NN) (K : Int → NN → Prop) : Prop :=
  (r.1 = true → ∀ N', FrL t N N' → LST b sz r.2.1 t o (len + r.2.2.length) N' → CDX t len r.2.2 N N' → K 1 N') ∧ (r.1 = false → ∀ N', FrL t N N' → N' 8 0 2 = (r.2.1 : Int) → K 0 N')
def LOn (o : Nat) : Nat := 8 * (5 - o) + 6
def LCh (lvl o : Nat) : Nat := LOn o + (if lvl ≤ 2 then 7 - lvl else 6 - lvl)
def ned (lvl o : Nat) : Nat := 6 * (5 - o) + (5 - lvl) + 1
section CP
variable {G : GT} {b : Nat → Int} {sz t : Nat}
theorem s_signOf {K : Int → NN → Prop} {N : NN} {p lvl : Nat} (hl : lvl ≤ 4) (h : TC b sz p N) (k : K (sgn b sz lvl p) N) : C_X1_signOf G (lvl : Int) N K := by
  refine vc_X1_signOf ?_
  rw [wI_id (x := (lvl : Int)) (by omega) (by omega)]
  unfold sgn at k
  refine ⟨fun q => ?_, fun q => ?_, fun q => ?_, fun q => ?_, fun q => ?_⟩
  · rw [if_pos (by omega)] at k
    refine s_which (by decide) h (okW_all 3 (by decide) (by decide)) ?_
    by_cases g : isW b sz p 423
    · rw [if_pos g] at k
      rw [if_pos g.1, wl3, if_pos g.2.symm, wlitI (by decide) (by decide)]
      exact ⟨fun x => absurd rfl x, fun _ => k⟩
    · rw [if_neg g] at k
      have e : (if tT b sz p = 1 then wlF 3 (tV b sz p) 42 0 0 0 else -1) = -1 := by
        by_cases t1 : tT b sz p = 1
        · rw [if_pos t1, wl3, if_neg (fun e => g ⟨t1, e.symm⟩)]
        · rw [if_neg t1]
      rw [e, wlitI (by decide) (by decide)]
      exact ⟨fun _ => k, fun x => absurd (by decide) x⟩
  · rw [if_neg (by omega), if_pos (by omega)] at k
    refine s_which (by decide) h (okW_all 4 (by decide) (by decide)) ?_
    by_cases g : isW b sz p 1111
    · rw [if_pos g] at k
      rw [if_pos g.1, wl4, if_pos g.2.symm, wlitI (by decide) (by decide)]
      exact ⟨fun x => absurd rfl x, fun _ => k⟩
    · rw [if_neg g] at k
      have e : (if tT b sz p = 1 then wlF 4 (tV b sz p) 42 0 0 0 else -1) = -1 := by
        by_cases t1 : tT b sz p = 1
        · rw [if_pos t1, wl4, if_neg (fun e => g ⟨t1, e.symm⟩)]
        · rw [if_neg t1]
      rw [e, wlitI (by decide) (by decide)]
      exact ⟨fun _ => k, fun x => absurd (by decide) x⟩
  · rw [if_neg (by omega), if_neg (by omega), if_pos (by omega)] at k
    refine s_isSign (by decide) h ?_
    by_cases g : isS b sz p 60
    · rw [if_pos g] at k
      rw [bI_t g, wlitI (by decide) (by decide)]
      exact ⟨fun x => absurd x (by decide), fun _ => k⟩
    · rw [if_neg g] at k
      rw [bI_f g, wlitI (by decide) (by decide)]
      refine ⟨fun _ => s_isSign (by decide) h ?_, fun x => absurd rfl x⟩
      by_cases g2 : isS b sz p 61
      · rw [if_pos g2] at k
        rw [bI_t g2, wlitI (by decide) (by decide)]
        exact ⟨fun x => absurd x (by decide), fun _ => k⟩
      · rw [if_neg g2] at k
        rw [bI_f g2, wlitI (by decide) (by decide)]
        exact ⟨fun _ => k, fun x => absurd rfl x⟩
  · rw [if_neg (by omega), if_neg (by omega), if_neg (by omega), if_pos (by omega)] at k
    refine s_isSign (by decide) h ?_
    by_cases g : isS b sz p 43
    · rw [if_pos g] at k
      rw [bI_t g, wlitI (by decide) (by decide)]
      exact ⟨fun x => absurd x (by decide), fun _ => k⟩
    · rw [if_neg g] at k
      rw [bI_f g, wlitI (by decide) (by decide)]
      refine ⟨fun _ => s_isSign (by decide) h ?_, fun x => absurd rfl x⟩
      by_cases g2 : isS b sz p 45
      · rw [if_pos g2] at k
        rw [bI_t g2, wlitI (by decide) (by decide)]
        exact ⟨fun x => absurd x (by decide), fun _ => k⟩
      · rw [if_neg g2] at k
        rw [bI_f g2, wlitI (by decide) (by decide)]
        exact ⟨fun _ => k, fun x => absurd rfl x⟩
  · rw [if_neg (by omega), if_neg (by omega), if_neg (by omega), if_neg (by omega)] at k
    refine s_isSign (by decide) h ?_
    by_cases g : isS b sz p 42
    · rw [if_pos g] at k
      rw [bI_t g, wlitI (by decide) (by decide)]
      exact ⟨fun x => absurd x (by decide), fun _ => k⟩
    · rw [if_neg g] at k
      rw [bI_f g, wlitI (by decide) (by decide)]
      exact ⟨fun _ => k, fun x => absurd rfl x⟩
theorem s_write {K : Int → NN → Prop} {N : NN} {p o len : Nat} {i : Int} (ht : t < 6) (h : LST b sz p t o len N) (hl : len < 160) (k : ∀ N', FrL t N N' → LST b sz p t o (len + 1) N' → CDX t len [i] N N' → (∀ k, N' 8 0 k = N 8 0 k) → K 1 N') : C_X1_write G t i N K := by
  obtain ⟨hT, h3, h4⟩ := h
  refine vc_X1_write ht ?_
  rw [h3, wI_id (x := (len : Int)) (by omega) (by omega)]
  refine ⟨fun _ => ⟨len, rfl, hl, fun M2 e2 M3 e3 => ?_⟩, fun q => absurd (by omega) q⟩
  have f : ∀ c i k, ¬ (c = 29 ∧ i = t ∧ k = len) → ¬ (c = 1 ∧ i = t ∧ k = 3) → M3 c i k = N c i k := fun c i k a b => by rw [e3, up3_o' (by omega), e2, up3_o' (by omega)]
  have m29 : M3 29 t len = i := by rw [e3, up3_o' (by omega), e2, up3_s]
  refine k M3 (fun c i k _ b d => f c i k (by omega) (by omega)) ⟨⟨⟨by rw [f _ _ _ (by omega) (by omega)]; exact hT.1.1, hT.1.2.1, fun j hj => by rw [f _ _ _ (by omega) (by omega)]; exact hT.1.2.2 j hj⟩, hT.2.1, by rw [f _ _ _ (by omega) (by omega)]; exact hT.2.2.1, by rw [f _ _ _ (by omega) (by omega)]; exact hT.2.2.2.1, by rw [f _ _ _ (by omega) (by omega)]; exact hT.2.2.2.2.1, fun q => by rw [f _ _ _ (by omega) (by omega)]; exact hT.2.2.2.2.2 q⟩, ?_, by rw [f _ _ _ (by omega) (by omega)]; exact h4⟩ ⟨fun j hj => f _ _ _ (by omega) (by omega), fun j hj => ?_⟩ (fun k => f _ _ _ (by omega) (by omega))
  · rw [e3, up3_s, e2, up3_o' (by omega), h3]
    omega
  · have : j = 0 := by
      simp only [List.length_cons, List.length_nil] at hj
      omega
    subst this
    exact m29
theorem LST.on {N N' : NN} {p q o len : Nat} (h : LST b sz p t o len N) (f : FrT N N') (c : TC b sz q N') : LST b sz q t o len N' := ⟨c, by rw [f _ _ _ (by omega)]; exact h.2.1, by rw [f _ _ _ (by omega)]; exact h.2.2⟩
theorem s_opens {K : Int → NN → Prop} {N : NN} {p o len : Nat} (ht : t < 6) (ho : o ≤ 5) (h : LST b sz p t o len N) (k1 : ¬ 5 ≤ o → ∀ N', FrL t N N' → (∀ j, N' 29 t j = N 29 t j) → LST b sz (tE b sz p) t (o + 1) len N' → K 1 N') (k0 : 5 ≤ o → K 0 N) : C_X1_opens G t N K := by
  obtain ⟨hT, h3, h4⟩ := h
  refine vc_X1_opens ht ?_
  rw [h4, wI_id (x := (o : Int)) (by omega) (by omega)]
  refine ⟨fun q M1 e1 => ?_, fun q => k0 (by omega)⟩
  have f : ∀ c i k, ¬ (c = 1 ∧ i = t ∧ k = 4) → M1 c i k = N c i k := fun c i k a => by rw [e1, up3_o' (by omega)]
  have T1 : TC b sz p M1 := ⟨⟨by rw [f _ _ _ (by omega)]; exact hT.1.1, hT.1.2.1, fun j hj => by rw [f _ _ _ (by omega)]; exact hT.1.2.2 j hj⟩, hT.2.1, by rw [f _ _ _ (by omega)]; exact hT.2.2.1, by rw [f _ _ _ (by omega)]; exact hT.2.2.2.1, by rw [f _ _ _ (by omega)]; exact hT.2.2.2.2.1, fun q => by rw [f _ _ _ (by omega)]; exact hT.2.2.2.2.2 q⟩
  refine s_on T1 fun N' f' T' => k1 (by omega) N' (fun c i k a b d => by rw [f' _ _ _ a, f _ _ _ (by omega)]) (fun j => by rw [f' _ _ _ (by omega), f _ _ _ (by omega)]) ⟨T', by rw [f' _ _ _ (by omega), f _ _ _ (by omega)]; exact h3, ?_⟩
  rw [f' _ _ _ (by omega), e1, up3_s]
  omega
theorem s_closes {K : Int → NN → Prop} {N : NN} {p o len : Nat} (ht : t < 6) (h : LST b sz p t (o + 1) len N) (k : ∀ N', FrL t N N' → (∀ j, N' 29 t j = N 29 t j) → LST b sz p t o len N' → K 1 N') : C_X1_closes G t N K := by
  obtain ⟨hT, h3, h4⟩ := h
  refine vc_X1_closes ht (fun M1 e1 => ?_)
  have f : ∀ c i k, ¬ (c = 1 ∧ i = t ∧ k = 4) → M1 c i k = N c i k := fun c i k a => by rw [e1, up3_o' (by omega)]
  refine k M1 (fun c i k _ b _ => f c i k (by omega)) (fun j => f _ _ _ (by omega)) ⟨⟨⟨by rw [f _ _ _ (by omega)]; exact hT.1.1, hT.1.2.1, fun j hj => by rw [f _ _ _ (by omega)]; exact hT.1.2.2 j hj⟩, hT.2.1, by rw [f _ _ _ (by omega)]; exact hT.2.2.1, by rw [f _ _ _ (by omega)]; exact hT.2.2.2.1, by rw [f _ _ _ (by omega)]; exact hT.2.2.2.2.1, fun q => by rw [f _ _ _ (by omega)]; exact hT.2.2.2.2.2 q⟩, by rw [f _ _ _ (by omega)]; exact h3, ?_⟩
  rw [e1, up3_s, h4]
  omega
theorem t3_0 {p : Nat} {w : Int} (h : isS b sz p w) : tT b sz p ≠ 0 := by have := h.1; omega
theorem t1_0 {p : Nat} {w : Int} (h : isW b sz p w) : tT b sz p ≠ 0 := by have := h.1; omega
/-- the three statements of a reading with n turns left -/
def ONE (G : GT) (b : Nat → Int) (sz t n : Nat) : Prop := ∀ (p o len L : Nat) (N : NN) (K : Int → NN → Prop), o ≤ 5 → ned 5 o ≤ n → LOn o ≤ L → LST b sz p t o len N → len ≤ tS b sz p → CNT b sz t o len (pE b sz n 5 p o) N K → C_X1_readOne G L t N K
def CMP (G : GT) (b : Nat → Int) (sz t n : Nat) : Prop := ∀ (p o len L : Nat) (N : NN) (K : Int → NN → Prop), o ≤ 5 → ned 2 o ≤ n → LOn o + 4 ≤ L → LST b sz p t o len N → len ≤ tS b sz p → CNT b sz t o len (pE b sz n 2 p o) N K → C_X1_readCompared G L t N K
def CHN (G : GT) (b : Nat → Int) (sz t n : Nat) : Prop := ∀ (lvl p o len L : Nat) (N : NN) (K : Int → NN → Prop), lvl ≤ 5 → o ≤ 5 → ned lvl o ≤ n → LCh lvl o ≤ L → LST b sz p t o len N → len ≤ tS b sz p → CNT b sz t o len (pE b sz n lvl p o) N K → C_X1_readChain G L t (lvl : Int) N K
theorem LST_sz {p o len : Nat} {N : NN} (h : LST b sz p t o len N) : p ≤ sz ∧ sz ≤ 160 := ⟨h.1.2.1, h.1.1.2.1⟩
theorem one_S {n : Nat} (ht : t < 6) (hO : ONE G b sz t n) (hC : CHN G b sz t n) : ONE G b sz t (n + 1) := by
  intro p o len L N K ho hn hL S hlen C
  have sz2 := LST_sz S
  unfold LOn at hL
  unfold pE at C
  rw [if_neg (by decide), if_pos (by decide)] at C
  refine vc_X1_readOne ht ⟨by omega, s_isSign (by decide) S.1 ?_⟩
  by_cases w : isS b sz p 45
  · rw [if_pos w] at C
    rw [bI_t w, wlitI (by decide) (by decide)]
    refine ⟨fun x => absurd x (by decide), fun _ => ⟨by omega, s_opens ht ho S (fun o5 N1 f1 g1 S1 => ?_) (fun o5 => ?_)⟩⟩
    · rw [if_neg o5] at C
      rw [wlitI (by decide) (by decide)]
      refine ⟨fun x => absurd x (by decide), fun _ => ⟨L - 1, by omega, ?_⟩⟩
      have nx := tS_nx (t3_0 w)
      have gd := Good_E (b := b) (sz := sz) n 5 (tE b sz p) (o + 1) (by omega) (by decide) (tE_le sz2.1)
      refine hO (tE b sz p) (o + 1) len (L - 1) N1 _ (by omega) (by unfold ned at *; omega) (by unfold LOn; omega) S1 (by omega) ⟨fun e N2 f2 S2 c2 => ?_, fun e N2 f2 z => ?_⟩
      · rw [if_pos e] at C
        obtain ⟨q1, q2, q3, -⟩ := gd e
        have q4 := tS_le (b := b) q1
        rw [wlitI (by decide) (by decide)]
        refine ⟨fun x => absurd x (by decide), fun _ => ⟨by omega, s_closes ht S2 fun N3 f3 g3 S3 => ?_⟩⟩
        rw [wlitI (by decide) (by decide)]
        refine ⟨fun x => absurd x (by decide), fun _ => ⟨by omega, s_write ht S3 (by omega) fun N4 f4 S4 c4 _ => ?_⟩⟩
        rw [wlitI (by decide) (by decide)]
        refine ⟨fun x => absurd x (by decide), fun _ => C.1 rfl N4 (((f1.tr f2).tr f3).tr f4) ?_ (((c2.pre g1).post g3).app c4)⟩
        show LST b sz _ t o (len + ((pE b sz n 5 (tE b sz p) (o + 1)).2.2 ++ [20008]).length) N4
        rw [List.length_append, ← Nat.add_assoc]
        exact S4
      · have e' : ¬ (pE b sz n 5 (tE b sz p) (o + 1)).1 = true := by rw [e]; decide
        rw [if_neg e'] at C
        dsimp only
        rw [wlitI (by decide) (by decide)]
        exact ⟨fun _ => C.2 e N2 (f1.tr f2) z, fun x => absurd rfl x⟩
    · rw [if_pos o5] at C
      rw [wlitI (by decide) (by decide)]
      exact ⟨fun _ => C.2 rfl N FrL.rf S.1.2.2.1, fun x => absurd rfl x⟩
  · rw [if_neg w] at C
    rw [bI_f w, wlitI (by decide) (by decide)]
    refine ⟨fun _ => ⟨by omega, s_isSign (by decide) S.1 ?_⟩, fun x => absurd rfl x⟩
    by_cases w2 : isS b sz p 40
    · rw [if_pos w2] at C
      rw [bI_t w2, wlitI (by decide) (by decide)]
      refine ⟨fun x => absurd x (by decide), fun _ => ⟨by omega, s_opens ht ho S (fun o5 N1 f1 g1 S1 => ?_) (fun o5 => ?_)⟩⟩
      · rw [if_neg o5] at C
        rw [wlitI (by decide) (by decide)]
        refine ⟨fun x => absurd x (by decide), fun _ => ⟨L - 1, by omega, ?_⟩⟩
        have nx := tS_nx (t3_0 w2)
        have gd := Good_E (b := b) (sz := sz) n 0 (tE b sz p) (o + 1) (by omega) (by decide) (tE_le sz2.1)
        refine hC 0 (tE b sz p) (o + 1) len (L - 1) N1 _ (by decide) (by omega) (by unfold ned at *; omega) (by unfold LCh LOn; rw [if_pos (by decide)]; omega) S1 (by omega) ⟨fun e N2 f2 S2 c2 => ?_, fun e N2 f2 z => ?_⟩
        · rw [if_pos e] at C
          rw [wlitI (by decide) (by decide)]
          refine ⟨fun x => absurd x (by decide), fun _ => ⟨by omega, s_takesSign (by decide) S2.1 (fun s N3 f3 T3 => ?_) (fun s => ?_)⟩⟩
          · rw [if_pos s] at C
            rw [wlitI (by decide) (by decide)]
            refine ⟨fun x => absurd x (by decide), fun _ => ⟨by omega, s_closes ht (S2.on f3 T3) fun N4 f4 g4 S4 => ?_⟩⟩
            rw [wlitI (by decide) (by decide)]
            exact ⟨fun x => absurd x (by decide), fun _ => C.1 rfl N4 (((f1.tr f2).tr f3.toL).tr f4) S4 ((c2.pre g1).post fun j => by rw [g4, f3 _ _ _ (by omega)])⟩
          · rw [if_neg s] at C
            rw [wlitI (by decide) (by decide)]
            exact ⟨fun _ => C.2 rfl N2 (f1.tr f2) S2.1.2.2.1, fun x => absurd rfl x⟩
        · have e' : ¬ (pE b sz n 0 (tE b sz p) (o + 1)).1 = true := by rw [e]; decide
          rw [if_neg e'] at C
          dsimp only
          rw [wlitI (by decide) (by decide)]
          exact ⟨fun _ => C.2 e N2 (f1.tr f2) z, fun x => absurd rfl x⟩
      · rw [if_pos o5] at C
        rw [wlitI (by decide) (by decide)]
        exact ⟨fun _ => C.2 rfl N FrL.rf S.1.2.2.1, fun x => absurd rfl x⟩
    · rw [if_neg w2] at C
      rw [bI_f w2, wlitI (by decide) (by decide)]
      refine ⟨fun _ => ⟨by omega, s_which (by decide) S.1 (okW_all 5 (by decide) (by decide)) ?_⟩, fun x => absurd rfl x⟩
      have nw : (if 7214732 = tV b sz p then (0 : Int) else if 355568 = tV b sz p then 1 else if 240023 = tV b sz p then 2 else if 312151 = tV b sz p then 3 else if 795597152 = tV b sz p then 4 else if 223456 = tV b sz p then 5 else -1) = nmX (tV b sz p) := rfl
      by_cases t1 : tT b sz p = 1 ∧ nmX (tV b sz p) ≠ -1
      · rw [if_neg (show ¬ tT b sz p = 2 by omega), if_pos t1] at C
        have l := tS_lt (b := b) (sz := sz) (p := p) (by omega)
        have r := nmX_rng (v := tV b sz p)
        rw [if_pos t1.1, wl5]
        rw [nw, wI_id (x := nmX (tV b sz p)) (by omega) (by omega)]
        refine ⟨fun _ => ⟨fun _ => ⟨by omega, s_write ht S (by omega) fun N1 f1 S1 c1 _ => ⟨by omega, s_on S1.1 fun N2 f2 T2 => ⟨.inr rfl, C.1 rfl N2 (f1.tr f2.toL) (S1.on f2 T2) (c1.post fun j => f2 _ _ _ (by omega))⟩⟩⟩, fun x => absurd t1.2 x⟩, fun x => absurd t1.2 x⟩
      · have ew : (if tT b sz p = 1 then wlF 5 (tV b sz p) 42 0 0 0 else -1) = -1 := by
          by_cases h1 : tT b sz p = 1
          · rw [if_pos h1, wl5, nw]
            by_cases h2 : nmX (tV b sz p) = -1
            · exact h2
            · exact absurd ⟨h1, h2⟩ t1
          · rw [if_neg h1]
        rw [ew, wlitI (by decide) (by decide)]
        refine ⟨fun x => absurd rfl x, fun _ => ⟨by omega, s_isNumber S.1 ?_⟩⟩
        by_cases t2 : tT b sz p = 2
        · rw [if_pos t2] at C
          have l := tS_lt (b := b) (sz := sz) (p := p) (by omega)
          rw [bI_t t2, wlitI (by decide) (by decide)]
          refine ⟨fun _ => ⟨fun x => absurd rfl x, fun _ => ⟨by omega, ?_⟩⟩, fun x => absurd (by decide) x⟩
          rw [S.1.2.2.2.2.2 t2]
          exact s_write ht S (by omega) fun N1 f1 S1 c1 _ => ⟨by omega, s_on S1.1 fun N2 f2 T2 => ⟨.inr rfl, C.1 rfl N2 (f1.tr f2.toL) (S1.on f2 T2) (c1.post fun j => f2 _ _ _ (by omega))⟩⟩
        · rw [if_neg t2, if_neg t1] at C
          rw [bI_f t2, wlitI (by decide) (by decide)]
          exact ⟨fun x => absurd rfl x, fun _ => C.2 rfl N FrL.rf S.1.2.2.1⟩
theorem cmp_S {n : Nat} (ht : t < 6) (hM : CMP G b sz t n) (hC : CHN G b sz t n) : CMP G b sz t (n + 1) := by
  intro p o len L N K ho hn hL S hlen C
  have sz2 := LST_sz S
  unfold LOn at hL
  unfold pE at C
  rw [if_pos rfl] at C
  refine vc_X1_readCompared ht ⟨by omega, s_which (by decide) S.1 (okW_all 2 (by decide) (by decide)) ?_⟩
  by_cases w : isW b sz p 10631
  · rw [if_pos w] at C
    rw [if_pos w.1, wl2, if_pos w.2.symm, wlitI (by decide) (by decide)]
    refine ⟨fun x => absurd rfl x, fun _ => ⟨by omega, s_opens ht ho S (fun o5 N1 f1 g1 S1 => ?_) (fun o5 => ?_)⟩⟩
    · rw [if_neg o5] at C
      rw [wlitI (by decide) (by decide)]
      refine ⟨fun x => absurd x (by decide), fun _ => ⟨L - 1, by omega, ?_⟩⟩
      have nx := tS_nx (t1_0 w)
      have gd := Good_E (b := b) (sz := sz) n 2 (tE b sz p) (o + 1) (by omega) (by decide) (tE_le sz2.1)
      refine hM (tE b sz p) (o + 1) len (L - 1) N1 _ (by omega) (by unfold ned at *; omega) (by unfold LOn; omega) S1 (by omega) ⟨fun e N2 f2 S2 c2 => ?_, fun e N2 f2 z => ?_⟩
      · rw [if_pos e] at C
        obtain ⟨q1, q2, q3, -⟩ := gd e
        have q4 := tS_le (b := b) q1
        rw [wlitI (by decide) (by decide)]
        refine ⟨fun x => absurd x (by decide), fun _ => ⟨by omega, s_closes ht S2 fun N3 f3 g3 S3 => ?_⟩⟩
        rw [wlitI (by decide) (by decide)]
        refine ⟨fun x => absurd x (by decide), fun _ => ⟨by omega, s_write ht S3 (by omega) fun N4 f4 S4 c4 _ => ?_⟩⟩
        rw [wlitI (by decide) (by decide)]
        refine ⟨fun x => absurd x (by decide), fun _ => C.1 rfl N4 (((f1.tr f2).tr f3).tr f4) ?_ (((c2.pre g1).post g3).app c4)⟩
        show LST b sz _ t o (len + ((pE b sz n 2 (tE b sz p) (o + 1)).2.2 ++ [20002]).length) N4
        rw [List.length_append, ← Nat.add_assoc]
        exact S4
      · have e' : ¬ (pE b sz n 2 (tE b sz p) (o + 1)).1 = true := by rw [e]; decide
        rw [if_neg e'] at C
        dsimp only
        rw [wlitI (by decide) (by decide)]
        exact ⟨fun _ => C.2 e N2 (f1.tr f2) z, fun x => absurd rfl x⟩
    · rw [if_pos o5] at C
      rw [wlitI (by decide) (by decide)]
      exact ⟨fun _ => C.2 rfl N FrL.rf S.1.2.2.1, fun x => absurd rfl x⟩
  · rw [if_neg w] at C
    have ew : (if tT b sz p = 1 then wlF 2 (tV b sz p) 42 0 0 0 else -1) = -1 := by
      by_cases h1 : tT b sz p = 1
      · rw [if_pos h1, wl2, if_neg (fun e => w ⟨h1, e.symm⟩)]
      · rw [if_neg h1]
    rw [ew, wlitI (by decide) (by decide)]
    refine ⟨fun _ => ⟨L - 1, by omega, ?_⟩, fun x => absurd (by decide) x⟩
    have gd := Good_E (b := b) (sz := sz) n 3 p o ho (by decide) sz2.1
    refine hC 3 p o len (L - 1) N _ (by decide) ho (by unfold ned at *; omega) (by unfold LCh LOn; rw [if_neg (by decide)]; omega) S hlen ⟨fun e N1 f1 S1 c1 => ?_, fun e N1 f1 z => ?_⟩
    · rw [if_pos e] at C
      obtain ⟨q1, q2, q3, -⟩ := gd e
      generalize pE b sz n 3 p o = r at *
      rw [wlitI (by decide) (by decide)]
      refine ⟨fun _ => ⟨by omega, s_signOf (by decide) S1.1 ?_⟩, fun x => absurd (by decide) x⟩
      by_cases s : sgn b sz 2 r.2.1 = -1
      · rw [if_pos s] at C
        rw [s, wlitI (by decide) (by decide)]
        exact ⟨fun x => absurd rfl x, fun _ => C.1 e N1 f1 S1 c1⟩
      · rw [if_neg s] at C
        obtain ⟨s0, s4, s1, s2, s3⟩ := sgn_ok s
        rw [wI_id (x := sgn b sz 2 r.2.1) (by omega) (by omega)]
        refine ⟨fun _ => ⟨by omega, s_on S1.1 fun N2 f2 T2 => ⟨L - 1, by omega, ?_⟩⟩, fun x => absurd s x⟩
        have nx := tS_nx s0
        have gd2 := Good_E (b := b) (sz := sz) n 3 (tE b sz r.2.1) o ho (by decide) (tE_le q1)
        refine hC 3 (tE b sz r.2.1) o (len + r.2.2.length) (L - 1) N2 _ (by decide) ho (by unfold ned at *; omega) (by unfold LCh LOn; rw [if_neg (by decide)]; omega) (S1.on f2 T2) (by omega) ⟨fun d N3 f3 S3 c3 => ?_, fun d N3 f3 z => ?_⟩
        · rw [if_pos d] at C
          obtain ⟨u1, u2, u3, -⟩ := gd2 d
          have u4 := tS_le (b := b) u1
          rw [wlitI (by decide) (by decide)]
          refine ⟨fun x => absurd x (by decide), fun _ => ⟨by omega, s_write ht S3 (by omega) fun N4 f4 S4 c4 _ => ?_⟩⟩
          rw [wlitI (by decide) (by decide)]
          refine ⟨fun x => absurd x (by decide), fun _ => C.1 rfl N4 (((f1.tr f2.toL).tr f3).tr f4) ?_ ((c1.app (c3.pre fun j => f2 _ _ _ (by omega))).app ?_)⟩
          · show LST b sz _ t o (len + (r.2.2 ++ (pE b sz n 3 (tE b sz r.2.1) o).2.2 ++ [sgn b sz 2 r.2.1]).length) N4
            rw [List.length_append, List.length_append, ← Nat.add_assoc, ← Nat.add_assoc]
            exact S4
          · rw [List.length_append, ← Nat.add_assoc]
            exact c4
        · have e' : ¬ (pE b sz n 3 (tE b sz r.2.1) o).1 = true := by rw [d]; decide
          rw [if_neg e'] at C
          dsimp only
          rw [wlitI (by decide) (by decide)]
          exact ⟨fun _ => C.2 d N3 ((f1.tr f2.toL).tr f3) z, fun x => absurd rfl x⟩
    · have e' : ¬ (pE b sz n 3 p o).1 = true := by rw [e]; decide
      rw [if_neg e'] at C
      dsimp only
      rw [wlitI (by decide) (by decide)]
      exact ⟨fun x => absurd rfl x, fun _ => C.2 e N1 f1 z⟩
theorem chn_S {n : Nat} (ht : t < 6) (hO : ONE G b sz t (n + 1)) (hM : CMP G b sz t (n + 1)) (hC : CHN G b sz t n) : CHN G b sz t (n + 1) := by
  intro lvl p o len L N K hl ho hn hL S hlen C
  have sz2 := LST_sz S
  refine vc_X1_readChain ht ?_
  rw [wI_id (x := (lvl : Int)) (by omega) (by omega)]
  refine ⟨fun q2 => ⟨fun q5 => ?_, fun q5 => ?_⟩, fun q2 => ?_⟩
  · have l2 : lvl ≠ 2 := by omega
    have l5 : ¬ 5 ≤ lvl := by omega
    have eL : LCh (lvl + 1) o + 1 ≤ L := by
      unfold LCh LOn at *
      split at hL <;> split <;> omega
    have hL6 : 7 ≤ L := by
      unfold LCh LOn at hL
      split at hL <;> omega
    unfold pE at C
    rw [if_neg l2, if_neg l5] at C
    refine ⟨L - 1, by omega, ?_⟩
    have gd := Good_E (b := b) (sz := sz) n (lvl + 1) p o ho (by omega) sz2.1
    refine hC (lvl + 1) p o len (L - 1) N _ (by omega) ho (by unfold ned at *; omega) (by omega) S hlen ⟨fun e N1 f1 S1 c1 => ?_, fun e N1 f1 z => ?_⟩
    · rw [if_pos e] at C
      obtain ⟨q1, q2, q3, -⟩ := gd e
      generalize pE b sz n (lvl + 1) p o = r at *
      rw [wlitI (by decide) (by decide)]
      refine ⟨fun x => absurd x (by decide), fun _ => ⟨by omega, s_signOf (by omega) S1.1 ?_⟩⟩
      have loop : ∀ (k i p1 : Nat) (acc : List Int) (N1 : NN), i + k = 160 → FrL t N N1 → LST b sz p1 t o (len + acc.length) N1 → CDX t len acc N N1 → len + acc.length ≤ tS b sz p1 → CNT b sz t o len (pC (sgn b sz lvl) (tE b sz) (fun q => pE b sz n (lvl + 1) q o) k p1 acc) N K → W_X1_readChain G L K 49 [(0, vR 1 t), (1, vR 8 0), (2, vI lvl), (3, vI 1), (4, vI (sgn b sz lvl p1)), (5, vI (i : Int))] [] N1 := by
        intro k
        induction k with
        | zero =>
          intro i p1 acc N1 hi f1 S1 c1 hl1 C
          unfold pC at C
          refine vc_X1_readChain_49 ht ?_
          rw [wI_id (x := (i : Int)) (by omega) (by omega)]
          exact ⟨fun _ => ⟨.inr rfl, C.1 rfl N1 f1 S1 c1⟩, fun x => absurd (by omega) x⟩
        | succ k ih =>
          intro i p1 acc N1 hi f1 S1 c1 hl1 C
          have p1z := LST_sz S1
          unfold pC at C
          refine vc_X1_readChain_49 ht ?_
          rw [wI_id (x := (i : Int)) (by omega) (by omega)]
          refine ⟨fun x => by omega, fun _ => ?_⟩
          by_cases s : sgn b sz lvl p1 = -1
          · rw [if_pos s] at C
            rw [s, wlitI (by decide) (by decide)]
            exact ⟨fun _ => ⟨.inr rfl, C.1 rfl N1 f1 S1 c1⟩, fun x => absurd rfl x⟩
          · rw [if_neg s] at C
            obtain ⟨s0, s4, s1, s2, s3⟩ := sgn_ok s
            rw [wI_id (x := sgn b sz lvl p1) (by omega) (by omega)]
            refine ⟨fun x => absurd x s, fun _ => ⟨by omega, s_on S1.1 fun N2 f2 T2 => ⟨L - 1, by omega, ?_⟩⟩⟩
            have nx := tS_nx s0
            have gd2 := Good_E (b := b) (sz := sz) n (lvl + 1) (tE b sz p1) o ho (by omega) (tE_le p1z.1)
            have fail : ∀ (N3 : NN) (q : Nat), FrL t N N3 → N3 8 0 2 = (q : Int) → (∀ N', FrL t N N' → N' 8 0 2 = (q : Int) → K 0 N') → W_X1_readChain G L K 49 [(0, vR 1 t), (1, vR 8 0), (2, vI lvl), (3, vI 0), (4, vI ((-1))), (5, vI ((i : Int) + 1))] [] N3 := by
              intro N3 q f3 z kf
              refine vc_X1_readChain_49 ht ?_
              rw [wlitI (k := -1) (by decide) (by decide)]
              exact ⟨fun _ => ⟨.inl rfl, kf N3 f3 z⟩, fun _ => ⟨fun _ => ⟨.inl rfl, kf N3 f3 z⟩, fun x => absurd rfl x⟩⟩
            refine hC (lvl + 1) (tE b sz p1) o (len + acc.length) (L - 1) N2 _ (by omega) ho (by unfold ned at *; omega) (by omega) (S1.on f2 T2) (by omega) ⟨fun d N3 f3 S3 c3 => ?_, fun d N3 f3 z => ?_⟩
            · rw [if_pos d] at C
              obtain ⟨u1, u2, u3, -⟩ := gd2 d
              have u4 := tS_le (b := b) u1
              rw [wlitI (by decide) (by decide)]
              refine ⟨fun x => absurd x (by decide), fun _ => ⟨by omega, s_write ht S3 (by omega) fun N4 f4 S4 c4 _ => ?_⟩⟩
              rw [wlitI (by decide) (by decide)]
              refine ⟨fun x => absurd x (by decide), fun _ => ⟨by omega, s_signOf (by omega) S4.1 ?_⟩⟩
              have el : len + (acc ++ (pE b sz n (lvl + 1) (tE b sz p1) o).2.2 ++ [sgn b sz lvl p1]).length = len + acc.length + (pE b sz n (lvl + 1) (tE b sz p1) o).2.2.length + 1 := by
                rw [List.length_append, List.length_append]
                show len + (acc.length + _ + 1) = _
                omega
              refine ih (i + 1) _ (acc ++ (pE b sz n (lvl + 1) (tE b sz p1) o).2.2 ++ [sgn b sz lvl p1]) N4 (by omega) (((f1.tr f2.toL).tr f3).tr f4) (by rw [el]; exact S4) ((c1.app (c3.pre fun j => f2 _ _ _ (by omega))).app ?_) (by rw [el]; omega) C
              rw [List.length_append, ← Nat.add_assoc]
              exact c4
            · have e' : ¬ (pE b sz n (lvl + 1) (tE b sz p1) o).1 = true := by rw [d]; decide
              rw [if_neg e'] at C
              dsimp only
              rw [wlitI (by decide) (by decide)]
              exact ⟨fun _ => fail N3 _ ((f1.tr f2.toL).tr f3) z (C.2 d), fun x => absurd rfl x⟩
      exact loop 160 0 r.2.1 r.2.2 N1 rfl f1 S1 c1 (by omega) C
    · have e' : ¬ (pE b sz n (lvl + 1) p o).1 = true := by rw [e]; decide
      rw [if_neg e'] at C
      dsimp only
      rw [wlitI (by decide) (by decide)]
      refine ⟨fun _ => vc_X1_readChain_49 ht ?_, fun x => absurd rfl x⟩
      rw [wlitI (k := -1) (by decide) (by decide)]
      exact ⟨fun _ => ⟨.inl rfl, C.2 e N1 f1 z⟩, fun _ => ⟨fun _ => ⟨.inl rfl, C.2 e N1 f1 z⟩, fun x => absurd rfl x⟩⟩
  · have e5 : lvl = 5 := by omega
    subst e5
    refine ⟨L - 1, by unfold LCh LOn at hL; rw [if_neg (by decide)] at hL; omega, hO p o len (L - 1) N _ ho hn (by unfold LCh at hL; rw [if_neg (by decide)] at hL; omega) S hlen ⟨fun e N' f S' c => ⟨.inr rfl, C.1 e N' f S' c⟩, fun e N' f z => ⟨.inl rfl, C.2 e N' f z⟩⟩⟩
  · have e2 : lvl = 2 := by omega
    subst e2
    refine ⟨L - 1, by unfold LCh LOn at hL; rw [if_pos (by decide)] at hL; omega, hM p o len (L - 1) N _ ho hn (by unfold LCh at hL; rw [if_pos (by decide)] at hL; omega) S hlen ⟨fun e N' f S' c => ⟨.inr rfl, C.1 e N' f S' c⟩, fun e N' f z => ⟨.inl rfl, C.2 e N' f z⟩⟩⟩
theorem c_parse (ht : t < 6) : ∀ n, ONE G b sz t n ∧ CMP G b sz t n ∧ CHN G b sz t n
  | 0 => ⟨fun p o len L N K _ h => by unfold ned at h; omega, fun p o len L N K _ h => by unfold ned at h; omega, fun lvl p o len L N K _ _ h => by unfold ned at h; omega⟩
  | n + 1 => by
    obtain ⟨h1, h2, h3⟩ := c_parse ht n
    have a := one_S ht h1 h3
    have m := cmp_S ht h2 h3
    exact ⟨a, m, chn_S ht a m h3⟩
end CP
