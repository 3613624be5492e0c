/-! words and signs of both readers -/
theorem wI_i32 (y : Int32) : wI y.toInt = y.toInt := by rw [← oI_toInt, Int32.ofInt_toInt]
theorem wI_strAt (q j : Nat) : wI (strAt q j) = strAt q j := wI_i32 _
theorem strLen_ok : ∀ q, q < 11 → strLenN q ≤ 40 := by decide
def sgc (q s n : Nat) : Int := wv (strAt q) s n
def ltr (q s n : Nat) : Bool := (List.range n).all (fun j => isLt (strAt q (s + j)))
theorem ltr_at {q s n : Nat} (h : ltr q s n = true) : ∀ j, j < n → isLt (strAt q (s + j)) = true := by
  intro j hj
  unfold ltr at h
  exact List.all_eq_true.mp h j (List.mem_range.mpr hj)
def wlF (q : Nat) (v : Int) : Nat → Nat → Nat → Nat → Int
  | 0, _, _, _ => -1
  | f + 1, w, fr, i => if strLenN q < i then -1 else if i = strLenN q ∨ strAt q i = 32 then (if sgc q fr (i - fr) = v then (w : Int) else wlF q v f (w + 1) (i + 1) (i + 1)) else wlF q v f w fr (i + 1)
def okW (q : Nat) : Nat → Nat → Nat → Bool
  | 0, _, _ => true
  | f + 1, fr, i => if strLenN q < i then true else if i = strLenN q ∨ strAt q i = 32 then (decide (fr ≤ i ∧ i - fr ≤ 7) && (ltr q fr (i - fr) && okW q f (i + 1) (i + 1))) else okW q f fr (i + 1)
section CW
variable {G : GT} {b : Nat → Int} {sz p : Nat} {N : NN}
theorem word_lt (h : tT b sz p = 1) : ∀ j, j < tE b sz p - tS b sz p → isLt (b (tS b sz p + j)) = true := by
  obtain ⟨l, g⟩ := tT_1.mp h
  intro j hj
  have e : tE b sz p = run b sz isLt (tS b sz p) := by
    unfold tE
    rw [if_neg (by omega), if_pos g]
  rw [e] at hj
  exact run_in (sz := sz) (p := tS b sz p) (by omega) (by omega)
theorem word_V (h : tT b sz p = 1) : tV b sz p = wv b (tS b sz p) (tE b sz p - tS b sz p) := by
  unfold tV
  rw [if_pos (tT_1.mp h).2]
theorem word_rng (h : tT b sz p = 1) : -1 ≤ tV b sz p ∧ tV b sz p ≤ 10460353203 := by
  rw [word_V h]
  have := wv_rng _ (word_lt h)
  omega
theorem s_isSame {K : Int → NN → Prop} {q fr to : Nat} (hq : q < 11) (h : TC b sz p N) (h1 : tT b sz p = 1) (h2 : fr ≤ to) (h3 : to ≤ strLenN q) (h4 : to - fr ≤ 7) (h5 : ltr q fr (to - fr) = true) (k : K (bI (sgc q fr (to - fr) = tV b sz p)) N) : C_X8_isSame G q (fr : Int) (to : Int) N K := by
  obtain ⟨tp, hp, m2, m5, m4, -⟩ := h
  have z := tp.2.1
  have l1 := (tT_1.mp h1).1
  have l2 := tE_le (b := b) hp
  have l3 := tE_gt (b := b) (sz := sz) (p := p) (by omega)
  have sl := strLen_ok q hq
  have wl := word_lt h1
  have wV := word_V h1
  generalize hn : tE b sz p - tS b sz p = n at wl wV
  refine vc_X8_isSame hq ?_
  rw [m2, m4, wI_id (x := (to : Int) - (fr : Int)) (by omega) (by omega), wI_id (x := (tE b sz p : Int) - (tS b sz p : Int)) (by omega) (by omega)]
  refine ⟨fun e => ?_, fun e => ?_⟩
  · have en : to - fr = n := by omega
    rw [en] at h4 h5 k
    have lt := ltr_at h5
    have key : ∀ (d i : Nat), i + d = to → fr ≤ i → (∀ j, fr + j < i → strAt q (fr + j) = b (tS b sz p + j)) → W_X8_isSame G K 20 [(0, vR 8 0), (1, vR 200 q), (2, vI fr), (3, vI to), (4, vI (i : Int))] [] N := by
      intro d
      induction d with
      | zero =>
        intro i hi hf I
        refine vc_X8_isSame_20 hq ?_
        rw [wI_id (x := (to : Int)) (by omega) (by omega), wI_id (x := (i : Int)) (by omega) (by omega)]
        refine ⟨fun _ => ?_, fun x => absurd (by omega) x⟩
        have e2 : sgc q fr n = tV b sz p := by
          rw [wV]
          exact wv_congr n fun j hj => I j (by omega)
        rwa [bI_t e2] at k
      | succ d ih =>
        intro i hi hf I
        refine vc_X8_isSame_20 hq ?_
        rw [wI_id (x := (to : Int)) (by omega) (by omega), wI_id (x := (i : Int)) (by omega) (by omega)]
        refine ⟨fun x => by omega, fun _ => ⟨i, rfl, by omega, ?_⟩⟩
        rw [m2, show (tS b sz p : Int) + (i : Int) - (fr : Int) = ((tS b sz p + (i - fr) : Nat) : Int) by omega]
        refine s_at tp (by omega) ?_
        have hb := tp.2.2 (tS b sz p + (i - fr)) (by omega)
        rw [if_pos (by omega), wI_strAt, wI_id (x := b (tS b sz p + (i - fr))) (by omega) (by omega)]
        refine ⟨fun x => ih (i + 1) (by omega) (by omega) (fun j hj => ?_), fun x => ?_⟩
        · by_cases ej : fr + j = i
          · rw [ej, x, show i - fr = j by omega]
          · exact I j (by omega)
        · have ne : ¬ sgc q fr n = tV b sz p := by
            intro c
            rw [wV] at c
            have := (wv_inj n n wl lt (by omega) c.symm).2 (i - fr) (by omega)
            rw [show fr + (i - fr) = i by omega] at this
            exact x this.symm
          rwa [bI_f ne] at k
    exact key (to - fr) fr (by omega) (Nat.le_refl _) (fun j hj => by omega)
  · have ne : ¬ sgc q fr (to - fr) = tV b sz p := by
      intro c
      rw [wV] at c
      have := (wv_inj n (to - fr) wl (ltr_at h5) h4 c.symm).1
      omega
    rwa [bI_f ne] at k
theorem s_which {K : Int → NN → Prop} {q : Nat} (hq : q < 11) (h : TC b sz p N) (ok : okW q 42 0 0 = true) (k : K (if tT b sz p = 1 then wlF q (tV b sz p) 42 0 0 0 else -1) N) : C_X8_which G q N K := by
  refine vc_X8_which hq ?_
  have sl := strLen_ok q hq
  have r := tT_rng (b := b) (sz := sz) (p := p)
  rw [h.2.2.2.1, wI_id (x := tT b sz p) (by omega) (by omega)]
  refine ⟨fun t1 => ?_, fun t1 => ?_⟩
  · rw [if_pos t1] at k
    have key : ∀ (f w fr i : Nat), f + i = 42 → w ≤ i → okW q f fr i = true → K (wlF q (tV b sz p) f w fr i) N → W_X8_which G K 17 [(0, vR 8 0), (1, vR 200 q), (2, vI (w : Int)), (3, vI (fr : Int)), (4, vI (i : Int))] [] N := by
      intro f
      induction f with
      | zero =>
        intro w fr i hf hw ho hk
        refine vc_X8_which_17 hq ?_
        rw [wI_id (x := (i : Int)) (by omega) (by omega)]
        unfold strLen
        rw [wI_id (x := (strLenN q : Int)) (by omega) (by omega)]
        exact ⟨fun _ => hk, fun x => by omega⟩
      | succ f ih =>
        intro w fr i hf hw ho hk
        refine vc_X8_which_17 hq ?_
        rw [wI_id (x := (i : Int)) (by omega) (by omega)]
        unfold strLen
        rw [wI_id (x := (strLenN q : Int)) (by omega) (by omega)]
        unfold wlF at hk
        unfold okW at ho
        refine ⟨fun x => ?_, fun x => ?_⟩
        · rwa [if_pos (by omega)] at hk
        · rw [if_neg (show ¬ strLenN q < i by omega)] at hk ho
          have seg : (i = strLenN q ∨ strAt q i = 32) → C_X8_isSame G q (fr : Int) (i : Int) N (fun x1 N1 => ((wI x1 = 0 → W_X8_which G K 17 [(0, vR 8 0), (1, vR 200 q), (2, vI ((w : Int) + 1)), (3, vI ((i : Int) + 1)), (4, vI ((i : Int) + 1))] [] N1) ∧ (¬ (wI x1 = 0) → K (w : Int) N1))) := by
            intro c
            rw [if_pos c] at hk ho
            obtain ⟨o1, o2⟩ := Bool.and_eq_true_iff.mp ho
            obtain ⟨o3, o4⟩ := Bool.and_eq_true_iff.mp o2
            have o1 := of_decide_eq_true o1
            refine s_isSame hq h t1 o1.1 (by omega) o1.2 o3 ?_
            by_cases g : sgc q fr (i - fr) = tV b sz p
            · rw [if_pos g] at hk
              rw [bI_t g, wlitI (by decide) (by decide)]
              exact ⟨fun y => absurd y (by decide), fun _ => hk⟩
            · rw [if_neg g] at hk
              rw [bI_f g, wlitI (by decide) (by decide)]
              exact ⟨fun _ => ih (w + 1) (i + 1) (i + 1) (by omega) (by omega) o4 hk, fun y => absurd rfl y⟩
          refine ⟨fun y => seg (.inl (by omega)), fun y => ⟨i, rfl, by omega, ?_⟩⟩
          rw [wI_strAt]
          refine ⟨fun y2 => ?_, fun y2 => seg (.inr ?_)⟩
          · have no : ¬ (i = strLenN q ∨ strAt q i = 32) := fun c => c.elim (fun c => y (by omega)) y2
            rw [if_neg no] at hk ho
            exact ih w fr (i + 1) (by omega) (by omega) ho hk
          · by_cases c : strAt q i = 32
            · exact c
            · exact absurd c y2
    exact key 42 0 0 0 rfl (Nat.le_refl _) ok k
  · rwa [if_neg t1] at k
theorem okW_all : ∀ q, q < 11 → 1 ≤ q → okW q 42 0 0 = true := by decide +kernel
set_option maxRecDepth 20000 in
theorem wl1 (v : Int) : wlF 1 v 42 0 0 0 = if 119082 = v then 0 else if 237470 = v then 1 else if 2690359 = v then 2 else -1 := rfl
set_option maxRecDepth 20000 in
theorem wl2 (v : Int) : wlF 2 v 42 0 0 0 = if 10631 = v then 0 else -1 := rfl
set_option maxRecDepth 20000 in
theorem wl3 (v : Int) : wlF 3 v 42 0 0 0 = if 423 = v then 0 else -1 := rfl
set_option maxRecDepth 20000 in
theorem wl4 (v : Int) : wlF 4 v 42 0 0 0 = if 1111 = v then 0 else -1 := rfl
set_option maxRecDepth 20000 in
theorem wl5 (v : Int) : wlF 5 v 42 0 0 0 = if 7214732 = v then 0 else if 355568 = v then 1 else if 240023 = v then 2 else if 312151 = v then 3 else if 795597152 = v then 4 else if 223456 = v then 5 else -1 := rfl
set_option maxRecDepth 20000 in
theorem wl6 (v : Int) : wlF 6 v 42 0 0 0 = if 358472 = v then 0 else -1 := rfl
set_option maxRecDepth 20000 in
theorem wl7 (v : Int) : wlF 7 v 42 0 0 0 = if 4514 = v then 0 else if 11716 = v then 1 else if 11570 = v then 2 else if 316163 = v then 3 else if 220309 = v then 4 else -1 := rfl
set_option maxRecDepth 20000 in
theorem wl8 (v : Int) : wlF 8 v 42 0 0 0 = if 1 = v then 0 else if 2 = v then 1 else if 3 = v then 2 else if 4 = v then 3 else if 5 = v then 4 else -1 := rfl
set_option maxRecDepth 20000 in
theorem wl9 (v : Int) : wlF 9 v 42 0 0 0 = if 249 = v then 0 else -1 := rfl
set_option maxRecDepth 20000 in
theorem wl10 (v : Int) : wlF 10 v 42 0 0 0 = if 7214732 = v then 0 else if 237470 = v then 1 else if 247664 = v then 2 else if 1905759 = v then 3 else if 407041 = v then 4 else -1 := rfl
/-- a sign, or nothing of it -/
theorem s_isEnd {K : Int → NN → Prop} (h : TC b sz p N) (k : K (bI (tT b sz p = 0)) N) : C_X8_isEnd G N K := by
  have r := tT_rng (b := b) (sz := sz) (p := p)
  refine vc_X8_isEnd ?_
  rw [h.2.2.2.1, wI_id (x := tT b sz p) (by omega) (by omega)]
  refine ⟨fun q => ?_, fun q => ?_⟩
  · rwa [bI_f q] at k
  · rwa [bI_t (by omega)] at k
theorem s_isNumber {K : Int → NN → Prop} (h : TC b sz p N) (k : K (bI (tT b sz p = 2)) N) : C_X8_isNumber G N K := by
  have r := tT_rng (b := b) (sz := sz) (p := p)
  refine vc_X8_isNumber ?_
  rw [h.2.2.2.1, wI_id (x := tT b sz p) (by omega) (by omega)]
  refine ⟨fun q => ?_, fun q => ?_⟩
  · rwa [bI_f q] at k
  · rwa [bI_t (by omega)] at k
theorem s_isSign {K : Int → NN → Prop} {c : Int} (hc : 0 ≤ c ∧ c ≤ 255) (h : TC b sz p N) (k : K (bI (tT b sz p = 3 ∧ tV b sz p = c)) N) : C_X8_isSign G c N K := by
  have r := tT_rng (b := b) (sz := sz) (p := p)
  have z := h.1.2.1
  refine vc_X8_isSign ?_
  rw [h.2.2.2.1, h.2.2.1, wI_id (x := tT b sz p) (by omega) (by omega), wI_id (x := c) (by omega) (by omega)]
  refine ⟨fun q => ?_, fun q => ?_⟩
  · rwa [bI_f (fun e => q e.1)] at k
  · have t3 : tT b sz p = 3 := by omega
    have l := (tT_3 t3).1
    refine s_at h.1 (by omega) ?_
    have hb := h.1.2.2 _ l
    rw [tV_3 t3] at k
    rw [if_pos l, wI_id (x := b (tS b sz p)) (by omega) (by omega)]
    refine ⟨fun q2 => ?_, fun q2 => ?_⟩
    · rwa [bI_f (fun e => q2 e.2)] at k
    · rwa [bI_t ⟨t3, by omega⟩] at k
/-- on to the next token -/
theorem s_on {K : NN → Prop} (h : TC b sz p N) (k : ∀ N', FrT N N' → TC b sz (tE b sz p) N' → K N') : C_X8_next G N K := s_next h.1 (tE_le h.2.1) h.2.2.2.2.1 k
theorem s_takesSign {K : Int → NN → Prop} {c : Int} (hc : 0 ≤ c ∧ c ≤ 255) (h : TC b sz p N) (k1 : tT b sz p = 3 ∧ tV b sz p = c → ∀ N', FrT N N' → TC b sz (tE b sz p) N' → K 1 N') (k0 : ¬ (tT b sz p = 3 ∧ tV b sz p = c) → K 0 N) : C_X8_takesSign G c N K := by
  refine vc_X8_takesSign (s_isSign hc h ?_)
  by_cases g : tT b sz p = 3 ∧ tV b sz p = c
  · rw [bI_t g, wlitI (by decide) (by decide)]
    exact ⟨fun q => absurd q (by decide), fun _ => s_on h fun N' f t => ⟨.inr rfl, k1 g N' f t⟩⟩
  · rw [bI_f g, wlitI (by decide) (by decide)]
    exact ⟨fun _ => ⟨.inl rfl, k0 g⟩, fun q => absurd rfl q⟩
theorem s_takesWord {K : Int → NN → Prop} {q : Nat} {w : Int} (hq : q < 11) (hq1 : 1 ≤ q) (hw : ∀ v, wlF q v 42 0 0 0 = if w = v then 0 else -1) (h : TC b sz p N) (k1 : tT b sz p = 1 ∧ tV b sz p = w → ∀ N', FrT N N' → TC b sz (tE b sz p) N' → K 1 N') (k0 : ¬ (tT b sz p = 1 ∧ tV b sz p = w) → K 0 N) : C_X8_takesWord G q N K := by
  refine vc_X8_takesWord hq (s_which hq h (okW_all q hq hq1) ?_)
  by_cases g : tT b sz p = 1 ∧ tV b sz p = w
  · rw [if_pos g.1, hw, if_pos g.2.symm, wlitI (by decide) (by decide)]
    exact ⟨fun x => absurd rfl x, fun _ => s_on h fun N' f t => k1 g N' f t⟩
  · have e : (if tT b sz p = 1 then wlF q (tV b sz p) 42 0 0 0 else -1) = -1 := by
      by_cases t1 : tT b sz p = 1
      · rw [if_pos t1, hw, if_neg (fun e => g ⟨t1, e.symm⟩)]
      · rw [if_neg t1]
    rw [e, wlitI (by decide) (by decide)]
    exact ⟨fun _ => k0 g, fun x => absurd (by decide) x⟩
end CW
/-! the reference's -/
/-- what a reading may change -/
def FrP (N N' : NN) : Prop := ∀ c i k, ¬ (c = 10 ∧ i = 0 ∧ 32 ≤ k ∧ k ≤ 38) → N' c i k = N c i k
theorem FrP.rf {N : NN} : FrP N N := fun _ _ _ _ => rfl
theorem FrP.tr {N N' N'' : NN} (h1 : FrP N N') (h2 : FrP N' N'') : FrP N N'' := fun c i k h => (h2 c i k h).trans (h1 c i k h)
theorem FrU.toP {N N' : NN} (h : FrU N N') : FrP N N' := fun c i k a => h c i k (by omega)
section MW
variable {G : GT} {b : Nat → Int} {sz fr p : Nat} {N : NN}
theorem tV_rng (h : TPm b sz fr N) (t : tT b sz p ≠ 0) (t4 : tT b sz p ≠ 4) : -1 ≤ tV b sz p ∧ tV b sz p ≤ 10460353203 := by
  have l := tS_lt t
  have hb := h.2.2.2.2 _ l
  by_cases g : isLt (b (tS b sz p)) = true
  · exact word_rng (tT_1.mpr ⟨l, g⟩)
  · by_cases gd : isDg (b (tS b sz p)) = true
    · have key : ∀ n, (∀ j, j < n → isDg (b (tS b sz p + j)) = true) → 0 ≤ nv b (tS b sz p) n ∧ nv b (tS b sz p) n ≤ 9999 ∧ (n = 0 → nv b (tS b sz p) n ≤ 0) ∧ (n = 1 → nv b (tS b sz p) n ≤ 9) ∧ (n = 2 → nv b (tS b sz p) n ≤ 99) ∧ (n = 3 → nv b (tS b sz p) n ≤ 999) := by
        intro n
        induction n with
        | zero =>
          intro _
          have : nv b (tS b sz p) 0 = 0 := rfl
          omega
        | succ n ih =>
          intro hn
          have i := ih (fun j hj => hn j (by omega))
          have d := isDg_iff.mp (hn n (by omega))
          have e : nv b (tS b sz p) (n + 1) = if n < 4 then 10 * nv b (tS b sz p) n + b (tS b sz p + n) - 48 else nv b (tS b sz p) n := rfl
          rw [e]
          split <;> omega
      have eE : tE b sz p = run b sz isDg (tS b sz p) := by
        unfold tE
        rw [if_neg (show ¬ sz ≤ tS b sz p by omega), if_neg g, if_pos gd]
      have := key (tE b sz p - tS b sz p) (fun j hj => by
        rw [eE] at hj
        exact run_in (sz := sz) (p := tS b sz p) (by omega) (by omega))
      have eV : tV b sz p = nv b (tS b sz p) (tE b sz p - tS b sz p) := by
        unfold tV
        rw [if_neg g, if_pos gd]
      omega
    · have eV : tV b sz p = b (tS b sz p) := by
        unfold tV
        rw [if_neg g, if_neg gd]
      omega
theorem s_isWord {K : Int → NN → Prop} {w : Int} (hw : 0 ≤ w ∧ w ≤ 1000000000) (h : TM b sz fr p N) (hb : N 10 0 37 = 0) (k : K (bI (tT b sz p = 1 ∧ tV b sz p = w)) N) : C_X10_isWord G w N K := by
  obtain ⟨tp, hp, m33, m32, m35, m34⟩ := h
  have r := tT_rng (b := b) (sz := sz) (p := p)
  refine vc_X10_isWord ?_
  rw [hb, m32, wlitI (by decide) (by decide), wI_id (x := tT b sz p) (by omega) (by omega), wL_id (x := w) (by omega) (by omega)]
  refine ⟨fun q => absurd rfl q, fun _ => ⟨fun q => ?_, fun q => ?_⟩⟩
  · rwa [bI_f (fun e => q e.1)] at k
  · have t1 : tT b sz p = 1 := by omega
    have vr := word_rng t1
    rw [m34 (by omega) (by omega), wL_id (x := tV b sz p) (by omega) (by omega)]
    refine ⟨fun q2 => ?_, fun q2 => ?_⟩
    · rwa [bI_f (fun e => q2 e.2)] at k
    · rwa [bI_t ⟨t1, by omega⟩] at k
theorem s_isWordB {K : Int → NN → Prop} {w : Int} (hb : N 10 0 37 = 1) (k : K 0 N) : C_X10_isWord G w N K := by
  refine vc_X10_isWord ?_
  rw [hb, wlitI (by decide) (by decide)]
  exact ⟨fun _ => k, fun q => absurd (by decide) q⟩
theorem s_mIsSign {K : Int → NN → Prop} {w : Int} (hw : 0 ≤ w ∧ w ≤ 255) (h : TM b sz fr p N) (hb : N 10 0 37 = 0) (k : K (bI (tT b sz p = 3 ∧ tV b sz p = w)) N) : C_X10_isSign G w N K := by
  obtain ⟨tp, hp, m33, m32, m35, m34⟩ := h
  have r := tT_rng (b := b) (sz := sz) (p := p)
  refine vc_X10_isSign ?_
  rw [hb, m32, wlitI (by decide) (by decide), wI_id (x := tT b sz p) (by omega) (by omega), wI_id (x := w) (by omega) (by omega), wL_id (x := w) (by omega) (by omega)]
  refine ⟨fun q => absurd rfl q, fun _ => ⟨fun q => ?_, fun q => ?_⟩⟩
  · rwa [bI_f (fun e => q e.1)] at k
  · have t3 : tT b sz p = 3 := by omega
    have vr := tV_rng tp (p := p) (by omega) (by omega)
    rw [m34 (by omega) (by omega), wL_id (x := tV b sz p) (by omega) (by omega)]
    refine ⟨fun q2 => ?_, fun q2 => ?_⟩
    · rwa [bI_f (fun e => q2 e.2)] at k
    · rwa [bI_t ⟨t3, by omega⟩] at k
theorem s_mIsSignB {K : Int → NN → Prop} {w : Int} (hb : N 10 0 37 = 1) (k : K 0 N) : C_X10_isSign G w N K := by
  refine vc_X10_isSign ?_
  rw [hb, wlitI (by decide) (by decide)]
  exact ⟨fun _ => k, fun q => absurd (by decide) q⟩
/-- the reading has failed at q -/
def BAD (q : Nat) (N : NN) : Prop := N 10 0 37 = 1 ∧ N 10 0 38 = (q : Int)
theorem s_fail {K : NN → Prop} (h : TM b sz fr p N) (hb : N 10 0 37 = 0) (k : ∀ N', FrP N N' → BAD (tS b sz p) N' → N' 10 0 36 = N 10 0 36 → K N') : C_X10_fail G N K := by
  refine vc_X10_fail ?_
  rw [hb, wlitI (by decide) (by decide)]
  refine ⟨fun q => absurd rfl q, fun _ M1 e1 M2 e2 => k M2 (fun c i k' a => ?_) ⟨?_, ?_⟩ ?_⟩
  · rw [e2, up3_o' (by omega), e1, up3_o' (by omega)]
  · rw [e2, up3_o' (by omega), e1, up3_s]
  · rw [e2, up3_s, e1, up3_o' (by omega), h.2.2.1]
  · rw [e2, up3_o' (by omega), e1, up3_o' (by omega)]
theorem s_failB {K : NN → Prop} (hb : N 10 0 37 = 1) (k : K N) : C_X10_fail G N K := by
  refine vc_X10_fail ?_
  rw [hb, wlitI (by decide) (by decide)]
  exact ⟨fun _ => k, fun q => absurd (by decide) q⟩
theorem s_mOn {K : NN → Prop} (h : TM b sz fr p N) (h4 : tT b sz p ≠ 4) (k : ∀ N', FrU N N' → TM b sz fr (tE b sz p) N' → K N') : C_X10_next G N K := s_mNext h.1 (tE_le h.2.1) (h.2.2.2.2.1 h4) k
end MW
