/-! a text of three parts; the class reads it and reckons with it -/
def kW (i : Nat) : Int := if i = 0 then 119082 else if i = 1 then 237470 else 2690359
def pL (b : Nat → Int) (sz : Nat) (w : Int) (p : Nat) : RES :=
  if isW b sz p w then
    (if (pE b sz 40 0 (tE b sz p) 0).1 = true then (if isS b sz (pE b sz 40 0 (tE b sz p) 0).2.1 59 then (true, tE b sz (pE b sz 40 0 (tE b sz p) 0).2.1, (pE b sz 40 0 (tE b sz p) 0).2.2) else (false, tS b sz (pE b sz 40 0 (tE b sz p) 0).2.1, [])) else pE b sz 40 0 (tE b sz p) 0)
  else (false, tS b sz p, [])
def lw0 (b : Nat → Int) (sz : Nat) : RES := pL b sz (kW 0) 0
def lw1 (b : Nat → Int) (sz : Nat) : RES := pL b sz (kW 1) (lw0 b sz).2.1
def lw2 (b : Nat → Int) (sz : Nat) : RES := pL b sz (kW 2) (lw1 b sz).2.1
def lawR (b : Nat → Int) (sz : Nat) : Bool × Nat :=
  if (lw0 b sz).1 = true then (if (lw1 b sz).1 = true then (if (lw2 b sz).1 = true then (if tT b sz (lw2 b sz).2.1 = 0 then (true, 0) else (false, tS b sz (lw2 b sz).2.1)) else (false, (lw2 b sz).2.1)) else (false, (lw1 b sz).2.1)) else (false, (lw0 b sz).2.1)
def FrR (t : Nat) (N N' : NN) : Prop := ∀ c i k, ¬ (c = 8 ∧ i = 0 ∧ 2 ≤ k ∧ k ≤ 5) → ¬ (c = 1 ∧ i = t ∧ (k = 3 ∨ k = 4)) → ¬ ((c = 29 ∨ c = 30) ∧ i = t) → N' c i k = N c i k
theorem FrR.tr {t : Nat} {N N' N'' : NN} (h1 : FrR t N N') (h2 : FrR t N' N'') : FrR t N N'' := fun c i k a b d => (h2 c i k a b d).trans (h1 c i k a b d)
theorem FrL.toR {t : Nat} {N N' : NN} (h : FrL t N N') : FrR t N N' := fun c i k a b d => h c i k a b (by omega)
section RD
variable {G : GT} {b : Nat → Int} {sz t : Nat}
theorem Good_L {w : Int} {p : Nat} (hp : p ≤ sz) : Good b sz (Dp 0 0) p (pL b sz w p) := by
  unfold pL
  by_cases a : isW b sz p w
  · rw [if_pos a]
    have nx := tS_nx (t1_0 a)
    have g := Good_E (b := b) (sz := sz) 40 0 (tE b sz p) 0 (by decide) (by decide) (tE_le hp)
    by_cases c : (pE b sz 40 0 (tE b sz p) 0).1 = true
    · rw [if_pos c]
      obtain ⟨g1, g2, g3, g4, g5⟩ := g c
      generalize pE b sz 40 0 (tE b sz p) 0 = r at *
      by_cases s : isS b sz r.2.1 59
      · rw [if_pos s]
        have n2 := tS_nx (t3_0 s)
        refine fun _ => ⟨tE_le g1, ?_, by show _ < tS b sz (tE b sz r.2.1); omega, g4, g5⟩
        show _ + r.2.2.length ≤ tS b sz (tE b sz r.2.1)
        omega
      · rw [if_neg s]
        intro e; cases e
    · rw [if_neg c]
      exact fun e => absurd e c
  · rw [if_neg a]
    intro e; cases e
theorem part_step {K : Int → NN → Prop} {N : NN} {p i len : Nat} (ht : t < 6) (hi : i < 3) (S : LST b sz p t 0 len N) (hl : len ≤ tS b sz p)
    (k1 : (pL b sz (kW i) p).1 = true → ∀ N', FrR t N N' → LST b sz (pL b sz (kW i) p).2.1 t 0 (len + (pL b sz (kW i) p).2.2.length) N' → CDX t len (pL b sz (kW i) p).2.2 N N' → (∀ j, N' 30 t j = if j = i then (len : Int) else N 30 t j) → W_X1_read G K 16 [(0, vR 1 t), (1, vR 8 0), (2, vI ((i : Int) + 1))] [] N')
    (k0 : (pL b sz (kW i) p).1 = false → ∀ N', FrR t N N' → K ((pL b sz (kW i) p).2.1 : Int) N') : W_X1_read G K 16 [(0, vR 1 t), (1, vR 8 0), (2, vI (i : Int))] [] N := by
  have sz2 := LST_sz S
  refine vc_X1_read_16 ht ?_
  rw [wI_id (x := (i : Int)) (by omega) (by omega)]
  refine ⟨fun q => by omega, fun _ => ⟨i, rfl, by omega, fun M4 e4 => ?_⟩⟩
  rw [S.2.1] at e4
  have f4 : ∀ c j k, ¬ (c = 30 ∧ j = t ∧ k = i) → M4 c j k = N c j k := fun c j k a => by rw [e4, up3_o' (by omega)]
  have F4 : FrR t N M4 := fun c j k _ _ d => f4 c j k (by omega)
  have S4 : LST b sz p t 0 len M4 := ⟨⟨⟨by rw [f4 _ _ _ (by omega)]; exact S.1.1.1, S.1.1.2.1, fun j hj => by rw [f4 _ _ _ (by omega)]; exact S.1.1.2.2 j hj⟩, S.1.2.1, by rw [f4 _ _ _ (by omega)]; exact S.1.2.2.1, by rw [f4 _ _ _ (by omega)]; exact S.1.2.2.2.1, by rw [f4 _ _ _ (by omega)]; exact S.1.2.2.2.2.1, fun q => by rw [f4 _ _ _ (by omega)]; exact S.1.2.2.2.2.2 q⟩, by rw [f4 _ _ _ (by omega)]; exact S.2.1, by rw [f4 _ _ _ (by omega)]; exact S.2.2⟩
  refine s_which (by decide) S4.1 (okW_all 1 (by decide) (by decide)) ?_
  unfold pL at k1 k0
  by_cases w : isW b sz p (kW i)
  · rw [if_pos w] at k1 k0
    have ew : (if tT b sz p = 1 then wlF 1 (tV b sz p) 42 0 0 0 else -1) = (i : Int) := by
      rw [if_pos w.1, wl1, w.2]
      rcases (by omega : i = 0 ∨ i = 1 ∨ i = 2) with rfl | rfl | rfl <;> rfl
    rw [ew, wI_id (x := (i : Int)) (by omega) (by omega)]
    have nx := tS_nx (t1_0 w)
    refine ⟨fun _ => s_on S4.1 fun N5 f5 T5 => ⟨61, by decide, ?_⟩, fun x => absurd rfl x⟩
    refine (c_parse (G := G) (b := b) (sz := sz) ht 40).2.2 0 (tE b sz p) 0 len 61 N5 _ (by decide) (by decide) (by decide) (by decide) (S4.on f5 T5) (by omega) ⟨fun e N6 f6 S6 c6 => ?_, fun e N6 f6 z => ?_⟩
    · rw [if_pos e] at k1 k0
      rw [wlitI (by decide) (by decide)]
      refine ⟨fun x => absurd x (by decide), fun _ => s_takesSign (by decide) S6.1 (fun s N7 f7 T7 => ?_) (fun s => ?_)⟩
      · rw [if_pos s] at k1
        rw [wlitI (by decide) (by decide)]
        refine ⟨fun _ => k1 rfl N7 ((F4.tr f5.toL.toR).tr (f6.tr f7.toL).toR) (S6.on f7 T7) ((c6.pre fun j => by rw [f5 _ _ _ (by omega), f4 _ _ _ (by omega)]).post fun j => f7 _ _ _ (by omega)) (fun j => ?_), fun x => absurd (by decide) x⟩
        rw [f7 _ _ _ (by omega), f6 _ _ _ (by omega) (by omega) (by omega), f5 _ _ _ (by omega), e4]
        unfold up3
        by_cases a : j = i
        · rw [if_pos ⟨rfl, a, rfl⟩, if_pos a]
        · rw [if_neg (by omega), if_neg a]
      · rw [if_neg s] at k0
        rw [wlitI (by decide) (by decide)]
        refine ⟨fun x => absurd rfl x, fun _ => ?_⟩
        rw [S6.1.2.2.1]
        exact k0 rfl N6 ((F4.tr f5.toL.toR).tr f6.toR)
    · have e' : ¬ (pE b sz 40 0 (tE b sz p) 0).1 = true := by rw [e]; decide
      rw [if_neg e'] at k0
      dsimp only
      rw [wlitI (by decide) (by decide)]
      refine ⟨fun _ => ?_, fun x => absurd rfl x⟩
      rw [z]
      exact k0 e N6 ((F4.tr f5.toL.toR).tr f6.toR)
  · rw [if_neg w] at k0
    have ew : ¬ (if tT b sz p = 1 then wlF 1 (tV b sz p) 42 0 0 0 else -1) = (i : Int) := by
      by_cases t1 : tT b sz p = 1
      · rw [if_pos t1, wl1]
        have nw : ¬ tV b sz p = kW i := fun e => w ⟨t1, e⟩
        unfold kW at nw
        rcases (by omega : i = 0 ∨ i = 1 ∨ i = 2) with rfl | rfl | rfl
        · rw [if_neg (fun e => nw (by rw [← e]; rfl))]
          split
          · decide
          · split <;> decide
        · split
          · decide
          · rw [if_neg (fun e => nw (by rw [← e]; rfl))]
            split <;> decide
        · split
          · decide
          · split
            · decide
            · rw [if_neg (fun e => nw (by rw [← e]; rfl))]
              decide
      · rw [if_neg t1]
        omega
    have er : -1 ≤ (if tT b sz p = 1 then wlF 1 (tV b sz p) 42 0 0 0 else -1) ∧ (if tT b sz p = 1 then wlF 1 (tV b sz p) 42 0 0 0 else -1) ≤ 2 := by
      rw [wl1]
      repeat' split
      all_goals omega
    generalize (if tT b sz p = 1 then wlF 1 (tV b sz p) 42 0 0 0 else -1) = x at *
    rw [wI_id (x := x) (by omega) (by omega)]
    refine ⟨fun y => absurd y ew, fun _ => ?_⟩
    rw [S4.1.2.2.1]
    exact k0 rfl M4 F4
/-- what the class has of a text's three codes -/
def LawC (t : Nat) (c0 c1 c2 : List Int) (cd sts : Nat → Int) : Prop :=
  (∀ j, j < c0.length → cd j = c0.getD j 0) ∧ (∀ j, j < c1.length → cd (c0.length + j) = c1.getD j 0) ∧ (∀ j, j < c2.length → cd (c0.length + c1.length + j) = c2.getD j 0) ∧
  sts 0 = 0 ∧ sts 1 = (c0.length : Int) ∧ sts 2 = ((c0.length + c1.length : Nat) : Int) ∧ sts 3 = ((c0.length + c1.length + c2.length : Nat) : Int) ∧ c0.length + c1.length + c2.length ≤ 160
theorem s_lawRead {K : Int → NN → Prop} {N : NN} (ht : t < 6) (h : TP b sz N)
    (k1 : (lawR b sz).1 = true → ∀ N', FrR t N N' → LawC t (lw0 b sz).2.2 (lw1 b sz).2.2 (lw2 b sz).2.2 (N' 29 t) (N' 30 t) → K (-1) N') (k0 : (lawR b sz).1 = false → ∀ N', FrR t N N' → K ((lawR b sz).2 : Int) N') : C_X1_read G t N K := by
  have z := h.2.1
  refine vc_X1_read ht (fun M1 e1 M2 e2 => ?_)
  have f2 : ∀ c j k, ¬ (c = 1 ∧ j = t ∧ (k = 3 ∨ k = 4)) → M2 c j k = N c j k := fun c j k a => by rw [e2, up3_o' (by omega), e1, up3_o' (by omega)]
  have F2 : FrR t N M2 := fun c j k _ d _ => f2 c j k d
  refine vc_X8_begin (fun M3 e3 => ?_)
  have f3 : ∀ c j k, ¬ (c = 8 ∧ j = 0 ∧ k = 4) → M3 c j k = M2 c j k := fun c j k a => by rw [e3, up3_o' (by omega)]
  have F3 : FrR t M2 M3 := fun c j k a _ _ => f3 c j k (by omega)
  have T3 : TP b sz M3 := ⟨by rw [f3 _ _ _ (by omega), f2 _ _ _ (by omega)]; exact h.1, h.2.1, fun j hj => by rw [f3 _ _ _ (by omega), f2 _ _ _ (by omega)]; exact h.2.2 j hj⟩
  refine s_next T3 (Nat.zero_le _) (by rw [e3]; exact up3_s) (fun N0 f0 T0 => ?_)
  have S0 : LST b sz 0 t 0 0 N0 := by
    refine ⟨T0, ?_, ?_⟩
    · rw [f0 _ _ _ (by omega), f3 _ _ _ (by omega), e2, up3_o' (by omega), e1, up3_s]
      rfl
    · rw [f0 _ _ _ (by omega), f3 _ _ _ (by omega), e2, up3_s]
      rfl
  have F0 : FrR t N N0 := (F2.tr F3).tr f0.toL.toR
  unfold lawR at k1 k0
  refine part_step (i := 0) ht (by decide) S0 (Nat.zero_le _) (fun r0 N1 g1 S1 c1 w1 => ?_) (fun r0 N1 g1 => ?_)
  · have r0' : (lw0 b sz).1 = true := r0
    rw [if_pos r0'] at k1 k0
    have G0 := Good_L (b := b) (sz := sz) (w := kW 0) (p := 0) (Nat.zero_le _) r0
    have S1' : LST b sz (lw0 b sz).2.1 t 0 (0 + (lw0 b sz).2.2.length) N1 := S1
    refine part_step (i := 1) ht (by decide) S1' (by have := G0.2.1; show 0 + (pL b sz (kW 0) 0).2.2.length ≤ tS b sz (pL b sz (kW 0) 0).2.1; omega) (fun r1 N2 g2 S2 c2 w2 => ?_) (fun r1 N2 g2 => ?_)
    · have r1' : (lw1 b sz).1 = true := r1
      rw [if_pos r1'] at k1 k0
      have G1 := Good_L (b := b) (sz := sz) (w := kW 1) (p := (lw0 b sz).2.1) G0.1 r1
      have S2' : LST b sz (lw1 b sz).2.1 t 0 (0 + (lw0 b sz).2.2.length + (lw1 b sz).2.2.length) N2 := S2
      have l01 : 0 + (lw0 b sz).2.2.length + (lw1 b sz).2.2.length ≤ tS b sz (lw1 b sz).2.1 := by
        have a1 : tS b sz 0 + (lw0 b sz).2.2.length ≤ tS b sz (lw0 b sz).2.1 := G0.2.1
        have a2 : tS b sz (lw0 b sz).2.1 + (lw1 b sz).2.2.length ≤ tS b sz (lw1 b sz).2.1 := G1.2.1
        omega
      refine part_step (i := 2) ht (by decide) S2' l01 (fun r2 N3 g3 S3 c3 w3 => ?_) (fun r2 N3 g3 => ?_)
      · have r2' : (lw2 b sz).1 = true := r2
        rw [if_pos r2'] at k1 k0
        have G2 := Good_L (b := b) (sz := sz) (w := kW 2) (p := (lw1 b sz).2.1) G1.1 r2
        have S3' : LST b sz (lw2 b sz).2.1 t 0 (0 + (lw0 b sz).2.2.length + (lw1 b sz).2.2.length + (lw2 b sz).2.2.length) N3 := S3
        have l02 : 0 + (lw0 b sz).2.2.length + (lw1 b sz).2.2.length + (lw2 b sz).2.2.length ≤ 160 := by
          have a3 : tS b sz (lw1 b sz).2.1 + (lw2 b sz).2.2.length ≤ tS b sz (lw2 b sz).2.1 := G2.2.1
          have a4 := tS_le (b := b) (sz := sz) (p := (lw2 b sz).2.1) G2.1
          omega
        refine vc_X1_read_16 ht ?_
        rw [wlitI (k := ((2 : Nat) : Int) + 1) (by decide) (by decide)]
        refine ⟨fun _ M4 e4 => ?_, fun x => absurd (by decide) x⟩
        rw [S3'.2.1] at e4
        have f4 : ∀ c j k, ¬ (c = 30 ∧ j = t ∧ k = 3) → M4 c j k = N3 c j k := fun c j k a => by rw [e4, up3_o' (by omega)]
        have F4 : FrR t N3 M4 := fun c j k _ _ d => f4 c j k (by omega)
        have T4 : TC b sz (lw2 b sz).2.1 M4 := ⟨⟨by rw [f4 _ _ _ (by omega)]; exact S3'.1.1.1, S3'.1.1.2.1, fun j hj => by rw [f4 _ _ _ (by omega)]; exact S3'.1.1.2.2 j hj⟩, S3'.1.2.1, by rw [f4 _ _ _ (by omega)]; exact S3'.1.2.2.1, by rw [f4 _ _ _ (by omega)]; exact S3'.1.2.2.2.1, by rw [f4 _ _ _ (by omega)]; exact S3'.1.2.2.2.2.1, fun q => by rw [f4 _ _ _ (by omega)]; exact S3'.1.2.2.2.2.2 q⟩
        have FF : FrR t N M4 := (((F0.tr g1).tr g2).tr g3).tr F4
        refine s_isEnd T4 ?_
        by_cases te : tT b sz (lw2 b sz).2.1 = 0
        · rw [if_pos te] at k1
          rw [bI_t te, wlitI (by decide) (by decide)]
          refine ⟨fun x => absurd x (by decide), fun _ => k1 rfl M4 FF ⟨fun j hj => ?_, fun j hj => ?_, fun j hj => ?_, ?_, ?_, ?_, ?_, by omega⟩⟩
          · rw [f4 _ _ _ (by omega), c3.1 j (by omega), c2.1 j (by show j < 0 + (lw0 b sz).2.2.length; omega)]
            have := c1.2 j hj
            rwa [Nat.zero_add] at this
          · rw [f4 _ _ _ (by omega), c3.1 _ (by omega)]
            have := c2.2 j hj
            rwa [Nat.zero_add] at this
          · rw [f4 _ _ _ (by omega)]
            have := c3.2 j hj
            rwa [Nat.zero_add] at this
          · rw [f4 _ _ _ (by omega), w3, if_neg (by decide), w2, if_neg (by decide), w1, if_pos rfl]
            rfl
          · rw [f4 _ _ _ (by omega), w3, if_neg (by decide), w2, if_pos rfl, Nat.zero_add]
          · rw [f4 _ _ _ (by omega), w3, if_pos rfl, Nat.zero_add]
          · rw [e4, up3_s, Nat.zero_add]
        · rw [if_neg te] at k0
          rw [bI_f te, wlitI (by decide) (by decide)]
          refine ⟨fun _ => ?_, fun x => absurd rfl x⟩
          rw [T4.2.2.1]
          exact k0 rfl M4 FF
      · have e' : ¬ (lw2 b sz).1 = true := by
          show ¬ (pL b sz (kW 2) (lw1 b sz).2.1).1 = true
          rw [r2]; decide
        rw [if_neg e'] at k0
        exact k0 rfl N3 (((F0.tr g1).tr g2).tr g3)
    · have e' : ¬ (lw1 b sz).1 = true := by
        show ¬ (pL b sz (kW 1) (lw0 b sz).2.1).1 = true
        rw [r1]; decide
      rw [if_neg e'] at k0
      exact k0 rfl N2 ((F0.tr g1).tr g2)
  · have e' : ¬ (lw0 b sz).1 = true := by
      show ¬ (pL b sz (kW 0) 0).1 = true
      rw [r0]; decide
    rw [if_neg e'] at k0
    exact k0 rfl N1 (F0.tr g1)
end RD
/-! reckoning with it -/
def nmOf (v : Nat → Int) (m : Int) : Nat → Int := fun q => if q = 0 then m else if q = 1 then v 2 else if q = 2 then v 3 + 1 - m else if q = 3 then v 4 else if q = 4 then v 1 else v 0
def lawV (c0 c1 c2 : List Int) : Nat → (Nat → Int) → Int → Int := fun part v m => valO (nmOf v m) (if part = 0 then c0 else if part = 1 then c1 else c2)
theorem lawV_C {c0 c1 c2 : List Int} : lvC (lawV c0 c1 c2) := by
  intro part v w m h
  unfold lawV nmOf
  rw [h 0 (by decide), h 1 (by decide), h 2 (by decide), h 3 (by decide), h 4 (by decide)]
theorem wI_2 (x : Int) : wI (wI x) = wI x := by unfold wI; exact Int.bmod_bmod
theorem wI_ad (x y : Int) : wI (wI x + wI y) = wI (x + y) := by unfold wI; rw [Int.bmod_add_bmod, Int.add_bmod_bmod]
theorem wI_sb (x y : Int) : wI (wI x - wI y) = wI (x - y) := by unfold wI; rw [Int.bmod_sub_bmod, Int.sub_bmod_bmod]
theorem wI_ml (x y : Int) : wI (wI x * wI y) = wI (x * y) := by unfold wI; rw [Int.bmod_mul_bmod, Int.mul_bmod_bmod]
theorem wI_ng (x : Int) : wI (-wI x) = wI (-x) := by
  have := wI_sb 0 x
  rw [show wI 0 = 0 from rfl, Int.zero_sub, Int.zero_sub] at this
  exact this
section VL
variable {G : GT} {t a : Nat} {m : Int} {K : Int → NN → Prop}
/-- the class's stack -/
def SK (t : Nat) (N : NN) (st : List Int) : Prop := ∀ i, i < st.length → wI (N 31 t (st.length - 1 - i)) = st.getD i 0
theorem SK_push {N N' : NN} {st : List Int} {x : Int} (h : SK t N st) (hx : wI (N' 31 t st.length) = x) (ho : ∀ j, j < st.length → N' 31 t j = N 31 t j) : SK t N' (x :: st) := by
  intro i hi
  rw [List.length_cons] at *
  cases i with
  | zero => rw [show st.length + 1 - 1 - 0 = st.length by omega]; exact hx
  | succ i =>
    rw [show st.length + 1 - 1 - (i + 1) = st.length - 1 - i by omega, ho _ (by omega), h i (by omega)]
    rfl
theorem SK_tail {N : NN} {st : List Int} {x : Int} (h : SK t N (x :: st)) : SK t N st := by
  intro i hi
  have := h (i + 1) (by rw [List.length_cons]; omega)
  rw [List.length_cons, show st.length + 1 - 1 - (i + 1) = st.length - 1 - i by omega] at this
  exact this
theorem SK_head {N : NN} {st : List Int} {x : Int} (h : SK t N (x :: st)) : wI (N 31 t st.length) = x := by
  have := h 0 (by rw [List.length_cons]; omega)
  rw [List.length_cons, show st.length + 1 - 1 - 0 = st.length by omega] at this
  exact this
theorem SK_31 {N N' : NN} {st : List Int} (h : SK t N st) (e : ∀ j, j < st.length → N' 31 t j = N 31 t j) : SK t N' st := fun i hi => by rw [e _ (by omega), h i hi]
theorem s_truth {N : NN} {x : Int} {K : Int → NN → Prop} (k : K (if wI x = 0 then 0 else 1) N) : C_X1_truth G x N K := by
  refine vc_X1_truth ⟨fun q => ?_, fun q => ?_⟩
  · rwa [if_pos q] at k
  · rwa [if_neg q] at k
theorem s_joined {N : NN} {i x y : Int} {K : Int → NN → Prop} (hi : 20000 ≤ i ∧ i ≤ 20007 ∧ i ≠ 20002) (k : ∀ z, wI z = jnS i (wI x) (wI y) → K z N) : C_X1_joined G i x y N K := by
  refine vc_X1_joined ?_
  rw [wI_id (x := i) (by omega) (by omega)]
  have w1 := wlitI (k := 1) (by decide) (by decide)
  have w0 := wlitI (k := 0) (by decide) (by decide)
  have tr : ∀ (z : Int), z = 0 ∨ z = 1 → jnS i (wI x) (wI y) = z → C_X1_truth G z N (fun x1 N1 => K x1 N1) := by
    intro z hz e
    refine s_truth (k _ ?_)
    rw [e]
    rcases hz with rfl | rfl
    · rw [w0, if_pos rfl, w0]
    · rw [w1, if_neg (by decide), w1]
  refine ⟨fun q => ?_, fun q => ?_, fun q => absurd q hi.2.2, fun q => ?_, fun q => ?_, fun q => k _ ?_, fun q => k _ ?_, fun q => k _ ?_⟩
  · unfold jnS at tr
    rw [if_pos q] at tr
    refine ⟨fun h => tr 1 (.inr rfl) (if_pos (.inl h)), fun h => ⟨fun h2 => tr 0 (.inl rfl) (if_neg (fun c => c.elim h (fun c => c h2))), fun h2 => tr 1 (.inr rfl) (if_pos (.inr h2))⟩⟩
  · unfold jnS at tr
    rw [if_neg (by omega), if_pos q] at tr
    refine ⟨fun h => tr 0 (.inl rfl) (if_neg (fun c => c.1 h)), fun h => ⟨fun h2 => tr 0 (.inl rfl) (if_neg (fun c => c.2 h2)), fun h2 => tr 1 (.inr rfl) (if_pos ⟨h, h2⟩)⟩⟩
  · unfold jnS at tr
    rw [if_neg (by omega), if_neg (by omega), if_pos q] at tr
    refine ⟨fun h => tr 0 (.inl rfl) (if_neg (by omega)), fun h => tr 1 (.inr rfl) (if_pos (by omega))⟩
  · unfold jnS at tr
    rw [if_neg (by omega), if_neg (by omega), if_neg (by omega), if_pos q] at tr
    refine ⟨fun h => tr 0 (.inl rfl) (if_neg h), fun h => tr 1 (.inr rfl) (if_pos (Decidable.not_not.mp h))⟩
  · unfold jnS
    rw [if_neg (by omega), if_neg (by omega), if_neg (by omega), if_neg (by omega), if_pos q, wI_ad]
  · unfold jnS
    rw [if_neg (by omega), if_neg (by omega), if_neg (by omega), if_neg (by omega), if_neg (by omega), if_pos q, wI_sb]
  · unfold jnS
    rw [if_neg (by omega), if_neg (by omega), if_neg (by omega), if_neg (by omega), if_neg (by omega), if_neg (by omega), wI_ml]
theorem s_named {N : NN} {q : Nat} {K : Int → NN → Prop} (ha : a < 24) (hq : q < 6) (B : LB N a) (hm : 1 ≤ m ∧ m ≤ 61) (k : ∀ z, wI z = nmOf (N 2 a) m q → K z N) : C_X1_named G (q : Int) a m N K := by
  obtain ⟨b0, b1, b2, b3, b4, b5, b6, b7, b8, b9, b10, b11, b12, b13, b14, b15⟩ := B
  refine vc_X1_named ha ?_
  rw [wI_id (x := (q : Int)) (by omega) (by omega)]
  unfold nmOf at k
  refine ⟨fun h => k _ ?_, fun h => k _ ?_, fun h => vc_X2_left ha (k _ ?_), fun h => k _ ?_, fun h => k _ ?_, fun h => k _ ?_⟩
  · rw [if_pos (by omega), wI_id (by omega) (by omega)]
  · rw [if_neg (by omega), if_pos (by omega), wI_id (by omega) (by omega)]
  · rw [if_neg (by omega), if_neg (by omega), if_pos (by omega), wI_id (by omega) (by omega)]
  · rw [if_neg (by omega), if_neg (by omega), if_neg (by omega), if_pos (by omega), wI_id (by omega) (by omega)]
  · rw [if_neg (by omega), if_neg (by omega), if_neg (by omega), if_neg (by omega), if_pos (by omega), wI_id (by omega) (by omega)]
  · rw [if_neg (by omega), if_neg (by omega), if_neg (by omega), if_neg (by omega), if_neg (by omega), wI_id (by omega) (by omega)]
theorem v_run {part : Nat} {N0 : NN} (ht : t < 6) (ha : a < 24) (hp : part < 3) (B0 : LB N0 a) (hm : 1 ≤ m ∧ m ≤ 61) {v : Int} (k : ∀ x N', wI x = v → Eq31 N0 N' → K x N') :
    ∀ (c : List Int) (idx : Nat) (N : NN) (st : List Int), Eq31 N0 N → (∀ j, j < c.length → N 29 t (idx + j) = c.getD j 0) → N 30 t (part + 1) = ((idx + c.length : Nat) : Int) → idx + c.length ≤ 160 → st.length ≤ 40 → dOK st.length c → SK t N st → rn (nmOf (N0 2 a) m) c st = [v] → W_X1_value G K 11 [(0, vR 1 t), (1, vI (part : Int)), (2, vR 2 a), (3, vI m), (4, vI (st.length : Int)), (5, vI (idx : Int))] [] N := by
  intro c
  induction c with
  | nil =>
    intro idx N st E hc h30 hi hs hd S hr
    have e : st = [v] := hr
    subst e
    refine vc_X1_value_11 ht ha ?_
    rw [wI_id (x := (part : Int) + 1) (by omega) (by omega)]
    refine ⟨part + 1, by omega, by omega, ?_⟩
    have h30' : N 30 t (part + 1) = (idx : Int) := h30
    have l1 : ([v] : List Int).length = 1 := rfl
    rw [h30', l1, wI_id (x := (idx : Int)) (by omega) (by omega), wlitI (k := ((1 : Nat) : Int)) (by decide) (by decide)]
    exact ⟨fun _ => ⟨fun q => absurd q (by decide), fun _ => k _ N (SK_head S) E⟩, fun q => absurd (Int.le_refl _) q⟩
  | cons i c ih =>
    intro idx N st E hc h30 hi hs hd S hr
    rw [List.length_cons] at h30 hi
    have i29 : N 29 t idx = i := by
      have := hc 0 (by rw [List.length_cons]; omega)
      rwa [Nat.add_zero] at this
    have hc' : ∀ (N' : NN), Eq31 N N' → ∀ j, j < c.length → N' 29 t (idx + 1 + j) = c.getD j 0 := by
      intro N' e j hj
      rw [e _ _ _ (by decide), show idx + 1 + j = idx + (j + 1) by omega]
      exact hc (j + 1) (by rw [List.length_cons]; omega)
    have s30 : ∀ (N' : NN), Eq31 N N' → N' 30 t (part + 1) = ((idx + 1 + c.length : Nat) : Int) := by
      intro N' e
      rw [e _ _ _ (by decide), h30]
      omega
    have eix : (idx : Int) + 1 = ((idx + 1 : Nat) : Int) := by omega
    have BN : LB N a := LB_31 E B0
    have v2 : N 2 a = N0 2 a := funext fun f => E 2 a f (by decide)
    have hr' : rn (nmOf (N0 2 a) m) c (stp (nmOf (N0 2 a) m) st i) = [v] := hr
    unfold dOK at hd
    unfold stp at hr'
    -- what a sign on one value does
    have un : (i = 20002 ∨ i = 20008) → W_X1_value G K 59 [(0, vR 1 t), (1, vI (part : Int)), (2, vR 2 a), (3, vI m), (4, vI (st.length : Int)), (5, vI (idx : Int)), (6, vI i)] [] N := by
      intro hi2
      rw [if_pos hi2] at hd hr'
      cases st with
      | nil => exact absurd hd.1 (by decide)
      | cons x st =>
        have hx := SK_head S
        rw [List.length_cons] at *
        have wi : wI i = i := wI_id (by omega) (by omega)
        have nx : ∀ (z : Int) (N' : NN), wI z = unS i x → N' = up3 N 31 t st.length z → W_X1_value G K 11 [(0, vR 1 t), (1, vI (part : Int)), (2, vR 2 a), (3, vI m), (4, vI ((st.length + 1 : Nat) : Int)), (5, vI ((idx : Int) + 1))] [] N' := by
          intro z N' hz e
          have E' : Eq31 N N' := fun c' i' k' h => by rw [e]; exact up3_o' (by omega)
          rw [eix]
          refine ih (idx + 1) N' (unS i x :: st) (E.tr E') (hc' N' E') (s30 N' E') (by omega) hs hd.2 (SK_push (SK_tail S) (by rw [e, up3_s]; exact hz) (fun j hj => by rw [e]; exact up3_o' (by omega))) hr'
        refine vc_X1_value_59 ht ha ?_
        rw [wI_id (x := ((st.length + 1 : Nat) : Int)) (by omega) (by omega), wi, wI_id (x := ((st.length + 1 : Nat) : Int) - 1) (by omega) (by omega)]
        refine ⟨fun _ => ⟨fun n8 => ⟨st.length, by omega, by omega, ?_⟩, fun y8 => ⟨st.length, by omega, by omega, st.length, by omega, by omega, fun M e => nx _ M ?_ e⟩⟩, fun q => by omega⟩
        · rw [hx]
          have eu : unS i x = if x = 0 then 1 else 0 := by
            unfold unS
            rw [if_neg n8]
          refine ⟨fun q => s_truth ⟨st.length, by omega, by omega, fun M e => nx _ M ?_ e⟩, fun q => s_truth ⟨st.length, by omega, by omega, fun M e => nx _ M ?_ e⟩⟩
          · rw [eu, if_neg q]
            rfl
          · rw [eu, if_pos (Decidable.not_not.mp q)]
            rfl
        · have : i = 20008 := Decidable.not_not.mp y8
          unfold unS
          rw [if_pos this, ← hx, wI_ng]
    refine vc_X1_value_11 ht ha ?_
    rw [wI_id (x := (part : Int) + 1) (by omega) (by omega)]
    refine ⟨part + 1, by omega, by omega, ?_⟩
    rw [h30, wI_id (x := ((idx + (c.length + 1) : Nat) : Int)) (by omega) (by omega), wI_id (x := (idx : Int)) (by omega) (by omega)]
    refine ⟨fun q => by omega, fun _ => ⟨fun q => by omega, fun _ => ⟨idx, rfl, by omega, ?_⟩⟩⟩
    rw [i29]
    have ir : 0 ≤ i ∧ i ≤ 20008 := by
      by_cases h1 : i = 20002 ∨ i = 20008
      · omega
      · rw [if_neg h1] at hd
        by_cases h2 : 20000 ≤ i
        · rw [if_pos h2] at hd
          omega
        · rw [if_neg h2] at hd
          omega
    rw [wI_id (x := i) (by omega) (by omega), wI_id (x := (st.length : Int)) (by omega) (by omega)]
    refine ⟨fun q => un (.inl q), fun q2 => ⟨fun q8 => ⟨fun ql => ?_, fun qb => ?_⟩, fun q8 => un (.inr (Decidable.not_not.mp q8))⟩⟩
    · rw [if_neg (show ¬ (i = 20002 ∨ i = 20008) by omega), if_neg (by omega)] at hd hr'
      have nx : ∀ (z : Int) (N' : NN), wI z = (if i < 10000 then i else nmOf (N0 2 a) m (i - 10000).toNat) → N' = up3 N 31 t st.length z → W_X1_value G K 11 [(0, vR 1 t), (1, vI (part : Int)), (2, vR 2 a), (3, vI m), (4, vI ((st.length : Int) + 1)), (5, vI ((idx : Int) + 1))] [] N' := by
        intro z N' hz e
        have E' : Eq31 N N' := fun c' i' k' h => by rw [e]; exact up3_o' (by omega)
        rw [eix, show (st.length : Int) + 1 = (((if i < 10000 then i else nmOf (N0 2 a) m (i - 10000).toNat) :: st).length : Int) by rw [List.length_cons]; omega]
        exact ih (idx + 1) N' (_ :: st) (E.tr E') (hc' N' E') (s30 N' E') (by omega) (by rw [List.length_cons]; omega) hd.2.2.2 (SK_push S (by rw [e, up3_s]; exact hz) (fun j hj => by rw [e]; exact up3_o' (by omega))) hr'
      refine ⟨fun _ => ⟨fun qn => ?_, fun qn => ⟨st.length, rfl, by omega, fun M e => nx _ M ?_ e⟩⟩, fun q => by omega⟩
      · rw [show i - 10000 = (((i - 10000).toNat : Nat) : Int) by omega]
        refine s_named ha (by omega) BN hm (fun z hz => ⟨st.length, rfl, by omega, fun M e => nx z M ?_ e⟩)
        rw [if_neg (by omega), hz, v2]
      · rw [if_pos (by omega), wI_id (by omega) (by omega)]
    · rw [if_neg (show ¬ (i = 20002 ∨ i = 20008) by omega), if_pos (by omega)] at hd hr'
      obtain ⟨d1, d2, d3⟩ := hd
      cases st with
      | nil => exact absurd d2 (by decide)
      | cons y st =>
        cases st with
        | nil => exact absurd d2 (by intro h; simp only [List.length_cons, List.length_nil] at h; omega)
        | cons x st =>
          have hy := SK_head S
          have hx := SK_head (SK_tail S)
          rw [List.length_cons, List.length_cons] at *
          refine ⟨fun _ => ⟨st.length, ?_, by omega, st.length + 1, ?_, by omega, s_joined (by omega) (fun z hz => ⟨st.length, ?_, by omega, fun M e => ?_⟩)⟩, fun q => by omega⟩
          · rw [wI_id (by omega) (by omega)]
            omega
          · rw [wI_id (by omega) (by omega)]
            omega
          · rw [wI_id (by omega) (by omega)]
            omega
          · rw [hx, hy] at hz
            have E' : Eq31 N M := fun c' i' k' h => by rw [e]; exact up3_o' (by omega)
            rw [eix, show ((st.length + 1 + 1 : Nat) : Int) + (-1) = ((jnS i x y :: st).length : Int) by rw [List.length_cons]; omega]
            exact ih (idx + 1) M (_ :: st) (E.tr E') (hc' M E') (s30 M E') (by omega) (by rw [List.length_cons]; omega) d3 (SK_push (SK_tail (SK_tail S)) (by rw [e, up3_s]; exact hz) (fun j hj => by rw [e]; exact up3_o' (by omega))) hr'
theorem dOK_of {c : List Int} {m0 : Nat} (hm : m0 ≤ 40) (R : Rm m0 c) : dOK 0 c := by
  have := R 0 [] (by omega) (by unfold dOK; trivial)
  rwa [List.append_nil] at this
/-- a text's codes, as the class has them, come to what they say -/
theorem VOK_of {c0 c1 c2 : List Int} {cd sts : Nat → Int} (ht : t < 6) (H : LawC t c0 c1 c2 cd sts) (g0 : Vl c0 ∧ Rm (Dp 0 0) c0) (g1 : Vl c1 ∧ Rm (Dp 0 0) c1) (g2 : Vl c2 ∧ Rm (Dp 0 0) c2) : VOK G t cd sts (lawV c0 c1 c2) := by
  refine ⟨ht, fun N h29 h30 part hp a ha B m m1 m2 K k => ?_⟩
  obtain ⟨d0, d1, d2, s0, s1, s2, s3, hl⟩ := H
  have dd : Dp 0 0 ≤ 40 := by decide
  refine vc_X1_value ht ha ?_
  rw [wI_id (x := (part : Int)) (by omega) (by omega), h30]
  refine ⟨part, rfl, by omega, ?_⟩
  unfold lawV at k
  have go : ∀ (c : List Int) (s : Nat), sts part = (s : Int) → sts (part + 1) = ((s + c.length : Nat) : Int) → s + c.length ≤ 160 → (∀ j, j < c.length → cd (s + j) = c.getD j 0) → Vl c → Rm (Dp 0 0) c → (∀ (x : Int) (N' : NN), wI x = valO (nmOf (N 2 a) m) c → Eq31 N N' → K x N') → W_X1_value G K 11 [(0, vR 1 t), (1, vI (part : Int)), (2, vR 2 a), (3, vI m), (4, vI 0), (5, vI (sts part))] [] N := by
    intro c s e1 e2 e3 e4 e5 e6 k
    rw [e1]
    exact v_run ht ha hp B ⟨m1, m2⟩ (v := valO (nmOf (N 2 a) m) c) k c s N [] Eq31.rf (fun j hj => by rw [h29]; exact e4 j hj) (by rw [h30]; exact e2) e3 (by decide) (dOK_of dd e6) (fun i hi => by cases hi) (e5 _ [])
  rcases (by omega : part = 0 ∨ part = 1 ∨ part = 2) with rfl | rfl | rfl
  · exact go c0 0 s0 (by rw [s1, Nat.zero_add]) (by omega) (fun j hj => by rw [Nat.zero_add]; exact d0 j hj) g0.1 g0.2 k
  · exact go c1 c0.length s1 s2 (by omega) d1 g1.1 g1.2 k
  · exact go c2 (c0.length + c1.length) s2 s3 hl d2 g2.1 g2.2 k
end VL
