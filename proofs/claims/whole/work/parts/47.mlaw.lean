/-! a text of three parts, by the reference -/
section ML
variable {G : GT} {b : Nat → Int} {sz fr : Nat}
theorem m_part {w : Int} {p : Nat} {N : NN} {K : Int → NN → Prop} (hw : 0 ≤ w ∧ w ≤ 1000000000) (S : MSt b sz fr p 0 N) (C : CNM b sz fr 0 (pL b sz w p) N K) : C_X10_part G w N K := by
  have z := MSt_sz S
  unfold pL at C
  refine vc_X10_part (s_isWord hw S.1 S.2.1 ?_)
  by_cases g : isW b sz p w
  · rw [if_pos g] at C
    rw [bI_t g, wlitI (by decide) (by decide)]
    refine ⟨fun _ => vc_X10_part_12 ?_, fun q => absurd (by decide) q⟩
    rw [S.2.1, wlitI (by decide) (by decide)]
    refine ⟨fun q => absurd rfl q, fun _ => s_mOn S.1 (by have := g.1; omega) fun N1 f1 T1 => vc_X10_part_23 ?_⟩
    have S1 := S.on f1 T1
    rw [S1.2.1, wlitI (by decide) (by decide)]
    refine ⟨fun _ => ⟨40, by decide, ?_⟩, fun q => absurd rfl q⟩
    have gd := Good_E (b := b) (sz := sz) 40 0 (tE b sz p) 0 (by decide) (by decide) (tE_le z.1)
    refine m_parse 40 0 (by decide) (tE b sz p) 0 40 N1 _ (by decide) (by decide) (by decide) S1 ⟨fun e x N2 f2 S2 hx => ?_, fun e x N2 f2 bd => ?_⟩
    · rw [if_pos e] at C
      obtain ⟨q1, q2, q3, q4, q5⟩ := gd e
      refine s_mIsSign (by decide) S2.1 S2.2.1 ?_
      by_cases s : isS b sz (pE b sz 40 0 (tE b sz p) 0).2.1 59
      · rw [if_pos s] at C
        rw [bI_t s, wlitI (by decide) (by decide), S2.2.1, wlitI (by decide) (by decide)]
        refine ⟨fun _ => ⟨fun q => absurd rfl q, fun _ => s_mOn S2.1 (by have := s.1; omega) fun N3 f3 T3 => C.1 rfl x N3 ((f1.toP.tr f2).tr f3.toP) (S2.on f3 T3) ?_⟩, fun q => absurd (by decide) q⟩
        rw [hx]
        exact nm_val (nmN_P f1.toP) (Rm_okI (by have := Dp_le (lvl := 0) (o := 0); omega) q5)
      · rw [if_neg s] at C
        rw [bI_f s, wlitI (by decide) (by decide)]
        refine ⟨fun q => absurd rfl q, fun _ => s_fail S2.1 S2.2.1 fun N4 f4 bd _ => ?_⟩
        rw [bd.1, wlitI (by decide) (by decide)]
        exact ⟨fun _ => C.2 rfl x N4 ((f1.toP.tr f2).tr f4) bd, fun q => absurd (by decide) q⟩
    · have e' : ¬ (pE b sz 40 0 (tE b sz p) 0).1 = true := by rw [e]; decide
      rw [if_neg e'] at C
      refine s_mIsSignB bd.1 ?_
      rw [wlitI (by decide) (by decide)]
      refine ⟨fun q => absurd rfl q, fun _ => s_failB bd.1 ?_⟩
      rw [bd.1, wlitI (by decide) (by decide)]
      exact ⟨fun _ => C.2 e x N2 (f1.toP.tr f2) bd, fun q => absurd (by decide) q⟩
  · rw [if_neg g] at C
    rw [bI_f g, wlitI (by decide) (by decide)]
    refine ⟨fun q => absurd rfl q, fun _ => s_fail S.1 S.2.1 fun N1 f1 bd _ => vc_X10_part_12 ?_⟩
    rw [bd.1, wlitI (by decide) (by decide)]
    refine ⟨fun _ => vc_X10_part_23 ?_, fun q => absurd (by decide) q⟩
    rw [bd.1, wlitI (by decide) (by decide)]
    refine ⟨fun q => absurd q (by decide), fun _ => s_mIsSignB bd.1 ?_⟩
    rw [wlitI (by decide) (by decide)]
    refine ⟨fun q => absurd rfl q, fun _ => s_failB bd.1 ?_⟩
    rw [bd.1, wlitI (by decide) (by decide)]
    exact ⟨fun _ => C.2 rfl _ N1 f1 bd, fun q => absurd (by decide) q⟩
/-- what a whole reading may change -/
theorem m_read {t part : Nat} {N : NN} {K : Int → NN → Prop} (ht : t < 7) (hp : part < 3) (h58 : N 58 0 t = (sz : Int)) (hsz : sz ≤ 160) (h57 : ∀ j, j < sz → N 57 0 (160 * t + j) = b j ∧ 0 ≤ b j ∧ b j ≤ 255)
    (k1 : (lawR b sz).1 = true → ∀ x N', EqSc N N' → wI x = valO (nmN N) (if part = 0 then (lw0 b sz).2.2 else if part = 1 then (lw1 b sz).2.2 else (lw2 b sz).2.2) → N' 10 0 37 = 0 → (∀ q, q < 6 → N' 10 0 (39 + q) = N 10 0 (39 + q)) → K x N')
    (k0 : (lawR b sz).1 = false → ∀ x N', EqSc N N' → BAD (lawR b sz).2 N' → K x N') : C_X10_read G (t : Int) (part : Int) N K := by
  refine vc_X10_read (fun M1 e1 => ?_)
  rw [wI_id (x := (t : Int)) (by omega) (by omega)]
  refine ⟨t, rfl, by omega, fun M3 e3 M4 e4 M5 e5 M6 e6 => ?_⟩
  have f6 : ∀ c i k, ¬ (c = 10 ∧ i = 0 ∧ 30 ≤ k ∧ k ≤ 37) → M6 c i k = N c i k := fun c i k a => by
    rw [e6, up3_o' (by omega), e5, up3_o' (by omega), e4, up3_o' (by omega), e3, up3_o' (by omega), e1, up3_o' (by omega)]
  have tp : TPm b sz (160 * t) M6 := by
    refine ⟨?_, ?_, by omega, hsz, fun j hj => by rw [f6 _ _ _ (by omega)]; exact h57 j hj⟩
    · rw [e6, up3_o' (by omega), e5, up3_o' (by omega), e4, up3_o' (by omega), e3, up3_s, e1, up3_o' (by omega), h58]
    · rw [e6, up3_o' (by omega), e5, up3_o' (by omega), e4, up3_o' (by omega), e3, up3_o' (by omega), e1, up3_s]
      omega
  have z35 : M6 10 0 35 = ((0 : Nat) : Int) := by
    rw [e6, up3_o' (by omega), e5, up3_o' (by omega), e4, up3_s]
    rfl
  refine s_mNext tp (Nat.zero_le _) z35 fun N7 f7 T7 => ?_
  have S7 : MSt b sz (160 * t) 0 0 N7 := by
    refine ⟨T7, ?_, ?_⟩
    · rw [f7 _ _ _ (by omega), e6, up3_s]
    · rw [f7 _ _ _ (by omega), e6, up3_o' (by omega), e5, up3_s]
      rfl
  have E7 : EqSc N N7 := fun c i k a => by rw [f7 _ _ _ (by omega), f6 _ _ _ (by omega)]
  have P_E : ∀ {A B : NN}, FrP A B → EqSc A B := fun h c i k a => h c i k (by omega)
  have nm7 : ∀ q, q < 6 → nmN N7 q = nmN N q := fun q hq => by
    unfold nmN
    rw [f7 _ _ _ (by omega), f6 _ _ _ (by omega)]
  have v7 : ∀ {A : NN} {q : Nat}, FrP N7 A → q < 6 → A 10 0 (39 + q) = N 10 0 (39 + q) := fun f hq => by rw [f _ _ _ (by omega), f7 _ _ _ (by omega), f6 _ _ _ (by omega)]
  unfold lawR at k1 k0
  have wp := fun _ : Unit => wI_id (x := (part : Int)) (by omega) (by omega)
  -- the end
  have fin : ∀ (M : NN) (A B D : Int), (∀ x, (part = 0 → x = A) → (part = 1 → x = B) → (part = 2 → x = D) → K x M) → ((wI (part : Int) ≠ 0 → ((wI (part : Int) ≠ 1 → K D M) ∧ (¬ (wI (part : Int) ≠ 1) → K B M))) ∧ (¬ (wI (part : Int) ≠ 0) → K A M)) := by
    intro M A B D h
    rw [wp ()]
    exact ⟨fun q => ⟨fun q2 => h _ (fun e => by omega) (fun e => by omega) (fun _ => rfl), fun q2 => h _ (fun e => by omega) (fun _ => rfl) (fun e => by omega)⟩, fun q => h _ (fun _ => rfl) (fun e => by omega) (fun e => by omega)⟩
  have bad84 : ∀ (M : NN) (A B D : Int), M 10 0 37 = 1 → (∀ x, K x M) → W_X10_read G K 84 [(0, vR 10 0), (2, vI (part : Int)), (3, vI A), (4, vI B)] [vI D] M := by
    intro M A B D hb h
    refine vc_X10_read_84 ?_
    rw [hb, wlitI (k := 1) (by decide) (by decide)]
    exact ⟨fun _ => fin M A B D fun x _ _ _ => h x, fun q => absurd (by decide) q⟩
  have bad64 : ∀ (M : NN) (A B : Int), M 10 0 37 = 1 → (∀ x, K x M) → W_X10_read G K 64 [(0, vR 10 0), (2, vI (part : Int)), (3, vI A)] [vI B] M := by
    intro M A B hb h
    refine vc_X10_read_64 ?_
    rw [hb, wlitI (k := 1) (by decide) (by decide)]
    exact ⟨fun q => absurd q (by decide), fun _ => bad84 M A B 0 hb h⟩
  have c0 := Good_L (b := b) (sz := sz) (w := kW 0) (p := 0) (Nat.zero_le _)
  refine m_part (w := 119082) (by decide) S7 ⟨fun r0 x0 N8 f8 S8 h8 => ?_, fun r0 x0 N8 f8 bd => ?_⟩
  · have r0' : (lw0 b sz).1 = true := r0
    rw [if_pos r0'] at k1 k0
    have G0 := c0 r0
    have S8' : MSt b sz (160 * t) (lw0 b sz).2.1 0 N8 := S8
    have c1 := Good_L (b := b) (sz := sz) (w := kW 1) (p := (lw0 b sz).2.1) G0.1
    dsimp only
    rw [S8.2.1, wlitI (k := 0) (by decide) (by decide)]
    refine ⟨fun _ => m_part (w := 237470) (by decide) S8' ⟨fun r1 x1 N9 f9 S9 h9 => ?_, fun r1 x1 N9 f9 bd => ?_⟩, fun q => absurd rfl q⟩
    · have r1' : (lw1 b sz).1 = true := r1
      rw [if_pos r1'] at k1 k0
      have G1 := c1 r1
      have S9' : MSt b sz (160 * t) (lw1 b sz).2.1 0 N9 := S9
      have c2 := Good_L (b := b) (sz := sz) (w := kW 2) (p := (lw1 b sz).2.1) G1.1
      refine vc_X10_read_64 ?_
      rw [S9.2.1, wlitI (k := 0) (by decide) (by decide)]
      refine ⟨fun _ => m_part (w := 2690359) (by decide) S9' ⟨fun r2 x2 N10 f10 S10 h10 => ?_, fun r2 x2 N10 f10 bd => ?_⟩, fun q => absurd rfl q⟩
      · have r2' : (lw2 b sz).1 = true := r2
        rw [if_pos r2'] at k1 k0
        have G2 := c2 r2
        have S10' : MSt b sz (160 * t) (lw2 b sz).2.1 0 N10 := S10
        have f710 : FrP N7 N10 := (f8.tr f9).tr f10
        refine vc_X10_read_84 ?_
        have tr := tT_rng (b := b) (sz := sz) (p := (lw2 b sz).2.1)
        rw [S10.2.1, S10'.1.2.2.2.1, wlitI (k := 0) (by decide) (by decide), wI_id (x := tT b sz (lw2 b sz).2.1) (by omega) (by omega)]
        refine ⟨fun q => absurd rfl q, fun _ => ⟨fun te => ?_, fun te => ?_⟩⟩
        · rw [if_pos te] at k1
          refine fin N10 x0 x1 x2 fun x xa xb xc => k1 rfl x N10 (E7.tr (P_E f710)) ?_ S10.2.1 (fun q hq => v7 f710 hq)
          have D40 : Dp 0 0 ≤ 40 := by decide
          have nm8 : ∀ q, q < 6 → nmN N8 q = nmN N q := fun q hq => (nmN_P f8 q hq).trans (nm7 q hq)
          have nm9 : ∀ q, q < 6 → nmN N9 q = nmN N q := fun q hq => (nmN_P f9 q hq).trans (nm8 q hq)
          rcases (by omega : part = 0 ∨ part = 1 ∨ part = 2) with e | e | e
          · rw [xa e, if_pos e, h8]
            exact nm_val nm7 (Rm_okI D40 G0.2.2.2.2)
          · rw [xb e, if_neg (by omega), if_pos e, h9]
            exact nm_val nm8 (Rm_okI D40 G1.2.2.2.2)
          · rw [xc e, if_neg (by omega), if_neg (by omega), h10]
            exact nm_val nm9 (Rm_okI D40 G2.2.2.2.2)
        · rw [if_neg te] at k0
          exact s_fail S10'.1 S10'.2.1 fun N11 f11 bd _ => fin N11 x0 x1 x2 fun x _ _ _ => k0 rfl x N11 (E7.tr (P_E (f710.tr f11))) bd
      · have e' : ¬ (lw2 b sz).1 = true := by
          show ¬ (pL b sz (kW 2) (lw1 b sz).2.1).1 = true
          have : (pL b sz (kW 2) (lw1 b sz).2.1).1 = false := r2
          rw [this]; decide
        rw [if_neg e'] at k0
        exact bad84 N10 x0 x1 x2 bd.1 fun x => k0 rfl x N10 (E7.tr (P_E ((f8.tr f9).tr f10))) bd
    · have e' : ¬ (lw1 b sz).1 = true := by
        show ¬ (pL b sz (kW 1) (lw0 b sz).2.1).1 = true
        have : (pL b sz (kW 1) (lw0 b sz).2.1).1 = false := r1
        rw [this]; decide
      rw [if_neg e'] at k0
      exact bad64 N9 x0 x1 bd.1 fun x => k0 rfl x N9 (E7.tr (P_E (f8.tr f9))) bd
  · have e' : ¬ (lw0 b sz).1 = true := by
      show ¬ (pL b sz (kW 0) 0).1 = true
      have : (pL b sz (kW 0) 0).1 = false := r0
      rw [this]; decide
    rw [if_neg e'] at k0
    dsimp only
    rw [bd.1, wlitI (k := 1) (by decide) (by decide)]
    exact ⟨fun q => absurd q (by decide), fun _ => bad64 N8 x0 0 bd.1 fun x => k0 rfl x N8 (E7.tr (P_E f8)) bd⟩
/-- a text's bytes, as the reference has them, come to what they say -/
theorem VOKm_of {t : Nat} {tx : Nat → Int} {ts : Int} (ht : t < 6) (hs : ts = (sz : Int)) (hsz : sz ≤ 160) (htx : ∀ j, j < sz → tx j = b j ∧ 0 ≤ b j ∧ b j ≤ 255) (ok : (lawR b sz).1 = true) : VOKm G t tx ts (lawV (lw0 b sz).2.2 (lw1 b sz).2.2 (lw2 b sz).2.2) := by
  refine ⟨ht, fun N h27 h57 h58 part hp l hl B m m1 m2 K k => ?_⟩
  refine vc_X10_saysOf (fun M1 e1 => ?_)
  rw [wI_id (x := (l : Int)) (by omega) (by omega)]
  refine ⟨l, rfl, hl, fun M3 e3 => ⟨l, rfl, hl, fun M5 e5 => ⟨l, rfl, hl, fun M7 e7 => ⟨l, rfl, hl, fun M9 e9 => ⟨l, rfl, hl, fun M11 e11 => ?_⟩⟩⟩⟩⟩
  have f : ∀ c i k, ¬ (c = 10 ∧ i = 0 ∧ 39 ≤ k ∧ k ≤ 44) → M11 c i k = N c i k := fun c i k a => by
    rw [e11, up3_o' (by omega), e9, up3_o' (by omega), e7, up3_o' (by omega), e5, up3_o' (by omega), e3, up3_o' (by omega), e1, up3_o' (by omega)]
  have E : EqSc N M11 := fun c i k a => f c i k (by omega)
  have B' := B
  obtain ⟨b0, b1, b2, b3, b4, b5, b6, b7, b8, b9, b10, b11, b12, b13, b14, b15⟩ := B
  have l0 : LV N l 0 = N 40 0 l := rfl
  have l1 : LV N l 1 = N 41 0 l := rfl
  have l2 : LV N l 2 = N 42 0 l := rfl
  have l3 : LV N l 3 = N 43 0 l := rfl
  have l4 : LV N l 4 = N 44 0 l := rfl
  have n0 : M11 10 0 39 = m := by rw [e11, up3_o' (by omega), e9, up3_o' (by omega), e7, up3_o' (by omega), e5, up3_o' (by omega), e3, up3_o' (by omega), e1, up3_s]
  have n1 : M11 10 0 40 = LV N l 2 := by rw [e11, up3_o' (by omega), e9, up3_o' (by omega), e7, up3_o' (by omega), e5, up3_o' (by omega), e3, up3_s, e1, up3_o' (by omega), l2]
  have n2 : M11 10 0 41 = LV N l 3 + 1 - m := by rw [e11, up3_o' (by omega), e9, up3_o' (by omega), e7, up3_o' (by omega), e5, up3_s, e3, up3_o' (by omega), e1, up3_o' (by omega), l3]
  have n3 : M11 10 0 42 = LV N l 4 := by rw [e11, up3_o' (by omega), e9, up3_o' (by omega), e7, up3_s, e5, up3_o' (by omega), e3, up3_o' (by omega), e1, up3_o' (by omega), l4]
  have n4 : M11 10 0 43 = LV N l 1 := by rw [e11, up3_o' (by omega), e9, up3_s, e7, up3_o' (by omega), e5, up3_o' (by omega), e3, up3_o' (by omega), e1, up3_o' (by omega), l1]
  have n5 : M11 10 0 44 = LV N l 0 := by rw [e11, up3_s, e9, up3_o' (by omega), e7, up3_o' (by omega), e5, up3_o' (by omega), e3, up3_o' (by omega), e1, up3_o' (by omega), l0]
  have nm : ∀ q, q < 6 → nmN M11 q = nmOf (LV N l) m q := by
    intro q hq
    rcases (by omega : q = 0 ∨ q = 1 ∨ q = 2 ∨ q = 3 ∨ q = 4 ∨ q = 5) with rfl | rfl | rfl | rfl | rfl | rfl
    · show wI (M11 10 0 39) = m
      rw [n0, wI_id (by omega) (by omega)]
    · show wI (M11 10 0 40) = LV N l 2
      rw [n1, wI_id (by omega) (by omega)]
    · show wI (M11 10 0 41) = LV N l 3 + 1 - m
      rw [n2, wI_id (by omega) (by omega)]
    · show wI (M11 10 0 42) = LV N l 4
      rw [n3, wI_id (by omega) (by omega)]
    · show wI (M11 10 0 43) = LV N l 1
      rw [n4, wI_id (by omega) (by omega)]
    · show wI (M11 10 0 44) = LV N l 0
      rw [n5, wI_id (by omega) (by omega)]
  rw [f 10 0 27 (by omega), h27]
  have D40 : Dp 0 0 ≤ 40 := by decide
  have ok3 : (lw0 b sz).1 = true ∧ (lw1 b sz).1 = true ∧ (lw2 b sz).1 = true := by
    unfold lawR at ok
    by_cases a0 : (lw0 b sz).1 = true
    · rw [if_pos a0] at ok
      by_cases a1 : (lw1 b sz).1 = true
      · rw [if_pos a1] at ok
        by_cases a2 : (lw2 b sz).1 = true
        · exact ⟨a0, a1, a2⟩
        · rw [if_neg a2] at ok; cases ok
      · rw [if_neg a1] at ok; cases ok
    · rw [if_neg a0] at ok; cases ok
  have g0 := Good_L (b := b) (sz := sz) (w := kW 0) (p := 0) (Nat.zero_le _) ok3.1
  have g1 := Good_L (b := b) (sz := sz) (w := kW 1) (p := (lw0 b sz).2.1) g0.1 ok3.2.1
  have g2 := Good_L (b := b) (sz := sz) (w := kW 2) (p := (lw1 b sz).2.1) g1.1 ok3.2.2
  refine m_read (sz := sz) (b := b) (by omega) hp (by rw [f _ _ _ (by omega), h58, hs]) hsz (fun j hj => by rw [f _ _ _ (by omega), h57 j (by omega)]; exact htx j hj) (fun _ x N' E' hx _ _ => k x N' ?_ (E.tr E')) (fun e => by rw [ok] at e; cases e)
  rw [hx]
  unfold lawV
  have okc : okI (if part = 0 then (lw0 b sz).2.2 else if part = 1 then (lw1 b sz).2.2 else (lw2 b sz).2.2) := by
    split
    · exact Rm_okI D40 g0.2.2.2.2
    · split
      · exact Rm_okI D40 g1.2.2.2.2
      · exact Rm_okI D40 g2.2.2.2.2
  exact nm_val nm okc
end ML
