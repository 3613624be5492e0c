/-! the reference reads a text, and reckons as it reads -/
def MSt (b : Nat → Int) (sz fr p o : Nat) (N : NN) : Prop := TM b sz fr p N ∧ N 10 0 37 = 0 ∧ N 10 0 36 = (o : Int)
def nmN (N : NN) : Nat → Int := fun q => wI (N 10 0 (39 + q))
def CNM (b : Nat → Int) (sz fr o : Nat) (r : RES) (N : NN) (K : Int → NN → Prop) : Prop :=
  (r.1 = true → ∀ x N', FrP N N' → MSt b sz fr r.2.1 o N' → wI x = valO (nmN N) r.2.2 → K x N') ∧ (r.1 = false → ∀ x N', FrP N N' → BAD r.2.1 N' → K x N')
def LMn (o : Nat) : Nat := 6 * (5 - o) + 4
section MP
variable {G : GT} {b : Nat → Int} {sz fr : Nat}
theorem nmN_P {N N' : NN} (f : FrP N N') : ∀ q, q < 6 → nmN N' q = nmN N q := fun q hq => by
  unfold nmN
  rw [f _ _ _ (by omega)]
theorem nm_stp {nm nm' : Nat → Int} (h : ∀ q, q < 6 → nm q = nm' q) {i : Int} (hi : i < 10006 ∨ 20000 ≤ i) (st : List Int) : stp nm st i = stp nm' st i := by
  unfold stp
  split
  · rfl
  · split
    · rfl
    · split
      · rfl
      · rw [h _ (by omega)]
def okI (c : List Int) : Prop := ∀ i ∈ c, i < 10006 ∨ 20000 ≤ i
theorem nm_rn {nm nm' : Nat → Int} (h : ∀ q, q < 6 → nm q = nm' q) : ∀ (c st : List Int), okI c → rn nm c st = rn nm' c st
  | [], _, _ => rfl
  | i :: c, st, ho => by
    show rn nm c (stp nm st i) = rn nm' c (stp nm' st i)
    rw [nm_stp h (ho i List.mem_cons_self), nm_rn h c _ (fun j hj => ho j (List.mem_cons_of_mem _ hj))]
theorem nm_val {nm nm' : Nat → Int} (h : ∀ q, q < 6 → nm q = nm' q) {c : List Int} (ho : okI c) : valO nm c = valO nm' c := by
  unfold valO
  rw [nm_rn h c [] ho]
theorem dOK_okI : ∀ (c : List Int) (n : Nat), dOK n c → okI c
  | [], _, _ => fun i hi => by cases hi
  | i :: c, n, h => by
    unfold dOK at h
    intro j hj
    rcases List.mem_cons.mp hj with rfl | hj
    · split at h
      · omega
      · split at h
        · omega
        · omega
    · split at h
      · exact dOK_okI c _ h.2 j hj
      · split at h
        · exact dOK_okI c _ h.2.2 j hj
        · exact dOK_okI c _ h.2.2.2 j hj
theorem Rm_okI {c : List Int} {m0 : Nat} (hm : m0 ≤ 40) (R : Rm m0 c) : okI c := dOK_okI c 0 (dOK_of hm R)
theorem Dp_le {lvl o : Nat} : Dp lvl o ≤ 31 := by unfold Dp; omega
theorem MSt_sz {p o : Nat} {N : NN} (h : MSt b sz fr p o N) : p ≤ sz ∧ sz ≤ 160 := ⟨h.1.2.1, h.1.1.2.2.2.1⟩
theorem MSt.on {N N' : NN} {p q o : Nat} (h : MSt b sz fr p o N) (f : FrU N N') (c : TM b sz fr q N') : MSt b sz fr q o N' := ⟨c, by rw [f _ _ _ (by omega)]; exact h.2.1, by rw [f _ _ _ (by omega)]; exact h.2.2⟩
theorem TM.kp {N N' : NN} {p : Nat} (h : TM b sz fr p N) (f : ∀ c i k, ¬ (c = 10 ∧ i = 0 ∧ 36 ≤ k) → N' c i k = N c i k) : TM b sz fr p N' := by
  obtain ⟨⟨t1, t2, t3, t4, t5⟩, h2, h3, h4, h5, h6⟩ := h
  exact ⟨⟨by rw [f _ _ _ (by omega)]; exact t1, by rw [f _ _ _ (by omega)]; exact t2, t3, t4, fun j hj => by rw [f _ _ _ (by omega)]; exact t5 j hj⟩, h2, by rw [f _ _ _ (by omega)]; exact h3, by rw [f _ _ _ (by omega)]; exact h4, fun q => by rw [f _ _ _ (by omega)]; exact h5 q, fun q r => by rw [f _ _ _ (by omega)]; exact h6 q r⟩
theorem s_mOpens {K : Int → NN → Prop} {N : NN} {p o : Nat} (ho : o ≤ 5) (h : MSt b sz fr p o N) (h4 : tT b sz p ≠ 4) (k1 : ¬ 5 ≤ o → ∀ N', FrP N N' → MSt b sz fr (tE b sz p) (o + 1) N' → K 1 N') (k0 : 5 ≤ o → ∀ N', FrP N N' → BAD (tS b sz p) N' → K 0 N') : C_X10_opens G N K := by
  refine vc_X10_opens ?_
  rw [h.2.2, wI_id (x := (o : Int)) (by omega) (by omega)]
  refine ⟨fun q M1 e1 => ?_, fun q => s_fail h.1 h.2.1 fun N' f bd _ => k0 (by omega) N' f bd⟩
  have f1 : ∀ c i k, ¬ (c = 10 ∧ i = 0 ∧ k = 36) → M1 c i k = N c i k := fun c i k a => by rw [e1]; exact up3_o' (by omega)
  refine s_mOn (h.1.kp fun c i k a => f1 _ _ _ (by omega)) h4 fun N' f' T' => k1 (by omega) N' (fun c i k a => by rw [f' _ _ _ (by omega), f1 _ _ _ (by omega)]) ⟨T', by rw [f' _ _ _ (by omega), f1 _ _ _ (by omega)]; exact h.2.1, ?_⟩
  rw [f' _ _ _ (by omega), e1, up3_s]
  omega
/-- one less open -/
theorem s_less {N M : NN} {p o : Nat} (h : MSt b sz fr p (o + 1) N) (e : M = up3 N 10 0 36 (N 10 0 36 - 1)) : FrP N M ∧ MSt b sz fr p o M := by
  have f1 : ∀ c i k, ¬ (c = 10 ∧ i = 0 ∧ k = 36) → M c i k = N c i k := fun c i k a => by rw [e]; exact up3_o' (by omega)
  refine ⟨fun c i k a => f1 _ _ _ (by omega), h.1.kp fun c i k a => f1 _ _ _ (by omega), by rw [f1 _ _ _ (by omega)]; exact h.2.1, ?_⟩
  rw [e, up3_s, h.2.2]
  omega
theorem s_lessB {N M : NN} {q : Nat} (h : BAD q N) (e : M = up3 N 10 0 36 (N 10 0 36 - 1)) : FrP N M ∧ BAD q M := by
  have f1 : ∀ c i k, ¬ (c = 10 ∧ i = 0 ∧ k = 36) → M c i k = N c i k := fun c i k a => by rw [e]; exact up3_o' (by omega)
  exact ⟨fun c i k a => f1 _ _ _ (by omega), by rw [f1 _ _ _ (by omega)]; exact h.1, by rw [f1 _ _ _ (by omega)]; exact h.2⟩
theorem s_name {K : Int → NN → Prop} {N : NN} {p o : Nat} (h : MSt b sz fr p o N) (t1 : tT b sz p = 1) (k1 : nmX (tV b sz p) ≠ -1 → ∀ x, wI x = nmN N (nmX (tV b sz p)).toNat → K x N) (k0 : nmX (tV b sz p) = -1 → ∀ N', FrP N N' → BAD (tS b sz p) N' → K 0 N') : C_X10_name G N K := by
  unfold nmX at k1 k0
  refine vc_X10_name (s_isWord (by decide) h.1 h.2.1 ?_)
  by_cases g0 : 7214732 = tV b sz p
  · rw [bI_t ⟨t1, g0.symm⟩, wlitI (by decide) (by decide)]
    rw [if_pos g0] at k1
    exact ⟨fun q => absurd q (by decide), fun _ => k1 (by decide) _ rfl⟩
  · rw [bI_f (fun q => g0 q.2.symm), wlitI (by decide) (by decide)]
    rw [if_neg g0] at k1 k0
    refine ⟨fun _ => s_isWord (by decide) h.1 h.2.1 ?_, fun q => absurd rfl q⟩
    by_cases g1 : 355568 = tV b sz p
    · rw [bI_t ⟨t1, g1.symm⟩, wlitI (by decide) (by decide)]
      rw [if_pos g1] at k1
      exact ⟨fun q => absurd q (by decide), fun _ => k1 (by decide) _ rfl⟩
    · rw [bI_f (fun q => g1 q.2.symm), wlitI (by decide) (by decide)]
      rw [if_neg g1] at k1 k0
      refine ⟨fun _ => s_isWord (by decide) h.1 h.2.1 ?_, fun q => absurd rfl q⟩
      by_cases g2 : 240023 = tV b sz p
      · rw [bI_t ⟨t1, g2.symm⟩, wlitI (by decide) (by decide)]
        rw [if_pos g2] at k1
        exact ⟨fun q => absurd q (by decide), fun _ => k1 (by decide) _ rfl⟩
      · rw [bI_f (fun q => g2 q.2.symm), wlitI (by decide) (by decide)]
        rw [if_neg g2] at k1 k0
        refine ⟨fun _ => s_isWord (by decide) h.1 h.2.1 ?_, fun q => absurd rfl q⟩
        by_cases g3 : 312151 = tV b sz p
        · rw [bI_t ⟨t1, g3.symm⟩, wlitI (by decide) (by decide)]
          rw [if_pos g3] at k1
          exact ⟨fun q => absurd q (by decide), fun _ => k1 (by decide) _ rfl⟩
        · rw [bI_f (fun q => g3 q.2.symm), wlitI (by decide) (by decide)]
          rw [if_neg g3] at k1 k0
          refine ⟨fun _ => s_isWord (by decide) h.1 h.2.1 ?_, fun q => absurd rfl q⟩
          by_cases g4 : 795597152 = tV b sz p
          · rw [bI_t ⟨t1, g4.symm⟩, wlitI (by decide) (by decide)]
            rw [if_pos g4] at k1
            exact ⟨fun q => absurd q (by decide), fun _ => k1 (by decide) _ rfl⟩
          · rw [bI_f (fun q => g4 q.2.symm), wlitI (by decide) (by decide)]
            rw [if_neg g4] at k1 k0
            refine ⟨fun _ => s_isWord (by decide) h.1 h.2.1 ?_, fun q => absurd rfl q⟩
            by_cases g5 : 223456 = tV b sz p
            · rw [bI_t ⟨t1, g5.symm⟩, wlitI (by decide) (by decide)]
              rw [if_pos g5] at k1
              exact ⟨fun q => absurd q (by decide), fun _ => k1 (by decide) _ rfl⟩
            · rw [bI_f (fun q => g5 q.2.symm), wlitI (by decide) (by decide)]
              rw [if_neg g5] at k0
              exact ⟨fun _ => s_fail h.1 h.2.1 fun N' f bd _ => k0 rfl N' f bd, fun q => absurd rfl q⟩
/-- statements of the reading with n turns left: level 5 one, 4 term, 3 added, 2 not, 1 both, 0 either -/
def CTR (G : GT) (lvl L : Nat) (N : NN) (K : Int → NN → Prop) : Prop :=
  if lvl = 0 then C_X10_either G L N K else if lvl = 1 then C_X10_both G L N K else if lvl = 2 then C_X10_not G L N K else if lvl = 3 then C_X10_added G L N K else if lvl = 4 then C_X10_term G L N K else C_X10_one G L N K
def MST (G : GT) (b : Nat → Int) (sz fr n lvl : Nat) : Prop := ∀ (p o L : Nat) (N : NN) (K : Int → NN → Prop), o ≤ 5 → ned lvl o ≤ n → LMn o + (5 - lvl) ≤ L → MSt b sz fr p o N → CNM b sz fr o (pE b sz n lvl p o) N K → CTR G lvl L N K
theorem m_one {n : Nat} (h5 : MST G b sz fr n 5) (h0 : MST G b sz fr n 0) : MST G b sz fr (n + 1) 5 := by
  intro p o L N K ho hn hL S C
  have sz2 := MSt_sz S
  unfold LMn at hL
  unfold pE at C
  rw [if_neg (by decide), if_pos (by decide)] at C
  show C_X10_one G L N K
  refine vc_X10_one ⟨by omega, s_mIsSign (by decide) S.1 S.2.1 ?_⟩
  by_cases w : isS b sz p 45
  · rw [if_pos w] at C
    rw [bI_t w, wlitI (by decide) (by decide)]
    refine ⟨fun x => absurd x (by decide), fun _ => ⟨by omega, s_mOpens ho S (by have := w.1; omega) (fun o5 N1 f1 S1 => ?_) (fun o5 N1 f1 bd => ?_)⟩⟩
    · rw [if_neg o5] at C
      rw [wlitI (by decide) (by decide)]
      refine ⟨fun x => absurd x (by decide), fun _ => ⟨L - 1, by omega, ?_⟩⟩
      have gd := Good_E (b := b) (sz := sz) n 5 (tE b sz p) (o + 1) (by omega) (by decide) (tE_le sz2.1)
      refine h5 (tE b sz p) (o + 1) (L - 1) N1 _ (by omega) (by unfold ned at *; omega) (by unfold LMn; omega) S1 ⟨fun e x N2 f2 S2 hx => ?_, fun e x N2 f2 bd => ?_⟩
      · rw [if_pos e] at C
        obtain ⟨q1, q2, q3, q4, q5⟩ := gd e
        intro M7 e7
        obtain ⟨f7, S7⟩ := s_less S2 e7
        refine C.1 rfl _ M7 ((f1.tr f2).tr f7) S7 ?_
        rw [Vl_val (un_val (.inr rfl) q4 (nmN N)), ← nm_val (nmN_P f1) (Rm_okI (by have := Dp_le (lvl := 5) (o := o + 1); omega) q5), ← hx]
        unfold unS
        rw [if_pos rfl, wI_ng]
      · have e' : ¬ (pE b sz n 5 (tE b sz p) (o + 1)).1 = true := by rw [e]; decide
        rw [if_neg e'] at C
        intro M7 e7
        obtain ⟨f7, B7⟩ := s_lessB bd e7
        exact C.2 e _ M7 ((f1.tr f2).tr f7) B7
    · rw [if_pos o5] at C
      rw [wlitI (by decide) (by decide)]
      exact ⟨fun _ => C.2 rfl _ N1 f1 bd, fun x => absurd rfl x⟩
  · rw [if_neg w] at C
    rw [bI_f w, wlitI (by decide) (by decide)]
    refine ⟨fun _ => ⟨by omega, s_mIsSign (by decide) S.1 S.2.1 ?_⟩, fun x => absurd rfl x⟩
    by_cases w2 : isS b sz p 40
    · rw [if_pos w2] at C
      rw [bI_t w2, wlitI (by decide) (by decide)]
      refine ⟨fun x => absurd x (by decide), fun _ => ⟨by omega, s_mOpens ho S (by have := w2.1; omega) (fun o5 N1 f1 S1 => ?_) (fun o5 N1 f1 bd => ?_)⟩⟩
      · rw [if_neg o5] at C
        rw [wlitI (by decide) (by decide)]
        refine ⟨fun x => absurd x (by decide), fun _ => ⟨L - 1, by omega, ?_⟩⟩
        have gd := Good_E (b := b) (sz := sz) n 0 (tE b sz p) (o + 1) (by omega) (by decide) (tE_le sz2.1)
        refine h0 (tE b sz p) (o + 1) (L - 1) N1 _ (by omega) (by unfold ned at *; omega) (by unfold LMn; omega) S1 ⟨fun e x N2 f2 S2 hx => ?_, fun e x N2 f2 bd => ?_⟩
        · rw [if_pos e] at C
          obtain ⟨q1, q2, q3, q4, q5⟩ := gd e
          refine ⟨by omega, s_mIsSign (by decide) S2.1 S2.2.1 ?_⟩
          by_cases s : isS b sz (pE b sz n 0 (tE b sz p) (o + 1)).2.1 41
          · rw [if_pos s] at C
            rw [bI_t s, wlitI (by decide) (by decide)]
            refine ⟨fun _ M7 e7 => ?_, fun x => absurd (by decide) x⟩
            obtain ⟨f7, S7⟩ := s_less S2 e7
            rw [S7.2.1, wlitI (by decide) (by decide)]
            refine ⟨fun y => absurd rfl y, fun _ => ⟨by omega, s_mOn S7.1 (by have := s.1; omega) fun N8 f8 T8 => C.1 rfl x N8 (((f1.tr f2).tr f7).tr f8.toP) (S7.on f8 T8) ?_⟩⟩
            rw [hx]
            exact nm_val (nmN_P f1) (Rm_okI (by have := Dp_le (lvl := 0) (o := o + 1); omega) q5)
          · rw [if_neg s] at C
            rw [bI_f s, wlitI (by decide) (by decide)]
            refine ⟨fun y => absurd rfl y, fun _ => ⟨by omega, s_fail S2.1 S2.2.1 fun N9 f9 bd9 _ M10 e10 => ?_⟩⟩
            obtain ⟨f10, B10⟩ := s_lessB bd9 e10
            rw [B10.1, wlitI (by decide) (by decide)]
            exact ⟨fun _ => C.2 rfl x M10 (((f1.tr f2).tr f9).tr f10) B10, fun y => absurd (by decide) y⟩
        · have e' : ¬ (pE b sz n 0 (tE b sz p) (o + 1)).1 = true := by rw [e]; decide
          rw [if_neg e'] at C
          refine ⟨by omega, s_mIsSignB bd.1 ?_⟩
          rw [wlitI (by decide) (by decide)]
          refine ⟨fun y => absurd rfl y, fun _ => ⟨by omega, s_failB bd.1 fun M10 e10 => ?_⟩⟩
          obtain ⟨f10, B10⟩ := s_lessB bd e10
          rw [B10.1, wlitI (by decide) (by decide)]
          exact ⟨fun _ => C.2 e x M10 ((f1.tr f2).tr f10) B10, fun y => absurd (by decide) y⟩
      · rw [if_pos o5] at C
        rw [wlitI (by decide) (by decide)]
        exact ⟨fun _ => C.2 rfl _ N1 f1 bd, fun x => absurd rfl x⟩
    · rw [if_neg w2] at C
      rw [bI_f w2, S.2.1, S.1.2.2.2.1, wlitI (by decide) (by decide)]
      have r := tT_rng (b := b) (sz := sz) (p := p)
      rw [wI_id (x := tT b sz p) (by omega) (by omega)]
      have at123 : tT b sz p ≠ 2 → W_X10_one G L K 123 [(0, vR 10 0), (1, vI 0)] [] N := by
        intro n2
        rw [if_neg n2] at C
        refine vc_X10_one_123 ?_
        rw [S.2.1, S.1.2.2.2.1, wlitI (by decide) (by decide), wI_id (x := tT b sz p) (by omega) (by omega)]
        refine ⟨fun y => absurd rfl y, fun _ => ⟨fun n1 => ⟨by omega, s_fail S.1 S.2.1 fun N' f bd _ => ?_⟩, fun y1 => ⟨by omega, s_name S (by omega) (fun nn x hx => ?_) (fun nn N' f bd => ?_)⟩⟩⟩
        · rw [if_neg (fun q => n1 q.1)] at C
          exact C.2 rfl _ N' f bd
        · have t1 : tT b sz p = 1 := by omega
          rw [if_pos ⟨t1, nn⟩] at C
          rw [S.2.1, wlitI (by decide) (by decide)]
          refine ⟨fun y => absurd rfl y, fun _ => ⟨by omega, s_mOn S.1 (by omega) fun N4 f4 T4 => C.1 rfl x N4 f4.toP (S.on f4 T4) ?_⟩⟩
          have rr := nmX_rng (v := tV b sz p)
          rw [Vl_val (Vl_1 (by omega) (by omega) (nmN N)), if_neg (by omega), hx, show (10000 + nmX (tV b sz p) - 10000).toNat = (nmX (tV b sz p)).toNat by omega]
        · rw [if_neg (fun q => q.2 nn)] at C
          rw [bd.1, wlitI (by decide) (by decide)]
          exact ⟨fun _ => C.2 rfl _ N' f bd, fun y => absurd (by decide) y⟩
      refine ⟨fun _ => ⟨fun y => absurd rfl y, fun _ => ⟨at123, fun y2 => ⟨by omega, ?_⟩⟩⟩, fun y => absurd rfl y⟩
      have t2 : tT b sz p = 2 := by omega
      rw [if_pos t2] at C
      have vr := num_rng t2
      rw [S.1.2.2.2.2.2 (by omega) (by omega)]
      refine s_mOn S.1 (by omega) fun N3 f3 T3 => C.1 rfl _ N3 f3.toP (S.on f3 T3) ?_
      rw [Vl_val (Vl_1 vr.1 (by omega) (nmN N)), if_pos (by omega), wI_id (by omega) (by omega)]
/-- a chain: what goes on in its loop, by any walk W of it -/
theorem m_loop {n lvl o : Nat} {N0 : NN} {K : Int → NN → Prop} {W : Int → NN → Prop} {sub : NN → (Int → NN → Prop) → Prop} (ho : o ≤ 5) (hl : lvl + 1 ≤ 5)
    (hsub : ∀ (q : Nat) (N : NN) (K' : Int → NN → Prop), MSt b sz fr q o N → CNM b sz fr o (pE b sz n (lvl + 1) q o) N K' → sub N K')
    (stop : ∀ (p1 : Nat) (l1 : Int) (N1 : NN), MSt b sz fr p1 o N1 → sgn b sz lvl p1 = -1 → K l1 N1 → W l1 N1)
    (go : ∀ (p1 : Nat) (l1 : Int) (N1 : NN), MSt b sz fr p1 o N1 → sgn b sz lvl p1 ≠ -1 → (∀ N2, FrU N1 N2 → MSt b sz fr (tE b sz p1) o N2 → sub N2 (fun x N3 => ∀ y, wI y = jnS (sgn b sz lvl p1) (wI l1) (wI x) → W y N3)) → W l1 N1)
    (bad : ∀ (l1 : Int) (N1 : NN), N1 10 0 37 = 1 → K l1 N1 → W l1 N1) :
    ∀ (k i p1 : Nat) (acc : List Int) (l1 : Int) (N1 : NN), i + k = 160 → i ≤ tS b sz p1 → FrP N0 N1 → MSt b sz fr p1 o N1 → wI l1 = valO (nmN N0) acc → Vl acc → CNM b sz fr o (pC (sgn b sz lvl) (tE b sz) (fun q => pE b sz n (lvl + 1) q o) k p1 acc) N0 K → W l1 N1 := by
  intro k
  induction k with
  | zero =>
    intro i p1 acc l1 N1 hi ht f S hx hV C
    have z := MSt_sz S
    have l := tS_le (b := b) z.1
    have t0 : tT b sz p1 = 0 := by unfold tT; rw [if_pos (by omega)]
    have sg : sgn b sz lvl p1 = -1 := by
      by_cases h : sgn b sz lvl p1 = -1
      · exact h
      · exact absurd t0 (sgn_ok h).1
    exact stop p1 l1 N1 S sg (C.1 rfl l1 N1 f S hx)
  | succ k ih =>
    intro i p1 acc l1 N1 hi ht f S hx hV C
    have z := MSt_sz S
    unfold pC at C
    by_cases sg : sgn b sz lvl p1 = -1
    · rw [if_pos sg] at C
      exact stop p1 l1 N1 S sg (C.1 rfl l1 N1 f S hx)
    · rw [if_neg sg] at C
      obtain ⟨s0, s4, s1, s2, s3⟩ := sgn_ok sg
      have nx := tS_nx s0
      have gd := Good_E (b := b) (sz := sz) n (lvl + 1) (tE b sz p1) o ho hl (tE_le z.1)
      refine go p1 l1 N1 S sg (fun N2 f2 S2 => hsub (tE b sz p1) N2 _ S2 ⟨fun e x N3 f3 S3 hx3 => ?_, fun e x N3 f3 bd => ?_⟩)
      · rw [if_pos e] at C
        obtain ⟨q1, q2, q3, q4, q5⟩ := gd e
        intro y hy
        refine ih (i + 1) _ (acc ++ (pE b sz n (lvl + 1) (tE b sz p1) o).2.2 ++ [sgn b sz lvl p1]) y N3 (by omega) (by omega) ((f.tr f2.toP).tr f3) S3 ?_ (Vl_of fun nm => ⟨_, jn_val ⟨s3, by omega⟩ s1 hV q4 nm⟩) C
        rw [hy, Vl_val (jn_val ⟨s3, by omega⟩ s1 hV q4 (nmN N0)), hx, hx3]
        rw [nm_val (nmN_P (f.tr f2.toP)) (Rm_okI (by have := Dp_le (lvl := lvl + 1) (o := o); omega) q5)]
      · have e' : ¬ (pE b sz n (lvl + 1) (tE b sz p1) o).1 = true := by rw [e]; decide
        rw [if_neg e'] at C
        intro y _
        exact bad y N3 bd.1 (C.2 e y N3 ((f.tr f2.toP).tr f3) bd)
/-- a chain, from its first operand on -/
theorem m_chain {n lvl o p : Nat} {N : NN} {K : Int → NN → Prop} {W : Int → NN → Prop} {sub : NN → (Int → NN → Prop) → Prop} (ho : o ≤ 5) (hl : lvl + 1 ≤ 5) (h2 : lvl ≠ 2) (S : MSt b sz fr p o N) (C : CNM b sz fr o (pE b sz (n + 1) lvl p o) N K)
    (hsub : ∀ (q : Nat) (N : NN) (K' : Int → NN → Prop), MSt b sz fr q o N → CNM b sz fr o (pE b sz n (lvl + 1) q o) N K' → sub N K')
    (stop : ∀ (p1 : Nat) (l1 : Int) (N1 : NN), MSt b sz fr p1 o N1 → sgn b sz lvl p1 = -1 → K l1 N1 → W l1 N1)
    (go : ∀ (p1 : Nat) (l1 : Int) (N1 : NN), MSt b sz fr p1 o N1 → sgn b sz lvl p1 ≠ -1 → (∀ N2, FrU N1 N2 → MSt b sz fr (tE b sz p1) o N2 → sub N2 (fun x N3 => ∀ y, wI y = jnS (sgn b sz lvl p1) (wI l1) (wI x) → W y N3)) → W l1 N1)
    (bad : ∀ (l1 : Int) (N1 : NN), N1 10 0 37 = 1 → K l1 N1 → W l1 N1) : sub N W := by
  have z := MSt_sz S
  unfold pE at C
  rw [if_neg h2, if_neg (by omega)] at C
  have gd := Good_E (b := b) (sz := sz) n (lvl + 1) p o ho hl z.1
  refine hsub p N W S ⟨fun e x N1 f1 S1 hx => ?_, fun e x N1 f1 bd => ?_⟩
  · rw [if_pos e] at C
    obtain ⟨q1, q2, q3, q4, q5⟩ := gd e
    exact m_loop ho hl hsub stop go bad 160 0 _ _ x N1 rfl (Nat.zero_le _) f1 S1 hx q4 C
  · have e' : ¬ (pE b sz n (lvl + 1) p o).1 = true := by rw [e]; decide
    rw [if_neg e'] at C
    exact bad x N1 bd.1 (C.2 e x N1 f1 bd)
theorem m_term {n : Nat} (h5 : MST G b sz fr n 5) : MST G b sz fr (n + 1) 4 := by
  intro p o L N K ho hn hL S C
  unfold LMn at hL
  show C_X10_term G L N K
  refine vc_X10_term ⟨L - 1, by omega, ?_⟩
  refine m_chain (sub := fun N K => C_X10_one G (L - 1) N K) (W := fun x1 N1 => W_X10_term G L K 5 [(0, vR 10 0), (1, vI x1)] [] N1) ho (by decide) (by decide) S C (fun q N K' S' C' => h5 q o (L - 1) N K' ho (by unfold ned at *; omega) (by unfold LMn; omega) S' C') (fun p1 l1 N1 S1 sg k => ?_) (fun p1 l1 N1 S1 sg k => ?_) (fun l1 N1 bd k => ?_)
  · have no : ¬ isS b sz p1 42 := fun q => by unfold sgn at sg; rw [if_neg (by decide), if_neg (by decide), if_neg (by decide), if_neg (by decide), if_pos q] at sg; exact absurd sg (by decide)
    refine vc_X10_term_5 ⟨by omega, s_mIsSign (by decide) S1.1 S1.2.1 ?_⟩
    rw [bI_f no, wlitI (by decide) (by decide)]
    exact ⟨fun _ => k, fun q => absurd rfl q⟩
  · have yes : isS b sz p1 42 := by
      by_cases q : isS b sz p1 42
      · exact q
      · exact absurd (by unfold sgn; rw [if_neg (by decide), if_neg (by decide), if_neg (by decide), if_neg (by decide), if_neg q]) sg
    have es : sgn b sz 4 p1 = 20007 := by unfold sgn; rw [if_neg (by decide), if_neg (by decide), if_neg (by decide), if_neg (by decide), if_pos yes]
    rw [es] at k
    refine vc_X10_term_5 ⟨by omega, s_mIsSign (by decide) S1.1 S1.2.1 ?_⟩
    rw [bI_t yes, wlitI (by decide) (by decide)]
    refine ⟨fun q => absurd q (by decide), fun _ => ⟨by omega, s_mOn S1.1 (by have := yes.1; omega) fun N2 f2 T2 => ⟨L - 1, by omega, BC_monoI (k N2 f2 (S1.on f2 T2)) fun x N' h => h _ (by show _ = wI (wI l1 * wI x); rw [wI_ml])⟩⟩⟩
  · refine vc_X10_term_5 ⟨by omega, s_mIsSignB bd ?_⟩
    rw [wlitI (by decide) (by decide)]
    exact ⟨fun _ => k, fun q => absurd rfl q⟩
theorem m_added {n : Nat} (h4 : MST G b sz fr n 4) : MST G b sz fr (n + 1) 3 := by
  intro p o L N K ho hn hL S C
  unfold LMn at hL
  show C_X10_added G L N K
  refine vc_X10_added ⟨L - 1, by omega, ?_⟩
  refine m_chain (sub := fun N K => C_X10_term G (L - 1) N K) (W := fun x1 N1 => W_X10_added G L K 5 [(0, vR 10 0), (1, vI x1)] [] N1) ho (by decide) (by decide) S C (fun q N K' S' C' => h4 q o (L - 1) N K' ho (by unfold ned at *; omega) (by unfold LMn; omega) S' C') (fun p1 l1 N1 S1 sg k => ?_) (fun p1 l1 N1 S1 sg k => ?_) (fun l1 N1 bd k => ?_)
  · have e3 : sgn b sz 3 p1 = if isS b sz p1 43 then 20005 else if isS b sz p1 45 then 20006 else -1 := rfl
    rw [e3] at sg
    have n1 : ¬ isS b sz p1 43 := fun q => by rw [if_pos q] at sg; exact absurd sg (by decide)
    rw [if_neg n1] at sg
    have n2 : ¬ isS b sz p1 45 := fun q => by rw [if_pos q] at sg; exact absurd sg (by decide)
    refine vc_X10_added_5 ⟨by omega, s_mIsSign (by decide) S1.1 S1.2.1 ?_⟩
    rw [bI_f n1, wlitI (by decide) (by decide)]
    refine ⟨fun q => absurd rfl q, fun _ => ⟨by omega, s_mIsSign (by decide) S1.1 S1.2.1 ?_⟩⟩
    rw [bI_f n2, wlitI (by decide) (by decide)]
    exact ⟨fun _ => k, fun q => absurd rfl q⟩
  · have e3 : sgn b sz 3 p1 = if isS b sz p1 43 then 20005 else if isS b sz p1 45 then 20006 else -1 := rfl
    refine vc_X10_added_5 ⟨by omega, s_mIsSign (by decide) S1.1 S1.2.1 ?_⟩
    by_cases y1 : isS b sz p1 43
    · rw [e3, if_pos y1] at k
      rw [bI_t y1, wlitI (by decide) (by decide), S1.1.2.2.2.2.2 (t3_0 y1) (by have := y1.1; omega), y1.2, wL_id (x := 43) (by decide) (by decide)]
      refine ⟨fun _ => ⟨fun q => absurd rfl q, fun _ => ⟨by omega, s_mOn S1.1 (by have := y1.1; omega) fun N2 f2 T2 => ⟨L - 1, by omega, BC_monoI (k N2 f2 (S1.on f2 T2)) fun x N' h => h _ (by show _ = wI (wI l1 + wI x); rw [wI_ad])⟩⟩⟩, fun q => absurd (by decide) q⟩
    · rw [bI_f y1, wlitI (by decide) (by decide)]
      refine ⟨fun q => absurd rfl q, fun _ => ⟨by omega, s_mIsSign (by decide) S1.1 S1.2.1 ?_⟩⟩
      rw [e3, if_neg y1] at k sg
      have y2 : isS b sz p1 45 := by
        by_cases q : isS b sz p1 45
        · exact q
        · rw [if_neg q] at sg
          exact absurd rfl sg
      rw [if_pos y2] at k
      rw [bI_t y2, wlitI (by decide) (by decide), S1.1.2.2.2.2.2 (t3_0 y2) (by have := y2.1; omega), y2.2, wL_id (x := 45) (by decide) (by decide)]
      refine ⟨fun q => absurd q (by decide), fun _ => ⟨fun _ => ⟨by omega, s_mOn S1.1 (by have := y2.1; omega) fun N2 f2 T2 => ⟨L - 1, by omega, BC_monoI (k N2 f2 (S1.on f2 T2)) fun x N' h => h _ (by show _ = wI (wI l1 - wI x); rw [wI_sb])⟩⟩, fun q => absurd (by decide) q⟩⟩
  · refine vc_X10_added_5 ⟨by omega, s_mIsSignB bd ?_⟩
    rw [wlitI (by decide) (by decide)]
    refine ⟨fun q => absurd rfl q, fun _ => ⟨by omega, s_mIsSignB bd ?_⟩⟩
    rw [wlitI (by decide) (by decide)]
    exact ⟨fun _ => k, fun q => absurd rfl q⟩
theorem m_not {n : Nat} (h3 : MST G b sz fr n 3) (h2 : MST G b sz fr n 2) : MST G b sz fr (n + 1) 2 := by
  intro p o L N K ho hn hL S C
  have sz2 := MSt_sz S
  unfold LMn at hL
  unfold pE at C
  rw [if_pos rfl] at C
  show C_X10_not G L N K
  refine vc_X10_not ⟨by omega, s_isWord (by decide) S.1 S.2.1 ?_⟩
  by_cases w : isW b sz p 10631
  · rw [if_pos w] at C
    rw [bI_t w, wlitI (by decide) (by decide)]
    refine ⟨fun x => absurd x (by decide), fun _ => ⟨by omega, s_mOpens ho S (by have := w.1; omega) (fun o5 N1 f1 S1 => ?_) (fun o5 N1 f1 bd => ?_)⟩⟩
    · rw [if_neg o5] at C
      rw [wlitI (by decide) (by decide)]
      refine ⟨fun _ => ⟨L - 1, by omega, ?_⟩, fun x => absurd (by decide) x⟩
      have gd := Good_E (b := b) (sz := sz) n 2 (tE b sz p) (o + 1) (by omega) (by decide) (tE_le sz2.1)
      refine h2 (tE b sz p) (o + 1) (L - 1) N1 _ (by omega) (by unfold ned at *; omega) (by unfold LMn; omega) S1 ⟨fun e x N2 f2 S2 hx => ?_, fun e x N2 f2 bd => ?_⟩
      · rw [if_pos e] at C
        obtain ⟨q1, q2, q3, q4, q5⟩ := gd e
        intro M7 e7
        obtain ⟨f7, S7⟩ := s_less S2 e7
        have val : valO (nmN N) ((pE b sz n 2 (tE b sz p) (o + 1)).2.2 ++ [20002]) = if wI x = 0 then 1 else 0 := by
          rw [Vl_val (un_val (.inl rfl) q4 (nmN N)), ← nm_val (nmN_P f1) (Rm_okI (by have := Dp_le (lvl := 2) (o := o + 1); omega) q5), ← hx]
          rfl
        refine ⟨fun q => C.1 rfl _ M7 ((f1.tr f2).tr f7) S7 ?_, fun q => C.1 rfl _ M7 ((f1.tr f2).tr f7) S7 ?_⟩
        · rw [val, if_neg q]
          rfl
        · rw [val, if_pos (Decidable.not_not.mp q)]
          rfl
      · have e' : ¬ (pE b sz n 2 (tE b sz p) (o + 1)).1 = true := by rw [e]; decide
        rw [if_neg e'] at C
        intro M7 e7
        obtain ⟨f7, B7⟩ := s_lessB bd e7
        exact ⟨fun _ => C.2 e _ M7 ((f1.tr f2).tr f7) B7, fun _ => C.2 e _ M7 ((f1.tr f2).tr f7) B7⟩
    · rw [if_pos o5] at C
      rw [wlitI (by decide) (by decide)]
      exact ⟨fun x => absurd rfl x, fun _ => C.2 rfl _ N1 f1 bd⟩
  · rw [if_neg w] at C
    rw [bI_f w, wlitI (by decide) (by decide)]
    refine ⟨fun _ => ⟨L - 1, by omega, ?_⟩, fun x => absurd rfl x⟩
    have gd := Good_E (b := b) (sz := sz) n 3 p o ho (by decide) sz2.1
    refine h3 p o (L - 1) N _ ho (by unfold ned at *; omega) (by unfold LMn; omega) S ⟨fun e x N1 f1 S1 hx => ?_, fun e x N1 f1 bd => ?_⟩
    · rw [if_pos e] at C
      obtain ⟨q1, q2, q3, q4, q5⟩ := gd e
      generalize pE b sz n 3 p o = r at *
      have e2 : sgn b sz 2 r.2.1 = if isS b sz r.2.1 60 then 20003 else if isS b sz r.2.1 61 then 20004 else -1 := rfl
      have at69 : sgn b sz 2 r.2.1 ≠ -1 → W_X10_not G L K 69 [(0, vR 10 0), (1, vI x)] [] N1 := by
        intro s
        rw [if_neg s] at C
        obtain ⟨s0, s4, s1, s2, s3⟩ := sgn_ok s
        have gd2 := Good_E (b := b) (sz := sz) n 3 (tE b sz r.2.1) o ho (by decide) (tE_le q1)
        have vr := tV_rng S1.1.1 s0 s4
        refine vc_X10_not_69 ?_
        rw [S1.1.2.2.2.2.2 s0 s4, wL_id (x := tV b sz r.2.1) (by omega) (by omega)]
        have sub : ∀ (N2 : NN) (K' : Int → NN → Prop), FrU N1 N2 → TM b sz fr (tE b sz r.2.1) N2 → (∀ (x2 : Int) (N3 : NN), (∀ z : Int, wI z = jnS (sgn b sz 2 r.2.1) (wI x) (wI x2) → K z N3) → K' x2 N3) → C_X10_added G (L - 1) N2 K' := by
          intro N2 K' f2 T2 kk
          refine h3 (tE b sz r.2.1) o (L - 1) N2 _ ho (by unfold ned at *; omega) (by unfold LMn; omega) (S1.on f2 T2) ⟨fun d x2 N3 f3 S3 hx2 => kk x2 N3 fun z hz => ?_, fun d x2 N3 f3 bd => kk x2 N3 fun z hz => ?_⟩
          · rw [if_pos d] at C
            obtain ⟨u1, u2, u3, u4, u5⟩ := gd2 d
            refine C.1 rfl z N3 ((f1.tr f2.toP).tr f3) S3 ?_
            rw [hz, Vl_val (jn_val ⟨s3, by omega⟩ s1 q4 u4 (nmN N)), hx, hx2]
            rw [nm_val (nmN_P (f1.tr f2.toP)) (Rm_okI (by have := Dp_le (lvl := 3) (o := o); omega) u5)]
          · have e' : ¬ (pE b sz n 3 (tE b sz r.2.1) o).1 = true := by rw [d]; decide
            rw [if_neg e'] at C
            exact C.2 d z N3 ((f1.tr f2.toP).tr f3) bd
        rw [e2] at sub s
        refine ⟨fun q => ⟨by omega, s_mOn S1.1 s4 fun N2 f2 T2 => ⟨L - 1, by omega, sub N2 _ f2 T2 fun x2 N3 k => ?_⟩⟩, fun q => ⟨by omega, s_mOn S1.1 s4 fun N2 f2 T2 => ⟨L - 1, by omega, sub N2 _ f2 T2 fun x2 N3 k => ?_⟩⟩⟩
        · rw [if_neg (fun c => q c.2)] at k s
          have y : isS b sz r.2.1 61 := by
            by_cases c : isS b sz r.2.1 61
            · exact c
            · rw [if_neg c] at s
              exact absurd rfl s
          rw [if_pos y] at k
          refine ⟨fun h => k 0 ?_, fun h => k 1 ?_⟩
          · show wI 0 = if wI x = wI x2 then 1 else 0
            rw [if_neg h]
            rfl
          · show wI 1 = if wI x = wI x2 then 1 else 0
            rw [if_pos (Decidable.not_not.mp h)]
            rfl
        · have v60 : tV b sz r.2.1 = 60 := Decidable.not_not.mp q
          have y : isS b sz r.2.1 60 := by
            by_cases c : isS b sz r.2.1 60
            · exact c
            · rw [if_neg c] at s
              by_cases c2 : isS b sz r.2.1 61
              · have := c2.2
                omega
              · rw [if_neg c2] at s
                exact absurd rfl s
          rw [if_pos y] at k
          refine ⟨fun h => k 0 ?_, fun h => k 1 ?_⟩
          · show wI 0 = if wI x < wI x2 then 1 else 0
            rw [if_neg (by omega)]
            rfl
          · show wI 1 = if wI x < wI x2 then 1 else 0
            rw [if_pos (by omega)]
            rfl
      refine ⟨by omega, s_mIsSign (by decide) S1.1 S1.2.1 ?_⟩
      by_cases y1 : isS b sz r.2.1 60
      · rw [bI_t y1, wlitI (by decide) (by decide)]
        exact ⟨fun _ => at69 (by rw [e2, if_pos y1]; decide), fun q => absurd (by decide) q⟩
      · rw [bI_f y1, wlitI (by decide) (by decide)]
        refine ⟨fun q => absurd rfl q, fun _ => ⟨by omega, s_mIsSign (by decide) S1.1 S1.2.1 ?_⟩⟩
        by_cases y2 : isS b sz r.2.1 61
        · rw [bI_t y2, wlitI (by decide) (by decide)]
          exact ⟨fun _ => at69 (by rw [e2, if_neg y1, if_pos y2]; decide), fun q => absurd (by decide) q⟩
        · rw [bI_f y2, wlitI (by decide) (by decide)]
          rw [if_pos (by rw [e2, if_neg y1, if_neg y2])] at C
          exact ⟨fun q => absurd rfl q, fun _ => C.1 e x N1 f1 S1 hx⟩
    · have e' : ¬ (pE b sz n 3 p o).1 = true := by rw [e]; decide
      rw [if_neg e'] at C
      refine ⟨by omega, s_mIsSignB bd.1 ?_⟩
      rw [wlitI (by decide) (by decide)]
      refine ⟨fun q => absurd rfl q, fun _ => ⟨by omega, s_mIsSignB bd.1 ?_⟩⟩
      rw [wlitI (by decide) (by decide)]
      exact ⟨fun q => absurd rfl q, fun _ => C.2 e x N1 f1 bd⟩
theorem m_both {n : Nat} (h2 : MST G b sz fr n 2) : MST G b sz fr (n + 1) 1 := by
  intro p o L N K ho hn hL S C
  unfold LMn at hL
  show C_X10_both G L N K
  refine vc_X10_both ⟨L - 1, by omega, ?_⟩
  refine m_chain (sub := fun N K => C_X10_not G (L - 1) N K) (W := fun x1 N1 => W_X10_both G L K 5 [(0, vR 10 0), (1, vI x1)] [] N1) ho (by decide) (by decide) S C (fun q N K' S' C' => h2 q o (L - 1) N K' ho (by unfold ned at *; omega) (by unfold LMn; omega) S' C') (fun p1 l1 N1 S1 sg k => ?_) (fun p1 l1 N1 S1 sg k => ?_) (fun l1 N1 bd k => ?_)
  · have e1 : sgn b sz 1 p1 = if isW b sz p1 1111 then 20001 else -1 := rfl
    rw [e1] at sg
    have n1 : ¬ isW b sz p1 1111 := fun q => by rw [if_pos q] at sg; exact absurd sg (by decide)
    refine vc_X10_both_5 ⟨by omega, s_isWord (by decide) S1.1 S1.2.1 ?_⟩
    rw [bI_f n1, wlitI (by decide) (by decide)]
    exact ⟨fun _ => k, fun q => absurd rfl q⟩
  · have e1 : sgn b sz 1 p1 = if isW b sz p1 1111 then 20001 else -1 := rfl
    rw [e1] at sg k
    have y1 : isW b sz p1 1111 := by
      by_cases q : isW b sz p1 1111
      · exact q
      · rw [if_neg q] at sg
        exact absurd rfl sg
    rw [if_pos y1] at k
    refine vc_X10_both_5 ⟨by omega, s_isWord (by decide) S1.1 S1.2.1 ?_⟩
    rw [bI_t y1, wlitI (by decide) (by decide)]
    refine ⟨fun q => absurd q (by decide), fun _ => ⟨by omega, s_mOn S1.1 (by have := y1.1; omega) fun N2 f2 T2 => ⟨L - 1, by omega, BC_monoI (k N2 f2 (S1.on f2 T2)) fun x N' h => ?_⟩⟩⟩
    have ej : ∀ a c : Int, jnS 20001 a c = if a ≠ 0 ∧ c ≠ 0 then 1 else 0 := fun _ _ => rfl
    rw [ej] at h
    refine ⟨fun q => h 0 ?_, fun q => ⟨fun q2 => h 0 ?_, fun q2 => h 1 ?_⟩⟩
    · rw [if_neg (fun c => c.1 q)]; rfl
    · rw [if_neg (fun c => c.2 q2)]; rfl
    · rw [if_pos ⟨q, q2⟩]; rfl
  · refine vc_X10_both_5 ⟨by omega, s_isWordB bd ?_⟩
    rw [wlitI (by decide) (by decide)]
    exact ⟨fun _ => k, fun q => absurd rfl q⟩
theorem m_either {n : Nat} (h1 : MST G b sz fr n 1) : MST G b sz fr (n + 1) 0 := by
  intro p o L N K ho hn hL S C
  unfold LMn at hL
  show C_X10_either G L N K
  refine vc_X10_either ⟨L - 1, by omega, ?_⟩
  refine m_chain (sub := fun N K => C_X10_both G (L - 1) N K) (W := fun x1 N1 => W_X10_either G L K 5 [(0, vR 10 0), (1, vI x1)] [] N1) ho (by decide) (by decide) S C (fun q N K' S' C' => h1 q o (L - 1) N K' ho (by unfold ned at *; omega) (by unfold LMn; omega) S' C') (fun p1 l1 N1 S1 sg k => ?_) (fun p1 l1 N1 S1 sg k => ?_) (fun l1 N1 bd k => ?_)
  · have e1 : sgn b sz 0 p1 = if isW b sz p1 423 then 20000 else -1 := rfl
    rw [e1] at sg
    have n1 : ¬ isW b sz p1 423 := fun q => by rw [if_pos q] at sg; exact absurd sg (by decide)
    refine vc_X10_either_5 ⟨by omega, s_isWord (by decide) S1.1 S1.2.1 ?_⟩
    rw [bI_f n1, wlitI (by decide) (by decide)]
    exact ⟨fun _ => k, fun q => absurd rfl q⟩
  · have e1 : sgn b sz 0 p1 = if isW b sz p1 423 then 20000 else -1 := rfl
    rw [e1] at sg k
    have y1 : isW b sz p1 423 := by
      by_cases q : isW b sz p1 423
      · exact q
      · rw [if_neg q] at sg
        exact absurd rfl sg
    rw [if_pos y1] at k
    refine vc_X10_either_5 ⟨by omega, s_isWord (by decide) S1.1 S1.2.1 ?_⟩
    rw [bI_t y1, wlitI (by decide) (by decide)]
    refine ⟨fun q => absurd q (by decide), fun _ => ⟨by omega, s_mOn S1.1 (by have := y1.1; omega) fun N2 f2 T2 => ⟨L - 1, by omega, BC_monoI (k N2 f2 (S1.on f2 T2)) fun x N' h => ?_⟩⟩⟩
    have ej : ∀ a c : Int, jnS 20000 a c = if a ≠ 0 ∨ c ≠ 0 then 1 else 0 := fun _ _ => rfl
    rw [ej] at h
    refine ⟨fun q => h 1 ?_, fun q => ⟨fun q2 => h 0 ?_, fun q2 => h 1 ?_⟩⟩
    · rw [if_pos (.inl q)]; rfl
    · rw [if_neg (fun c => c.elim (fun c => q c) (fun c => c q2))]; rfl
    · rw [if_pos (.inr q2)]; rfl
  · refine vc_X10_either_5 ⟨by omega, s_isWordB bd ?_⟩
    rw [wlitI (by decide) (by decide)]
    exact ⟨fun _ => k, fun q => absurd rfl q⟩
theorem m_parse : ∀ n lvl, lvl ≤ 5 → MST G b sz fr n lvl
  | 0, lvl, _ => fun p o L N K _ h => by unfold ned at h; omega
  | n + 1, lvl, hl => by
    rcases (by omega : lvl = 0 ∨ lvl = 1 ∨ lvl = 2 ∨ lvl = 3 ∨ lvl = 4 ∨ lvl = 5) with rfl | rfl | rfl | rfl | rfl | rfl
    · exact m_either (m_parse n 1 (by decide))
    · exact m_both (m_parse n 2 (by decide))
    · exact m_not (m_parse n 3 (by decide)) (m_parse n 2 (by decide))
    · exact m_added (m_parse n 4 (by decide))
    · exact m_term (m_parse n 5 (by decide))
    · exact m_one (m_parse n 5 (by decide)) (m_parse n 0 (by decide))
end MP
