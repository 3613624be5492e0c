/-! tokens: what both readers see of a row of bytes -/
def isBl (x : Int) : Bool := decide (x = 32 ∨ x = 10)
def isLt (x : Int) : Bool := decide (97 ≤ x ∧ x ≤ 122)
def isDg (x : Int) : Bool := decide (48 ≤ x ∧ x ≤ 57)
def isSg (x : Int) : Bool := decide (x = 40 ∨ x = 41 ∨ x = 59 ∨ x = 43 ∨ x = 45 ∨ x = 42 ∨ x = 60 ∨ x = 61)
def runF (b : Nat → Int) (sz : Nat) (P : Int → Bool) : Nat → Nat → Nat
  | 0, p => p
  | f + 1, p => if p < sz ∧ P (b p) = true then runF b sz P f (p + 1) else p
def run (b : Nat → Int) (sz : Nat) (P : Int → Bool) (p : Nat) : Nat := runF b sz P (sz - p) p
section RUN
variable {b : Nat → Int} {sz : Nat} {P : Int → Bool} {p : Nat}
theorem run_step (h : p < sz) (h2 : P (b p) = true) : run b sz P p = run b sz P (p + 1) := by
  unfold run
  rw [show sz - p = (sz - (p + 1)) + 1 by omega]
  show (if p < sz ∧ P (b p) = true then runF b sz P (sz - (p + 1)) (p + 1) else p) = _
  rw [if_pos ⟨h, h2⟩]
theorem run_stop (h : ¬ (p < sz ∧ P (b p) = true)) : run b sz P p = p := by
  unfold run
  cases e : sz - p with
  | zero => rfl
  | succ n =>
    show (if p < sz ∧ P (b p) = true then runF b sz P n (p + 1) else p) = p
    rw [if_neg h]
theorem runF_ge : ∀ (f p : Nat), p ≤ runF b sz P f p
  | 0, p => Nat.le_refl p
  | f + 1, p => by
    show p ≤ if p < sz ∧ P (b p) = true then runF b sz P f (p + 1) else p
    have := runF_ge f (p + 1)
    split <;> omega
theorem runF_le : ∀ (f p : Nat), p ≤ sz → runF b sz P f p ≤ sz
  | 0, p, h => h
  | f + 1, p, h => by
    show (if p < sz ∧ P (b p) = true then runF b sz P f (p + 1) else p) ≤ sz
    split
    · rename_i q
      exact runF_le f (p + 1) (by omega)
    · exact h
theorem run_ge : p ≤ run b sz P p := runF_ge _ _
theorem run_le (h : p ≤ sz) : run b sz P p ≤ sz := runF_le _ _ h
theorem runF_in : ∀ (f p j : Nat), p ≤ j → j < runF b sz P f p → P (b j) = true
  | 0, p, j, h1, h2 => by
    have : j < p := h2
    omega
  | f + 1, p, j, h1, h2 => by
    have h2' : j < if p < sz ∧ P (b p) = true then runF b sz P f (p + 1) else p := h2
    split at h2'
    · rename_i q
      by_cases e : j = p
      · rw [e]; exact q.2
      · exact runF_in f (p + 1) j (by omega) h2'
    · omega
theorem run_in {j : Nat} (h1 : p ≤ j) (h2 : j < run b sz P p) : P (b j) = true := runF_in _ _ _ h1 h2
end RUN
/-- the start of the token that is read from p on, its sort, its end, its worth -/
def tS (b : Nat → Int) (sz p : Nat) : Nat := run b sz isBl p
def tT (b : Nat → Int) (sz p : Nat) : Int :=
  if sz ≤ tS b sz p then 0 else if isLt (b (tS b sz p)) = true then 1 else if isDg (b (tS b sz p)) = true then (if run b sz isDg (tS b sz p) - tS b sz p ≤ 4 then 2 else 4) else if isSg (b (tS b sz p)) = true then 3 else 4
def tE (b : Nat → Int) (sz p : Nat) : Nat :=
  if sz ≤ tS b sz p then tS b sz p else if isLt (b (tS b sz p)) = true then run b sz isLt (tS b sz p) else if isDg (b (tS b sz p)) = true then run b sz isDg (tS b sz p) else tS b sz p + 1
/-- a word's worth: its letters as digits to the base 27, -1 if it is too long; a number's -/
def wv (b : Nat → Int) (s : Nat) : Nat → Int
  | 0 => 0
  | i + 1 => if i < 7 then 27 * wv b s i + b (s + i) - 96 else -1
def nv (b : Nat → Int) (s : Nat) : Nat → Int
  | 0 => 0
  | i + 1 => if i < 4 then 10 * nv b s i + b (s + i) - 48 else nv b s i
def tV (b : Nat → Int) (sz p : Nat) : Int :=
  if isLt (b (tS b sz p)) = true then wv b (tS b sz p) (tE b sz p - tS b sz p) else if isDg (b (tS b sz p)) = true then nv b (tS b sz p) (tE b sz p - tS b sz p) else b (tS b sz p)
section TOK
variable {b : Nat → Int} {sz p : Nat}
theorem tS_ge : p ≤ tS b sz p := run_ge
theorem tS_le (h : p ≤ sz) : tS b sz p ≤ sz := run_le h
theorem tS_lt (h : tT b sz p ≠ 0) : tS b sz p < sz := by
  unfold tT at h
  by_cases a : sz ≤ tS b sz p
  · rw [if_pos a] at h
    exact absurd rfl h
  · omega
theorem tE_le (h : p ≤ sz) : tE b sz p ≤ sz := by
  unfold tE
  have := tS_le (b := b) h
  split
  · omega
  · split
    · exact run_le this
    · split
      · exact run_le this
      · omega
theorem tE_gt (h : tT b sz p ≠ 0) : tS b sz p < tE b sz p := by
  have l := tS_lt h
  unfold tE
  rw [if_neg (by omega)]
  split
  · rename_i q
    rw [run_step l q]
    exact run_ge
  · split
    · rename_i q
      rw [run_step l q]
      exact run_ge
    · omega
theorem tT_rng : 0 ≤ tT b sz p ∧ tT b sz p ≤ 4 := by
  unfold tT
  split
  · omega
  · split
    · omega
    · split
      · split <;> omega
      · split <;> omega
theorem tT_1 : tT b sz p = 1 ↔ tS b sz p < sz ∧ isLt (b (tS b sz p)) = true := by
  unfold tT
  by_cases a : sz ≤ tS b sz p
  · rw [if_pos a]
    omega
  · rw [if_neg a]
    by_cases c : isLt (b (tS b sz p)) = true
    · rw [if_pos c]
      exact ⟨fun _ => ⟨by omega, c⟩, fun _ => rfl⟩
    · rw [if_neg c]
      refine ⟨fun h => ?_, fun h => absurd h.2 c⟩
      split at h
      · split at h <;> omega
      · split at h <;> omega
theorem tT_3 : tT b sz p = 3 → tS b sz p < sz ∧ isLt (b (tS b sz p)) = false ∧ isDg (b (tS b sz p)) = false ∧ isSg (b (tS b sz p)) = true := by
  intro h
  unfold tT at h
  by_cases a : sz ≤ tS b sz p
  · rw [if_pos a] at h
    omega
  · rw [if_neg a] at h
    by_cases c : isLt (b (tS b sz p)) = true
    · rw [if_pos c] at h
      omega
    · rw [if_neg c] at h
      by_cases d : isDg (b (tS b sz p)) = true
      · rw [if_pos d] at h
        split at h <;> omega
      · rw [if_neg d] at h
        by_cases e : isSg (b (tS b sz p)) = true
        · exact ⟨by omega, by simpa using c, by simpa using d, e⟩
        · rw [if_neg e] at h
          omega
theorem tV_3 (h : tT b sz p = 3) : tV b sz p = b (tS b sz p) := by
  obtain ⟨_, a, c, _⟩ := tT_3 h
  unfold tV
  rw [a, c]
  rfl
theorem wv_rng {s : Nat} : ∀ n, (∀ j, j < n → isLt (b (s + j)) = true) → -1 ≤ wv b s n ∧ wv b s n ≤ 10460353203 ∧ (n ≤ 7 → 0 ≤ wv b s n ∧ (0 < n → 0 < wv b s n) ∧ wv b s n < 27 ^ n)
  | 0, _ => by unfold wv; omega
  | n + 1, h => by
    have i := wv_rng (s := s) n (fun j hj => h j (by omega))
    have d := h n (by omega)
    unfold isLt at d
    have d' := of_decide_eq_true d
    unfold wv
    by_cases a : n < 7
    · rw [if_pos a]
      obtain ⟨i1, i2, i3⟩ := i
      obtain ⟨i4, i5, i6⟩ := i3 (by omega)
      rcases (by omega : n = 0 ∨ n = 1 ∨ n = 2 ∨ n = 3 ∨ n = 4 ∨ n = 5 ∨ n = 6) with e | e | e | e | e | e | e <;> subst e <;> omega
    · rw [if_neg a]
      omega
/-- two words of one worth are the same -/
theorem wv_inj {b' : Nat → Int} {s s' : Nat} : ∀ n n', (∀ j, j < n → isLt (b (s + j)) = true) → (∀ j, j < n' → isLt (b' (s' + j)) = true) → n' ≤ 7 → wv b s n = wv b' s' n' → n = n' ∧ ∀ j, j < n → b (s + j) = b' (s' + j) := by
  intro n
  induction n with
  | zero =>
    intro n' _ h' h7 he
    cases n' with
    | zero => exact ⟨rfl, fun j hj => by omega⟩
    | succ n' =>
      have := (wv_rng (s := s') (n' + 1) h').2.2 h7
      have e0 : wv b s 0 = 0 := rfl
      omega
  | succ n ih =>
    intro n' h h' h7 he
    cases n' with
    | zero =>
      have e0 : wv b' s' 0 = 0 := rfl
      by_cases a : n + 1 ≤ 7
      · have := (wv_rng (s := s) (n + 1) h).2.2 a
        omega
      · have : wv b s (n + 1) = -1 := by
          unfold wv
          rw [if_neg (by omega)]
        omega
    | succ n' =>
      have r' := (wv_rng (s := s') (n' + 1) h').2.2 h7
      by_cases a : n < 7
      · have d := h n (by omega)
        have d' := h' n' (by omega)
        unfold isLt at d d'
        have d1 := of_decide_eq_true d
        have d2 := of_decide_eq_true d'
        have e1 : wv b s (n + 1) = 27 * wv b s n + b (s + n) - 96 := by
          show (if n < 7 then _ else _) = _
          rw [if_pos a]
        have e2 : wv b' s' (n' + 1) = 27 * wv b' s' n' + b' (s' + n') - 96 := by
          show (if n' < 7 then _ else _) = _
          rw [if_pos (by omega)]
        rw [e1, e2] at he
        have e3 : wv b s n = wv b' s' n' := by omega
        obtain ⟨g1, g2⟩ := ih n' (fun j hj => h j (by omega)) (fun j hj => h' j (by omega)) (by omega) e3
        refine ⟨by omega, fun j hj => ?_⟩
        by_cases e : j = n
        · subst e
          subst g1
          omega
        · exact g2 j (by omega)
      · have : wv b s (n + 1) = -1 := by
          unfold wv
          rw [if_neg a]
        omega
theorem wv_congr {b' : Nat → Int} {s s' : Nat} : ∀ n, (∀ j, j < n → b (s + j) = b' (s' + j)) → wv b s n = wv b' s' n
  | 0, _ => rfl
  | n + 1, h => by
    unfold wv
    rw [wv_congr n (fun j hj => h j (by omega)), h n (by omega)]
end TOK
/-! the class's tape -/
def TP (b : Nat → Int) (sz : Nat) (N : NN) : Prop := N 8 0 1 = (sz : Int) ∧ sz ≤ 160 ∧ ∀ j, j < sz → andI (N 24 0 j) 255 = b j ∧ 0 ≤ b j ∧ b j ≤ 255
/-- the token read from p on stands -/
def TC (b : Nat → Int) (sz p : Nat) (N : NN) : Prop := TP b sz N ∧ p ≤ sz ∧ N 8 0 2 = (tS b sz p : Int) ∧ N 8 0 5 = tT b sz p ∧ N 8 0 4 = (tE b sz p : Int) ∧ (tT b sz p = 2 → N 8 0 3 = tV b sz p)
/-- nothing but the token changes -/
def FrT (N N' : NN) : Prop := ∀ c i k, ¬ (c = 8 ∧ i = 0 ∧ 2 ≤ k ∧ k ≤ 5) → N' c i k = N c i k
theorem FrT.rf {N : NN} : FrT N N := fun _ _ _ _ => rfl
theorem FrT.tr {N N' N'' : NN} (h1 : FrT N N') (h2 : FrT N' N'') : FrT N N'' := fun c i k h => (h2 c i k h).trans (h1 c i k h)
section TN
variable {G : GT} {b : Nat → Int} {sz p : Nat} {N : NN}
theorem TP.fr {N' : NN} (h : TP b sz N) (f : FrT N N') : TP b sz N' := ⟨by rw [f 8 0 1 (by omega)]; exact h.1, h.2.1, fun j hj => by rw [f 24 0 j (by omega)]; exact h.2.2 j hj⟩
theorem s_at {K : Int → NN → Prop} {j : Nat} (h : TP b sz N) (hj : j ≤ 1000) (k : K (if j < sz then b j else 0) N) : C_X8_at G (j : Int) N K := by
  refine vc_X8_at ?_
  have h2 := h.2.1
  rw [wI_id (x := (j : Int)) (by omega) (by omega), h.1, wI_id (x := (sz : Int)) (by omega) (by omega)]
  refine ⟨fun q => by omega, fun _ => ⟨fun q => ?_, fun q => ⟨fun q2 => by omega, fun _ => ⟨j, rfl, by omega, ?_⟩⟩⟩⟩
  · rwa [if_neg (by omega)] at k
  · rw [if_pos (by omega)] at k
    rw [(h.2.2 j (by omega)).1]
    exact k
theorem s_isBlank {K : Int → NN → Prop} {a : Int} (ha : -1 ≤ a ∧ a ≤ 255) (k : K (bI (isBl a = true)) N) : C_X8_isBlank G a N K := by
  refine vc_X8_isBlank ?_
  rw [wI_id (x := a) (by omega) (by omega)]
  refine ⟨fun q => ?_, fun q => ⟨fun q2 => ?_, fun q2 => ?_⟩⟩
  · rwa [bI_t (show isBl a = true from decide_eq_true (by omega))] at k
  · rwa [bI_f (fun h => by have := of_decide_eq_true h; omega)] at k
  · rwa [bI_t (show isBl a = true from decide_eq_true (by omega))] at k
theorem s_isLetter {K : Int → NN → Prop} {a : Int} (ha : -1 ≤ a ∧ a ≤ 255) (k : K (bI (isLt a = true)) N) : C_X8_isLetter G a N K := by
  refine vc_X8_isLetter ?_
  rw [wI_id (x := a) (by omega) (by omega)]
  refine ⟨fun q => ?_, fun q => ⟨fun q2 => ?_, fun q2 => ?_⟩⟩
  · rwa [bI_f (fun h => by have := of_decide_eq_true h; omega)] at k
  · rwa [bI_f (fun h => by have := of_decide_eq_true h; omega)] at k
  · rwa [bI_t (show isLt a = true from decide_eq_true (by omega))] at k
theorem s_isDigit {K : Int → NN → Prop} {a : Int} (ha : -1 ≤ a ∧ a ≤ 255) (k : K (bI (isDg a = true)) N) : C_X8_isDigit G a N K := by
  refine vc_X8_isDigit ?_
  rw [wI_id (x := a) (by omega) (by omega)]
  refine ⟨fun q => ?_, fun q => ⟨fun q2 => ?_, fun q2 => ?_⟩⟩
  · rwa [bI_f (fun h => by have := of_decide_eq_true h; omega)] at k
  · rwa [bI_f (fun h => by have := of_decide_eq_true h; omega)] at k
  · rwa [bI_t (show isDg a = true from decide_eq_true (by omega))] at k
theorem signs : ∀ n : Nat, n < 256 → (wI (strIx 0 (i2cI (n : Int))) < 0 ↔ isSg (n : Int) = false) := by decide +kernel
/-- the class's number so far -/
def cvN (b : Nat → Int) (s : Nat) : Nat → Int
  | 0 => 0
  | i + 1 => cvN b s i * 10 + b (s + i) - 48
theorem cv_nv {s : Nat} : ∀ n, n ≤ 4 → cvN b s n = nv b s n
  | 0, _ => rfl
  | n + 1, h => by
    unfold cvN nv
    rw [if_pos (by omega), cv_nv n (by omega)]
    omega
theorem upT {k : Nat} {v : Int} (h : 2 ≤ k ∧ k ≤ 5) : FrT N (up3 N 8 0 k v) := fun c i k' a => up3_o' (by omega)
theorem s_readNumber {K : NN → Prop} {s : Nat} (h : TP b sz N) (hs : s < sz) (h2 : N 8 0 2 = (s : Int)) (h4 : N 8 0 4 = (s : Int))
    (k : ∀ N', FrT N N' → N' 8 0 2 = (s : Int) → N' 8 0 4 = (run b sz isDg s : Int) → N' 8 0 5 = (if run b sz isDg s - s ≤ 4 then 2 else 4) → N' 8 0 3 = cvN b s (run b sz isDg s - s) → K N') : C_X8_readNumber G N K := by
  have z := h.2.1
  refine vc_X8_readNumber (fun M1 e1 => ?_)
  have key : ∀ (d e : Nat) (M : NN), e + d = sz → s ≤ e → FrT N M → M 8 0 2 = (s : Int) → M 8 0 4 = (e : Int) → M 8 0 3 = cvN b s (e - s) → run b sz isDg s = run b sz isDg e → W_X8_readNumber G K 5 [(0, vR 8 0)] [] M := by
    intro d
    induction d with
    | zero =>
      intro e M he hse f m2 m4 m3 hr
      have hM := h.fr f
      refine vc_X8_readNumber_5 ?_
      rw [hM.1, m4, m2, wI_id (x := (sz : Int)) (by omega) (by omega), wI_id (x := (e : Int)) (by omega) (by omega), wI_id (x := (e : Int) - (s : Int)) (by omega) (by omega)]
      have re : run b sz isDg s = e := by rw [hr]; exact run_stop (by omega)
      refine ⟨fun _ => ⟨fun q M5 e5 => k M5 (f.tr (by rw [e5]; exact upT (by decide))) ?_ ?_ ?_ ?_, fun q M5 e5 => k M5 (f.tr (by rw [e5]; exact upT (by decide))) ?_ ?_ ?_ ?_⟩, fun q => absurd (by omega) q⟩
      · rw [e5, up3_o' (by omega), m2]
      · rw [e5, up3_o' (by omega), m4, re]
      · rw [e5, up3_s, re, if_pos (by omega)]
      · rw [e5, up3_o' (by omega), m3, re]
      · rw [e5, up3_o' (by omega), m2]
      · rw [e5, up3_o' (by omega), m4, re]
      · rw [e5, up3_s, re, if_neg (by omega)]
      · rw [e5, up3_o' (by omega), m3, re]
    | succ d ih =>
      intro e M he hse f m2 m4 m3 hr
      have hM := h.fr f
      have hb := hM.2.2 e (by omega)
      refine vc_X8_readNumber_5 ?_
      rw [hM.1, m4, m2, wI_id (x := (sz : Int)) (by omega) (by omega), wI_id (x := (e : Int)) (by omega) (by omega), wI_id (x := (e : Int) - (s : Int)) (by omega) (by omega)]
      refine ⟨fun q => by omega, fun _ => s_at hM (by omega) ?_⟩
      rw [if_pos (by omega)]
      refine s_isDigit (by omega) ?_
      by_cases g : isDg (b e) = true
      · rw [bI_t g, wlitI (by decide) (by decide)]
        refine ⟨fun q => absurd q (by decide), fun _ => ?_⟩
        rw [m4]
        refine s_at hM (by omega) ?_
        rw [if_pos (by omega)]
        refine fun M8 e8 M9 e9 => ih (e + 1) M9 (by omega) (by omega) (f.tr ?_) ?_ ?_ ?_ (by rw [hr, run_step (by omega) g])
        · rw [e9, e8]
          exact (upT (by decide)).tr (upT (by decide))
        · rw [e9, up3_o' (by omega), e8, up3_o' (by omega), m2]
        · rw [e9, up3_s, e8, up3_o' (by omega), m4]
          omega
        · rw [e9, up3_o' (by omega), e8, up3_s, m3, show e + 1 - s = (e - s) + 1 by omega]
          show _ = cvN b s (e - s) * 10 + b (s + (e - s)) - 48
          rw [show s + (e - s) = e by omega]
      · rw [bI_f g, wlitI (by decide) (by decide)]
        have re : run b sz isDg s = e := by rw [hr]; exact run_stop (fun q => g q.2)
        refine ⟨fun _ => ?_, fun q => absurd rfl q⟩
        rw [m4, m2, wI_id (x := (e : Int) - (s : Int)) (by omega) (by omega)]
        refine ⟨fun q M5 e5 => k M5 (f.tr (by rw [e5]; exact upT (by decide))) ?_ ?_ ?_ ?_, fun q M5 e5 => k M5 (f.tr (by rw [e5]; exact upT (by decide))) ?_ ?_ ?_ ?_⟩
        · rw [e5, up3_o' (by omega), m2]
        · rw [e5, up3_o' (by omega), m4, re]
        · rw [e5, up3_s, re, if_pos (by omega)]
        · rw [e5, up3_o' (by omega), m3, re]
        · rw [e5, up3_o' (by omega), m2]
        · rw [e5, up3_o' (by omega), m4, re]
        · rw [e5, up3_s, re, if_neg (by omega)]
        · rw [e5, up3_o' (by omega), m3, re]
  refine key (sz - s) s M1 (by omega) (Nat.le_refl s) (by rw [e1]; exact upT (by decide)) ?_ ?_ ?_ rfl
  · rw [e1, up3_o' (by omega), h2]
  · rw [e1, up3_o' (by omega), h4]
  · rw [e1, up3_s, Nat.sub_self]
    rfl
theorem s_next {K : NN → Prop} (h : TP b sz N) (hp : p ≤ sz) (h4 : N 8 0 4 = (p : Int)) (k : ∀ N', FrT N N' → TC b sz p N' → K N') : C_X8_next G N K := by
  have z := h.2.1
  refine vc_X8_next (fun M1 e1 => ?_)
  have hS := tS_le (b := b) hp
  -- a word's letters
  have word : ∀ (d e : Nat) (M : NN), e + d = sz → FrT N M → M 8 0 2 = (tS b sz p : Int) → M 8 0 4 = (e : Int) → M 8 0 5 = 1 → tT b sz p = 1 → tE b sz p = run b sz isLt e → W_X8_next G K 94 [(0, vR 8 0)] [] M := by
    intro d
    induction d with
    | zero =>
      intro e M he f m2 m4 m5 t1 hr
      have hM := h.fr f
      refine vc_X8_next_94 ?_
      rw [hM.1, m4, wI_id (x := (sz : Int)) (by omega) (by omega), wI_id (x := (e : Int)) (by omega) (by omega)]
      refine ⟨fun _ => k M f ⟨hM, hp, m2, by rw [m5, t1], ?_, fun q => by omega⟩, fun q => absurd (by omega) q⟩
      rw [m4, hr, run_stop (by omega)]
    | succ d ih =>
      intro e M he f m2 m4 m5 t1 hr
      have hM := h.fr f
      have hb := hM.2.2 e (by omega)
      refine vc_X8_next_94 ?_
      rw [hM.1, m4, wI_id (x := (sz : Int)) (by omega) (by omega), wI_id (x := (e : Int)) (by omega) (by omega)]
      refine ⟨fun q => by omega, fun _ => s_at hM (by omega) ?_⟩
      rw [if_pos (by omega)]
      refine s_isLetter (by omega) ?_
      by_cases g : isLt (b e) = true
      · rw [bI_t g, wlitI (by decide) (by decide)]
        refine ⟨fun q => absurd q (by decide), fun _ M3 e3 => ih (e + 1) M3 (by omega) (f.tr (by rw [e3]; exact upT (by decide))) ?_ ?_ ?_ t1 (by rw [hr, run_step (by omega) g])⟩
        · rw [e3, up3_o' (by omega), m2]
        · rw [e3, up3_s, m4]
          omega
        · rw [e3, up3_o' (by omega), m5]
      · rw [bI_f g, wlitI (by decide) (by decide)]
        refine ⟨fun _ => k M f ⟨hM, hp, m2, by rw [m5, t1], ?_, fun q => by omega⟩, fun q => absurd rfl q⟩
        rw [m4, hr, run_stop (fun q => g q.2)]
  -- the token's first byte
  have first : ∀ M : NN, FrT N M → M 8 0 2 = (tS b sz p : Int) → M 8 0 4 = (tS b sz p : Int) → C_X8_at G (M 8 0 2) M (fun x2 N2 => ((wI (N2 8 0 2) < wI (N2 8 0 1) → (C_X8_isLetter G x2 N2 (fun x3 N3 => ((wI x3 = 0 → (C_X8_isDigit G x2 N3 (fun x4 N4 => ((wI x4 = 0 → (((wI (strIx 0 (i2cI x2))) < 0 → (∀ M5 : NN, M5 = up3 N4 8 0 5 4 → (∀ M6 : NN, M6 = up3 M5 8 0 4 ((M5 8 0 4) + 1) → K M6))) ∧ (¬ ((wI (strIx 0 (i2cI x2))) < 0) → (∀ M7 : NN, M7 = up3 N4 8 0 5 3 → (∀ M8 : NN, M8 = up3 M7 8 0 4 ((M7 8 0 4) + 1) → K M8))))) ∧ (¬ (wI x4 = 0) → (C_X8_readNumber G  N4 (fun N9 => K N9))))))) ∧ (¬ (wI x3 = 0) → (∀ M10 : NN, M10 = up3 N3 8 0 5 1 → W_X8_next G K 94 [(0, vR 8 0)] [] M10)))))) ∧ (¬ (wI (N2 8 0 2) < wI (N2 8 0 1)) → (∀ M11 : NN, M11 = up3 N2 8 0 5 0 → K M11)))) := by
    intro M f m2 m4
    have hM := h.fr f
    rw [m2]
    refine s_at hM (by omega) ?_
    rw [m2, hM.1, wI_id (x := (tS b sz p : Int)) (by omega) (by omega), wI_id (x := (sz : Int)) (by omega) (by omega)]
    refine ⟨fun q => ?_, fun q M11 e11 => k M11 (f.tr (by rw [e11]; exact upT (by decide))) ?_⟩
    · have l : tS b sz p < sz := by omega
      have hb := hM.2.2 _ l
      rw [if_pos l]
      refine s_isLetter (by omega) ?_
      by_cases g : isLt (b (tS b sz p)) = true
      · rw [bI_t g, wlitI (by decide) (by decide)]
        have t1 : tT b sz p = 1 := tT_1.mpr ⟨l, g⟩
        refine ⟨fun q => absurd q (by decide), fun _ M10 e10 => word (sz - tS b sz p) (tS b sz p) M10 (by omega) (f.tr (by rw [e10]; exact upT (by decide))) ?_ ?_ ?_ t1 ?_⟩
        · rw [e10, up3_o' (by omega), m2]
        · rw [e10, up3_o' (by omega), m4]
        · rw [e10, up3_s]
        · unfold tE
          rw [if_neg (by omega), if_pos g]
      · rw [bI_f g, wlitI (by decide) (by decide)]
        refine ⟨fun _ => s_isDigit (by omega) ?_, fun q => absurd rfl q⟩
        by_cases gd : isDg (b (tS b sz p)) = true
        · rw [bI_t gd, wlitI (by decide) (by decide)]
          refine ⟨fun q => absurd q (by decide), fun _ => s_readNumber hM l m2 m4 (fun N' f' g2 g4 g5 g3 => k N' (f.tr f') ⟨hM.fr f', hp, g2, ?_, ?_, fun t2 => ?_⟩)⟩
          · rw [g5]
            unfold tT
            rw [if_neg (show ¬ sz ≤ tS b sz p by omega), if_neg g, if_pos gd]
          · rw [g4]
            unfold tE
            rw [if_neg (by omega), if_neg g, if_pos gd]
          · have eE : tE b sz p = run b sz isDg (tS b sz p) := by
              unfold tE
              rw [if_neg (by omega), if_neg g, if_pos gd]
            have t2' := t2
            unfold tT at t2'
            rw [if_neg (show ¬ sz ≤ tS b sz p by omega), if_neg g, if_pos gd] at t2'
            have s4 : run b sz isDg (tS b sz p) - tS b sz p ≤ 4 := by
              by_cases x : run b sz isDg (tS b sz p) - tS b sz p ≤ 4
              · exact x
              · rw [if_neg x] at t2'
                omega
            rw [g3]
            unfold tV
            rw [if_neg g, if_pos gd, eE, cv_nv _ s4]
        · rw [bI_f gd, wlitI (by decide) (by decide)]
          have eE : tE b sz p = tS b sz p + 1 := by
            unfold tE
            rw [if_neg (by omega), if_neg g, if_neg gd]
          have sg := signs (b (tS b sz p)).toNat (by omega)
          rw [show (((b (tS b sz p)).toNat : Nat) : Int) = b (tS b sz p) by omega] at sg
          refine ⟨fun _ => ⟨fun q M5 e5 M6 e6 => k M6 (f.tr (by rw [e6, e5]; exact (upT (by decide)).tr (upT (by decide)))) ?_, fun q M5 e5 M6 e6 => k M6 (f.tr (by rw [e6, e5]; exact (upT (by decide)).tr (upT (by decide)))) ?_⟩, fun q => absurd rfl q⟩
          · have ng := sg.mp q
            have t4 : tT b sz p = 4 := by
              unfold tT
              rw [if_neg (by omega), if_neg g, if_neg gd, ng]
              rfl
            refine ⟨hM.fr (by rw [e6, e5]; exact (upT (by decide)).tr (upT (by decide))), hp, ?_, ?_, ?_, fun t => by omega⟩
            · rw [e6, up3_o' (by omega), e5, up3_o' (by omega), m2]
            · rw [e6, up3_o' (by omega), e5, up3_s, t4]
            · rw [e6, up3_s, e5, up3_o' (by omega), m4, eE]
              omega
          · have yes : isSg (b (tS b sz p)) = true := by
              cases hh : isSg (b (tS b sz p))
              · exact absurd (sg.mpr hh) q
              · rfl
            have t3 : tT b sz p = 3 := by
              unfold tT
              rw [if_neg (by omega), if_neg g, if_neg gd, if_pos yes]
            refine ⟨hM.fr (by rw [e6, e5]; exact (upT (by decide)).tr (upT (by decide))), hp, ?_, ?_, ?_, fun t => by omega⟩
            · rw [e6, up3_o' (by omega), e5, up3_o' (by omega), m2]
            · rw [e6, up3_o' (by omega), e5, up3_s, t3]
            · rw [e6, up3_s, e5, up3_o' (by omega), m4, eE]
              omega
    · have l : sz ≤ tS b sz p := by omega
      have t0 : tT b sz p = 0 := by unfold tT; rw [if_pos l]
      refine ⟨hM.fr (by rw [e11]; exact upT (by decide)), hp, ?_, ?_, ?_, fun t => by omega⟩
      · rw [e11, up3_o' (by omega), m2]
      · rw [e11, up3_s, t0]
      · rw [e11, up3_o' (by omega), m4]
        unfold tE
        rw [if_pos l]
  have key : ∀ (d s : Nat) (M : NN), s + d = sz → FrT N M → M 8 0 2 = (s : Int) → tS b sz p = run b sz isBl s → W_X8_next G K 8 [(0, vR 8 0)] [] M := by
    intro d
    induction d with
    | zero =>
      intro s M hd f m2 hr
      have hM := h.fr f
      have re : tS b sz p = s := by rw [hr]; exact run_stop (by omega)
      refine vc_X8_next_8 ?_
      rw [hM.1, m2, wI_id (x := (sz : Int)) (by omega) (by omega), wI_id (x := (s : Int)) (by omega) (by omega)]
      refine ⟨fun _ M1 e1 => first M1 (f.tr (by rw [e1]; exact upT (by decide))) ?_ ?_, fun q => absurd (by omega) q⟩
      · rw [e1, up3_o' (by omega), m2, re]
      · rw [e1, up3_s, re]
    | succ d ih =>
      intro s M hd f m2 hr
      have hM := h.fr f
      have hb := hM.2.2 s (by omega)
      refine vc_X8_next_8 ?_
      rw [hM.1, m2, wI_id (x := (sz : Int)) (by omega) (by omega), wI_id (x := (s : Int)) (by omega) (by omega)]
      refine ⟨fun q => by omega, fun _ => s_at hM (by omega) ?_⟩
      rw [if_pos (by omega)]
      refine s_isBlank (by omega) ?_
      by_cases g : isBl (b s) = true
      · rw [bI_t g, wlitI (by decide) (by decide)]
        refine ⟨fun q => absurd q (by decide), fun _ M3 e3 => ih (s + 1) M3 (by omega) (f.tr (by rw [e3]; exact upT (by decide))) ?_ (by rw [hr, run_step (by omega) g])⟩
        rw [e3, up3_s, m2]
        omega
      · rw [bI_f g, wlitI (by decide) (by decide)]
        have re : tS b sz p = s := by rw [hr]; exact run_stop (fun q => g q.2)
        refine ⟨fun _ M1 e1 => first M1 (f.tr (by rw [e1]; exact upT (by decide))) ?_ ?_, fun q => absurd rfl q⟩
        · rw [e1, up3_o' (by omega), m2, re]
        · rw [e1, up3_s, m2, re]
  refine key (sz - p) p M1 (by omega) (by rw [e1]; exact upT (by decide)) ?_ rfl
  rw [e1, up3_s, h4]
end TN
