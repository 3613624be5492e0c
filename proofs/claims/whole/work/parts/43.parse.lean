/-! what a text says: the numbers, names and signs in the order in which they are reckoned -/
abbrev RES : Type := Bool × Nat × List Int
def pC (sg : Nat → Int) (nx : Nat → Nat) (f : Nat → RES) : Nat → Nat → List Int → RES
  | 0, p, acc => (true, p, acc)
  | k + 1, p, acc => if sg p = -1 then (true, p, acc) else if (f (nx p)).1 = true then pC sg nx f k (f (nx p)).2.1 (acc ++ (f (nx p)).2.2 ++ [sg p]) else f (nx p)
abbrev isW (b : Nat → Int) (sz p : Nat) (w : Int) : Prop := tT b sz p = 1 ∧ tV b sz p = w
abbrev isS (b : Nat → Int) (sz p : Nat) (w : Int) : Prop := tT b sz p = 3 ∧ tV b sz p = w
def sgn (b : Nat → Int) (sz lvl p : Nat) : Int :=
  if lvl = 0 then (if isW b sz p 423 then 20000 else -1) else if lvl = 1 then (if isW b sz p 1111 then 20001 else -1) else if lvl = 2 then (if isS b sz p 60 then 20003 else if isS b sz p 61 then 20004 else -1)
  else if lvl = 3 then (if isS b sz p 43 then 20005 else if isS b sz p 45 then 20006 else -1) else if isS b sz p 42 then 20007 else -1
def nmX (v : Int) : Int := if 7214732 = v then 0 else if 355568 = v then 1 else if 240023 = v then 2 else if 312151 = v then 3 else if 795597152 = v then 4 else if 223456 = v then 5 else -1
def pE (b : Nat → Int) (sz : Nat) : Nat → Nat → Nat → Nat → RES
  | 0, _, p, _ => (false, tS b sz p, [])
  | n + 1, lvl, p, o =>
    if lvl = 2 then
      (if isW b sz p 10631 then (if 5 ≤ o then (false, tS b sz p, []) else if (pE b sz n 2 (tE b sz p) (o + 1)).1 = true then (true, (pE b sz n 2 (tE b sz p) (o + 1)).2.1, (pE b sz n 2 (tE b sz p) (o + 1)).2.2 ++ [20002]) else pE b sz n 2 (tE b sz p) (o + 1))
      else if (pE b sz n 3 p o).1 = true then
        (if sgn b sz 2 (pE b sz n 3 p o).2.1 = -1 then pE b sz n 3 p o
        else if (pE b sz n 3 (tE b sz (pE b sz n 3 p o).2.1) o).1 = true then (true, (pE b sz n 3 (tE b sz (pE b sz n 3 p o).2.1) o).2.1, (pE b sz n 3 p o).2.2 ++ (pE b sz n 3 (tE b sz (pE b sz n 3 p o).2.1) o).2.2 ++ [sgn b sz 2 (pE b sz n 3 p o).2.1])
        else pE b sz n 3 (tE b sz (pE b sz n 3 p o).2.1) o)
      else pE b sz n 3 p o)
    else if 5 ≤ lvl then
      (if isS b sz p 45 then (if 5 ≤ o then (false, tS b sz p, []) else if (pE b sz n 5 (tE b sz p) (o + 1)).1 = true then (true, (pE b sz n 5 (tE b sz p) (o + 1)).2.1, (pE b sz n 5 (tE b sz p) (o + 1)).2.2 ++ [20008]) else pE b sz n 5 (tE b sz p) (o + 1))
      else if isS b sz p 40 then (if 5 ≤ o then (false, tS b sz p, []) else if (pE b sz n 0 (tE b sz p) (o + 1)).1 = true then (if isS b sz (pE b sz n 0 (tE b sz p) (o + 1)).2.1 41 then (true, tE b sz (pE b sz n 0 (tE b sz p) (o + 1)).2.1, (pE b sz n 0 (tE b sz p) (o + 1)).2.2) else (false, tS b sz (pE b sz n 0 (tE b sz p) (o + 1)).2.1, [])) else pE b sz n 0 (tE b sz p) (o + 1))
      else if tT b sz p = 2 then (true, tE b sz p, [tV b sz p])
      else if tT b sz p = 1 ∧ nmX (tV b sz p) ≠ -1 then (true, tE b sz p, [10000 + nmX (tV b sz p)])
      else (false, tS b sz p, []))
    else if (pE b sz n (lvl + 1) p o).1 = true then pC (sgn b sz lvl) (tE b sz) (fun q => pE b sz n (lvl + 1) q o) 160 (pE b sz n (lvl + 1) p o).2.1 (pE b sz n (lvl + 1) p o).2.2
    else pE b sz n (lvl + 1) p o
/-! reckoning -/
def jnS (i x y : Int) : Int :=
  if i = 20000 then (if x ≠ 0 ∨ y ≠ 0 then 1 else 0) else if i = 20001 then (if x ≠ 0 ∧ y ≠ 0 then 1 else 0) else if i = 20003 then (if x < y then 1 else 0) else if i = 20004 then (if x = y then 1 else 0)
  else if i = 20005 then wI (x + y) else if i = 20006 then wI (x - y) else wI (x * y)
def unS (i x : Int) : Int := if i = 20008 then wI (-x) else if x = 0 then 1 else 0
def stp (nm : Nat → Int) (st : List Int) (i : Int) : List Int :=
  if i = 20002 ∨ i = 20008 then (match st with | x :: r => unS i x :: r | [] => [])
  else if 20000 ≤ i then (match st with | y :: x :: r => jnS i x y :: r | _ => [])
  else (if i < 10000 then i else nm (i - 10000).toNat) :: st
def rn (nm : Nat → Int) (code st : List Int) : List Int := code.foldl (stp nm) st
def valO (nm : Nat → Int) (code : List Int) : Int := (rn nm code []).headD 0
/-- with n values standing, this code finds what it needs, and room -/
def dOK : Nat → List Int → Prop
  | _, [] => True
  | n, i :: c => if i = 20002 ∨ i = 20008 then 1 ≤ n ∧ dOK n c else if 20000 ≤ i then i ≤ 20007 ∧ 2 ≤ n ∧ dOK (n - 1) c else 0 ≤ i ∧ i < 10006 ∧ n < 40 ∧ dOK (n + 1) c
theorem rn_app {nm : Nat → Int} {c d st : List Int} : rn nm (c ++ d) st = rn nm d (rn nm c st) := List.foldl_append
def Dp (lvl o : Nat) : Nat := 5 * (5 - o) + (5 - lvl) + 1
/-- a code that leaves one value -/
def Vl (c : List Int) : Prop := ∀ (nm : Nat → Int) (st : List Int), rn nm c st = valO nm c :: st
/-- a code that needs room for m -/
def Rm (m : Nat) (c : List Int) : Prop := ∀ (n : Nat) (c' : List Int), n + m ≤ 40 → dOK (n + 1) c' → dOK n (c ++ c')
theorem Vl_val {c : List Int} {nm : Nat → Int} {v : Int} (h : ∀ st, rn nm c st = v :: st) : valO nm c = v := by
  unfold valO
  rw [h]
  rfl
theorem Vl_1 {i : Int} (h1 : 0 ≤ i) (h2 : i < 20000) (nm : Nat → Int) : ∀ st, rn nm [i] st = (if i < 10000 then i else nm (i - 10000).toNat) :: st := by
  intro st
  show stp nm st i = _
  unfold stp
  rw [if_neg (by omega), if_neg (by omega)]
theorem Rm_1 {i : Int} {m : Nat} (hm : 1 ≤ m) (h1 : 0 ≤ i) (h2 : i < 10006) : Rm m [i] := by
  intro n c' h hc
  show dOK n (i :: c')
  unfold dOK
  rw [if_neg (by omega), if_neg (by omega)]
  exact ⟨h1, h2, by omega, hc⟩
theorem un_val {c : List Int} {i : Int} (hi : i = 20002 ∨ i = 20008) (V : Vl c) (nm : Nat → Int) : ∀ st, rn nm (c ++ [i]) st = unS i (valO nm c) :: st := by
  intro st
  rw [rn_app, V nm st]
  show stp nm _ i = _
  unfold stp
  rw [if_pos hi]
theorem un_Rm {c : List Int} {i : Int} {m : Nat} (hi : i = 20002 ∨ i = 20008) (R : Rm m c) : Rm m (c ++ [i]) := by
  intro n c' h hc
  rw [List.append_assoc]
  refine R n _ h ?_
  show dOK (n + 1) (i :: c')
  unfold dOK
  rw [if_pos hi]
  exact ⟨by omega, hc⟩
theorem jn_val {c d : List Int} {i : Int} (h0 : i ≠ 20002 ∧ i ≠ 20008) (h1 : 20000 ≤ i) (V : Vl c) (W : Vl d) (nm : Nat → Int) : ∀ st, rn nm (c ++ d ++ [i]) st = jnS i (valO nm c) (valO nm d) :: st := by
  intro st
  rw [rn_app, rn_app, V nm st, W nm]
  show stp nm _ i = _
  unfold stp
  rw [if_neg (by omega), if_pos h1]
theorem jn_Rm {c d : List Int} {i : Int} {m : Nat} (h0 : i ≠ 20002 ∧ i ≠ 20008) (h1 : 20000 ≤ i) (h2 : i ≤ 20007) (R : Rm (m + 1) c) (S : Rm m d) : Rm (m + 1) (c ++ d ++ [i]) := by
  intro n c' h hc
  rw [List.append_assoc, List.append_assoc]
  refine R n _ h (S (n + 1) _ (by omega) ?_)
  show dOK (n + 1 + 1) (i :: c')
  unfold dOK
  rw [if_neg (by omega), if_pos h1]
  exact ⟨h2, by omega, hc⟩
theorem Rm_le {c : List Int} {m m' : Nat} (h : m ≤ m') (R : Rm m c) : Rm m' c := fun n c' hn hc => R n c' (by omega) hc
theorem Vl_of {c : List Int} (h : ∀ nm, ∃ v, ∀ st, rn nm c st = v :: st) : Vl c := by
  intro nm st
  obtain ⟨v, hv⟩ := h nm
  rw [hv st, Vl_val hv]
theorem num_rng {b : Nat → Int} {sz p : Nat} (t : tT b sz p = 2) : 0 ≤ tV b sz p ∧ tV b sz p ≤ 9999 := by
  have l := tS_lt (b := b) (sz := sz) (p := p) (by omega)
  have t' := t
  unfold tT at t'
  rw [if_neg (show ¬ sz ≤ tS b sz p by omega)] at t'
  by_cases g : isLt (b (tS b sz p)) = true
  · rw [if_pos g] at t'
    omega
  · rw [if_neg g] at t'
    by_cases gd : isDg (b (tS b sz p)) = true
    · have eE : tE b sz p = run b sz isDg (tS b sz p) := by
        unfold tE
        rw [if_neg (show ¬ sz ≤ tS b sz p by omega), if_neg g, if_pos gd]
      have eV : tV b sz p = nv b (tS b sz p) (tE b sz p - tS b sz p) := by
        unfold tV
        rw [if_neg g, if_pos gd]
      have key : ∀ n, (∀ j, j < n → isDg (b (tS b sz p + j)) = true) → 0 ≤ nv b (tS b sz p) n ∧ nv b (tS b sz p) n ≤ 9999 ∧ (n = 0 → nv b (tS b sz p) n ≤ 0) ∧ (n = 1 → nv b (tS b sz p) n ≤ 9) ∧ (n = 2 → nv b (tS b sz p) n ≤ 99) ∧ (n = 3 → nv b (tS b sz p) n ≤ 999) := by
        intro n
        induction n with
        | zero =>
          intro _
          have : nv b (tS b sz p) 0 = 0 := rfl
          omega
        | succ n ih =>
          intro hn
          have i := ih (fun j hj => hn j (by omega))
          have d := isDg_iff.mp (hn n (by omega))
          have e : nv b (tS b sz p) (n + 1) = if n < 4 then 10 * nv b (tS b sz p) n + b (tS b sz p + n) - 48 else nv b (tS b sz p) n := rfl
          rw [e]
          split <;> omega
      have := key (tE b sz p - tS b sz p) (fun j hj => by
        rw [eE] at hj
        exact run_in (sz := sz) (p := tS b sz p) (by omega) (by omega))
      omega
    · rw [if_neg gd] at t'
      split at t' <;> omega
section GOOD
variable {b : Nat → Int} {sz : Nat}
/-- what a reading gives, from p on, where it succeeds -/
def Good (b : Nat → Int) (sz m p : Nat) (r : RES) : Prop := r.1 = true → r.2.1 ≤ sz ∧ tS b sz p + r.2.2.length ≤ tS b sz r.2.1 ∧ tS b sz p < tS b sz r.2.1 ∧ Vl r.2.2 ∧ Rm m r.2.2
theorem sgn_ok {lvl p : Nat} (h : sgn b sz lvl p ≠ -1) : tT b sz p ≠ 0 ∧ tT b sz p ≠ 4 ∧ 20000 ≤ sgn b sz lvl p ∧ sgn b sz lvl p ≤ 20007 ∧ sgn b sz lvl p ≠ 20002 := by
  revert h
  unfold sgn
  repeat' split
  all_goals intro h
  all_goals first
    | exact absurd rfl h
    | (rename_i q; have q1 := q.1; exact ⟨by omega, by omega, by decide⟩)
theorem nmX_rng {v : Int} : -1 ≤ nmX v ∧ nmX v ≤ 5 := by
  unfold nmX
  repeat' split
  all_goals omega
theorem tS_nx {p : Nat} (h : tT b sz p ≠ 0) : tS b sz p < tS b sz (tE b sz p) := Nat.lt_of_lt_of_le (tE_gt h) tS_ge
theorem Good_C {m lvl : Nat} {f : Nat → RES} (G : ∀ p, p ≤ sz → Good b sz m p (f p)) (p0 : Nat) : ∀ (k p : Nat) (acc : List Int), p ≤ sz → tS b sz p0 + acc.length ≤ tS b sz p → tS b sz p0 < tS b sz p → Vl acc → Rm (m + 1) acc → Good b sz (m + 1) p0 (pC (sgn b sz lvl) (tE b sz) f k p acc)
  | 0, p, acc, h1, h2, h3, h4, h5 => fun _ => ⟨h1, h2, h3, h4, h5⟩
  | k + 1, p, acc, h1, h2, h3, h4, h5 => by
    unfold pC
    by_cases a : sgn b sz lvl p = -1
    · rw [if_pos a]
      exact fun _ => ⟨h1, h2, h3, h4, h5⟩
    · rw [if_neg a]
      obtain ⟨s0, s4, s1, s2, s3⟩ := sgn_ok a
      have nx := tS_nx s0
      have g := G (tE b sz p) (tE_le h1)
      by_cases c : (f (tE b sz p)).1 = true
      · rw [if_pos c]
        obtain ⟨g1, g2, g3, g4, g5⟩ := g c
        refine Good_C G p0 k _ _ g1 ?_ (by omega) (Vl_of fun nm => ⟨_, jn_val ⟨s3, by omega⟩ s1 h4 g4 nm⟩) (jn_Rm ⟨s3, by omega⟩ s1 s2 h5 g5)
        simp only [List.length_append, List.length_cons, List.length_nil]
        omega
      · rw [if_neg c]
        exact fun e => absurd e c
theorem Good_E : ∀ (n lvl p o : Nat), o ≤ 5 → lvl ≤ 5 → p ≤ sz → Good b sz (Dp lvl o) p (pE b sz n lvl p o) := by
  intro n
  induction n with
  | zero => intro lvl p o _ _ _ e; cases e
  | succ n ih =>
    intro lvl p o ho hl hp
    unfold pE
    by_cases l2 : lvl = 2
    · subst l2
      rw [if_pos rfl]
      by_cases w : isW b sz p 10631
      · rw [if_pos w]
        have t0 : tT b sz p ≠ 0 := by have := w.1; omega
        have nx := tS_nx t0
        by_cases o5 : 5 ≤ o
        · rw [if_pos o5]
          intro e; cases e
        · rw [if_neg o5]
          have g := ih 2 (tE b sz p) (o + 1) (by omega) (by decide) (tE_le hp)
          by_cases c : (pE b sz n 2 (tE b sz p) (o + 1)).1 = true
          · rw [if_pos c]
            obtain ⟨g1, g2, g3, g4, g5⟩ := g c
            refine fun _ => ⟨g1, ?_, by show _ < tS b sz (pE b sz n 2 (tE b sz p) (o + 1)).2.1; omega, Vl_of fun nm => ⟨_, un_val (.inl rfl) g4 nm⟩, un_Rm (.inl rfl) (Rm_le (by unfold Dp; omega) g5)⟩
            show _ + ((pE b sz n 2 (tE b sz p) (o + 1)).2.2 ++ [20002]).length ≤ tS b sz (pE b sz n 2 (tE b sz p) (o + 1)).2.1
            simp only [List.length_append, List.length_cons, List.length_nil]
            omega
          · rw [if_neg c]
            exact fun e => absurd e c
      · rw [if_neg w]
        have g := ih 3 p o ho (by decide) hp
        by_cases c : (pE b sz n 3 p o).1 = true
        · rw [if_pos c]
          obtain ⟨g1, g2, g3, g4, g5⟩ := g c
          generalize pE b sz n 3 p o = r at *
          by_cases s : sgn b sz 2 r.2.1 = -1
          · rw [if_pos s]
            exact fun _ => ⟨g1, g2, g3, g4, Rm_le (by unfold Dp; omega) g5⟩
          · rw [if_neg s]
            obtain ⟨s0, s4, s1, s2, s3⟩ := sgn_ok s
            have nx := tS_nx s0
            have q := ih 3 (tE b sz r.2.1) o ho (by decide) (tE_le g1)
            by_cases d : (pE b sz n 3 (tE b sz r.2.1) o).1 = true
            · rw [if_pos d]
              obtain ⟨q1, q2, q3, q4, q5⟩ := q d
              generalize pE b sz n 3 (tE b sz r.2.1) o = r2 at *
              refine fun _ => ⟨q1, ?_, by show _ < tS b sz r2.2.1; omega, Vl_of fun nm => ⟨_, jn_val ⟨s3, by omega⟩ s1 g4 q4 nm⟩, jn_Rm (m := Dp 3 o) ⟨s3, by omega⟩ s1 s2 (Rm_le (by omega) g5) q5⟩
              show _ + (r.2.2 ++ r2.2.2 ++ [sgn b sz 2 r.2.1]).length ≤ tS b sz r2.2.1
              simp only [List.length_append, List.length_cons, List.length_nil]
              omega
            · rw [if_neg d]
              exact fun e => absurd e d
        · rw [if_neg c]
          exact fun e => absurd e c
    · rw [if_neg l2]
      by_cases l5 : 5 ≤ lvl
      · have e5 : lvl = 5 := by omega
        subst e5
        rw [if_pos l5]
        by_cases w : isS b sz p 45
        · rw [if_pos w]
          have t0 : tT b sz p ≠ 0 := by have := w.1; omega
          have nx := tS_nx t0
          by_cases o5 : 5 ≤ o
          · rw [if_pos o5]
            intro e; cases e
          · rw [if_neg o5]
            have g := ih 5 (tE b sz p) (o + 1) (by omega) (by decide) (tE_le hp)
            by_cases c : (pE b sz n 5 (tE b sz p) (o + 1)).1 = true
            · rw [if_pos c]
              obtain ⟨g1, g2, g3, g4, g5⟩ := g c
              generalize pE b sz n 5 (tE b sz p) (o + 1) = r at *
              refine fun _ => ⟨g1, ?_, by show _ < tS b sz r.2.1; omega, Vl_of fun nm => ⟨_, un_val (.inr rfl) g4 nm⟩, un_Rm (.inr rfl) (Rm_le (by unfold Dp; omega) g5)⟩
              show _ + (r.2.2 ++ [20008]).length ≤ tS b sz r.2.1
              simp only [List.length_append, List.length_cons, List.length_nil]
              omega
            · rw [if_neg c]
              exact fun e => absurd e c
        · rw [if_neg w]
          by_cases w2 : isS b sz p 40
          · rw [if_pos w2]
            have t0 : tT b sz p ≠ 0 := by have := w2.1; omega
            have nx := tS_nx t0
            by_cases o5 : 5 ≤ o
            · rw [if_pos o5]
              intro e; cases e
            · rw [if_neg o5]
              have g := ih 0 (tE b sz p) (o + 1) (by omega) (by decide) (tE_le hp)
              by_cases c : (pE b sz n 0 (tE b sz p) (o + 1)).1 = true
              · rw [if_pos c]
                obtain ⟨g1, g2, g3, g4, g5⟩ := g c
                generalize pE b sz n 0 (tE b sz p) (o + 1) = r at *
                by_cases s : isS b sz r.2.1 41
                · rw [if_pos s]
                  have n2 := tS_nx (b := b) (sz := sz) (p := r.2.1) (by have := s.1; omega)
                  refine fun _ => ⟨tE_le g1, ?_, by show _ < tS b sz (tE b sz r.2.1); omega, g4, Rm_le (by unfold Dp; omega) g5⟩
                  show _ + r.2.2.length ≤ tS b sz (tE b sz r.2.1)
                  omega
                · rw [if_neg s]
                  intro e; cases e
              · rw [if_neg c]
                exact fun e => absurd e c
          · rw [if_neg w2]
            by_cases t2 : tT b sz p = 2
            · rw [if_pos t2]
              have nx := tS_nx (b := b) (sz := sz) (p := p) (by omega)
              have vr : 0 ≤ tV b sz p ∧ tV b sz p ≤ 9999 := num_rng t2
              exact fun _ => ⟨tE_le hp, by show _ + 1 ≤ tS b sz (tE b sz p); omega, nx, Vl_of fun nm => ⟨_, Vl_1 vr.1 (by omega) nm⟩, Rm_1 (by unfold Dp; omega) vr.1 (by omega)⟩
            · rw [if_neg t2]
              by_cases t1 : tT b sz p = 1 ∧ nmX (tV b sz p) ≠ -1
              · rw [if_pos t1]
                have nx := tS_nx (b := b) (sz := sz) (p := p) (by omega)
                have r := nmX_rng (v := tV b sz p)
                exact fun _ => ⟨tE_le hp, by show _ + 1 ≤ tS b sz (tE b sz p); omega, nx, Vl_of fun nm => ⟨_, Vl_1 (by omega) (by omega) nm⟩, Rm_1 (by unfold Dp; omega) (by omega) (by omega)⟩
              · rw [if_neg t1]
                intro e; cases e
      · rw [if_neg l5]
        have g := ih (lvl + 1) p o ho (by omega) hp
        by_cases c : (pE b sz n (lvl + 1) p o).1 = true
        · rw [if_pos c]
          obtain ⟨g1, g2, g3, g4, g5⟩ := g c
          have eD : Dp lvl o = Dp (lvl + 1) o + 1 := by unfold Dp; omega
          rw [eD]
          exact Good_C (fun q hq => ih (lvl + 1) q o ho (by omega) hq) p 160 _ _ g1 g2 g3 g4 (Rm_le (by omega) g5)
        · rw [if_neg c]
          exact fun e => absurd e c
end GOOD
