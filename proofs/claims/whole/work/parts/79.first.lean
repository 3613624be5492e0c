/-! the first picture holds the invariant -/
def b0 : Nat → Int := fun j => ([102, 97, 105, 108, 32, 48, 32, 59, 32, 108, 97, 116, 101, 32, 48, 32, 59, 32, 101, 97, 114, 108, 121, 32, 48, 32, 59, 32, 32, 32, 32, 32] : List Int).getD j 0
theorem law0 : (lawR b0 32).1 = true ∧ (lw0 b0 32).2.2 = [0] ∧ (lw1 b0 32).2.2 = [0] ∧ (lw2 b0 32).2.2 = [0] := by decide +kernel
theorem f_bytes : ∀ j, j < 32 → NL10 57 0 (160 * 0 + j) = b0 j ∧ 0 ≤ b0 j ∧ b0 j ≤ 255 := by decide +kernel
theorem f_L : NL10 6 0 1 = 0 ∧ (0 ≤ NL10 6 0 2 ∧ NL10 6 0 2 ≤ 99999) ∧ (0 ≤ NL10 6 0 3 ∧ NL10 6 0 3 ≤ 100) ∧ NL10 6 0 4 = 0 ∧ NL10 6 0 5 = 0 ∧ NL10 10 0 2 = 0 ∧ NL10 10 0 11 = NL10 6 0 2 ∧ NL10 10 0 12 = NL10 6 0 3 ∧ NL10 10 0 13 = NL10 6 0 4 ∧ NL10 10 0 14 = NL10 6 0 5 := by decide +kernel
theorem f_L2 : ∀ n, n < 12 → (∀ f, f < 8 → NL10 2 n f = 0) ∧ NL10 47 0 n = 0 := by decide +kernel
theorem first_L : iL 0 (0 : Nat) NL10 := by
  obtain ⟨a1, a2, a3, a4, a5, a6, a7, a8, a9, a10⟩ := f_L
  refine ⟨⟨a1, by decide, fun n h => absurd h (Nat.not_lt_zero _), a2, a3, .inl a4, by rw [a5]; decide, by rw [a5]; decide⟩, ⟨a6, a7, a8, a9⟩, ⟨fun n h => absurd h (Nat.not_lt_zero _), a10⟩, fun n _ h => ⟨fun f _ h8 => (f_L2 n h).1 f h8, (f_L2 n h).2⟩⟩
theorem f_F : VF NL10 0 9 1 = 0 ∧ sOK 0 0 (VF NL10 0 9) := by
  unfold sOK
  decide +kernel
theorem f_F2 : ∀ e, e < 10 → 1 ≤ e → e ≠ 8 → VF NL10 0 9 e = VM NL10 9 e := by decide +kernel
theorem f_F3 : ∀ q, q < 5 → NL10 70 0 q = 0 ∧ NL10 71 0 q = 0 ∧ NL10 72 0 q = 0 ∧ NL10 73 0 q = 0 ∧ NL10 74 0 q = 0 := by decide +kernel
theorem first_F : iF 0 (0 : Nat) NL10 := by
  refine ⟨⟨by decide, f_F.1, fun q h => absurd h (Nat.not_lt_zero _), f_F.2⟩, fun q e h => ?_, fun q _ h => f_F3 q h⟩
  rcases h with h | ⟨rfl, h1, h2, h3⟩
  · exact absurd h.1 (Nat.not_lt_zero _)
  · exact f_F2 e (by omega) h1 (fun q => absurd (h3 q) (by decide))
theorem f_O : NL10 9 0 13 = 1 ∧ NL10 10 0 45 = 1 ∧ NL10 4 0 1 = 1 ∧ NL10 60 0 0 = 1 := by decide +kernel
theorem f_O2 : ∀ m, m < 62 → NL10 23 0 m = 0 ∧ NL10 76 0 m = 0 := by decide +kernel
theorem f_O3 : okR (NL10 33 0) := by
  unfold okR
  decide +kernel
theorem f_O4 : ∀ f, f < 6 → NL10 (61 + f) 0 0 = NL10 33 0 f := by decide +kernel
theorem first_O : iO 1 NL10 := by
  obtain ⟨a1, a2, a3, a4⟩ := f_O
  refine ⟨a1, a2, by decide, by decide, fun m _ h => ⟨0, by decide, (f_O2 m (by omega)).1, (f_O2 m (by omega)).2⟩, fun o ho => ?_⟩
  have e : o = 0 := by omega
  subst e
  refine ⟨by rw [a3, a4], by rw [a3]; decide, by rw [a3]; decide, fun i hi => ?_⟩
  rw [a3] at hi
  have e : i = 0 := by omega
  subst e
  exact ⟨f_O3, f_O4⟩
theorem f_T : NL10 9 0 12 = 1 ∧ NL10 10 0 26 = 1 ∧ NL10 6 0 6 = 0 ∧ NL10 9 0 14 = 0 ∧ NL10 10 0 27 = 0 ∧ NL10 58 0 0 = 32 := by decide +kernel
theorem f_T2 : NL10 29 0 0 = 0 ∧ NL10 29 0 1 = 0 ∧ NL10 29 0 2 = 0 ∧ NL10 30 0 0 = 0 ∧ NL10 30 0 1 = 1 ∧ NL10 30 0 2 = 2 ∧ NL10 30 0 3 = 3 := by decide +kernel
theorem first_T : iT 1 0 NL10 := by
  obtain ⟨a1, a2, a3, a4, a5, a6⟩ := f_T
  obtain ⟨c0, c1, c2, c3, c4, c5, c6⟩ := f_T2
  obtain ⟨w1, w2, w3, w4⟩ := law0
  refine ⟨a1, a2, by decide, by decide, by decide, a3, a4, a5, fun u hu => ?_⟩
  have e : u = 0 := by omega
  subst e
  refine ⟨b0, 32, by decide, f_bytes, a6, w1, ?_⟩
  rw [w2, w3, w4]
  refine ⟨fun j hj => ?_, fun j hj => ?_, fun j hj => ?_, c3, c4, c5, c6, by decide⟩
  all_goals
    have e : j = 0 := by
      have : j < 1 := hj
      omega
    subst e
  · exact c0
  · exact c1
  · exact c2
theorem f_P : NL10 8 0 1 = 0 ∧ NL10 10 0 29 = 0 := by decide +kernel
theorem first_P : iP 0 NL10 := ⟨by decide, f_P.1, f_P.2, fun j h => absurd h (Nat.not_lt_zero _)⟩
theorem f_H : ∀ s, s < 4 → NL10 7 s 1 = -1 ∧ NL10 82 0 s = 0 := by decide +kernel
theorem f_k : NL10 9 0 11 = 0 ∧ NL10 10 0 1 = 0 := by decide +kernel
theorem first_Inv : Inv NL10 := ⟨0, 0, 0, 1, 1, 0, 0, by decide, f_k.1, f_k.2, first_L, first_F, fun m h1 h2 => absurd h1 (by omega), first_O, first_T, first_P, fun s hs => .inl (f_H s hs)⟩
