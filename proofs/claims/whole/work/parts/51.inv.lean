/-! class and reference side by side, in one picture -/
def iL (c : Nat) (k : Int) (N : NN) : Prop := BL c 0 k N ∧ relS c 0 N N ∧ relL c 0 N N ∧ ∀ n, c ≤ n → n < 12 → (∀ f, 4 ≤ f → f < 8 → N 2 n f = 0) ∧ N 47 0 n = 0
def iF (c : Nat) (k : Int) (N : NN) : Prop := OKF c k (VF N 0) ∧ EqF c k (VF N 0) (VM N) ∧ ∀ q, c ≤ q → q < 5 → N 70 0 q = 0 ∧ N 71 0 q = 0 ∧ N 72 0 q = 0 ∧ N 73 0 q = 0 ∧ N 74 0 q = 0
def iM (k : Nat) (N : NN) : Prop := ∀ m, 1 ≤ m → m ≤ k → relT m m N N ∧ OKm (N 3 m) ∧ ∀ o : Nat, N 23 0 m = (o : Int) → ∀ i : Nat, i < 10 → N 4 o 1 ≤ (i : Int) → N 28 m i = 0
def iO (oo : Nat) (N : NN) : Prop := N 9 0 13 = (oo : Int) ∧ N 10 0 45 = (oo : Int) ∧ 1 ≤ oo ∧ oo ≤ 6 ∧ (∀ m, 1 ≤ m → m ≤ 61 → ∃ o : Nat, o < oo ∧ N 23 0 m = (o : Int) ∧ N 76 0 m = (o : Int)) ∧ ∀ o, o < oo → relO o N N
def TXT (u : Nat) (N : NN) : Prop := ∃ (b : Nat → Int) (sz : Nat), sz ≤ 160 ∧ (∀ j, j < sz → N 57 0 (160 * u + j) = b j ∧ 0 ≤ b j ∧ b j ≤ 255) ∧ N 58 0 u = (sz : Int) ∧ (lawR b sz).1 = true ∧ LawC u (lw0 b sz).2.2 (lw1 b sz).2.2 (lw2 b sz).2.2 (N 29 u) (N 30 u)
def iT (to t : Nat) (N : NN) : Prop := N 9 0 12 = (to : Int) ∧ N 10 0 26 = (to : Int) ∧ 1 ≤ to ∧ to ≤ 6 ∧ t < to ∧ N 6 0 6 = (t : Int) ∧ N 9 0 14 = (t : Int) ∧ N 10 0 27 = (t : Int) ∧ ∀ u, u < to → TXT u N
def iP (sz : Nat) (N : NN) : Prop := sz ≤ 160 ∧ N 8 0 1 = (sz : Int) ∧ N 10 0 29 = (sz : Int) ∧ ∀ j, j < sz → andI (N 24 0 j) 255 = N 59 0 j ∧ 0 ≤ N 59 0 j ∧ N 59 0 j ≤ 255
def IR (x : Int) : Prop := -2147483648 ≤ x ∧ x < 2147483648
def SHT (s : Nat) (N : NN) : Prop := (N 7 s 1 = -1 ∧ N 82 0 s = 0) ∨ ∃ n : Nat, n ≤ 40 ∧ 0 ≤ N 7 s 1 ∧ N 7 s 1 ≤ 2 ∧ N 82 0 s = 1 ∧ N 83 0 s = N 7 s 1 ∧ N 7 s 2 = (n : Int) ∧ N 84 0 s = (n : Int) ∧ ∀ j, j < n → N 34 s j = N 85 0 (40 * s + j) ∧ IR (N 34 s j)
def iH (N : NN) : Prop := ∀ s, s < 4 → SHT s N
def Inv (N : NN) : Prop := ∃ k c cp oo to t sz : Nat, k ≤ 60 ∧ N 9 0 11 = (k : Int) ∧ N 10 0 1 = (k : Int) ∧ iL c k N ∧ iF cp k N ∧ iM k N ∧ iO oo N ∧ iT to t N ∧ iP sz N ∧ iH N
section IFR
variable {N N' : NN}
theorem BL_fr {c p : Nat} {k : Int} (h : BL c p k N) (f : ∀ c i k, (c = 2 ∧ 12 * p ≤ i ∧ i < 12 * p + 12) ∨ (c = 6 ∧ i = p ∧ k ≤ 5) → N' c i k = N c i k) : BL c p k N' := by
  obtain ⟨h1, h2, h3, h4, h5, h6, h7⟩ := h
  refine ⟨by rw [f _ _ _ (by omega)]; exact h1, h2, fun n hn => LK_8 (fun g hg => f _ _ _ (by omega)) (h3 n hn), by rw [f _ _ _ (by omega)]; exact h4, by rw [f _ _ _ (by omega)]; exact h5, by rw [f _ _ _ (by omega)]; exact h6, by rw [f _ _ _ (by omega)]; exact h7⟩
theorem iL_fr {c : Nat} {k : Int} (h : iL c k N) (f : ∀ c i k, (c = 2 ∧ i < 12) ∨ (c = 6 ∧ i = 0 ∧ k ≤ 5) ∨ (40 ≤ c ∧ c < 48) ∨ (c = 10 ∧ i = 0 ∧ (k = 2 ∨ (11 ≤ k ∧ k ≤ 14))) → N' c i k = N c i k) : iL c k N' := by
  obtain ⟨h1, ⟨r1, r2, r3, r4⟩, ⟨l1, l2⟩, h4⟩ := h
  have c12 := h1.2.1
  refine ⟨BL_fr h1 fun c i k d => f _ _ _ (by omega), ⟨by rw [f _ _ _ (by omega)]; exact r1, by rw [f _ _ _ (by omega), f 6 _ _ (by omega)]; exact r2, by rw [f _ _ _ (by omega), f 6 _ _ (by omega)]; exact r3, by rw [f _ _ _ (by omega), f 6 _ _ (by omega)]; exact r4⟩, ⟨fun n hn g hg => by rw [f _ _ _ (by omega), f 2 _ _ (by omega)]; exact l1 n hn g hg, by rw [f _ _ _ (by omega), f 6 _ _ (by omega)]; exact l2⟩, fun n h1 h2 => ⟨fun g g1 g2 => by rw [f _ _ _ (by omega)]; exact (h4 n h1 h2).1 g g1 g2, by rw [f _ _ _ (by omega)]; exact (h4 n h1 h2).2⟩⟩
theorem iF_fr {c : Nat} {k : Int} (h : iF c k N) (f : ∀ c i k, (c = 0 ∧ i = 0) ∨ (c = 5 ∧ i < 5) ∨ (67 ≤ c ∧ c ≤ 75 ∧ i = 0) ∨ (c = 53 ∧ i = 0 ∧ k = 1) ∨ (c = 10 ∧ i = 0 ∧ (k = 53 ∨ (64 ≤ k ∧ k ≤ 70))) → N' c i k = N c i k) : iF c k N' := by
  have e1 : VF N' 0 = VF N 0 := VF_un fun c i k d => f _ _ _ (by omega)
  have e2 : VM N' = VM N := VM_un fun c i k d => f _ _ _ (by omega)
  unfold iF
  rw [e1, e2]
  refine ⟨h.1, h.2.1, fun q q1 q2 => ?_⟩
  rw [f 70 _ _ (by omega), f 71 _ _ (by omega), f 72 _ _ (by omega), f 73 _ _ (by omega), f 74 _ _ (by omega)]
  exact h.2.2 q q1 q2
theorem OKm_10 {v w : Nat → Int} (h : ∀ f, f < 10 → v f = w f) (B : OKm w) : OKm v := by
  unfold OKm at *
  rw [h 0 (by decide), h 1 (by decide), h 2 (by decide), h 3 (by decide), h 4 (by decide), h 6 (by decide), h 7 (by decide), h 8 (by decide), h 9 (by decide)]
  exact B
theorem mF_in {f : Nat} (h : f < 12) : (48 ≤ mF f ∧ mF f ≤ 56) ∨ (77 ≤ mF f ∧ mF f ≤ 79) := by
  rcases (by omega : f = 0 ∨ f = 1 ∨ f = 2 ∨ f = 3 ∨ f = 4 ∨ f = 5 ∨ f = 6 ∨ f = 7 ∨ f = 8 ∨ f = 9 ∨ f = 10 ∨ f = 11) with rfl | rfl | rfl | rfl | rfl | rfl | rfl | rfl | rfl | rfl | rfl | rfl <;> decide
theorem iM_fr {k : Nat} (h : iM k N) (f : ∀ c i m, (c = 3 ∧ 1 ≤ i ∧ i ≤ k ∧ m < 12) ∨ (c = 28 ∧ 1 ≤ i ∧ i ≤ k) ∨ (((48 ≤ c ∧ c ≤ 56) ∨ (77 ≤ c ∧ c ≤ 79)) ∧ i = 0 ∧ 1 ≤ m ∧ m ≤ k) ∨ (c = 80 ∧ i = 0 ∧ 10 ≤ m ∧ m < 10 * k + 10) ∨ (c = 23 ∧ i = 0) ∨ c = 4 → N' c i m = N c i m) : iM k N' := by
  intro m m1 m2
  obtain ⟨⟨a, b⟩, c, d⟩ := h m m1 m2
  refine ⟨⟨fun e he => ?_, fun i hi => ?_⟩, OKm_10 (fun e he => f _ _ _ (by omega)) c, fun o ho i hi hc => ?_⟩
  · have q := mF_in he
    show N' (mF e) 0 m = N' 3 m e
    rw [f _ _ _ (by omega), f 3 _ _ (by omega)]
    exact a e he
  · rw [f _ _ _ (by omega), f 28 _ _ (by omega)]
    exact b i hi
  · rw [f _ _ _ (by omega)] at ho hc ⊢
    exact d o ho i hi hc
theorem relO_fr {o : Nat} (h : relO o N N) (f : ∀ c i k, (c = 4 ∧ i = o) ∨ (c = 33 ∧ 10 * o ≤ i ∧ i < 10 * o + 10) ∨ (c = 60 ∧ i = 0 ∧ k = o) ∨ (61 ≤ c ∧ c ≤ 66 ∧ i = 0 ∧ 10 * o ≤ k ∧ k < 10 * o + 10) → N' c i k = N c i k) : relO o N' N' := by
  obtain ⟨h1, h2, h3, h4⟩ := h
  have e4 : N' 4 o 1 = N 4 o 1 := f _ _ _ (by omega)
  refine ⟨by rw [e4, f 60 _ _ (by omega)]; exact h1, by rw [e4]; exact h2, by rw [e4]; exact h3, fun i hi => ?_⟩
  rw [e4] at hi
  obtain ⟨g1, g2⟩ := h4 i hi
  have e33 : ∀ k, N' 33 (10 * o + i) k = N 33 (10 * o + i) k := fun k => f _ _ _ (by omega)
  exact ⟨okR_8 (fun g _ => (e33 g).symm) g1, fun g hg => by rw [e33, f _ _ _ (by omega)]; exact g2 g hg⟩
theorem iO_fr {oo : Nat} (h : iO oo N) (f : ∀ c i k, (c = 9 ∧ i = 0 ∧ k = 13) ∨ (c = 10 ∧ i = 0 ∧ k = 45) ∨ (c = 23 ∧ i = 0) ∨ (c = 76 ∧ i = 0) ∨ c = 4 ∨ c = 33 ∨ (60 ≤ c ∧ c ≤ 66) → N' c i k = N c i k) : iO oo N' := by
  obtain ⟨h1, h2, h3, h4, h5, h6⟩ := h
  exact ⟨by rw [f _ _ _ (by omega)]; exact h1, by rw [f _ _ _ (by omega)]; exact h2, h3, h4, fun m m1 m2 => by rw [f 23 _ _ (by omega), f 76 _ _ (by omega)]; exact h5 m m1 m2, fun o ho => relO_fr (h6 o ho) fun c i k d => f _ _ _ (by omega)⟩
theorem TXT_fr {u : Nat} (h : TXT u N) (f : ∀ c i k, (c = 29 ∧ i = u) ∨ (c = 30 ∧ i = u) ∨ (c = 57 ∧ i = 0 ∧ 160 * u ≤ k ∧ k < 160 * u + 160) ∨ (c = 58 ∧ i = 0 ∧ k = u) → N' c i k = N c i k) : TXT u N' := by
  obtain ⟨b, sz, h1, h2, h3, h4, h5⟩ := h
  have e29 : N' 29 u = N 29 u := funext fun k => f _ _ _ (by omega)
  have e30 : N' 30 u = N 30 u := funext fun k => f _ _ _ (by omega)
  exact ⟨b, sz, h1, fun j hj => by rw [f _ _ _ (by omega)]; exact h2 j hj, by rw [f _ _ _ (by omega)]; exact h3, h4, by rw [e29, e30]; exact h5⟩
theorem iT_fr {to t : Nat} (h : iT to t N) (f : ∀ c i k, (c = 9 ∧ i = 0 ∧ (k = 12 ∨ k = 14)) ∨ (c = 10 ∧ i = 0 ∧ (k = 26 ∨ k = 27)) ∨ (c = 6 ∧ i = 0 ∧ k = 6) ∨ c = 29 ∨ c = 30 ∨ (c = 57 ∧ i = 0 ∧ k < 960) ∨ c = 58 → N' c i k = N c i k) : iT to t N' := by
  obtain ⟨h1, h2, h3, h4, h5, h6, h7, h8, h9⟩ := h
  exact ⟨by rw [f _ _ _ (by omega)]; exact h1, by rw [f _ _ _ (by omega)]; exact h2, h3, h4, h5, by rw [f _ _ _ (by omega)]; exact h6, by rw [f _ _ _ (by omega)]; exact h7, by rw [f _ _ _ (by omega)]; exact h8, fun u hu => TXT_fr (h9 u hu) fun c i k d => f _ _ _ (by omega)⟩
theorem iP_fr {sz : Nat} (h : iP sz N) (f : ∀ c i k, (c = 8 ∧ i = 0 ∧ k = 1) ∨ (c = 10 ∧ i = 0 ∧ k = 29) ∨ (c = 24 ∧ i = 0) ∨ (c = 59 ∧ i = 0) → N' c i k = N c i k) : iP sz N' := by
  obtain ⟨h1, h2, h3, h4⟩ := h
  exact ⟨h1, by rw [f _ _ _ (by omega)]; exact h2, by rw [f _ _ _ (by omega)]; exact h3, fun j hj => by rw [f 24 _ _ (by omega), f 59 _ _ (by omega)]; exact h4 j hj⟩
theorem SHT_fr {s : Nat} (h : SHT s N) (f : ∀ c i k, (c = 7 ∧ i = s) ∨ (c = 34 ∧ i = s) ∨ (82 ≤ c ∧ c ≤ 84 ∧ i = 0 ∧ k = s) ∨ (c = 85 ∧ i = 0 ∧ 40 * s ≤ k ∧ k < 40 * s + 40) → N' c i k = N c i k) : SHT s N' := by
  rcases h with ⟨a, b⟩ | ⟨n, h1, h2, h3, h4, h5, h6, h7, h8⟩
  · exact .inl ⟨by rw [f _ _ _ (by omega)]; exact a, by rw [f _ _ _ (by omega)]; exact b⟩
  · exact .inr ⟨n, h1, by rw [f _ _ _ (by omega)]; exact h2, by rw [f _ _ _ (by omega)]; exact h3, by rw [f _ _ _ (by omega)]; exact h4, by rw [f _ _ _ (by omega), f 7 _ _ (by omega)]; exact h5, by rw [f _ _ _ (by omega)]; exact h6, by rw [f _ _ _ (by omega)]; exact h7, fun j hj => by rw [f 34 _ _ (by omega), f 85 _ _ (by omega)]; exact h8 j hj⟩
theorem iH_fr (h : iH N) (f : ∀ c i k, c = 7 ∨ c = 34 ∨ (82 ≤ c ∧ c ≤ 85) → N' c i k = N c i k) : iH N' := fun s hs => SHT_fr (h s hs) fun c i k d => f _ _ _ (by omega)
end IFR
section INB
variable {G : GT} {N : NN}
theorem s_within {a b c : Int} {K : Int → NN → Prop} (k : K (bI (wI b ≤ wI a ∧ wI a ≤ wI c)) N) : C_X9_within G a b c N K := by
  refine vc_X9_within ⟨fun q => ?_, fun q => ⟨fun q2 => ?_, fun q2 => ?_⟩⟩
  · rwa [bI_f (by omega)] at k
  · rwa [bI_f (by omega)] at k
  · rwa [bI_t (by omega)] at k
theorem IR_id {x : Int} (h : IR x) : wI x = x := wI_id h.1 h.2
/-- a test of the class's -/
theorem t_in {a b c : Int} {K : Int → NN → Prop} (ha : IR a) (hb : IR b) (hc : IR c) (k1 : b ≤ a ∧ a ≤ c → K 1 N) (k0 : ¬ (b ≤ a ∧ a ≤ c) → K 0 N) : C_X9_within G a b c N K := by
  refine s_within ?_
  rw [IR_id ha, IR_id hb, IR_id hc]
  by_cases h : b ≤ a ∧ a ≤ c
  · rw [bI_t h]; exact k1 h
  · rw [bI_f h]; exact k0 h
/-- and of the reference's -/
theorem t_min {a b c : Int} {K : Int → NN → Prop} (ha : IR a) (hb : IR b) (hc : IR c) (k1 : b ≤ a ∧ a ≤ c → K 1 N) (k0 : ¬ (b ≤ a ∧ a ≤ c) → K 0 N) : C_X10_in G a b c N K := by
  refine s_in ?_
  rw [IR_id ha, IR_id hb, IR_id hc]
  by_cases h : b ≤ a ∧ a ≤ c
  · rw [bI_t h]; exact k1 h
  · rw [bI_f h]; exact k0 h
theorem t_isLoan {a : Int} {c : Nat} {K : Int → NN → Prop} (ha : IR a) (hc : N 10 0 2 = (c : Int)) (c12 : c ≤ 12) (k1 : 0 ≤ a ∧ a ≤ (c : Int) - 1 → K 1 N) (k0 : ¬ (0 ≤ a ∧ a ≤ (c : Int) - 1) → K 0 N) : C_X10_isLoan G a N K := by
  refine vc_X10_isLoan ?_
  rw [hc]
  exact t_min ha ⟨by decide, by decide⟩ ⟨by omega, by omega⟩ (fun h => ⟨.inr rfl, k1 h⟩) (fun h => ⟨.inl rfl, k0 h⟩)
theorem IRl {x : Int} (h1 : -2147483648 ≤ x) (h2 : x < 2147483648) : IR x := ⟨h1, h2⟩
theorem tt1 {A B : Prop} (k : B) : (wI 1 = 0 → A) ∧ (¬ wI 1 = 0 → B) := ⟨fun q => absurd q (by decide), fun _ => k⟩
theorem tt0 {A B : Prop} (k : A) : (wI 0 = 0 → A) ∧ (¬ wI 0 = 0 → B) := ⟨fun _ => k, fun q => absurd (by decide) q⟩
theorem tn1 {A B : Prop} (k : A) : (wI 1 ≠ 0 → A) ∧ (¬ wI 1 ≠ 0 → B) := ⟨fun _ => k, fun q => absurd (by decide) q⟩
theorem tn0 {A B : Prop} (k : B) : (wI 0 ≠ 0 → A) ∧ (¬ wI 0 ≠ 0 → B) := ⟨fun q => absurd (by decide) q, fun _ => k⟩
end INB
