/-! where the references lead: all fixed, but a pool's law, which the picture keeps as a number (below 0: none) -/
def RF (N : NN) : RR := fun c i k => match c with
  | 0 => (match k with
    | 0 => some (21, i)
    | _ => none)
  | 1 => (match k with
    | 0 => some (29, i)
    | 1 => some (30, i)
    | 2 => some (31, i)
    | _ => none)
  | 3 => (match k with
    | 12 => some (28, i)
    | _ => none)
  | 4 => (match k with
    | 0 => some (32, i)
    | _ => none)
  | 7 => (match k with
    | 0 => some (34, i)
    | _ => none)
  | 8 => (match k with
    | 0 => some (24, 0)
    | _ => none)
  | 9 => (match k with
    | 0 => some (6, 0)
    | 1 => some (0, 0)
    | 2 => some (6, 1)
    | 3 => some (0, 1)
    | 4 => some (3, 61)
    | 5 => some (22, 0)
    | 6 => some (23, 0)
    | 7 => some (8, 0)
    | 8 => some (25, 0)
    | 9 => some (26, 0)
    | 10 => some (27, 0)
    | _ => none)
  | 10 => (match k with
    | 3 => some (40, 0)
    | 4 => some (41, 0)
    | 5 => some (42, 0)
    | 6 => some (43, 0)
    | 7 => some (44, 0)
    | 8 => some (45, 0)
    | 9 => some (46, 0)
    | 10 => some (47, 0)
    | 15 => some (48, 0)
    | 16 => some (49, 0)
    | 17 => some (50, 0)
    | 18 => some (51, 0)
    | 19 => some (52, 0)
    | 20 => some (53, 0)
    | 21 => some (54, 0)
    | 22 => some (55, 0)
    | 23 => some (56, 0)
    | 24 => some (57, 0)
    | 25 => some (58, 0)
    | 28 => some (59, 0)
    | 46 => some (60, 0)
    | 47 => some (61, 0)
    | 48 => some (62, 0)
    | 49 => some (63, 0)
    | 50 => some (64, 0)
    | 51 => some (65, 0)
    | 52 => some (66, 0)
    | 54 => some (67, 0)
    | 55 => some (68, 0)
    | 56 => some (69, 0)
    | 57 => some (70, 0)
    | 58 => some (71, 0)
    | 59 => some (72, 0)
    | 60 => some (73, 0)
    | 61 => some (74, 0)
    | 62 => some (75, 0)
    | 63 => some (76, 0)
    | 71 => some (77, 0)
    | 72 => some (78, 0)
    | 73 => some (79, 0)
    | 74 => some (80, 0)
    | 75 => some (81, 0)
    | 77 => some (82, 0)
    | 78 => some (83, 0)
    | 79 => some (84, 0)
    | 80 => some (85, 0)
    | _ => none)
  | 6 => (match k with
    | 0 => some (20, i)
    | 6 => if N 6 i 6 < 0 then none else some (1, (N 6 i 6).toNat)
    | _ => none)
  | 20 => some (2, 12 * i + k)
  | 21 => some (5, 5 * i + k)
  | 22 => some (3, k)
  | 25 => some (1, k)
  | 26 => some (4, k)
  | 27 => some (7, k)
  | 32 => some (33, 10 * i + k)
  | _ => none
theorem RF_ext {N N' : NN} (h : ∀ i, N' 6 i 6 = N 6 i 6) : RF N' = RF N := by
  funext c i k
  unfold RF
  simp only [h]
theorem RF_up {N : NN} {c i k : Nat} {v : Int} (h : ¬ (c = 6 ∧ k = 6)) : RF (up3 N c i k v) = RF N := RF_ext fun i' => if_neg fun q => h ⟨q.1.symm, q.2.1.symm⟩
theorem RF_6 (M : NN) (i k : Nat) : RF M 6 i k = (match k with
    | 0 => some (20, i)
    | 6 => if M 6 i 6 < 0 then none else some (1, (M 6 i 6).toNat)
    | _ => none) := rfl
theorem RF_c {N N' : NN} {c i k : Nat} (h : ¬ (c = 6 ∧ k = 6)) : RF N c i k = RF N' c i k := by
  by_cases hc : c = 6
  · subst hc
    have hk : ¬ k = 6 := fun q => h ⟨rfl, q⟩
    rw [RF_6, RF_6]
    split
    · rfl
    · exact absurd rfl hk
    · rfl
  · unfold RF
    split <;> first | rfl | exact absurd rfl hc
theorem RF_law {N : NN} {i t : Nat} : RF (up3 N 6 i 6 (t : Int)) = upR (RF N) 6 i 6 (some (1, t)) := by
  funext c i' k
  by_cases h : c = 6 ∧ k = 6
  · obtain ⟨rfl, rfl⟩ := h
    by_cases hi : i' = i
    · subst hi
      show (if up3 N 6 i' 6 (t : Int) 6 i' 6 < 0 then none else some (1, (up3 N 6 i' 6 (t : Int) 6 i' 6).toNat)) = _
      rw [up3_s, upR_s, if_neg (by omega)]
      rfl
    · have e : up3 N 6 i 6 (t : Int) 6 i' 6 = N 6 i' 6 := if_neg fun q => hi q.2.2
      have e2 : upR (RF N) 6 i 6 (some (1, t)) 6 i' 6 = RF N 6 i' 6 := if_neg fun q => hi q.2.2
      rw [e2]
      show (if up3 N 6 i 6 (t : Int) 6 i' 6 < 0 then none else some (1, (up3 N 6 i 6 (t : Int) 6 i' 6).toNat)) = if N 6 i' 6 < 0 then none else some (1, (N 6 i' 6).toNat)
      rw [e]
  · have e2 : upR (RF N) 6 i 6 (some (1, t)) c i' k = RF N c i' k := if_neg fun q => h ⟨q.1, q.2.1⟩
    rw [e2]
    exact RF_c h
theorem cnt0 : cnt 0 = 2 := by decide +kernel
theorem okK0 {i : Nat} (h : i < 2) : okA TOT 0 i := okT (by rw [cnt0]; exact h)
theorem cnt1 : cnt 1 = 6 := by decide +kernel
theorem okK1 {i : Nat} (h : i < 6) : okA TOT 1 i := okT (by rw [cnt1]; exact h)
theorem cnt2 : cnt 2 = 24 := by decide +kernel
theorem okK2 {i : Nat} (h : i < 24) : okA TOT 2 i := okT (by rw [cnt2]; exact h)
theorem cnt3 : cnt 3 = 62 := by decide +kernel
theorem okK3 {i : Nat} (h : i < 62) : okA TOT 3 i := okT (by rw [cnt3]; exact h)
theorem cnt4 : cnt 4 = 6 := by decide +kernel
theorem okK4 {i : Nat} (h : i < 6) : okA TOT 4 i := okT (by rw [cnt4]; exact h)
theorem cnt5 : cnt 5 = 10 := by decide +kernel
theorem okK5 {i : Nat} (h : i < 10) : okA TOT 5 i := okT (by rw [cnt5]; exact h)
theorem cnt6 : cnt 6 = 2 := by decide +kernel
theorem okK6 {i : Nat} (h : i < 2) : okA TOT 6 i := okT (by rw [cnt6]; exact h)
theorem cnt7 : cnt 7 = 4 := by decide +kernel
theorem okK7 {i : Nat} (h : i < 4) : okA TOT 7 i := okT (by rw [cnt7]; exact h)
theorem cnt8 : cnt 8 = 1 := by decide +kernel
theorem okK8 {i : Nat} (h : i < 1) : okA TOT 8 i := okT (by rw [cnt8]; exact h)
theorem cnt9 : cnt 9 = 1 := by decide +kernel
theorem okK9 {i : Nat} (h : i < 1) : okA TOT 9 i := okT (by rw [cnt9]; exact h)
theorem cnt10 : cnt 10 = 1 := by decide +kernel
theorem okK10 {i : Nat} (h : i < 1) : okA TOT 10 i := okT (by rw [cnt10]; exact h)
theorem cnt20 : cnt 20 = 2 := by decide +kernel
theorem okK20 {i : Nat} (h : i < 2) : okA TOT 20 i := okT (by rw [cnt20]; exact h)
theorem cnt21 : cnt 21 = 2 := by decide +kernel
theorem okK21 {i : Nat} (h : i < 2) : okA TOT 21 i := okT (by rw [cnt21]; exact h)
theorem cnt22 : cnt 22 = 1 := by decide +kernel
theorem okK22 {i : Nat} (h : i < 1) : okA TOT 22 i := okT (by rw [cnt22]; exact h)
theorem cnt23 : cnt 23 = 1 := by decide +kernel
theorem okK23 {i : Nat} (h : i < 1) : okA TOT 23 i := okT (by rw [cnt23]; exact h)
theorem cnt24 : cnt 24 = 1 := by decide +kernel
theorem okK24 {i : Nat} (h : i < 1) : okA TOT 24 i := okT (by rw [cnt24]; exact h)
theorem cnt25 : cnt 25 = 1 := by decide +kernel
theorem okK25 {i : Nat} (h : i < 1) : okA TOT 25 i := okT (by rw [cnt25]; exact h)
theorem cnt26 : cnt 26 = 1 := by decide +kernel
theorem okK26 {i : Nat} (h : i < 1) : okA TOT 26 i := okT (by rw [cnt26]; exact h)
theorem cnt27 : cnt 27 = 1 := by decide +kernel
theorem okK27 {i : Nat} (h : i < 1) : okA TOT 27 i := okT (by rw [cnt27]; exact h)
theorem cnt28 : cnt 28 = 62 := by decide +kernel
theorem okK28 {i : Nat} (h : i < 62) : okA TOT 28 i := okT (by rw [cnt28]; exact h)
theorem cnt29 : cnt 29 = 6 := by decide +kernel
theorem okK29 {i : Nat} (h : i < 6) : okA TOT 29 i := okT (by rw [cnt29]; exact h)
theorem cnt30 : cnt 30 = 6 := by decide +kernel
theorem okK30 {i : Nat} (h : i < 6) : okA TOT 30 i := okT (by rw [cnt30]; exact h)
theorem cnt31 : cnt 31 = 6 := by decide +kernel
theorem okK31 {i : Nat} (h : i < 6) : okA TOT 31 i := okT (by rw [cnt31]; exact h)
theorem cnt32 : cnt 32 = 6 := by decide +kernel
theorem okK32 {i : Nat} (h : i < 6) : okA TOT 32 i := okT (by rw [cnt32]; exact h)
theorem cnt33 : cnt 33 = 60 := by decide +kernel
theorem okK33 {i : Nat} (h : i < 60) : okA TOT 33 i := okT (by rw [cnt33]; exact h)
theorem cnt34 : cnt 34 = 4 := by decide +kernel
theorem okK34 {i : Nat} (h : i < 4) : okA TOT 34 i := okT (by rw [cnt34]; exact h)
theorem cnt40 : cnt 40 = 1 := by decide +kernel
theorem okK40 {i : Nat} (h : i < 1) : okA TOT 40 i := okT (by rw [cnt40]; exact h)
theorem cnt41 : cnt 41 = 1 := by decide +kernel
theorem okK41 {i : Nat} (h : i < 1) : okA TOT 41 i := okT (by rw [cnt41]; exact h)
theorem cnt42 : cnt 42 = 1 := by decide +kernel
theorem okK42 {i : Nat} (h : i < 1) : okA TOT 42 i := okT (by rw [cnt42]; exact h)
theorem cnt43 : cnt 43 = 1 := by decide +kernel
theorem okK43 {i : Nat} (h : i < 1) : okA TOT 43 i := okT (by rw [cnt43]; exact h)
theorem cnt44 : cnt 44 = 1 := by decide +kernel
theorem okK44 {i : Nat} (h : i < 1) : okA TOT 44 i := okT (by rw [cnt44]; exact h)
theorem cnt45 : cnt 45 = 1 := by decide +kernel
theorem okK45 {i : Nat} (h : i < 1) : okA TOT 45 i := okT (by rw [cnt45]; exact h)
theorem cnt46 : cnt 46 = 1 := by decide +kernel
theorem okK46 {i : Nat} (h : i < 1) : okA TOT 46 i := okT (by rw [cnt46]; exact h)
theorem cnt47 : cnt 47 = 1 := by decide +kernel
theorem okK47 {i : Nat} (h : i < 1) : okA TOT 47 i := okT (by rw [cnt47]; exact h)
theorem cnt48 : cnt 48 = 1 := by decide +kernel
theorem okK48 {i : Nat} (h : i < 1) : okA TOT 48 i := okT (by rw [cnt48]; exact h)
theorem cnt49 : cnt 49 = 1 := by decide +kernel
theorem okK49 {i : Nat} (h : i < 1) : okA TOT 49 i := okT (by rw [cnt49]; exact h)
theorem cnt50 : cnt 50 = 1 := by decide +kernel
theorem okK50 {i : Nat} (h : i < 1) : okA TOT 50 i := okT (by rw [cnt50]; exact h)
theorem cnt51 : cnt 51 = 1 := by decide +kernel
theorem okK51 {i : Nat} (h : i < 1) : okA TOT 51 i := okT (by rw [cnt51]; exact h)
theorem cnt52 : cnt 52 = 1 := by decide +kernel
theorem okK52 {i : Nat} (h : i < 1) : okA TOT 52 i := okT (by rw [cnt52]; exact h)
theorem cnt53 : cnt 53 = 1 := by decide +kernel
theorem okK53 {i : Nat} (h : i < 1) : okA TOT 53 i := okT (by rw [cnt53]; exact h)
theorem cnt54 : cnt 54 = 1 := by decide +kernel
theorem okK54 {i : Nat} (h : i < 1) : okA TOT 54 i := okT (by rw [cnt54]; exact h)
theorem cnt55 : cnt 55 = 1 := by decide +kernel
theorem okK55 {i : Nat} (h : i < 1) : okA TOT 55 i := okT (by rw [cnt55]; exact h)
theorem cnt56 : cnt 56 = 1 := by decide +kernel
theorem okK56 {i : Nat} (h : i < 1) : okA TOT 56 i := okT (by rw [cnt56]; exact h)
theorem cnt57 : cnt 57 = 1 := by decide +kernel
theorem okK57 {i : Nat} (h : i < 1) : okA TOT 57 i := okT (by rw [cnt57]; exact h)
theorem cnt58 : cnt 58 = 1 := by decide +kernel
theorem okK58 {i : Nat} (h : i < 1) : okA TOT 58 i := okT (by rw [cnt58]; exact h)
theorem cnt59 : cnt 59 = 1 := by decide +kernel
theorem okK59 {i : Nat} (h : i < 1) : okA TOT 59 i := okT (by rw [cnt59]; exact h)
theorem cnt60 : cnt 60 = 1 := by decide +kernel
theorem okK60 {i : Nat} (h : i < 1) : okA TOT 60 i := okT (by rw [cnt60]; exact h)
theorem cnt61 : cnt 61 = 1 := by decide +kernel
theorem okK61 {i : Nat} (h : i < 1) : okA TOT 61 i := okT (by rw [cnt61]; exact h)
theorem cnt62 : cnt 62 = 1 := by decide +kernel
theorem okK62 {i : Nat} (h : i < 1) : okA TOT 62 i := okT (by rw [cnt62]; exact h)
theorem cnt63 : cnt 63 = 1 := by decide +kernel
theorem okK63 {i : Nat} (h : i < 1) : okA TOT 63 i := okT (by rw [cnt63]; exact h)
theorem cnt64 : cnt 64 = 1 := by decide +kernel
theorem okK64 {i : Nat} (h : i < 1) : okA TOT 64 i := okT (by rw [cnt64]; exact h)
theorem cnt65 : cnt 65 = 1 := by decide +kernel
theorem okK65 {i : Nat} (h : i < 1) : okA TOT 65 i := okT (by rw [cnt65]; exact h)
theorem cnt66 : cnt 66 = 1 := by decide +kernel
theorem okK66 {i : Nat} (h : i < 1) : okA TOT 66 i := okT (by rw [cnt66]; exact h)
theorem cnt67 : cnt 67 = 1 := by decide +kernel
theorem okK67 {i : Nat} (h : i < 1) : okA TOT 67 i := okT (by rw [cnt67]; exact h)
theorem cnt68 : cnt 68 = 1 := by decide +kernel
theorem okK68 {i : Nat} (h : i < 1) : okA TOT 68 i := okT (by rw [cnt68]; exact h)
theorem cnt69 : cnt 69 = 1 := by decide +kernel
theorem okK69 {i : Nat} (h : i < 1) : okA TOT 69 i := okT (by rw [cnt69]; exact h)
theorem cnt70 : cnt 70 = 1 := by decide +kernel
theorem okK70 {i : Nat} (h : i < 1) : okA TOT 70 i := okT (by rw [cnt70]; exact h)
theorem cnt71 : cnt 71 = 1 := by decide +kernel
theorem okK71 {i : Nat} (h : i < 1) : okA TOT 71 i := okT (by rw [cnt71]; exact h)
theorem cnt72 : cnt 72 = 1 := by decide +kernel
theorem okK72 {i : Nat} (h : i < 1) : okA TOT 72 i := okT (by rw [cnt72]; exact h)
theorem cnt73 : cnt 73 = 1 := by decide +kernel
theorem okK73 {i : Nat} (h : i < 1) : okA TOT 73 i := okT (by rw [cnt73]; exact h)
theorem cnt74 : cnt 74 = 1 := by decide +kernel
theorem okK74 {i : Nat} (h : i < 1) : okA TOT 74 i := okT (by rw [cnt74]; exact h)
theorem cnt75 : cnt 75 = 1 := by decide +kernel
theorem okK75 {i : Nat} (h : i < 1) : okA TOT 75 i := okT (by rw [cnt75]; exact h)
theorem cnt76 : cnt 76 = 1 := by decide +kernel
theorem okK76 {i : Nat} (h : i < 1) : okA TOT 76 i := okT (by rw [cnt76]; exact h)
theorem cnt77 : cnt 77 = 1 := by decide +kernel
theorem okK77 {i : Nat} (h : i < 1) : okA TOT 77 i := okT (by rw [cnt77]; exact h)
theorem cnt78 : cnt 78 = 1 := by decide +kernel
theorem okK78 {i : Nat} (h : i < 1) : okA TOT 78 i := okT (by rw [cnt78]; exact h)
theorem cnt79 : cnt 79 = 1 := by decide +kernel
theorem okK79 {i : Nat} (h : i < 1) : okA TOT 79 i := okT (by rw [cnt79]; exact h)
theorem cnt80 : cnt 80 = 1 := by decide +kernel
theorem okK80 {i : Nat} (h : i < 1) : okA TOT 80 i := okT (by rw [cnt80]; exact h)
theorem cnt81 : cnt 81 = 1 := by decide +kernel
theorem okK81 {i : Nat} (h : i < 1) : okA TOT 81 i := okT (by rw [cnt81]; exact h)
theorem cnt82 : cnt 82 = 1 := by decide +kernel
theorem okK82 {i : Nat} (h : i < 1) : okA TOT 82 i := okT (by rw [cnt82]; exact h)
theorem cnt83 : cnt 83 = 1 := by decide +kernel
theorem okK83 {i : Nat} (h : i < 1) : okA TOT 83 i := okT (by rw [cnt83]; exact h)
theorem cnt84 : cnt 84 = 1 := by decide +kernel
theorem okK84 {i : Nat} (h : i < 1) : okA TOT 84 i := okT (by rw [cnt84]; exact h)
theorem cnt85 : cnt 85 = 1 := by decide +kernel
theorem okK85 {i : Nat} (h : i < 1) : okA TOT 85 i := okT (by rw [cnt85]; exact h)
def rI (K : Int → NN → Prop) : Option AV → NN → Prop := fun r N => ∃ x, r = some (vI x) ∧ K x N
def rL (K : Int → NN → Prop) : Option AV → NN → Prop := fun r N => ∃ x, r = some (vL x) ∧ K x N
def rV (K : NN → Prop) : Option AV → NN → Prop := fun r N => r = none ∧ K N
def rR (c b : Nat) (K : Nat → NN → Prop) : Option AV → NN → Prop := fun r N => ∃ i, r = some (vR c i) ∧ i < b ∧ K i N
def rO (c b : Nat) (K : Option Nat → NN → Prop) : Option AV → NN → Prop := fun r N => ∃ q : Option Nat, r = some (.inr (.inr (q.map (fun i => (c, i))))) ∧ (∀ i, q = some i → i < b) ∧ K q N
abbrev BC (G : GT) (y : MethodName) (cc : ByteArray) (nL : Nat) (ret : Option FieldType) (L : Nat) (av : List AV) (N : NN) (Q : Option AV → NN → Prop) : Prop := Ctr G y cc nL ret L TOT TOT av N (RF N) (fun r N' R' => R' = RF N' ∧ Q r N')
abbrev BW (G : GT) (o : String) (cc : ByteArray) (nL : Nat) (ret : Option FieldType) (L : Nat) (Q : Option AV → NN → Prop) (pc : Nat) (ls : List (Nat × AV)) (st : List AV) (N : NN) : Prop := AW G o cc nL ret false (rmL L TOT TOT) TOT (ZQ G TOT TOT (fun r N' R' => R' = RF N' ∧ Q r N')) pc ls st TOT N (RF N)
/-- the picture may be told otherwise where no cell holds it -/
theorem AW_ext {G : GT} {o : String} {cc : ByteArray} {nL : Nat} {ret : Option FieldType} {ini : Bool} {rm : Room} {n0 : Nat} {Z : ZT} {pc : Nat} {ls : List (Nat × AV)} {st : List AV} {n : Nat} {N N' : NN} {R : RR} (hN : ∀ c i k, ¬ (c = 6 ∧ k = 6) → N c i k = N' c i k) (h : AW G o cc nL ret ini rm n0 Z pc ls st n N R) : AW G o cc nL ret ini rm n0 Z pc ls st n N' R := by
  have e : ws G n N R = ws G n N' R := by
    unfold ws
    apply List.map_congr_left
    intro q _
    have key : ∀ r, EE G N R r = EE G N' R r := by
      intro r
      unfold EE
      by_cases h1 : r.1 < 11
      · rw [if_pos h1, if_pos h1]
        have e2 : ∀ k, slot G N R r.1 r.2 (tyC r.1 k) k = slot G N' R r.1 r.2 (tyC r.1 k) k := by
          intro k
          by_cases h2 : r.1 = 6 ∧ k = 6
          · obtain ⟨a, b⟩ := r
            obtain ⟨h3, rfl⟩ := h2
            dsimp only at h3
            subst h3
            rfl
          · exact slot_o (hN _ _ _ h2) rfl
        simp only [e2]
      · rw [if_neg h1, if_neg h1]
        have e3 : arrE G N R r.1 r.2 = arrE G N' R r.1 r.2 := by
          unfold arrE
          have a0 : ∀ j, N r.1 r.2 j = N' r.1 r.2 j := fun j => hN _ _ _ (fun z => by omega)
          simp only [a0]
        rw [e3]
    rw [key]
  intro p e' s m args below meth c H locs la C hn hP hS hz hl
  exact h p e' s m args below meth c H locs la C hn (by rw [e]; exact hP) hS hz hl
section BWR
variable {G : GT} {o : String} {cc : ByteArray} {nL : Nat} {ret : Option FieldType} {rm : Room} {Z : ZT} {pc : Nat} {ls : List (Nat × AV)} {st : List AV} {N : NN} {L : Nat} {Q : Option AV → NN → Prop}
theorem B_putI {idx c i k : Nat} {x : Int} (hd : decode cc pc = .ok (.putfield idx, 3)) (F : FW o idx c k .int false) (hk : ¬ (c = 6 ∧ k = 6)) (ho : okA TOT c i) (h : ∀ N1, N1 = up3 N c i k x → AW G o cc nL ret false rm TOT Z (pc + 3) ls st TOT N1 (RF N1)) : AW G o cc nL ret false rm TOT Z pc ls (vI x :: vR c i :: st) TOT N (RF N) := by
  replace h := h _ rfl
  rw [RF_up hk] at h
  exact A_putI hd F ho  h
theorem B_putL {idx c i k : Nat} {x : Int} (hd : decode cc pc = .ok (.putfield idx, 3)) (F : FW o idx c k .long false) (hk : ¬ (c = 6 ∧ k = 6)) (ho : okA TOT c i) (h : ∀ N1, N1 = up3 N c i k x → AW G o cc nL ret false rm TOT Z (pc + 3) ls st TOT N1 (RF N1)) : AW G o cc nL ret false rm TOT Z pc ls (vL x :: vR c i :: st) TOT N (RF N) := by
  replace h := h _ rfl
  rw [RF_up hk] at h
  exact A_putL hd F ho  h
theorem B_putZ {idx c i k : Nat} {x : Int} (hd : decode cc pc = .ok (.putfield idx, 3)) (F : FW o idx c k .boolean false) (hk : ¬ (c = 6 ∧ k = 6)) (ho : okA TOT c i) (hx : x = 0 ∨ x = 1) (h : ∀ N1, N1 = up3 N c i k x → AW G o cc nL ret false rm TOT Z (pc + 3) ls st TOT N1 (RF N1)) : AW G o cc nL ret false rm TOT Z pc ls (vI x :: vR c i :: st) TOT N (RF N) := by
  replace h := h _ rfl
  rw [RF_up hk] at h
  exact A_putZ hd F ho hx h
theorem B_iast {c i j : Nat} {x v : Int} (hd : decode cc pc = .ok (.iastore, 1)) (h2 : 20 ≤ c) (hT : aT c = .int) (ho : okA TOT c i) (hj : wI x = (j : Int)) (hlt : j < aN c) (h : ∀ N1, N1 = up3 N c i j v → AW G o cc nL ret false rm TOT Z (pc + 1) ls st TOT N1 (RF N1)) : AW G o cc nL ret false rm TOT Z pc ls (vI v :: vI x :: vR c i :: st) TOT N (RF N) := by
  replace h := h _ rfl
  rw [RF_up (fun q => by omega)] at h
  exact A_iast hd h2 hT ho hj hlt  h
theorem B_last {c i j : Nat} {x v : Int} (hd : decode cc pc = .ok (.lastore, 1)) (h2 : 20 ≤ c) (hT : aT c = .long) (ho : okA TOT c i) (hj : wI x = (j : Int)) (hlt : j < aN c) (h : ∀ N1, N1 = up3 N c i j v → AW G o cc nL ret false rm TOT Z (pc + 1) ls st TOT N1 (RF N1)) : AW G o cc nL ret false rm TOT Z pc ls (vL v :: vI x :: vR c i :: st) TOT N (RF N) := by
  replace h := h _ rfl
  rw [RF_up (fun q => by omega)] at h
  exact A_last hd h2 hT ho hj hlt  h
theorem B_zast {c i j : Nat} {x v : Int} (hd : decode cc pc = .ok (.bastore, 1)) (h2 : 20 ≤ c) (hT : aT c = .boolean) (ho : okA TOT c i) (hj : wI x = (j : Int)) (hlt : j < aN c) (hv : v = 0 ∨ v = 1) (h : ∀ N1, N1 = up3 N c i j v → AW G o cc nL ret false rm TOT Z (pc + 1) ls st TOT N1 (RF N1)) : AW G o cc nL ret false rm TOT Z pc ls (vI v :: vI x :: vR c i :: st) TOT N (RF N) := by
  replace h := h _ rfl
  rw [RF_up (fun q => by omega)] at h
  exact A_zast hd h2 hT ho hj hlt hv h
theorem B_bast {c i j : Nat} {x v : Int} (hd : decode cc pc = .ok (.bastore, 1)) (h2 : 20 ≤ c) (hT : aT c = .byte) (ho : okA TOT c i) (hj : wI x = (j : Int)) (hlt : j < aN c) (h : ∀ N1, N1 = up3 N c i j (wB v) → AW G o cc nL ret false rm TOT Z (pc + 1) ls st TOT N1 (RF N1)) : AW G o cc nL ret false rm TOT Z pc ls (vI v :: vI x :: vR c i :: st) TOT N (RF N) := by
  replace h := h _ rfl
  rw [RF_up (fun q => by omega)] at h
  exact A_bast hd h2 hT ho hj hlt  h
theorem B_law {idx i t : Nat} (hd : decode cc pc = .ok (.putfield idx, 3)) (F : FW o idx 6 6 (.object "LayerBook$Law") false) (ho : okA TOT 6 i) (h : ∀ N1, N1 = up3 N 6 i 6 (t : Int) → AW G o cc nL ret false rm TOT Z (pc + 3) ls st TOT N1 (RF N1)) : AW G o cc nL ret false rm TOT Z pc ls (vR 1 t :: vR 6 i :: st) TOT N (RF N) := by
  replace h := h _ rfl
  rw [RF_law] at h
  exact A_putR hd F (fun q => by cases q) (fun q => by cases q) rfl (fun _ => ⟨rfl, rfl⟩) ho (AW_ext (fun c' i' k' h1 => if_neg fun q => h1 ⟨q.1, q.2.1⟩) h)
theorem A_pick {n0 n : Nat} {ini : Bool} {R : RR} {ls' : List (Nat × AV)} (ks : List Nat) (e : ks.filterMap (fun k => ls[k]?) = ls') (h : AW G o cc nL ret ini rm n0 Z pc ls' st n N R) : AW G o cc nL ret ini rm n0 Z pc ls st n N R := by
  subst e
  refine A_locals (fun q hq => ?_) h
  obtain ⟨k, -, hk⟩ := List.mem_filterMap.mp hq
  exact List.mem_of_getElem? hk
theorem B_callV_I {c i idx np L' nL' L0 : Nat} {y : MethodName} {cc' : ByteArray} {ret' : Option FieldType} {av stk : List AV} (hs : stk = av.reverse ++ vR c i :: st) (hd : decode cc pc = .ok (.invokevirtual idx, 3)) (hw : MWV o idx y) (hm : MW y cc' nL' ret' np) {C0 : String} {T0 : u_T} {k0 : Nat} (hrv : vwCl[c]? = some (C0, T0, k0) ∧ y.cls = C0 ∧ c < 11) (ho : okA TOT c i) (hnp : av.length = np) (hst : (st.map fun v => if isL v then 2 else 1).sum ≤ 8) (hL : L' < L0) (hl : nL' ≤ 21) (hrm : rm = rmL L0 TOT TOT)
    (h : BC G y cc' nL' ret' L' (vR c i :: av) N (rI (fun x N' => AW G o cc nL ret false rm TOT Z (pc + 3) ls (vI x :: st) TOT N' (RF N')))) : AW G o cc nL ret false rm TOT Z pc ls stk TOT N (RF N) := by
  subst hrm
  refine A_callV hd hw hm hrv ho hnp hst ⟨Nat.le_refl _, Nat.le_refl _⟩ ⟨?_, ?_⟩ ⟨?_, ?_⟩ (Ctr.mono h (fun r N' R' hh => ?_)) hs
  · show 8 + L' + 1 ≤ 8 + L0
    omega
  · show 8 + (nL' + 11) + (400 + 40 * L') ≤ 400 + 40 * L0
    omega
  · exact Nat.le_refl _
  · exact Nat.le_refl _
  · obtain ⟨rfl, x, rfl, hx⟩ := hh
    exact hx
theorem B_callV_L {c i idx np L' nL' L0 : Nat} {y : MethodName} {cc' : ByteArray} {ret' : Option FieldType} {av stk : List AV} (hs : stk = av.reverse ++ vR c i :: st) (hd : decode cc pc = .ok (.invokevirtual idx, 3)) (hw : MWV o idx y) (hm : MW y cc' nL' ret' np) {C0 : String} {T0 : u_T} {k0 : Nat} (hrv : vwCl[c]? = some (C0, T0, k0) ∧ y.cls = C0 ∧ c < 11) (ho : okA TOT c i) (hnp : av.length = np) (hst : (st.map fun v => if isL v then 2 else 1).sum ≤ 8) (hL : L' < L0) (hl : nL' ≤ 21) (hrm : rm = rmL L0 TOT TOT)
    (h : BC G y cc' nL' ret' L' (vR c i :: av) N (rL (fun x N' => AW G o cc nL ret false rm TOT Z (pc + 3) ls (vL x :: st) TOT N' (RF N')))) : AW G o cc nL ret false rm TOT Z pc ls stk TOT N (RF N) := by
  subst hrm
  refine A_callV hd hw hm hrv ho hnp hst ⟨Nat.le_refl _, Nat.le_refl _⟩ ⟨?_, ?_⟩ ⟨?_, ?_⟩ (Ctr.mono h (fun r N' R' hh => ?_)) hs
  · show 8 + L' + 1 ≤ 8 + L0
    omega
  · show 8 + (nL' + 11) + (400 + 40 * L') ≤ 400 + 40 * L0
    omega
  · exact Nat.le_refl _
  · exact Nat.le_refl _
  · obtain ⟨rfl, x, rfl, hx⟩ := hh
    exact hx
theorem B_callV_V {c i idx np L' nL' L0 : Nat} {y : MethodName} {cc' : ByteArray} {ret' : Option FieldType} {av stk : List AV} (hs : stk = av.reverse ++ vR c i :: st) (hd : decode cc pc = .ok (.invokevirtual idx, 3)) (hw : MWV o idx y) (hm : MW y cc' nL' ret' np) {C0 : String} {T0 : u_T} {k0 : Nat} (hrv : vwCl[c]? = some (C0, T0, k0) ∧ y.cls = C0 ∧ c < 11) (ho : okA TOT c i) (hnp : av.length = np) (hst : (st.map fun v => if isL v then 2 else 1).sum ≤ 8) (hL : L' < L0) (hl : nL' ≤ 21) (hrm : rm = rmL L0 TOT TOT)
    (h : BC G y cc' nL' ret' L' (vR c i :: av) N (rV (fun N' => AW G o cc nL ret false rm TOT Z (pc + 3) ls st TOT N' (RF N')))) : AW G o cc nL ret false rm TOT Z pc ls stk TOT N (RF N) := by
  subst hrm
  refine A_callV hd hw hm hrv ho hnp hst ⟨Nat.le_refl _, Nat.le_refl _⟩ ⟨?_, ?_⟩ ⟨?_, ?_⟩ (Ctr.mono h (fun r N' R' hh => ?_)) hs
  · show 8 + L' + 1 ≤ 8 + L0
    omega
  · show 8 + (nL' + 11) + (400 + 40 * L') ≤ 400 + 40 * L0
    omega
  · exact Nat.le_refl _
  · exact Nat.le_refl _
  · obtain ⟨rfl, rfl, hx⟩ := hh
    exact hx
theorem B_callV_R {c2 b2 : Nat} {c i idx np L' nL' L0 : Nat} {y : MethodName} {cc' : ByteArray} {ret' : Option FieldType} {av stk : List AV} (hs : stk = av.reverse ++ vR c i :: st) (hd : decode cc pc = .ok (.invokevirtual idx, 3)) (hw : MWV o idx y) (hm : MW y cc' nL' ret' np) {C0 : String} {T0 : u_T} {k0 : Nat} (hrv : vwCl[c]? = some (C0, T0, k0) ∧ y.cls = C0 ∧ c < 11) (ho : okA TOT c i) (hnp : av.length = np) (hst : (st.map fun v => if isL v then 2 else 1).sum ≤ 8) (hL : L' < L0) (hl : nL' ≤ 21) (hrm : rm = rmL L0 TOT TOT)
    (h : BC G y cc' nL' ret' L' (vR c i :: av) N (rR c2 b2 (fun i2 N' => AW G o cc nL ret false rm TOT Z (pc + 3) ls (vR c2 i2 :: st) TOT N' (RF N')))) : AW G o cc nL ret false rm TOT Z pc ls stk TOT N (RF N) := by
  subst hrm
  refine A_callV hd hw hm hrv ho hnp hst ⟨Nat.le_refl _, Nat.le_refl _⟩ ⟨?_, ?_⟩ ⟨?_, ?_⟩ (Ctr.mono h (fun r N' R' hh => ?_)) hs
  · show 8 + L' + 1 ≤ 8 + L0
    omega
  · show 8 + (nL' + 11) + (400 + 40 * L') ≤ 400 + 40 * L0
    omega
  · exact Nat.le_refl _
  · exact Nat.le_refl _
  · obtain ⟨rfl, x, rfl, -, hx⟩ := hh
    exact hx
theorem B_callV_O {c2 b2 : Nat} {c i idx np L' nL' L0 : Nat} {y : MethodName} {cc' : ByteArray} {ret' : Option FieldType} {av stk : List AV} (hs : stk = av.reverse ++ vR c i :: st) (hd : decode cc pc = .ok (.invokevirtual idx, 3)) (hw : MWV o idx y) (hm : MW y cc' nL' ret' np) {C0 : String} {T0 : u_T} {k0 : Nat} (hrv : vwCl[c]? = some (C0, T0, k0) ∧ y.cls = C0 ∧ c < 11) (ho : okA TOT c i) (hnp : av.length = np) (hst : (st.map fun v => if isL v then 2 else 1).sum ≤ 8) (hL : L' < L0) (hl : nL' ≤ 21) (hrm : rm = rmL L0 TOT TOT)
    (h : BC G y cc' nL' ret' L' (vR c i :: av) N (rO c2 b2 (fun q2 N' => AW G o cc nL ret false rm TOT Z (pc + 3) ls (.inr (.inr (q2.map (fun i => (c2, i)))) :: st) TOT N' (RF N')))) : AW G o cc nL ret false rm TOT Z pc ls stk TOT N (RF N) := by
  subst hrm
  refine A_callV hd hw hm hrv ho hnp hst ⟨Nat.le_refl _, Nat.le_refl _⟩ ⟨?_, ?_⟩ ⟨?_, ?_⟩ (Ctr.mono h (fun r N' R' hh => ?_)) hs
  · show 8 + L' + 1 ≤ 8 + L0
    omega
  · show 8 + (nL' + 11) + (400 + 40 * L') ≤ 400 + 40 * L0
    omega
  · exact Nat.le_refl _
  · exact Nat.le_refl _
  · obtain ⟨rfl, x, rfl, -, hx⟩ := hh
    exact hx
theorem B_callS_I {idx np L' nL' L0 : Nat} {y : MethodName} {cc' : ByteArray} {ret' : Option FieldType} {av stk : List AV} (hs : stk = av.reverse ++ st) (hd : decode cc pc = .ok (.invokestatic idx, 3)) (hw : MWS o idx y) (hm : MW y cc' nL' ret' np)  (hnp : av.length = np) (hst : (st.map fun v => if isL v then 2 else 1).sum ≤ 8) (hL : L' < L0) (hl : nL' ≤ 21) (hrm : rm = rmL L0 TOT TOT)
    (h : BC G y cc' nL' ret' L' av N (rI (fun x N' => AW G o cc nL ret false rm TOT Z (pc + 3) ls (vI x :: st) TOT N' (RF N')))) : AW G o cc nL ret false rm TOT Z pc ls stk TOT N (RF N) := by
  subst hrm
  refine A_callS hd hw hm hnp hst ⟨Nat.le_refl _, Nat.le_refl _⟩ ⟨?_, ?_⟩ ⟨?_, ?_⟩ (Ctr.mono h (fun r N' R' hh => ?_)) hs
  · show 8 + L' + 1 ≤ 8 + L0
    omega
  · show 8 + (nL' + 11) + (400 + 40 * L') ≤ 400 + 40 * L0
    omega
  · exact Nat.le_refl _
  · exact Nat.le_refl _
  · obtain ⟨rfl, x, rfl, hx⟩ := hh
    exact hx
theorem B_callS_L {idx np L' nL' L0 : Nat} {y : MethodName} {cc' : ByteArray} {ret' : Option FieldType} {av stk : List AV} (hs : stk = av.reverse ++ st) (hd : decode cc pc = .ok (.invokestatic idx, 3)) (hw : MWS o idx y) (hm : MW y cc' nL' ret' np)  (hnp : av.length = np) (hst : (st.map fun v => if isL v then 2 else 1).sum ≤ 8) (hL : L' < L0) (hl : nL' ≤ 21) (hrm : rm = rmL L0 TOT TOT)
    (h : BC G y cc' nL' ret' L' av N (rL (fun x N' => AW G o cc nL ret false rm TOT Z (pc + 3) ls (vL x :: st) TOT N' (RF N')))) : AW G o cc nL ret false rm TOT Z pc ls stk TOT N (RF N) := by
  subst hrm
  refine A_callS hd hw hm hnp hst ⟨Nat.le_refl _, Nat.le_refl _⟩ ⟨?_, ?_⟩ ⟨?_, ?_⟩ (Ctr.mono h (fun r N' R' hh => ?_)) hs
  · show 8 + L' + 1 ≤ 8 + L0
    omega
  · show 8 + (nL' + 11) + (400 + 40 * L') ≤ 400 + 40 * L0
    omega
  · exact Nat.le_refl _
  · exact Nat.le_refl _
  · obtain ⟨rfl, x, rfl, hx⟩ := hh
    exact hx
theorem B_callS_V {idx np L' nL' L0 : Nat} {y : MethodName} {cc' : ByteArray} {ret' : Option FieldType} {av stk : List AV} (hs : stk = av.reverse ++ st) (hd : decode cc pc = .ok (.invokestatic idx, 3)) (hw : MWS o idx y) (hm : MW y cc' nL' ret' np)  (hnp : av.length = np) (hst : (st.map fun v => if isL v then 2 else 1).sum ≤ 8) (hL : L' < L0) (hl : nL' ≤ 21) (hrm : rm = rmL L0 TOT TOT)
    (h : BC G y cc' nL' ret' L' av N (rV (fun N' => AW G o cc nL ret false rm TOT Z (pc + 3) ls st TOT N' (RF N')))) : AW G o cc nL ret false rm TOT Z pc ls stk TOT N (RF N) := by
  subst hrm
  refine A_callS hd hw hm hnp hst ⟨Nat.le_refl _, Nat.le_refl _⟩ ⟨?_, ?_⟩ ⟨?_, ?_⟩ (Ctr.mono h (fun r N' R' hh => ?_)) hs
  · show 8 + L' + 1 ≤ 8 + L0
    omega
  · show 8 + (nL' + 11) + (400 + 40 * L') ≤ 400 + 40 * L0
    omega
  · exact Nat.le_refl _
  · exact Nat.le_refl _
  · obtain ⟨rfl, rfl, hx⟩ := hh
    exact hx
theorem B_callS_R {c2 b2 : Nat} {idx np L' nL' L0 : Nat} {y : MethodName} {cc' : ByteArray} {ret' : Option FieldType} {av stk : List AV} (hs : stk = av.reverse ++ st) (hd : decode cc pc = .ok (.invokestatic idx, 3)) (hw : MWS o idx y) (hm : MW y cc' nL' ret' np)  (hnp : av.length = np) (hst : (st.map fun v => if isL v then 2 else 1).sum ≤ 8) (hL : L' < L0) (hl : nL' ≤ 21) (hrm : rm = rmL L0 TOT TOT)
    (h : BC G y cc' nL' ret' L' av N (rR c2 b2 (fun i2 N' => AW G o cc nL ret false rm TOT Z (pc + 3) ls (vR c2 i2 :: st) TOT N' (RF N')))) : AW G o cc nL ret false rm TOT Z pc ls stk TOT N (RF N) := by
  subst hrm
  refine A_callS hd hw hm hnp hst ⟨Nat.le_refl _, Nat.le_refl _⟩ ⟨?_, ?_⟩ ⟨?_, ?_⟩ (Ctr.mono h (fun r N' R' hh => ?_)) hs
  · show 8 + L' + 1 ≤ 8 + L0
    omega
  · show 8 + (nL' + 11) + (400 + 40 * L') ≤ 400 + 40 * L0
    omega
  · exact Nat.le_refl _
  · exact Nat.le_refl _
  · obtain ⟨rfl, x, rfl, -, hx⟩ := hh
    exact hx
theorem B_callS_O {c2 b2 : Nat} {idx np L' nL' L0 : Nat} {y : MethodName} {cc' : ByteArray} {ret' : Option FieldType} {av stk : List AV} (hs : stk = av.reverse ++ st) (hd : decode cc pc = .ok (.invokestatic idx, 3)) (hw : MWS o idx y) (hm : MW y cc' nL' ret' np)  (hnp : av.length = np) (hst : (st.map fun v => if isL v then 2 else 1).sum ≤ 8) (hL : L' < L0) (hl : nL' ≤ 21) (hrm : rm = rmL L0 TOT TOT)
    (h : BC G y cc' nL' ret' L' av N (rO c2 b2 (fun q2 N' => AW G o cc nL ret false rm TOT Z (pc + 3) ls (.inr (.inr (q2.map (fun i => (c2, i)))) :: st) TOT N' (RF N')))) : AW G o cc nL ret false rm TOT Z pc ls stk TOT N (RF N) := by
  subst hrm
  refine A_callS hd hw hm hnp hst ⟨Nat.le_refl _, Nat.le_refl _⟩ ⟨?_, ?_⟩ ⟨?_, ?_⟩ (Ctr.mono h (fun r N' R' hh => ?_)) hs
  · show 8 + L' + 1 ≤ 8 + L0
    omega
  · show 8 + (nL' + 11) + (400 + 40 * L') ≤ 400 + 40 * L0
    omega
  · exact Nat.le_refl _
  · exact Nat.le_refl _
  · obtain ⟨rfl, x, rfl, -, hx⟩ := hh
    exact hx
end BWR
theorem BC_monoI {G : GT} {y : MethodName} {cc : ByteArray} {nL : Nat} {ret : Option FieldType} {L : Nat} {av : List AV} {N : NN} {K K' : Int → NN → Prop} (h : BC G y cc nL ret L av N (rI K)) (hk : ∀ x N', K x N' → K' x N') : BC G y cc nL ret L av N (rI K') := Ctr.mono h fun r N' R' hh => by obtain ⟨e1, x, e2, h⟩ := hh; exact ⟨e1, x, e2, hk _ _ h⟩
theorem BC_monoL {G : GT} {y : MethodName} {cc : ByteArray} {nL : Nat} {ret : Option FieldType} {L : Nat} {av : List AV} {N : NN} {K K' : Int → NN → Prop} (h : BC G y cc nL ret L av N (rL K)) (hk : ∀ x N', K x N' → K' x N') : BC G y cc nL ret L av N (rL K') := Ctr.mono h fun r N' R' hh => by obtain ⟨e1, x, e2, h⟩ := hh; exact ⟨e1, x, e2, hk _ _ h⟩
theorem BC_monoV {G : GT} {y : MethodName} {cc : ByteArray} {nL : Nat} {ret : Option FieldType} {L : Nat} {av : List AV} {N : NN} {K K' : NN → Prop} (h : BC G y cc nL ret L av N (rV K)) (hk : ∀ N', K N' → K' N') : BC G y cc nL ret L av N (rV K') := Ctr.mono h fun r N' R' hh => by obtain ⟨e1, e2, h⟩ := hh; exact ⟨e1, e2, hk _ h⟩
theorem BC_monoR {G : GT} {y : MethodName} {cc : ByteArray} {nL : Nat} {ret : Option FieldType} {L c b : Nat} {av : List AV} {N : NN} {K K' : Nat → NN → Prop} (h : BC G y cc nL ret L av N (rR c b K)) (hk : ∀ i N', i < b → K i N' → K' i N') : BC G y cc nL ret L av N (rR c b K') := Ctr.mono h fun r N' R' hh => by obtain ⟨e1, x, e2, e3, h⟩ := hh; exact ⟨e1, x, e2, e3, hk _ _ e3 h⟩
theorem BC_monoO {G : GT} {y : MethodName} {cc : ByteArray} {nL : Nat} {ret : Option FieldType} {L c b : Nat} {av : List AV} {N : NN} {K K' : Option Nat → NN → Prop} (h : BC G y cc nL ret L av N (rO c b K)) (hk : ∀ q N', (∀ i, q = some i → i < b) → K q N' → K' q N') : BC G y cc nL ret L av N (rO c b K') := Ctr.mono h fun r N' R' hh => by obtain ⟨e1, x, e2, e3, h⟩ := hh; exact ⟨e1, x, e2, e3, hk _ _ e3 h⟩
section BBR
variable {G : GT} {o : String} {cc : ByteArray} {nL : Nat} {ret : Option FieldType} {ini : Bool} {rm : Room} {n0 : Nat} {Z : ZT} {pc : Nat} {ls : List (Nat × AV)} {st : List AV} {n : Nat} {N : NN} {R : RR}
theorem B_if_eq {x a : Int} {off : Int} {tgt : Nat} (hd : decode cc pc = .ok (.ifCond .eq off, 3)) (hg : (pc : Int) + off = (tgt : Int)) (hx : wI x = a) (h : (a = 0 → AW G o cc nL ret ini rm n0 Z tgt ls st n N R) ∧ (¬ (a = 0) → AW G o cc nL ret ini rm n0 Z (pc + 3) ls st n N R)) : AW G o cc nL ret ini rm n0 Z pc ls (vI x :: st) n N R := by subst hx; exact A_if_eq hd hg h.1 h.2
theorem B_icmp_eq {x y a b : Int} {off : Int} {tgt : Nat} (hd : decode cc pc = .ok (.if_icmp .eq off, 3)) (hg : (pc : Int) + off = (tgt : Int)) (hx : wI x = a) (hy : wI y = b) (h : (a = b → AW G o cc nL ret ini rm n0 Z tgt ls st n N R) ∧ (¬ (a = b) → AW G o cc nL ret ini rm n0 Z (pc + 3) ls st n N R)) : AW G o cc nL ret ini rm n0 Z pc ls (vI y :: vI x :: st) n N R := by subst hx; subst hy; exact A_icmp_eq hd hg h.1 h.2
theorem B_lcmp_eq {x y a b : Int} {off : Int} {pc1 tgt : Nat} (hd : decode cc pc = .ok (.lcmp, 1)) (hp : pc + 1 = pc1) (hd2 : decode cc pc1 = .ok (.ifCond .eq off, 3)) (hg : (pc1 : Int) + off = (tgt : Int)) (hx : wL x = a) (hy : wL y = b) (h : (a = b → AW G o cc nL ret ini rm n0 Z tgt ls st n N R) ∧ (¬ (a = b) → AW G o cc nL ret ini rm n0 Z (pc1 + 3) ls st n N R)) : AW G o cc nL ret ini rm n0 Z pc ls (vL y :: vL x :: st) n N R := by subst hx; subst hy; exact A_lcmp_eq hd hp hd2 hg h.1 h.2
theorem B_if_ne {x a : Int} {off : Int} {tgt : Nat} (hd : decode cc pc = .ok (.ifCond .ne off, 3)) (hg : (pc : Int) + off = (tgt : Int)) (hx : wI x = a) (h : (a ≠ 0 → AW G o cc nL ret ini rm n0 Z tgt ls st n N R) ∧ (¬ (a ≠ 0) → AW G o cc nL ret ini rm n0 Z (pc + 3) ls st n N R)) : AW G o cc nL ret ini rm n0 Z pc ls (vI x :: st) n N R := by subst hx; exact A_if_ne hd hg h.1 h.2
theorem B_icmp_ne {x y a b : Int} {off : Int} {tgt : Nat} (hd : decode cc pc = .ok (.if_icmp .ne off, 3)) (hg : (pc : Int) + off = (tgt : Int)) (hx : wI x = a) (hy : wI y = b) (h : (a ≠ b → AW G o cc nL ret ini rm n0 Z tgt ls st n N R) ∧ (¬ (a ≠ b) → AW G o cc nL ret ini rm n0 Z (pc + 3) ls st n N R)) : AW G o cc nL ret ini rm n0 Z pc ls (vI y :: vI x :: st) n N R := by subst hx; subst hy; exact A_icmp_ne hd hg h.1 h.2
theorem B_lcmp_ne {x y a b : Int} {off : Int} {pc1 tgt : Nat} (hd : decode cc pc = .ok (.lcmp, 1)) (hp : pc + 1 = pc1) (hd2 : decode cc pc1 = .ok (.ifCond .ne off, 3)) (hg : (pc1 : Int) + off = (tgt : Int)) (hx : wL x = a) (hy : wL y = b) (h : (a ≠ b → AW G o cc nL ret ini rm n0 Z tgt ls st n N R) ∧ (¬ (a ≠ b) → AW G o cc nL ret ini rm n0 Z (pc1 + 3) ls st n N R)) : AW G o cc nL ret ini rm n0 Z pc ls (vL y :: vL x :: st) n N R := by subst hx; subst hy; exact A_lcmp_ne hd hp hd2 hg h.1 h.2
theorem B_if_lt {x a : Int} {off : Int} {tgt : Nat} (hd : decode cc pc = .ok (.ifCond .lt off, 3)) (hg : (pc : Int) + off = (tgt : Int)) (hx : wI x = a) (h : (a < 0 → AW G o cc nL ret ini rm n0 Z tgt ls st n N R) ∧ (¬ (a < 0) → AW G o cc nL ret ini rm n0 Z (pc + 3) ls st n N R)) : AW G o cc nL ret ini rm n0 Z pc ls (vI x :: st) n N R := by subst hx; exact A_if_lt hd hg h.1 h.2
theorem B_icmp_lt {x y a b : Int} {off : Int} {tgt : Nat} (hd : decode cc pc = .ok (.if_icmp .lt off, 3)) (hg : (pc : Int) + off = (tgt : Int)) (hx : wI x = a) (hy : wI y = b) (h : (a < b → AW G o cc nL ret ini rm n0 Z tgt ls st n N R) ∧ (¬ (a < b) → AW G o cc nL ret ini rm n0 Z (pc + 3) ls st n N R)) : AW G o cc nL ret ini rm n0 Z pc ls (vI y :: vI x :: st) n N R := by subst hx; subst hy; exact A_icmp_lt hd hg h.1 h.2
theorem B_lcmp_lt {x y a b : Int} {off : Int} {pc1 tgt : Nat} (hd : decode cc pc = .ok (.lcmp, 1)) (hp : pc + 1 = pc1) (hd2 : decode cc pc1 = .ok (.ifCond .lt off, 3)) (hg : (pc1 : Int) + off = (tgt : Int)) (hx : wL x = a) (hy : wL y = b) (h : (a < b → AW G o cc nL ret ini rm n0 Z tgt ls st n N R) ∧ (¬ (a < b) → AW G o cc nL ret ini rm n0 Z (pc1 + 3) ls st n N R)) : AW G o cc nL ret ini rm n0 Z pc ls (vL y :: vL x :: st) n N R := by subst hx; subst hy; exact A_lcmp_lt hd hp hd2 hg h.1 h.2
theorem B_if_ge {x a : Int} {off : Int} {tgt : Nat} (hd : decode cc pc = .ok (.ifCond .ge off, 3)) (hg : (pc : Int) + off = (tgt : Int)) (hx : wI x = a) (h : (0 ≤ a → AW G o cc nL ret ini rm n0 Z tgt ls st n N R) ∧ (¬ (0 ≤ a) → AW G o cc nL ret ini rm n0 Z (pc + 3) ls st n N R)) : AW G o cc nL ret ini rm n0 Z pc ls (vI x :: st) n N R := by subst hx; exact A_if_ge hd hg h.1 h.2
theorem B_icmp_ge {x y a b : Int} {off : Int} {tgt : Nat} (hd : decode cc pc = .ok (.if_icmp .ge off, 3)) (hg : (pc : Int) + off = (tgt : Int)) (hx : wI x = a) (hy : wI y = b) (h : (b ≤ a → AW G o cc nL ret ini rm n0 Z tgt ls st n N R) ∧ (¬ (b ≤ a) → AW G o cc nL ret ini rm n0 Z (pc + 3) ls st n N R)) : AW G o cc nL ret ini rm n0 Z pc ls (vI y :: vI x :: st) n N R := by subst hx; subst hy; exact A_icmp_ge hd hg h.1 h.2
theorem B_lcmp_ge {x y a b : Int} {off : Int} {pc1 tgt : Nat} (hd : decode cc pc = .ok (.lcmp, 1)) (hp : pc + 1 = pc1) (hd2 : decode cc pc1 = .ok (.ifCond .ge off, 3)) (hg : (pc1 : Int) + off = (tgt : Int)) (hx : wL x = a) (hy : wL y = b) (h : (b ≤ a → AW G o cc nL ret ini rm n0 Z tgt ls st n N R) ∧ (¬ (b ≤ a) → AW G o cc nL ret ini rm n0 Z (pc1 + 3) ls st n N R)) : AW G o cc nL ret ini rm n0 Z pc ls (vL y :: vL x :: st) n N R := by subst hx; subst hy; exact A_lcmp_ge hd hp hd2 hg h.1 h.2
theorem B_if_gt {x a : Int} {off : Int} {tgt : Nat} (hd : decode cc pc = .ok (.ifCond .gt off, 3)) (hg : (pc : Int) + off = (tgt : Int)) (hx : wI x = a) (h : (0 < a → AW G o cc nL ret ini rm n0 Z tgt ls st n N R) ∧ (¬ (0 < a) → AW G o cc nL ret ini rm n0 Z (pc + 3) ls st n N R)) : AW G o cc nL ret ini rm n0 Z pc ls (vI x :: st) n N R := by subst hx; exact A_if_gt hd hg h.1 h.2
theorem B_icmp_gt {x y a b : Int} {off : Int} {tgt : Nat} (hd : decode cc pc = .ok (.if_icmp .gt off, 3)) (hg : (pc : Int) + off = (tgt : Int)) (hx : wI x = a) (hy : wI y = b) (h : (b < a → AW G o cc nL ret ini rm n0 Z tgt ls st n N R) ∧ (¬ (b < a) → AW G o cc nL ret ini rm n0 Z (pc + 3) ls st n N R)) : AW G o cc nL ret ini rm n0 Z pc ls (vI y :: vI x :: st) n N R := by subst hx; subst hy; exact A_icmp_gt hd hg h.1 h.2
theorem B_lcmp_gt {x y a b : Int} {off : Int} {pc1 tgt : Nat} (hd : decode cc pc = .ok (.lcmp, 1)) (hp : pc + 1 = pc1) (hd2 : decode cc pc1 = .ok (.ifCond .gt off, 3)) (hg : (pc1 : Int) + off = (tgt : Int)) (hx : wL x = a) (hy : wL y = b) (h : (b < a → AW G o cc nL ret ini rm n0 Z tgt ls st n N R) ∧ (¬ (b < a) → AW G o cc nL ret ini rm n0 Z (pc1 + 3) ls st n N R)) : AW G o cc nL ret ini rm n0 Z pc ls (vL y :: vL x :: st) n N R := by subst hx; subst hy; exact A_lcmp_gt hd hp hd2 hg h.1 h.2
theorem B_if_le {x a : Int} {off : Int} {tgt : Nat} (hd : decode cc pc = .ok (.ifCond .le off, 3)) (hg : (pc : Int) + off = (tgt : Int)) (hx : wI x = a) (h : (a ≤ 0 → AW G o cc nL ret ini rm n0 Z tgt ls st n N R) ∧ (¬ (a ≤ 0) → AW G o cc nL ret ini rm n0 Z (pc + 3) ls st n N R)) : AW G o cc nL ret ini rm n0 Z pc ls (vI x :: st) n N R := by subst hx; exact A_if_le hd hg h.1 h.2
theorem B_icmp_le {x y a b : Int} {off : Int} {tgt : Nat} (hd : decode cc pc = .ok (.if_icmp .le off, 3)) (hg : (pc : Int) + off = (tgt : Int)) (hx : wI x = a) (hy : wI y = b) (h : (a ≤ b → AW G o cc nL ret ini rm n0 Z tgt ls st n N R) ∧ (¬ (a ≤ b) → AW G o cc nL ret ini rm n0 Z (pc + 3) ls st n N R)) : AW G o cc nL ret ini rm n0 Z pc ls (vI y :: vI x :: st) n N R := by subst hx; subst hy; exact A_icmp_le hd hg h.1 h.2
theorem B_lcmp_le {x y a b : Int} {off : Int} {pc1 tgt : Nat} (hd : decode cc pc = .ok (.lcmp, 1)) (hp : pc + 1 = pc1) (hd2 : decode cc pc1 = .ok (.ifCond .le off, 3)) (hg : (pc1 : Int) + off = (tgt : Int)) (hx : wL x = a) (hy : wL y = b) (h : (a ≤ b → AW G o cc nL ret ini rm n0 Z tgt ls st n N R) ∧ (¬ (a ≤ b) → AW G o cc nL ret ini rm n0 Z (pc1 + 3) ls st n N R)) : AW G o cc nL ret ini rm n0 Z pc ls (vL y :: vL x :: st) n N R := by subst hx; subst hy; exact A_lcmp_le hd hp hd2 hg h.1 h.2
theorem B_idiv {x y a b : Int} (hd : decode cc pc = .ok (.idiv, 1)) (hx : wI x = a) (hy : wI y = b) (hne : b ≠ 0) (h : AW G o cc nL ret ini rm n0 Z (pc + 1) ls (vI (a.tdiv b) :: st) n N R) : AW G o cc nL ret ini rm n0 Z pc ls (vI y :: vI x :: st) n N R := by subst hx; subst hy; exact A_idiv hd hne h
theorem B_irem {x y a b : Int} (hd : decode cc pc = .ok (.irem, 1)) (hx : wI x = a) (hy : wI y = b) (hne : b ≠ 0) (h : AW G o cc nL ret ini rm n0 Z (pc + 1) ls (vI (a.tmod b) :: st) n N R) : AW G o cc nL ret ini rm n0 Z pc ls (vI y :: vI x :: st) n N R := by subst hx; subst hy; exact A_irem hd hne h
theorem B_ldiv {x y a b : Int} (hd : decode cc pc = .ok (.ldiv, 1)) (hx : wL x = a) (hy : wL y = b) (hne : b ≠ 0) (h : AW G o cc nL ret ini rm n0 Z (pc + 1) ls (vL (a.tdiv b) :: st) n N R) : AW G o cc nL ret ini rm n0 Z pc ls (vL y :: vL x :: st) n N R := by subst hx; subst hy; exact A_ldiv hd hne h
theorem B_lrem {x y a b : Int} (hd : decode cc pc = .ok (.lrem, 1)) (hx : wL x = a) (hy : wL y = b) (hne : b ≠ 0) (h : AW G o cc nL ret ini rm n0 Z (pc + 1) ls (vL (a.tmod b) :: st) n N R) : AW G o cc nL ret ini rm n0 Z pc ls (vL y :: vL x :: st) n N R := by subst hx; subst hy; exact A_lrem hd hne h
theorem B_i2l {x a : Int} (hd : decode cc pc = .ok (.i2l, 1)) (hx : wI x = a) (h : AW G o cc nL ret ini rm n0 Z (pc + 1) ls (vL a :: st) n N R) : AW G o cc nL ret ini rm n0 Z pc ls (vI x :: st) n N R := by subst hx; exact A_i2l hd h
theorem oI_min (x y : Int) : (if Int32.ofInt y < Int32.ofInt x then Int32.ofInt y else Int32.ofInt x) = Int32.ofInt (min (wI x) (wI y)) := by
  by_cases h : Int32.ofInt y < Int32.ofInt x
  · have h2 := oI_lt.mp h
    rw [if_pos h, Int.min_eq_right (by omega), oI_w]
  · have h2 : ¬ wI y < wI x := fun q => h (oI_lt.mpr q)
    rw [if_neg h, Int.min_eq_left (by omega), oI_w]
theorem oI_max (x y : Int) : (if Int32.ofInt x < Int32.ofInt y then Int32.ofInt y else Int32.ofInt x) = Int32.ofInt (max (wI x) (wI y)) := by
  by_cases h : Int32.ofInt x < Int32.ofInt y
  · have h2 := oI_lt.mp h
    rw [if_pos h, Int.max_eq_right (by omega), oI_w]
  · have h2 : ¬ wI x < wI y := fun q => h (oI_lt.mpr q)
    rw [if_neg h, Int.max_eq_left (by omega), oI_w]
theorem oL_min (x y : Int) : (if Int64.ofInt y < Int64.ofInt x then Int64.ofInt y else Int64.ofInt x) = Int64.ofInt (min (wL x) (wL y)) := by
  by_cases h : Int64.ofInt y < Int64.ofInt x
  · have h2 := oL_lt.mp h
    rw [if_pos h, Int.min_eq_right (by omega), oL_w]
  · have h2 : ¬ wL y < wL x := fun q => h (oL_lt.mpr q)
    rw [if_neg h, Int.min_eq_left (by omega), oL_w]
theorem oL_max (x y : Int) : (if Int64.ofInt x < Int64.ofInt y then Int64.ofInt y else Int64.ofInt x) = Int64.ofInt (max (wL x) (wL y)) := by
  by_cases h : Int64.ofInt x < Int64.ofInt y
  · have h2 := oL_lt.mp h
    rw [if_pos h, Int.max_eq_right (by omega), oL_w]
  · have h2 : ¬ wL x < wL y := fun q => h (oL_lt.mpr q)
    rw [if_neg h, Int.max_eq_left (by omega), oL_w]
def MMW (o : String) (idx : Nat) (x : MethodName) (code : ByteArray) (nL : Nat) (ret : FieldType) : Prop := Cond.methodLink o idx x ∈ ALL ∧ Cond.static x ∈ ALL ∧ Cond.initialized "java/lang/Math" ∈ ALL ∧ Cond.code x code nL (some ret) ∈ ALL
theorem cat_sum {st : List AV} (h : (st.map fun v => if isL v then 2 else 1).sum ≤ 8) : ((st.map (cv G)).map fun v => v.category).sum ≤ 8 := by
  have := st_room (G := G) (m := default) (pc := 0) (la := #[]) (s0 := []) h
  have e : 2 * (F0 default 0 #[] []).monitorRoom = 0 := rfl
  omega
theorem B_minI {idx L0 : Nat} {x y a b : Int} (hd : decode cc pc = .ok (.invokestatic idx, 3)) (hw : MMW o idx Lib.Math.min.name Lib.Math.min.code 2 .int) (hx : wI x = a) (hy : wI y = b) (hst : (st.map fun v => if isL v then 2 else 1).sum ≤ 8) (hrm : rm = rmL L0 TOT TOT) (hn : n = TOT ∧ n0 = TOT) (h : AW G o cc nL ret ini rm n0 Z (pc + 3) ls (vI (min a b) :: st) n N R) : AW G o cc nL ret ini rm n0 Z pc ls (vI y :: vI x :: st) n N R := by
  intro p e s m args below meth cx H locs la C hn2 hP hS hz hl
  subst hrm
  subst hx
  subst hy
  obtain ⟨rfl, rfl⟩ := hn
  have hts := C.2.2.2.2.2.1
  have hc := cat_sum (G := G) hst
  refine va_mmin C.1 C.2.1 (by rw [C.2.2.1]; exact hl.1.symm) C.2.2.2.2.2.2.1 (hts _ hw.1) (hts _ hw.2.1) (hts _ hw.2.2.1) (hts _ hw.2.2.2) (by show 1 ≤ 8 + L0; omega) (by show _ + _ ≤ 400 + 40 * L0; omega) (by rw [Nat.sub_self]; exact Nat.zero_le _) (by rw [Nat.sub_self]; exact Nat.zero_le _) hd ?_
  rw [oI_min]
  exact h p e s m args below meth cx H locs la C hn2 hP hS hz hl
theorem B_maxI {idx L0 : Nat} {x y a b : Int} (hd : decode cc pc = .ok (.invokestatic idx, 3)) (hw : MMW o idx Lib.Math.max.name Lib.Math.max.code 2 .int) (hx : wI x = a) (hy : wI y = b) (hst : (st.map fun v => if isL v then 2 else 1).sum ≤ 8) (hrm : rm = rmL L0 TOT TOT) (hn : n = TOT ∧ n0 = TOT) (h : AW G o cc nL ret ini rm n0 Z (pc + 3) ls (vI (max a b) :: st) n N R) : AW G o cc nL ret ini rm n0 Z pc ls (vI y :: vI x :: st) n N R := by
  intro p e s m args below meth cx H locs la C hn2 hP hS hz hl
  subst hrm
  subst hx
  subst hy
  obtain ⟨rfl, rfl⟩ := hn
  have hts := C.2.2.2.2.2.1
  have hc := cat_sum (G := G) hst
  refine va_mmax C.1 C.2.1 (by rw [C.2.2.1]; exact hl.1.symm) C.2.2.2.2.2.2.1 (hts _ hw.1) (hts _ hw.2.1) (hts _ hw.2.2.1) (hts _ hw.2.2.2) (by show 1 ≤ 8 + L0; omega) (by show _ + _ ≤ 400 + 40 * L0; omega) (by rw [Nat.sub_self]; exact Nat.zero_le _) (by rw [Nat.sub_self]; exact Nat.zero_le _) hd ?_
  rw [oI_max]
  exact h p e s m args below meth cx H locs la C hn2 hP hS hz hl
theorem B_minL {idx L0 : Nat} {x y a b : Int} (hd : decode cc pc = .ok (.invokestatic idx, 3)) (hw : MMW o idx Lib.MathLoose.min_long.x Lib.MathLoose.min_long.code 4 .long) (hx : wL x = a) (hy : wL y = b) (hst : (st.map fun v => if isL v then 2 else 1).sum ≤ 8) (hrm : rm = rmL L0 TOT TOT) (hn : n = TOT ∧ n0 = TOT) (h : AW G o cc nL ret ini rm n0 Z (pc + 3) ls (vL (min a b) :: st) n N R) : AW G o cc nL ret ini rm n0 Z pc ls (vL y :: vL x :: st) n N R := by
  intro p e s m args below meth cx H locs la C hn2 hP hS hz hl
  subst hrm
  subst hx
  subst hy
  obtain ⟨rfl, rfl⟩ := hn
  have hts := C.2.2.2.2.2.1
  have hc := cat_sum (G := G) hst
  refine va_mmin_long C.1 C.2.1 (by rw [C.2.2.1]; exact hl.1.symm) C.2.2.2.2.2.2.1 (hts _ hw.1) (hts _ hw.2.1) (hts _ hw.2.2.1) (hts _ hw.2.2.2) (by show 1 ≤ 8 + L0; omega) (by show _ + _ ≤ 400 + 40 * L0; omega) (by rw [Nat.sub_self]; exact Nat.zero_le _) (by rw [Nat.sub_self]; exact Nat.zero_le _) hd ?_
  rw [oL_min]
  exact h p e s m args below meth cx H locs la C hn2 hP hS hz hl
theorem B_maxL {idx L0 : Nat} {x y a b : Int} (hd : decode cc pc = .ok (.invokestatic idx, 3)) (hw : MMW o idx Lib.MathLoose.max_long.x Lib.MathLoose.max_long.code 4 .long) (hx : wL x = a) (hy : wL y = b) (hst : (st.map fun v => if isL v then 2 else 1).sum ≤ 8) (hrm : rm = rmL L0 TOT TOT) (hn : n = TOT ∧ n0 = TOT) (h : AW G o cc nL ret ini rm n0 Z (pc + 3) ls (vL (max a b) :: st) n N R) : AW G o cc nL ret ini rm n0 Z pc ls (vL y :: vL x :: st) n N R := by
  intro p e s m args below meth cx H locs la C hn2 hP hS hz hl
  subst hrm
  subst hx
  subst hy
  obtain ⟨rfl, rfl⟩ := hn
  have hts := C.2.2.2.2.2.1
  have hc := cat_sum (G := G) hst
  refine va_mmax_long C.1 C.2.1 (by rw [C.2.2.1]; exact hl.1.symm) C.2.2.2.2.2.2.1 (hts _ hw.1) (hts _ hw.2.1) (hts _ hw.2.2.1) (hts _ hw.2.2.2) (by show 1 ≤ 8 + L0; omega) (by show _ + _ ≤ 400 + 40 * L0; omega) (by rw [Nat.sub_self]; exact Nat.zero_le _) (by rw [Nat.sub_self]; exact Nat.zero_le _) hd ?_
  rw [oL_max, Int.max_comm]
  exact h p e s m args below meth cx H locs la C hn2 hP hS hz hl
end BBR
