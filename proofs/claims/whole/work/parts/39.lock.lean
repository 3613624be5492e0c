/-! a month of the class beside a month of the reference -/
/-- pool p, its first c loans, behind k months -/
def BL (c p : Nat) (k : Int) (A : NN) : Prop := A 6 p 1 = (c : Int) ∧ c ≤ 12 ∧ (∀ n, n < c → LK k (A 2 (12 * p + n))) ∧ (0 ≤ A 6 p 2 ∧ A 6 p 2 ≤ 99999) ∧ (0 ≤ A 6 p 3 ∧ A 6 p 3 ≤ 100) ∧ (A 6 p 4 = 0 ∨ A 6 p 4 = 1) ∧ 0 ≤ A 6 p 5 ∧ A 6 p 5 ≤ 300000 * k
/-- what a month's collecting does -/
def CollC (lv : Nat → (Nat → Int) → Int → Int) (c p j : Nat) (k : Int) (A A1 : NN) : Prop :=
  (∀ n, n < c → ∀ f, f < 8 → A1 2 (12 * p + n) f = vFin lv k (A 6 p 2) n (A 2 (12 * p + n)) f) ∧ (∀ n, c ≤ n → n < 12 → ∀ f, A1 2 (12 * p + n) f = A 2 (12 * p + n) f) ∧
  (∀ f, f = 0 ∨ f = 1 ∨ f = 2 ∨ f = 3 ∨ f = 8 → A1 3 j f = sumN (fun n => wFin lv k (A 6 p 2) (A 6 p 4) (A 6 p 3) n (A 2 (12 * p + n)) f) c) ∧
  A1 3 j 4 = min (A 6 p 5 + A1 3 j 3) (A1 3 j 0) ∧ A1 6 p 5 = A 6 p 5 + A1 3 j 3 - A1 3 j 4 ∧ A1 3 j 6 = sumN (fun n => balS (A 2 (12 * p + n))) c ∧ A1 3 j 7 = sumN (fun n => balS (A1 2 (12 * p + n))) c ∧ A1 3 j 9 = sumN (fun n => latS (A1 2 (12 * p + n))) c ∧ FrC p j A A1
def CollM (lv : Nat → (Nat → Int) → Int → Int) (c kk : Nat) (B B1 : NN) : Prop :=
  (∀ n, n < c → ∀ f, f < 8 → LV B1 n f = vFin lv kk (B 10 0 11) n (LV B n) f) ∧ (∀ n, c ≤ n → ∀ f, f < 8 → B1 (40 + f) 0 n = B (40 + f) 0 n) ∧
  (∀ f, f = 0 ∨ f = 1 ∨ f = 2 ∨ f = 3 ∨ f = 8 → MM B1 kk f = sumN (fun n => wFin lv kk (B 10 0 11) (B 10 0 13) (B 10 0 12) n (LV B n) f) c) ∧
  MM B1 kk 4 = min (B 10 0 14 + MM B1 kk 3) (MM B1 kk 0) ∧ B1 10 0 14 = B 10 0 14 + MM B1 kk 3 - MM B1 kk 4 ∧ MM B1 kk 6 = sumN (fun n => balS (LV B n)) c ∧ MM B1 kk 7 = sumN (fun n => balS (LV B1 n)) c ∧ MM B1 kk 9 = sumN (fun n => latS (LV B1 n)) c ∧ FrK B B1 kk
/-- the pool, and what the reference has of it -/
def relS (c p : Nat) (A B : NN) : Prop := B 10 0 2 = (c : Int) ∧ B 10 0 11 = A 6 p 2 ∧ B 10 0 12 = A 6 p 3 ∧ B 10 0 13 = A 6 p 4
def relL (c p : Nat) (A B : NN) : Prop := (∀ n, n < c → ∀ f, f < 8 → B (40 + f) 0 n = A 2 (12 * p + n) f) ∧ B 10 0 14 = A 6 p 5
def relM (j kk : Nat) (A B : NN) : Prop := ∀ f, f < 10 → f ≠ 5 → MM B kk f = A 3 j f
def relT (j kk : Nat) (A B : NN) : Prop := (∀ f, f < 12 → MM B kk f = A 3 j f) ∧ ∀ i, i < 10 → B 80 0 (10 * kk + i) = A 28 j i
section LK
variable {G : GT} {c p j kk t : Nat} {A B : NN} {lv : Nat → (Nat → Int) → Int → Int}
theorem relL_LV (R : relL c p A B) {n : Nat} (hn : n < c) : ∀ f, f < 8 → LV B n f = A 2 (12 * p + n) f := fun f hf => by rw [LV_ hf, R.1 n hn f hf]
theorem balS_8 {v w : Nat → Int} (h : ∀ f, f < 8 → v f = w f) : balS v = balS w := by
  unfold balS
  rw [h 5 (by decide), h 1 (by decide)]
theorem latS_8 {v w : Nat → Int} (h : ∀ f, f < 8 → v f = w f) : latS v = latS w := by
  unfold latS
  rw [h 5 (by decide)]
theorem lock_collect {A1 B1 : NN} (C : lvC lv) (S : relS c p A B) (R : relL c p A B) (hA : CollC lv c p j kk A A1) (hB : CollM lv c kk B B1) : relL c p A1 B1 ∧ relM j kk A1 B1 := by
  obtain ⟨a1, a2, a3, a4, a5, a6, a7, a9, -⟩ := hA
  obtain ⟨b1, b2, b3, b4, b5, b6, b7, b9, -⟩ := hB
  obtain ⟨s1, s2, s3, s4⟩ := S
  have l1 : ∀ n, n < c → ∀ f, f < 8 → B1 (40 + f) 0 n = A1 2 (12 * p + n) f := fun n hn f hf => by
    rw [← LV_ (N := B1) (l := n) hf, b1 n hn f hf, a1 n hn f hf, s2]
    exact vFin_8 C (relL_LV R hn) f hf
  have g : ∀ f, f = 0 ∨ f = 1 ∨ f = 2 ∨ f = 3 ∨ f = 8 → MM B1 kk f = A1 3 j f := fun f hf => by
    rw [b3 f hf, a3 f hf]
    exact sumN_congr c fun n hn => by rw [s2, s3, s4, wFin_8 C (relL_LV R hn)]
  have g4 : MM B1 kk 4 = A1 3 j 4 := by rw [b4, a4, g 3 (by omega), g 0 (by omega), R.2]
  have l1' : ∀ n, n < c → ∀ f, f < 8 → LV B1 n f = A1 2 (12 * p + n) f := fun n hn f hf => by rw [LV_ hf, l1 n hn f hf]
  refine ⟨⟨l1, by rw [b5, a5, g 3 (by omega), g4, R.2]⟩, fun f hf h5 => ?_⟩
  rcases (by omega : (f = 0 ∨ f = 1 ∨ f = 2 ∨ f = 3 ∨ f = 8) ∨ f = 4 ∨ f = 6 ∨ f = 7 ∨ f = 9) with h | rfl | rfl | rfl | rfl
  · exact g f h
  · exact g4
  · rw [b6, a6]
    exact sumN_congr c fun n hn => balS_8 (relL_LV R hn)
  · rw [b7, a7]
    exact sumN_congr c fun n hn => balS_8 (l1' n hn)
  · rw [b9, a9]
    exact sumN_congr c fun n hn => latS_8 (l1' n hn)
theorem sum_grow {g : Nat → Nat → Int} {f : Nat} {a : Int} (ha : 0 ≤ a) (c12 : c ≤ 12) (h : ∀ n, n < c → 0 ≤ g n f ∧ g n f ≤ a) : 0 ≤ sumN (fun n => g n f) c ∧ sumN (fun n => g n f) c ≤ a * 12 := by
  have r := sumN_rng (g := fun n => g n f) (a := a) c h
  have m : a * (c : Int) ≤ a * 12 := Int.mul_le_mul_of_nonneg_left (by omega) ha
  omega
theorem balS_k {k : Int} {v : Nat → Int} (hk : 0 ≤ k ∧ k ≤ 60) (B : LK k v) : 0 ≤ balS v ∧ balS v ≤ 1300000 := by
  unfold LK at B
  unfold balS
  split <;> omega
theorem latS_k {v : Nat → Int} : 0 ≤ latS v ∧ latS v ≤ 1 := by
  unfold latS
  split <;> omega
/-- the sums of a month, by the loans as it began -/
theorem coll_ok {A1 : NN} {v v' : Nat → Nat → Int} {mo : Nat → Int} {seed adv back ad : Int} (hk : 1 ≤ kk ∧ kk ≤ 60) (c12 : c ≤ 12) (L : ∀ n, n < c → LK ((kk : Int) - 1) (v n)) (L' : ∀ n, n < c → LK (kk : Int) (v' n)) (hb : 0 ≤ back ∧ back ≤ 100) (ha : 0 ≤ ad)
    (g : ∀ f, f = 0 ∨ f = 1 ∨ f = 2 ∨ f = 3 ∨ f = 8 → mo f = sumN (fun n => wFin lv kk seed adv back n (v n) f) c) (g4 : mo 4 = min (ad + mo 3) (mo 0)) (g6 : mo 6 = sumN (fun n => balS (v n)) c) (g7 : mo 7 = sumN (fun n => balS (v' n)) c) (g9 : mo 9 = sumN (fun n => latS (v' n)) c) : OKm mo ∧ mo 3 ≤ 300000 ∧ 0 ≤ ad + mo 3 - mo 4 ∧ ad + mo 3 - mo 4 ≤ ad + 300000 := by
  have hkz : (1 : Int) ≤ kk ∧ (kk : Int) ≤ 60 := by omega
  have W : ∀ n, n < c → WK (wFin lv kk seed adv back n (v n)) := fun n hn => (fin_grow hkz (L n hn) hb).2
  have s0 := sum_grow (g := fun n => wFin lv kk seed adv back n (v n)) (f := 0) (a := 2000000) (by omega) c12 (fun n hn => by have := W n hn; unfold WK at this; omega)
  have s1 := sum_grow (g := fun n => wFin lv kk seed adv back n (v n)) (f := 1) (a := 2000000) (by omega) c12 (fun n hn => by have := W n hn; unfold WK at this; omega)
  have s2 := sum_grow (g := fun n => wFin lv kk seed adv back n (v n)) (f := 2) (a := 2000000) (by omega) c12 (fun n hn => by have := W n hn; unfold WK at this; omega)
  have s3 := sum_grow (g := fun n => wFin lv kk seed adv back n (v n)) (f := 3) (a := 25000) (by omega) c12 (fun n hn => by have := W n hn; unfold WK at this; omega)
  have s8 := sum_grow (g := fun n => wFin lv kk seed adv back n (v n)) (f := 8) (a := 2000000) (by omega) c12 (fun n hn => by have := W n hn; unfold WK at this; omega)
  have t6 := sum_grow (g := fun n _ => balS (v n)) (f := 0) (a := 1300000) (by omega) c12 (fun n hn => balS_k (by omega) (L n hn))
  have t7 := sum_grow (g := fun n _ => balS (v' n)) (f := 0) (a := 1300000) (by omega) c12 (fun n hn => balS_k (by omega) (L' n hn))
  have t9 := sum_grow (g := fun n _ => latS (v' n)) (f := 0) (a := 1) (by omega) c12 (fun n hn => latS_k)
  rw [← g 0 (by omega)] at s0
  rw [← g 1 (by omega)] at s1
  rw [← g 2 (by omega)] at s2
  rw [← g 3 (by omega)] at s3
  rw [← g 8 (by omega)] at s8
  rw [← g6] at t6
  rw [← g7] at t7
  rw [← g9] at t9
  unfold OKm
  omega
/-- the class collects -/
theorem c_collect {K : NN → Prop} {cd sts : Nat → Int} (hp : p < 2) (hj : j < 62) (hk : 1 ≤ kk ∧ kk ≤ 60) (b : BL c p ((kk : Int) - 1) A) (V : VOK G t cd sts lv) (ht : A 6 p 6 = t) (h29 : A 29 t = cd) (h30 : A 30 t = sts)
    (k : ∀ A1, CollC lv c p j kk A A1 → BL c p kk A1 → OKm (A1 3 j) → K A1) : C_X6_collect G p kk j A K := by
  have hkz : (1 : Int) ≤ kk ∧ (kk : Int) ≤ 60 := by omega
  obtain ⟨b1, c12, L, bs, bb, ba, bd⟩ := b
  have W : ∀ n, n < c → WK (wFin lv kk (A 6 p 2) (A 6 p 4) (A 6 p 3) n (A 2 (12 * p + n))) := fun n hn => (fin_grow hkz (L n hn) bb).2
  have s0 := sum_grow (g := fun n => wFin lv kk (A 6 p 2) (A 6 p 4) (A 6 p 3) n (A 2 (12 * p + n))) (f := 0) (a := 2000000) (by omega) c12 (fun n hn => by have := W n hn; unfold WK at this; omega)
  have s3 := sum_grow (g := fun n => wFin lv kk (A 6 p 2) (A 6 p 4) (A 6 p 3) n (A 2 (12 * p + n))) (f := 3) (a := 25000) (by omega) c12 (fun n hn => by have := W n hn; unfold WK at this; omega)
  refine s_collect hp hj b1 c12 (fun n hn => LK_LBv (by omega) (L n hn)) V ht h29 h30 hkz bs bb (by omega) (fun n hn => ?_) (fun n hn => LK_LBv (by omega) (fin_grow hkz (L n hn) bb (seed := A 6 p 2) (adv := 0)).1) (by omega) (by omega) (fun A1 a1 a2 a3 a4 a5 a6 a7 a9 a10 fr => ?_)
  · have := L n hn
    unfold LK at this
    exact ⟨fun h => by omega, fun h => by omega⟩
  · have L' : ∀ n, n < c → LK (kk : Int) (A1 2 (12 * p + n)) := fun n hn => LK_8 (a1 n hn) (fin_grow hkz (L n hn) bb (seed := A 6 p 2) (adv := 0)).1
    obtain ⟨o1, o2, o3, o4⟩ := coll_ok (A1 := A1) (v := fun n => A 2 (12 * p + n)) (v' := fun n => A1 2 (12 * p + n)) hk c12 L L' bb bd.1 a3 a4 a6 a7 a9
    refine k A1 ⟨a1, a2, a3, a4, a5, a6, a7, a9, fr⟩ ⟨by rw [fr _ _ _ (by omega) (by omega) (by omega) (by decide), b1], c12, L', by rw [fr _ _ _ (by omega) (by omega) (by omega) (by decide)]; exact bs, by rw [fr _ _ _ (by omega) (by omega) (by omega) (by decide)]; exact bb, by rw [fr _ _ _ (by omega) (by omega) (by omega) (by decide)]; exact ba, by rw [a5]; exact o3, by rw [a5]; omega⟩ o1
/-- the reference collects -/
theorem m_collect {K : NN → Prop} {tx : Nat → Int} {ts : Int} (hk : 1 ≤ kk ∧ kk ≤ 60) (b : BL c p ((kk : Int) - 1) A) (S : relS c p A B) (R : relL c p A B) (V : VOKm G t tx ts lv) (ht : B 10 0 27 = t) (h57 : ∀ j, j < 160 → B 57 0 (160 * t + j) = tx j) (h58 : B 58 0 t = ts)
    (k : ∀ B1, CollM lv c kk B B1 → K B1) : C_X10_collect G kk B K := by
  have hkz : (1 : Int) ≤ kk ∧ (kk : Int) ≤ 60 := by omega
  obtain ⟨b1, c12, L, bs, bb, ba, bd⟩ := b
  obtain ⟨r1, r2, r3, r4⟩ := S
  have L0 : ∀ n, n < c → LK ((kk : Int) - 1) (LV B n) := fun n hn => LK_8 (relL_LV R hn) (L n hn)
  rw [← r2] at bs
  rw [← r3] at bb
  rw [← r4] at ba
  have W : ∀ n, n < c → WK (wFin lv kk (B 10 0 11) (B 10 0 13) (B 10 0 12) n (LV B n)) := fun n hn => (fin_grow hkz (L0 n hn) bb).2
  have s0 := sum_grow (g := fun n => wFin lv kk (B 10 0 11) (B 10 0 13) (B 10 0 12) n (LV B n)) (f := 0) (a := 2000000) (by omega) c12 (fun n hn => by have := W n hn; unfold WK at this; omega)
  have s3 := sum_grow (g := fun n => wFin lv kk (B 10 0 11) (B 10 0 13) (B 10 0 12) n (LV B n)) (f := 3) (a := 25000) (by omega) c12 (fun n hn => by have := W n hn; unfold WK at this; omega)
  have r5 := R.2
  refine s_mCollect hk r1 c12 (fun n hn => LK_LBv (by omega) (L0 n hn)) V ht h57 h58 (fun n hn => ?_) ba bs bb (fun n hn => LK_LBv (by omega) (fin_grow hkz (L0 n hn) bb (seed := B 10 0 11) (adv := 0)).1) (by omega) (by omega) (fun B1 a1 a2 a3 a4 a5 a6 a7 a9 fr => k B1 ⟨a1, a2, a3, a4, a5, a6, a7, a9, fr⟩)
  have := L0 n hn
  unfold LK at this
  exact ⟨fun h => by omega, fun h => by omega, fun h => by omega⟩
end LK
/-! pouring -/
def PourC (c f j o : Nat) (k : Int) (A A2 : NN) : Prop :=
  VF A2 f = pourF c k (A 3 j) (A 4 o 1) (fun i => A 33 (10 * o + i)) (VF A f) ∧ A2 3 j 5 = pourC (A 3 j) (VF A f) ∧ A2 3 j 10 = VF A2 f 9 4 ∧ A2 3 j 11 = startP k (A 3 j) (VF A f) 9 5 ∧
  (∀ i, i < 10 → A2 28 j i = tookP (A 4 o 1) k (A 3 j) (fun i => A 33 (10 * o + i)) (pourB c k (A 3 j) (VF A f)) (pourC (A 3 j) (VF A f)) i) ∧
  (∀ c i k, ¬ (c = 0 ∧ i = f) → ¬ (c = 5 ∧ 5 * f ≤ i ∧ i < 5 * f + 5) → ¬ (c = 28 ∧ i = j ∧ k < 10) → ¬ (c = 3 ∧ i = j ∧ (k = 5 ∨ k = 10 ∨ k = 11)) → A2 c i k = A c i k)
def PayM (c kk o : Nat) (B B2 : NN) : Prop :=
  VM B2 = pourF c kk (MM B kk) (B 60 0 o) (RM B o) (VM B) ∧ B2 77 0 kk = pourC (MM B kk) (VM B) ∧ B2 78 0 kk = VM B2 9 4 ∧ B2 79 0 kk = startP kk (MM B kk) (VM B) 9 5 ∧
  (∀ i, i < 10 → B2 80 0 (10 * kk + i) = tookP (B 60 0 o) kk (MM B kk) (RM B o) (pourB c kk (MM B kk) (VM B)) (pourC (MM B kk) (VM B)) i) ∧ FrM B B2 kk
/-- an order's rows, the class's and the reference's -/
def relO (o : Nat) (A B : NN) : Prop := A 4 o 1 = B 60 0 o ∧ 1 ≤ A 4 o 1 ∧ A 4 o 1 ≤ 10 ∧ ∀ i : Nat, (i : Int) < A 4 o 1 → okR (A 33 (10 * o + i)) ∧ ∀ f, f < 6 → B (61 + f) 0 (10 * o + i) = A 33 (10 * o + i) f
section LP
variable {G : GT} {c f j kk o : Nat} {A B : NN}
theorem relO_row (h : relO o A B) : ∀ i : Nat, ¬ wI (A 4 o 1) ≤ (i : Int) → okR (A 33 (10 * o + i)) ∧ ∀ f, f < 6 → A 33 (10 * o + i) f = RM B o i f := by
  obtain ⟨h1, h2, h3, h4⟩ := h
  intro i hi
  rw [wI_id (x := A 4 o 1) (by omega) (by omega)] at hi
  obtain ⟨g1, g2⟩ := h4 i (by omega)
  refine ⟨g1, fun f hf => ?_⟩
  unfold RM
  rw [if_pos hf, g2 f hf]
theorem okR_8 {r r' : Nat → Int} (h : ∀ f, f < 6 → r f = r' f) (k : okR r) : okR r' := by
  unfold okR at *
  rw [← h 0 (by decide), ← h 1 (by decide), ← h 2 (by decide), ← h 3 (by decide), ← h 4 (by decide), ← h 5 (by decide)]
  exact k
theorem mF_p {e : Nat} (h : e < 10) (h5 : e ≠ 5) : mF e < 60 ∧ 48 ≤ mF e := by
  unfold mF
  by_cases a : e < 5
  · rw [if_pos a]
    omega
  · rw [if_neg a, if_neg h5, if_pos h]
    omega
theorem lock_pour {A2 B2 : NN} (hk : 1 ≤ kk ∧ kk ≤ 60) (S : OKF c ((kk : Int) - 1) (VF A f)) (E : EqF c ((kk : Int) - 1) (VF A f) (VM B)) (hm : relM j kk A B) (ho : relO o A B) (hA : PourC c f j o kk A A2) (hB : PayM c kk o B B2) : EqF c kk (VF A2 f) (VM B2) ∧ relT j kk A2 B2 := by
  have hkz : (1 : Int) ≤ kk ∧ (kk : Int) ≤ 60 := by omega
  obtain ⟨a1, a2, a3, a4, a5, a6⟩ := hA
  obtain ⟨b1, b2, b3, b4, b5, b6⟩ := hB
  obtain ⟨c5, h1, -⟩ := S
  obtain ⟨p1, p2, p3, p4⟩ := cn_pour (cnt := A 4 o 1) (R := fun i => A 33 (10 * o + i)) (R' := RM B o) c5 h1 hkz E (fun e he h5 => (hm e he h5).symm) (fun i hi => (relO_row ho i hi).2)
  rw [ho.1] at p1 p4
  have q1 : EqF c kk (VF A2 f) (VM B2) := by
    rw [a1, b1, ho.1]
    exact p1
  refine ⟨q1, fun e he => ?_, fun i hi => ?_⟩
  · by_cases e5 : e = 5
    · subst e5
      show B2 77 0 kk = _
      rw [b2, a2, p2]
    · by_cases e10 : e = 10
      · subst e10
        show B2 78 0 kk = _
        rw [b3, a3]
        exact (q1 9 4 (by omega)).symm
      · by_cases e11 : e = 11
        · subst e11
          show B2 79 0 kk = _
          rw [b4, a4, p3]
        · rw [a6 _ _ _ (by omega) (by omega) (by omega) (by omega), ← hm e (by omega) e5]
          have := mF_p (e := e) (by omega) e5
          exact b6 _ _ _ (by omega) (by omega) (by omega) (by omega)
  · rw [b5 i hi, a5 i hi, ho.1, p4]
/-- the class pours -/
theorem c_pour {K : NN → Prop} (hf : f < 2) (hj : j < 62) (o6 : o < 6) (hk : 1 ≤ kk ∧ kk ≤ 60) (S : OKF c ((kk : Int) - 1) (VF A f)) (hm : OKm (A 3 j)) (ho : relO o A B) (k : ∀ A2, PourC c f j o kk A A2 → OKF c kk (VF A2 f) → K A2) : C_X0_pour G f kk j o A K := by
  have hkz : (1 : Int) ≤ kk ∧ (kk : Int) ≤ 60 := by omega
  refine s_pour hf hj o6 (c := c) S.2.1 S.1 (fun A2 a1 a2 a3 a4 a5 a6 => k A2 ⟨a1, a2, a3, a4, a5, a6⟩ ?_)
  rw [a1]
  exact pourF_ok hkz S (fun i _ hi => (relO_row ho i hi).1) hm
/-- the reference pays -/
theorem m_pay {K : NN → Prop} (hk : 1 ≤ kk ∧ kk ≤ 60) (S : OKF c ((kk : Int) - 1) (VF A f)) (E : EqF c ((kk : Int) - 1) (VF A f) (VM B)) (hmA : OKm (A 3 j)) (hm : relM j kk A B) (o6 : o < 6) (ho : relO o A B) (h76 : B 76 0 kk = (o : Int)) (k : ∀ B2, PayM c kk o B B2 → K B2) : C_X10_pay G kk B K := by
  have hmB : OKm (MM B kk) := by
    unfold OKm at *
    rw [hm 0 (by decide) (by decide), hm 1 (by decide) (by decide), hm 2 (by decide) (by decide), hm 3 (by decide) (by decide), hm 4 (by decide) (by decide), hm 6 (by decide) (by decide), hm 7 (by decide) (by decide), hm 8 (by decide) (by decide), hm 9 (by decide) (by decide)]
    exact hmA
  obtain ⟨c5, h1, hq, hs⟩ := S
  have S' : OKF c ((kk : Int) - 1) (VM B) := by
    refine ⟨c5, by rw [← E 9 1 (by omega), h1], fun q h => ?_, ?_⟩
    · have := hq q h
      unfold pOK at *
      rw [← E q 0 (by omega), ← E q 1 (by omega), ← E q 2 (by omega), ← E q 3 (by omega), ← E q 4 (by omega), ← E q 5 (by omega), ← E q 6 (by omega), ← E q 7 (by omega)]
      exact this
    · unfold sOK at *
      rw [← E 9 2 (by omega), ← E 9 3 (by omega), ← E 9 4 (by omega), ← E 9 5 (by omega), ← E 9 6 (by omega), ← E 9 7 (by omega), ← E 9 9 (by omega)]
      have e8 : 0 ≤ VM B 9 8 ∧ VM B 9 8 ≤ 100000000 := by
        by_cases k1 : kk = 1
        · have : VM B 9 8 = MM B kk 6 := by subst k1; rfl
          rw [this]
          unfold OKm at hmB
          omega
        · rw [← E 9 8 (by omega)]
          omega
      omega
  refine s_mPay (o := o) hk S' hmB h76 o6 (fun i _ hi => ?_) (fun B2 b1 b2 b3 b4 b5 b6 => k B2 ⟨b1, b2, b3, b4, b5, b6⟩)
  rw [← ho.1] at hi
  exact okR_8 (relO_row ho i hi).2 (relO_row ho i hi).1
end LP
