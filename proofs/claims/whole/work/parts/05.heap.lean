/-! rows of the heap -/
/-- what the tables say of the class of kind c -/
def CF (c : Nat) (C : String) (T : u_T) (n : Nat) : Prop := vwCl[c]? = some (C, T, n) ∧ nf c = n ∧ c < 11 ∧ (∀ w ∈ u_ws C T n, w ∈ ALL) ∧ (∀ k, k < n → parseFieldDescriptor (T k).2.2.1 = some (tyC c k)) ∧ (∀ a, a < n → ∀ b, b < n → a ≠ b → (T a).2.1 ≠ (T b).2.1)
/-- the field k of kind c, named by entry idx of the class o: its type, whether it's final -/
def FW (o : String) (idx c k : Nat) (ty : FieldType) (fin : Bool) : Prop := ∃ (C : String) (T : u_T) (n : Nat), CF c C T n ∧ Cond.fieldLink o idx (T k).1 (T k).2.1 (T k).2.2.1 ∈ ALL ∧ k < n ∧ tyC c k = ty ∧ (T k).2.2.2 = fin
theorem rng_set {n k : Nat} {f g : Nat → Value} {v : Value} (hk : g k = v) (ho : ∀ j, j ≠ k → g j = f j) : ((List.range n).map f).set k v = (List.range n).map g := by
  apply List.ext_getElem?
  intro q
  by_cases e : k = q
  · subst e
    by_cases hq : k < n
    · rw [List.getElem?_set_self (by simpa using hq), List.getElem?_map, List.getElem?_range hq, Option.map_some, hk]
    · rw [List.getElem?_eq_none (by simp; omega), List.getElem?_eq_none (by simp; omega)]
  · rw [List.getElem?_set_ne e, List.getElem?_map, List.getElem?_map]
    by_cases hq : q < n
    · rw [List.getElem?_range hq, Option.map_some, Option.map_some, ho q (fun z => e z.symm)]
    · rw [List.getElem?_eq_none (by simp; omega)]
      rfl
theorem slot_0 {G : GT} {N : NN} {R : RR} {c i k : Nat} {t : FieldType} (h : tagOf t = 0) : slot G N R c i t k = cv G (vI (N c i k)) := by unfold slot; rw [h]; rfl
theorem slot_1 {G : GT} {N : NN} {R : RR} {c i k : Nat} {t : FieldType} (h : tagOf t = 1) : slot G N R c i t k = cv G (vL (N c i k)) := by unfold slot; rw [h]; rfl
theorem slot_2 {G : GT} {N : NN} {R : RR} {c i k : Nat} {t : FieldType} (h : tagOf t = 2) : slot G N R c i t k = cv G (.inr (.inr (R c i k))) := by unfold slot; rw [h]; rfl
theorem slot_o {G : GT} {N N' : NN} {R R' : RR} {c i k : Nat} {t : FieldType} (h1 : N' c i k = N c i k) (h2 : R' c i k = R c i k) : slot G N' R' c i t k = slot G N R c i t k := by unfold slot; rw [h1, h2]
theorem up3_s {N : NN} {c i k : Nat} {v : Int} : up3 N c i k v c i k = v := if_pos ⟨rfl, rfl, rfl⟩
theorem up3_n {N : NN} {c i k j : Nat} {v : Int} (h : j ≠ k) : up3 N c i k v c i j = N c i j := if_neg fun q => h q.2.1
theorem upR_s {R : RR} {c i k : Nat} {v : Option (Nat × Nat)} : upR R c i k v c i k = v := if_pos ⟨rfl, rfl, rfl⟩
theorem upR_n {R : RR} {c i k j : Nat} {v : Option (Nat × Nat)} (h : j ≠ k) : upR R c i k v c i j = R c i j := if_neg fun q => h q.2.1
theorem ws_put {G : GT} {n : Nat} {N N' : NN} {R R' : RR} {c i : Nat} {H H1 : Heap} (hP : va_P (gD G) vwCl (ws G n N R) H) (hn : n ≤ TOT) (ho : okA n c i) (he : va_at (gD G) vwCl (ad G (c, i), EE G N' R' (c, i)) H1) (oq : ∀ q : Nat, q ≠ ad G (c, i) → H1[q]? = H[q]?) (hN : ∀ c' i' k', ¬ (c' = c ∧ i' = i) → N' c' i' k' = N c' i' k') (hR : ∀ c' i' k', ¬ (c' = c ∧ i' = i) → R' c' i' k' = R c' i' k') : va_P (gD G) vwCl (ws G n N' R') H1 := by
  have h1 := hP.set (ws_D G n N R) (ws_at ho) he oq
  rwa [ws_set hn ho rfl (fun r hr => EE_other hN hR r hr)] at h1
theorem ad_own {G : GT} {c i : Nat} (h : i < cnt c) : own G (ad G (c, i)) := by
  show gB G ≤ _
  rw [ad_ok h]
  omega
section AWH
variable {G : GT} {o : String} {cc : ByteArray} {nL : Nat} {ret : Option FieldType} {ini : Bool} {rm : Room} {n0 : Nat} {Z : ZT} {pc : Nat} {ls : List (Nat × AV)} {st : List AV} {n : Nat} {N : NN} {R : RR}
theorem A_getV {idx c i k : Nat} {ty : FieldType} {fin : Bool} {v : AV} (hd : decode cc pc = .ok (.getfield idx, 3)) (F : FW o idx c k ty fin) (ho : okA n c i) (hv : slot G N R c i ty k = cv G v) (h : AW G o cc nL ret ini rm n0 Z (pc + 3) ls (v :: st) n N R) : AW G o cc nL ret ini rm n0 Z pc ls (vR c i :: st) n N R := by
  intro p e s m args below meth cx H locs la C hn hP hS hz hl
  obtain ⟨Cn, T, nn, F, hw, hk, hty, -⟩ := F
  have ha := ws_at (G := G) (N := N) (R := R) ho
  rw [EE_obj F.2.2.1] at ha
  refine va_get C.1 C.2.1 C.2.2.2.2.2.1 F.2.2.2.1 C.2.2.2.2.2.2.1 C.2.2.2.2.2.2.2.2.2.1 hP _ ha F.1 k hk (C.2.2.2.2.2.1 _ hw) (fun x hx => hx) (v := cv G v) ?_ hd (h p e s m args below meth cx H locs la C hn hP hS hz hl)
  rw [List.getElem?_map, List.getElem?_range (by rw [F.2.1]; exact hk), Option.map_some, hty, hv]
theorem A_getI {idx c i k : Nat} {ty : FieldType} {fin : Bool} (hd : decode cc pc = .ok (.getfield idx, 3)) (F : FW o idx c k ty fin) (ht : tagOf ty = 0) (ho : okA n c i) (h : AW G o cc nL ret ini rm n0 Z (pc + 3) ls (vI (N c i k) :: st) n N R) : AW G o cc nL ret ini rm n0 Z pc ls (vR c i :: st) n N R := A_getV hd F ho (slot_0 ht) h
theorem A_getL {idx c i k : Nat} {ty : FieldType} {fin : Bool} (hd : decode cc pc = .ok (.getfield idx, 3)) (F : FW o idx c k ty fin) (ht : tagOf ty = 1) (ho : okA n c i) (h : AW G o cc nL ret ini rm n0 Z (pc + 3) ls (vL (N c i k) :: st) n N R) : AW G o cc nL ret ini rm n0 Z pc ls (vR c i :: st) n N R := A_getV hd F ho (slot_1 ht) h
theorem A_getR {idx c i k c2 i2 : Nat} {ty : FieldType} {fin : Bool} (hd : decode cc pc = .ok (.getfield idx, 3)) (F : FW o idx c k ty fin) (ht : tagOf ty = 2) (ho : okA n c i) (hr : R c i k = some (c2, i2)) (h : AW G o cc nL ret ini rm n0 Z (pc + 3) ls (vR c2 i2 :: st) n N R) : AW G o cc nL ret ini rm n0 Z pc ls (vR c i :: st) n N R := A_getV hd F ho ((slot_2 ht).trans (by rw [hr])) h
theorem A_getN {idx c i k : Nat} {ty : FieldType} {fin : Bool} (hd : decode cc pc = .ok (.getfield idx, 3)) (F : FW o idx c k ty fin) (ht : tagOf ty = 2) (ho : okA n c i) (hr : R c i k = none) (h : AW G o cc nL ret ini rm n0 Z (pc + 3) ls (vN :: st) n N R) : AW G o cc nL ret ini rm n0 Z pc ls (vR c i :: st) n N R := A_getV hd F ho ((slot_2 ht).trans (by rw [hr])) h
theorem A_putV {idx c i k : Nat} {ty : FieldType} {fin : Bool} {v : AV} {N' : NN} {R' : RR} (hd : decode cc pc = .ok (.putfield idx, 3)) (F : FW o idx c k ty fin) (hfi : fin = true → ini = true) (hde : fin = true → ∀ q, vwCl[c]? = some q → (q.2.1 k).1 = o) (ho : okA n c i) (hn1 : narrow ty (cv G v) = cv G v) (hf1 : fits ty (cv G v) = true)
    (hv : slot G N' R' c i ty k = cv G v) (hs : ∀ j, j ≠ k → N' c i j = N c i j ∧ R' c i j = R c i j) (hN : ∀ c' i' k', ¬ (c' = c ∧ i' = i) → N' c' i' k' = N c' i' k') (hR : ∀ c' i' k', ¬ (c' = c ∧ i' = i) → R' c' i' k' = R c' i' k')
    (h : AW G o cc nL ret ini rm n0 Z (pc + 3) ls st n N' R') : AW G o cc nL ret ini rm n0 Z pc ls (v :: vR c i :: st) n N R := by
  intro p e s m args below meth cx H locs la C hn hP hS hz hl
  obtain ⟨Cn, T, nn, F, hw, hk, hty, hfin⟩ := F
  have hdecl : fin = true → (T k).1 = o := fun q => hde q _ F.1
  have hts := C.2.2.2.2.2.1
  have hK := C.2.2.2.2.2.2.2.2.2.1
  have hown := C.2.2.2.2.2.2.1
  have hin := F.2.2.2.1
  have hap := va_apart (own := o) hts hin (tyC c) F.2.2.2.2.1 F.2.2.2.2.2 hK F.1
  have ha := ws_at (G := G) (N := N) (R := R) ho
  rw [EE_obj F.2.2.1] at ha
  obtain ⟨r, h1, cell, q1, q2, q3, q4⟩ := hP _ _ ha
  have hr : r = (Cn, T, nn) := Option.some.inj (h1.symm.trans F.1)
  subst hr
  obtain ⟨hSl, hfc, kC, hkC, hkind⟩ := hK.1 c _ F.1
  obtain ⟨cf, kf, fi, f, hi, hsl⟩ := hSl k hk
  have hlay := hts _ (hin _ (u_in_lay hk))
  have hst := (u_facts hfc hkC (u_lays hts hin hk) hi).1
  have hd2 : parseFieldDescriptor (T k).2.2.1 = some ty := by rw [← hty]; exact F.2.2.2.2.1 k hk
  have hll : k < ((List.range (nf c)).map (fun k => slot G N R c i (tyC c k) k)).length := by simpa [F.2.1] using hk
  have fin2 : ∀ H' : Heap, H'[ad G (c, i)]? = some (cell.setSlot (gD G |>.2 c k) (cv G v)) → H'.size = H.size → (∀ q, q ≠ ad G (c, i) → H'[q]? = H[q]?) → W p (gl G) e rm s m args below meth cx H' (locs ++ [⟨ad G (c, i), (gD G).2 c k⟩]) (n - n0) (su n - su n0) (Z below args s) (F0 m (pc + 3) la (st.map (cv G))) := by
    intro H' e1 e2 e3
    refine h p e s m args below meth cx H' _ la C hn (ws_put hP hn.1 ho ?_ e3 hN hR) (hS.put e2 e3 (ad_own ho.1)) (e2.trans hz) hl
    rw [EE_obj F.2.2.1]
    refine ⟨_, F.1, ?_⟩
    rw [← rng_set (n := nf c) (k := k) (f := fun k => slot G N R c i (tyC c k) k) (g := fun k => slot G N' R' c i (tyC c k) k) (v := cv G v) (by show slot G N' R' c i (tyC c k) k = _; rw [hty, hv]) (fun j hj => slot_o (hs j hj).1 (hs j hj).2)]
    exact t_OB.to (V := updV (vp_V _) k (cv G v)) ⟨_, e1, q2, q3, t_set q4 hap hk (cv G v)⟩ (fun j _ => vp_updV_set hll (cv G v) j)
  cases fin with
  | false =>
    unfold u_lay at hlay
    rw [if_neg (by rw [hfin]; decide)] at hlay
    have h6 := u_store hfc hkC hkind hlay hi hd2 hn1 hf1
    refine W.putK C.1 C.2.1 (f := f) ⟨hown, hts _ hw, ⟨_, _, _, hi⟩, hst⟩ (by rw [q2]; exact h6) q1 q3 (by rw [hsl]; exact k2_hasslot (q4 k hk)) rfl rfl hd fun H' e1 e2 e3 => ?_
    rw [hsl] at e1 ⊢
    exact fin2 H' e1 e2 e3
  | true =>
    unfold u_lay at hlay
    rw [if_pos hfin] at hlay
    have hcf : m.cls = cf := by
      obtain ⟨_, _, c', _, _, _, -, -, hf', -, -, -, hown2, -⟩ := Cond.laysFinal_spec hlay
      have e1 : c' = cf := by have := hi.symm.trans hf'; simp at this; exact this.1.symm
      rw [hdecl rfl] at hown2
      rw [← e1]; exact Option.some.inj (hown.symm.trans hown2)
    have h6 := u_fits hfc hkC hkind (Or.inr hlay) hi hd2 hn1 hf1
    refine W.putFinK C.1 C.2.1 hown (hts _ hw) hi hst hcf (C.2.2.2.2.2.2.2.1 (hfi rfl)) (by rw [q2]; exact h6) q1 q3 (by rw [hsl]; exact k2_hasslot (q4 k hk)) rfl rfl hd fun H' e1 e2 e3 => ?_
    rw [hsl] at e1 ⊢
    exact fin2 H' e1 e2 e3
theorem A_putI {idx c i k : Nat} {x : Int} (hd : decode cc pc = .ok (.putfield idx, 3)) (F : FW o idx c k .int false) (ho : okA n c i) (h : AW G o cc nL ret ini rm n0 Z (pc + 3) ls st n (up3 N c i k x) R) : AW G o cc nL ret ini rm n0 Z pc ls (vI x :: vR c i :: st) n N R :=
  A_putV hd F (fun q => by cases q) (fun q => by cases q) ho rfl rfl ((slot_0 rfl).trans (by rw [up3_s])) (fun j hj => ⟨up3_n hj, rfl⟩) up3_o (fun _ _ _ _ => rfl) h
theorem A_putL {idx c i k : Nat} {x : Int} (hd : decode cc pc = .ok (.putfield idx, 3)) (F : FW o idx c k .long false) (ho : okA n c i) (h : AW G o cc nL ret ini rm n0 Z (pc + 3) ls st n (up3 N c i k x) R) : AW G o cc nL ret ini rm n0 Z pc ls (vL x :: vR c i :: st) n N R :=
  A_putV hd F (fun q => by cases q) (fun q => by cases q) ho rfl rfl ((slot_1 rfl).trans (by rw [up3_s])) (fun j hj => ⟨up3_n hj, rfl⟩) up3_o (fun _ _ _ _ => rfl) h
theorem A_putZ {idx c i k : Nat} {x : Int} (hd : decode cc pc = .ok (.putfield idx, 3)) (F : FW o idx c k .boolean false) (ho : okA n c i) (hx : x = 0 ∨ x = 1) (h : AW G o cc nL ret ini rm n0 Z (pc + 3) ls st n (up3 N c i k x) R) : AW G o cc nL ret ini rm n0 Z pc ls (vI x :: vR c i :: st) n N R :=
  A_putV hd F (fun q => by cases q) (fun q => by cases q) ho (by rcases hx with rfl | rfl <;> rfl) (by rcases hx with rfl | rfl <;> rfl) ((slot_0 rfl).trans (by rw [up3_s])) (fun j hj => ⟨up3_n hj, rfl⟩) up3_o (fun _ _ _ _ => rfl) h
theorem A_putR {idx c i k c2 i2 : Nat} {ty : FieldType} {fin : Bool} (hd : decode cc pc = .ok (.putfield idx, 3)) (F : FW o idx c k ty fin) (hfi : fin = true → ini = true) (hde : fin = true → ∀ q, vwCl[c]? = some q → (q.2.1 k).1 = o) (ht : tagOf ty = 2) (ht2 : ∀ a, narrow ty (.ref a) = .ref a ∧ fits ty (.ref a) = true) (ho : okA n c i) (h : AW G o cc nL ret ini rm n0 Z (pc + 3) ls st n N (upR R c i k (some (c2, i2)))) : AW G o cc nL ret ini rm n0 Z pc ls (vR c2 i2 :: vR c i :: st) n N R :=
  A_putV hd F hfi hde ho (ht2 _).1 (ht2 _).2 ((slot_2 ht).trans (by rw [upR_s])) (fun j hj => ⟨rfl, upR_n hj⟩) (fun _ _ _ _ => rfl) upR_o h
theorem A_putN {idx c i k : Nat} {ty : FieldType} {fin : Bool} (hd : decode cc pc = .ok (.putfield idx, 3)) (F : FW o idx c k ty fin) (hfi : fin = true → ini = true) (hde : fin = true → ∀ q, vwCl[c]? = some q → (q.2.1 k).1 = o) (ht : tagOf ty = 2) (ht2 : narrow ty .null = .null ∧ fits ty .null = true) (ho : okA n c i) (h : AW G o cc nL ret ini rm n0 Z (pc + 3) ls st n N (upR R c i k none)) : AW G o cc nL ret ini rm n0 Z pc ls (vN :: vR c i :: st) n N R :=
  A_putV hd F hfi hde ho ht2.1 ht2.2 ((slot_2 ht).trans (by rw [upR_s])) (fun j hj => ⟨rfl, upR_n hj⟩) (fun _ _ _ _ => rfl) upR_o h
end AWH
