/-! rows of arrays -/
theorem tys_at {G : GT} {c i : Nat} (h2 : 20 ≤ c) (h : i < cnt c) : (tys G)[tix c]? = some (gA G (tix c), aT c) := by
  have h1 := cnt_lt h
  obtain ⟨e1, e2⟩ := tix_ok c h1 h2 (by omega)
  unfold tys
  rw [List.getElem?_map, List.getElem?_range e2, Option.map_some, e1]
theorem ix_in {x : Int} {j n : Nat} (hj : wI x = (j : Int)) (hlt : j < n) : vp_in (Int32.ofInt x) n := by
  rw [vp_in_iff, oI_toInt, hj]
  omega
theorem ix_cl {x : Int} {j : Nat} (hj : wI x = (j : Int)) : (Int32.ofInt x).toNatClampNeg = j := by
  show (Int32.ofInt x).toInt.toNat = j
  rw [oI_toInt, hj]
  rfl
theorem arrE_0 {G : GT} {N : NN} {R : RR} {c i : Nat} (h : tagOf (aT c) = 0) : arrE G N R c i = .inl (fun j => Int32.ofInt (N c i j)) := by unfold arrE; rw [h]; rfl
theorem arrE_1 {G : GT} {N : NN} {R : RR} {c i : Nat} (h : tagOf (aT c) = 1) : arrE G N R c i = .inr (.inl (fun j => Int64.ofInt (N c i j))) := by unfold arrE; rw [h]; rfl
theorem arrE_2 {G : GT} {N : NN} {R : RR} {c i : Nat} (h : tagOf (aT c) = 2) : arrE G N R c i = .inr (.inr (.inr (.inr (fun j => (R c i j).map (ad G))))) := by unfold arrE; rw [h]; rfl
theorem tag_ref {t : FieldType} (h : tagOf t = 2) : t.isReference = true ∨ t = .float ∨ t = .double := by
  cases t <;> first | (cases h; done) | exact Or.inl rfl | exact Or.inr (Or.inl rfl) | exact Or.inr (Or.inr rfl)
def wB (x : Int) : Int := (vp_nar .byte (Int32.ofInt x)).toInt
section AWA
variable {G : GT} {o : String} {cc : ByteArray} {nL : Nat} {ret : Option FieldType} {ini : Bool} {rm : Room} {n0 : Nat} {Z : ZT} {pc : Nat} {ls : List (Nat × AV)} {st : List AV} {n : Nat} {N : NN} {R : RR}
theorem A_iald {c i j : Nat} {x : Int} (hd : decode cc pc = .ok (.iaload, 1)) (h2 : 20 ≤ c) (hT : aT c = .int) (ho : okA n c i) (hj : wI x = (j : Int)) (hlt : j < aN c) (h : AW G o cc nL ret ini rm n0 Z (pc + 1) ls (vI (N c i j) :: st) n N R) : AW G o cc nL ret ini rm n0 Z pc ls (vI x :: vR c i :: st) n N R := by
  intro p e s m args below meth cx H locs la C hn hP hS hz hl
  have ha := ws_at (G := G) (N := N) (R := R) ho
  rw [EE_arr h2, arrE_0 (by rw [hT]; rfl)] at ha
  refine va_iald C.1 C.2.1 C.2.2.2.2.2.2.2.2.2.1 hP _ _ ha (by rw [tys_at h2 ho.1, hT]) (ix_in hj hlt) hd ?_
  rw [ix_cl hj]
  exact h p e s m args below meth cx H locs la C hn hP hS hz hl
theorem A_bald {c i j : Nat} {x : Int} (hd : decode cc pc = .ok (.baload, 1)) (h2 : 20 ≤ c) (hT : aT c = .byte) (ho : okA n c i) (hj : wI x = (j : Int)) (hlt : j < aN c) (h : AW G o cc nL ret ini rm n0 Z (pc + 1) ls (vI (N c i j) :: st) n N R) : AW G o cc nL ret ini rm n0 Z pc ls (vI x :: vR c i :: st) n N R := by
  intro p e s m args below meth cx H locs la C hn hP hS hz hl
  have ha := ws_at (G := G) (N := N) (R := R) ho
  rw [EE_arr h2, arrE_0 (by rw [hT]; rfl)] at ha
  refine va_bald C.1 C.2.1 C.2.2.2.2.2.2.2.2.2.1 hP _ _ ha (by rw [tys_at h2 ho.1, hT]) (ix_in hj hlt) hd ?_
  rw [ix_cl hj]
  exact h p e s m args below meth cx H locs la C hn hP hS hz hl
theorem A_zald {c i j : Nat} {x : Int} (hd : decode cc pc = .ok (.baload, 1)) (h2 : 20 ≤ c) (hT : aT c = .boolean) (ho : okA n c i) (hj : wI x = (j : Int)) (hlt : j < aN c) (h : AW G o cc nL ret ini rm n0 Z (pc + 1) ls (vI (N c i j) :: st) n N R) : AW G o cc nL ret ini rm n0 Z pc ls (vI x :: vR c i :: st) n N R := by
  intro p e s m args below meth cx H locs la C hn hP hS hz hl
  have ha := ws_at (G := G) (N := N) (R := R) ho
  rw [EE_arr h2, arrE_0 (by rw [hT]; rfl)] at ha
  refine va_zald C.1 C.2.1 C.2.2.2.2.2.2.2.2.2.1 hP _ _ ha (by rw [tys_at h2 ho.1, hT]) (ix_in hj hlt) hd ?_
  rw [ix_cl hj]
  exact h p e s m args below meth cx H locs la C hn hP hS hz hl
theorem A_lald {c i j : Nat} {x : Int} (hd : decode cc pc = .ok (.laload, 1)) (h2 : 20 ≤ c) (hT : aT c = .long) (ho : okA n c i) (hj : wI x = (j : Int)) (hlt : j < aN c) (h : AW G o cc nL ret ini rm n0 Z (pc + 1) ls (vL (N c i j) :: st) n N R) : AW G o cc nL ret ini rm n0 Z pc ls (vI x :: vR c i :: st) n N R := by
  intro p e s m args below meth cx H locs la C hn hP hS hz hl
  have ha := ws_at (G := G) (N := N) (R := R) ho
  rw [EE_arr h2, arrE_1 (by rw [hT]; rfl)] at ha
  refine va_lald C.1 C.2.1 C.2.2.2.2.2.2.2.2.2.1 hP _ _ ha (by rw [tys_at h2 ho.1, hT]) (ix_in hj hlt) hd ?_
  rw [ix_cl hj]
  exact h p e s m args below meth cx H locs la C hn hP hS hz hl
theorem A_aald {c i j c2 i2 : Nat} {x : Int} (hd : decode cc pc = .ok (.aaload, 1)) (h2 : 20 ≤ c) (hT : tagOf (aT c) = 2 ∧ (aT c).isReference = true) (ho : okA n c i) (hj : wI x = (j : Int)) (hlt : j < aN c) (hr : R c i j = some (c2, i2)) (h : AW G o cc nL ret ini rm n0 Z (pc + 1) ls (vR c2 i2 :: st) n N R) : AW G o cc nL ret ini rm n0 Z pc ls (vI x :: vR c i :: st) n N R := by
  intro p e s m args below meth cx H locs la C hn hP hS hz hl
  have ha := ws_at (G := G) (N := N) (R := R) ho
  rw [EE_arr h2, arrE_2 hT.1] at ha
  have hin := ix_in hj hlt
  have hlt2 : (Int32.ofInt x).toNatClampNeg < aN c := by rw [ix_cl hj]; exact hlt
  refine W.aald (v := cv G (vR c2 i2)) (ty := aT c) C.1 C.2.1 (hP _ _ ha) ((C.2.2.2.2.2.2.2.2.2.1.2 _ _ (tys_at h2 ho.1)).1 (aN c) (fun j => va_rf ((R c i j).map (ad G)))) hT.2 (fun q => by cases q) (by show ¬ (_ ∨ (arrV _ _ _).slots.size ≤ _); rw [arrV_size]; exact hin) (by show (arrV _ _ _).slots[_]? = _; rw [arrV_read _ _ hlt2, ix_cl hj]; show some (va_rf ((R c i j).map (ad G))) = _; rw [hr]; rfl) rfl rfl hd ?_
  exact h p e s m args below meth cx H locs la C hn hP hS hz hl
theorem A_alen {c i : Nat} {v : Int} (hd : decode cc pc = .ok (.arraylength, 1)) (h2 : 20 ≤ c) (ho : okA n c i) (hv : (aN c : Int) = v) (h : AW G o cc nL ret ini rm n0 Z (pc + 1) ls (vI v :: st) n N R) : AW G o cc nL ret ini rm n0 Z pc ls (vR c i :: st) n N R := by
  intro p e s m args below meth cx H locs la C hn hP hS hz hl
  have ha := ws_at (G := G) (N := N) (R := R) ho
  rw [EE_arr h2] at ha
  subst hv
  exact va_alen C.1 C.2.1 C.2.2.2.2.2.2.2.2.2.1 hP _ _ ha (tys_at h2 ho.1) (v := Int32.ofInt (aN c : Int)) rfl hd (h p e s m args below meth cx H locs la C hn hP hS hz hl)
theorem upd_f {N : NN} {c i j : Nat} {v : Int} : (fun q => Int32.ofInt (up3 N c i j v c i q)) = upd (fun q => Int32.ofInt (N c i q)) j (Int32.ofInt v) := by
  funext q
  unfold upd
  by_cases e : q = j
  · subst e; rw [up3_s, if_pos rfl]
  · rw [up3_n e, if_neg e]
theorem A_iast {c i j : Nat} {x v : Int} (hd : decode cc pc = .ok (.iastore, 1)) (h2 : 20 ≤ c) (hT : aT c = .int) (ho : okA n c i) (hj : wI x = (j : Int)) (hlt : j < aN c) (h : AW G o cc nL ret ini rm n0 Z (pc + 1) ls st n (up3 N c i j v) R) : AW G o cc nL ret ini rm n0 Z pc ls (vI v :: vI x :: vR c i :: st) n N R := by
  intro p e s m args below meth cx H locs la C hn hP hS hz hl
  have ha := ws_at (G := G) (N := N) (R := R) ho
  rw [EE_arr h2, arrE_0 (by rw [hT]; rfl)] at ha
  refine W.iast C.1 C.2.1 (hP _ _ ha) (by have := (C.2.2.2.2.2.2.2.2.2.1.2 _ _ (tys_at (G := G) h2 ho.1)).1 (aN c) (fun q => .int (Int32.ofInt (N c i q))); rw [hT] at this; exact this) (fun q => by cases q) (by show ¬ (_ ∨ (arrV _ _ _).slots.size ≤ _); rw [arrV_size]; exact ix_in hj hlt) rfl rfl hd fun H1 e1 z oq => ?_
  refine h p e s m args below meth cx H1 _ la C hn (ws_put hP hn.1 ho ?_ oq up3_o (fun _ _ _ _ => rfl)) (hS.put z oq (ad_own ho.1)) (z.trans hz) hl
  rw [EE_arr h2, arrE_0 (by rw [hT]; rfl)]
  show H1[_]? = some (vp_cell _ _)
  rw [e1, vp_cell_i]
  show some ((arrV _ _ _).setSlot _ _) = _
  rw [arrV_store, ix_cl hj]
  show some (arrV (gA G (tix c)) (aN c) _) = some (arrV (gA G (tix c)) (aN c) (fun q => Value.int (Int32.ofInt (up3 N c i j v c i q))))
  refine congrArg some (congrArg (arrV (gA G (tix c)) (aN c)) (funext fun q => ?_))
  by_cases e : q = j
  · subst e; simp [updV, up3_s]
  · simp [updV, e, up3_n e]
theorem A_bast {c i j : Nat} {x v : Int} (hd : decode cc pc = .ok (.bastore, 1)) (h2 : 20 ≤ c) (hT : aT c = .byte) (ho : okA n c i) (hj : wI x = (j : Int)) (hlt : j < aN c) (h : AW G o cc nL ret ini rm n0 Z (pc + 1) ls st n (up3 N c i j (wB v)) R) : AW G o cc nL ret ini rm n0 Z pc ls (vI v :: vI x :: vR c i :: st) n N R := by
  intro p e s m args below meth cx H locs la C hn hP hS hz hl
  have ha := ws_at (G := G) (N := N) (R := R) ho
  rw [EE_arr h2, arrE_0 (by rw [hT]; rfl)] at ha
  refine W.bast C.1 C.2.1 (hP _ _ ha) (by have := (C.2.2.2.2.2.2.2.2.2.1.2 _ _ (tys_at (G := G) h2 ho.1)).1 (aN c) (fun q => .int (Int32.ofInt (N c i q))); rw [hT] at this; exact this) (fun q => by cases q) (by show ¬ (_ ∨ (arrV _ _ _).slots.size ≤ _); rw [arrV_size]; exact ix_in hj hlt) rfl rfl hd fun H1 e1 z oq => ?_
  refine h p e s m args below meth cx H1 _ la C hn (ws_put hP hn.1 ho ?_ oq up3_o (fun _ _ _ _ => rfl)) (hS.put z oq (ad_own ho.1)) (z.trans hz) hl
  rw [EE_arr h2, arrE_0 (by rw [hT]; rfl)]
  show H1[_]? = some (vp_cell _ _)
  rw [e1, vp_cell_i]
  show some ((arrV _ _ _).setSlot _ _) = _
  rw [arrV_store, ix_cl hj]
  show some (arrV (gA G (tix c)) (aN c) _) = some (arrV (gA G (tix c)) (aN c) (fun q => Value.int (Int32.ofInt (up3 N c i j (wB v) c i q))))
  refine congrArg some (congrArg (arrV (gA G (tix c)) (aN c)) (funext fun q => ?_))
  by_cases e : q = j
  · subst e
    simp only [updV, if_true, up3_s, wB, Int32.ofInt_toInt]
    first | rfl | simp [vp_nar, narrow]
  · simp [updV, e, up3_n e]
theorem A_zast {c i j : Nat} {x v : Int} (hd : decode cc pc = .ok (.bastore, 1)) (h2 : 20 ≤ c) (hT : aT c = .boolean) (ho : okA n c i) (hj : wI x = (j : Int)) (hlt : j < aN c) (hv : v = 0 ∨ v = 1) (h : AW G o cc nL ret ini rm n0 Z (pc + 1) ls st n (up3 N c i j v) R) : AW G o cc nL ret ini rm n0 Z pc ls (vI v :: vI x :: vR c i :: st) n N R := by
  intro p e s m args below meth cx H locs la C hn hP hS hz hl
  have ha := ws_at (G := G) (N := N) (R := R) ho
  rw [EE_arr h2, arrE_0 (by rw [hT]; rfl)] at ha
  refine W.zast C.1 C.2.1 (hP _ _ ha) (by have := (C.2.2.2.2.2.2.2.2.2.1.2 _ _ (tys_at (G := G) h2 ho.1)).1 (aN c) (fun q => .int (Int32.ofInt (N c i q))); rw [hT] at this; exact this) (fun q => by cases q) (by show ¬ (_ ∨ (arrV _ _ _).slots.size ≤ _); rw [arrV_size]; exact ix_in hj hlt) rfl rfl hd fun H1 e1 z oq => ?_
  refine h p e s m args below meth cx H1 _ la C hn (ws_put hP hn.1 ho ?_ oq up3_o (fun _ _ _ _ => rfl)) (hS.put z oq (ad_own ho.1)) (z.trans hz) hl
  rw [EE_arr h2, arrE_0 (by rw [hT]; rfl)]
  show H1[_]? = some (vp_cell _ _)
  rw [e1, vp_cell_i]
  show some ((arrV _ _ _).setSlot _ _) = _
  rw [arrV_store, ix_cl hj]
  show some (arrV (gA G (tix c)) (aN c) _) = some (arrV (gA G (tix c)) (aN c) (fun q => Value.int (Int32.ofInt (up3 N c i j v c i q))))
  refine congrArg some (congrArg (arrV (gA G (tix c)) (aN c)) (funext fun q => ?_))
  by_cases e : q = j
  · subst e
    simp only [updV, if_true, up3_s]
    rcases hv with rfl | rfl <;> rfl
  · simp [updV, e, up3_n e]
theorem A_last {c i j : Nat} {x v : Int} (hd : decode cc pc = .ok (.lastore, 1)) (h2 : 20 ≤ c) (hT : aT c = .long) (ho : okA n c i) (hj : wI x = (j : Int)) (hlt : j < aN c) (h : AW G o cc nL ret ini rm n0 Z (pc + 1) ls st n (up3 N c i j v) R) : AW G o cc nL ret ini rm n0 Z pc ls (vL v :: vI x :: vR c i :: st) n N R := by
  intro p e s m args below meth cx H locs la C hn hP hS hz hl
  have ha := ws_at (G := G) (N := N) (R := R) ho
  rw [EE_arr h2, arrE_1 (by rw [hT]; rfl)] at ha
  refine W.last C.1 C.2.1 (hP _ _ ha) (by have := (C.2.2.2.2.2.2.2.2.2.1.2 _ _ (tys_at (G := G) h2 ho.1)).1 (aN c) (fun q => .long (Int64.ofInt (N c i q))); rw [hT] at this; exact this) (fun q => by cases q) (by show ¬ (_ ∨ (arrV _ _ _).slots.size ≤ _); rw [arrV_size]; exact ix_in hj hlt) rfl rfl hd fun H1 e1 z oq => ?_
  refine h p e s m args below meth cx H1 _ la C hn (ws_put hP hn.1 ho ?_ oq up3_o (fun _ _ _ _ => rfl)) (hS.put z oq (ad_own ho.1)) (z.trans hz) hl
  rw [EE_arr h2, arrE_1 (by rw [hT]; rfl)]
  show H1[_]? = some (vp_cell _ _)
  rw [e1, vp_cell_l]
  show some ((arrV _ _ _).setSlot _ _) = _
  rw [arrV_store, ix_cl hj]
  show some (arrV (gA G (tix c)) (aN c) _) = some (arrV (gA G (tix c)) (aN c) (fun q => Value.long (Int64.ofInt (up3 N c i j v c i q))))
  refine congrArg some (congrArg (arrV (gA G (tix c)) (aN c)) (funext fun q => ?_))
  by_cases e : q = j
  · subst e; simp [updV, up3_s]
  · simp [updV, e, up3_n e]
end AWA
