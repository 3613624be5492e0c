/-! contracts, returns, calls -/
def rmL (L n0 n1 : Nat) : Room := { frames := 8 + L, cells := n1 - n0, slots := su n1 - su n0, locals := 400 + 40 * L }
abbrev QT : Type := Option AV → NN → RR → Prop
def QcOf (G : GT) (n1 : Nat) (Q : QT) : Array Value → State → Outcome → State → Prop := fun _ st oc t =>
  (∃ (r : Option AV) (N' : NN) (R' : RR), oc = .returned (r.map (cv G)) ∧ Q r N' R' ∧ va_P (gD G) vwCl (ws G n1 N' R') t.heap ∧ t.heap.size = gB G + n1) ∧ va_F (own G) st t
def Wd (G : GT) (n : Nat) (N : NN) (R : RR) (U : State) : Prop := Ext G U U.heap ∧ va_K (gD G) vwCl (tys G) U ∧ va_P (gD G) vwCl (ws G n N R) U.heap ∧ U.heap.size = gB G + n
def Ctr (G : GT) (y : MethodName) (cc : ByteArray) (nL : Nat) (ret : Option FieldType) (L n0 n1 : Nat) (av : List AV) (N : NN) (R : RR) (Q : QT) : Prop :=
  Met (gl G) y (.code y cc nL ret :: ALL) (rmL L n0 n1) (va_Pc (av.map (cv G)) (Wd G n0 N R)) (QcOf G n1 Q) (n1 - n0) (su n1 - su n0) (own G)
def ZQ (G : GT) (n0 n1 : Nat) (Q : QT) : ZT := fun below args s => MQ below (QcOf G n1 Q) args s (n1 - n0) (su n1 - su n0) (own G)
def avl : Nat → List AV → List (Nat × AV)
  | _, [] => []
  | i, v :: vs => (i, v) :: avl (if isL v then i + 2 else i + 1) vs
theorem avl_cv (G : GT) : ∀ (i : Nat) (av : List AV), lv_args i (av.map (cv G)) = cvl G (avl i av)
  | _, [] => rfl
  | i, v :: vs => by
    show (i, cv G v) :: lv_args (if (cv G v).category = 2 then i + 2 else i + 1) (vs.map (cv G)) = (i, cv G v) :: cvl G (avl (if isL v then i + 2 else i + 1) vs)
    have e := cv_isL G v
    rw [avl_cv]
    cases hv : isL v
    · rw [hv] at e
      have e2 : ¬ (cv G v).category = 2 := by simpa using e
      rw [if_neg e2]
      rfl
    · rw [hv] at e
      have e2 : (cv G v).category = 2 := by simpa using e
      rw [if_pos e2]
      rfl
theorem Ctr.ofAW {G : GT} {y : MethodName} {cc : ByteArray} {nL : Nat} {ret : Option FieldType} {L n0 n1 : Nat} {av : List AV} {N : NN} {R : RR} {Q : QT} (o : String) (ini : Bool) (ho : y.cls = o) (hy : plainName y.cls = true) (hi : ini = true → y.name = "<init>") (hlen : (lg_sl (av.map (cv G))).length ≤ nL) (hn0 : n0 ≤ TOT)
    (h : AW G o cc nL ret ini (rmL L n0 n1) n0 (ZQ G n0 n1 Q) 0 (avl 0 av) [] n0 N R) : Ctr G y cc nL ret L n0 n1 av N R Q := by
  refine Met.ofW (cc := cc) (maxL := nL) (ret := ret) hy rfl ?_
  intro p e s m args below meth c s₁ B hml hv
  obtain ⟨rfl, hE, hK, hP, hz⟩ := hv
  have hts := atoms_spec B.pre
  rw [lg_entry_eq]
  have hl := lv_entry (av.map (cv G)) hlen
  rw [avl_cv] at hl
  have := h p e s m _ below meth c s.heap [] _ ⟨B.exec, B.bytes, hml, B.returns, B.notSynchronized, fun w hw => hts w (List.mem_cons_of_mem _ hw), by rw [← ho]; exact findClass_of_methodNamed B.named, fun q => by rw [(name_of_methodNamed B.named B.method).1]; exact hi q, hE, hK, hz⟩ ⟨hn0, Nat.le_refl _⟩ hP va_S.rf hz hl
  rw [Nat.sub_self, Nat.sub_self] at this
  exact this
theorem Ctr.mono {G : GT} {y : MethodName} {cc : ByteArray} {nL : Nat} {ret : Option FieldType} {L n0 n1 : Nat} {av : List AV} {N : NN} {R : RR} {Q Q' : QT} (h : Ctr G y cc nL ret L n0 n1 av N R Q) (hq : ∀ r N' R', Q r N' R' → Q' r N' R') : Ctr G y cc nL ret L n0 n1 av N R Q' := by
  intro p e ha hc hk s m args below hf happ hp htr
  obtain ⟨k, oc, h1, h2, h3, ⟨⟨r, N', R', g1, g2, g3⟩, g4⟩, h5⟩ := h p e ha hc hk s m args below hf happ hp htr
  exact ⟨k, oc, h1, h2, h3, ⟨⟨r, N', R', g1, hq _ _ _ g2, g3⟩, g4⟩, h5⟩
theorem all_good {ws : List Cond} (h : ∀ w ∈ ws, w ∈ ALL) : GoodIn ALL ws := fun w hw => ⟨h w hw, good_of_word (ALL_good (h w hw)).2⟩
section AWC
variable {G : GT} {o : String} {cc : ByteArray} {nL : Nat} {ret : Option FieldType} {ini : Bool} {rm : Room} {n0 : Nat} {Z : ZT} {pc : Nat} {ls : List (Nat × AV)} {st : List AV} {n : Nat} {N : NN} {R : RR} {Q : QT} {n1 : Nat}
theorem A_iret {x : Int} (hd : decode cc pc = .ok (.ireturn, 1)) (hq : Q (some (vI x)) N R) : AW G o cc nL (some .int) ini rm n0 (ZQ G n0 n1 Q) pc ls [vI x] n1 N R := by
  intro p e s m args below meth cx H locs la C hn hP hS hz hl
  refine W.iret C.1 C.2.1 C.2.2.2.1 (fun t ht _ => ⟨⟨some (vI x), N, R, rfl, hq, by rw [ht]; exact hP, by rw [ht]; exact hz⟩, hS.F ht⟩) hS.2.2 hd C.2.2.2.2.1
theorem A_zret {x : Int} (hd : decode cc pc = .ok (.ireturn, 1)) (hx : x = 0 ∨ x = 1) (hq : Q (some (vI x)) N R) : AW G o cc nL (some .boolean) ini rm n0 (ZQ G n0 n1 Q) pc ls [vI x] n1 N R := by
  intro p e s m args below meth cx H locs la C hn hP hS hz hl
  refine W.zret C.1 C.2.1 C.2.2.2.1 (by rcases hx with rfl | rfl <;> rfl) (fun t ht _ => ⟨⟨some (vI x), N, R, rfl, hq, by rw [ht]; exact hP, by rw [ht]; exact hz⟩, hS.F ht⟩) hS.2.2 hd C.2.2.2.2.1
theorem A_xret {x : Int} {ty : FieldType} (hd : decode cc pc = .ok (.ireturn, 1)) (hx : narrow ty (.int (Int32.ofInt x)) = .int (Int32.ofInt x)) (hq : Q (some (vI x)) N R) : AW G o cc nL (some ty) ini rm n0 (ZQ G n0 n1 Q) pc ls [vI x] n1 N R := by
  intro p e s m args below meth cx H locs la C hn hP hS hz hl
  refine W.zret C.1 C.2.1 C.2.2.2.1 hx (fun t ht _ => ⟨⟨some (vI x), N, R, rfl, hq, by rw [ht]; exact hP, by rw [ht]; exact hz⟩, hS.F ht⟩) hS.2.2 hd C.2.2.2.2.1
theorem A_lret {x : Int} (hd : decode cc pc = .ok (.lreturn, 1)) (hq : Q (some (vL x)) N R) : AW G o cc nL (some .long) ini rm n0 (ZQ G n0 n1 Q) pc ls [vL x] n1 N R := by
  intro p e s m args below meth cx H locs la C hn hP hS hz hl
  refine W.lret C.1 C.2.1 C.2.2.2.1 (fun t ht _ => ⟨⟨some (vL x), N, R, rfl, hq, by rw [ht]; exact hP, by rw [ht]; exact hz⟩, hS.F ht⟩) hS.2.2 hd C.2.2.2.2.1
theorem A_vret (hd : decode cc pc = .ok (.return_, 1)) (hq : Q none N R) : AW G o cc nL none ini rm n0 (ZQ G n0 n1 Q) pc ls [] n1 N R := by
  intro p e s m args below meth cx H locs la C hn hP hS hz hl
  refine W.vret C.1 C.2.1 C.2.2.2.1 (fun t ht _ => ⟨⟨none, N, R, rfl, hq, by rw [ht]; exact hP, by rw [ht]; exact hz⟩, hS.F ht⟩) hS.2.2 hd C.2.2.2.2.1
theorem A_aret {r : Option (Nat × Nat)} {C0 : String} (hd : decode cc pc = .ok (.areturn, 1)) (hq : Q (some (.inr (.inr r))) N R) : AW G o cc nL (some (.object C0)) ini rm n0 (ZQ G n0 n1 Q) pc ls [.inr (.inr r)] n1 N R := by
  intro p e s m args below meth cx H locs la C hn hP hS hz hl
  refine W.aret C.1 C.2.1 C.2.2.2.1 (Or.inl ⟨_, rfl⟩) (by cases r with | none => exact Or.inl rfl | some a => exact Or.inr ⟨_, rfl⟩) (fun t ht _ => ⟨⟨some (.inr (.inr r)), N, R, rfl, hq, by rw [ht]; exact hP, by rw [ht]; exact hz⟩, hS.F ht⟩) hS.2.2 hd C.2.2.2.2.1
theorem A_ofRun {p : Program} {e : Env} {s : State} {m : MethodId} {args : Array Value} {below : List Frame} {meth : Method} {c : Code} {H : Heap} {locs : List Loc} {la : Array Slot} {st0 : List Value} {a : Array Value}
    (hr : va_Run p (gl G) e rm s m args below meth c H locs (n - n0) (su n - su n0) (n1 - n) (su n1 - su n) (F0 m pc la st0) (st.map (cv G)) (QcOf G n1 Q a) (own G)) (C : AC G o cc nL ret ini n0 p s m args meth c) (hn : n0 ≤ n ∧ n ≤ n1 ∧ n1 ≤ TOT) (hS : va_S (own G) s.heap H locs) (hl : lv_has la nL (cvl G ls))
    (kk : ∀ r N' R', Q r N' R' → AW G o cc nL ret ini rm n0 Z (pc + 3) ls (r.toList ++ st) n1 N' R') : W p (gl G) e rm s m args below meth c H locs (n - n0) (su n - su n0) (Z below args s) (F0 m pc la st0) := by
  intro T hT X
  obtain ⟨v, st₀, t, T', L, h0, X', hL, e1, e2, ⟨⟨r, N', R', hv, hq, hP1, hz1⟩, hz, hk⟩, stp⟩ := hr T hT X
  cases hv
  rw [h0] at hz hk
  have hS1 : va_S (own G) s.heap T'.heap (locs ++ L) := ⟨Nat.le_trans hS.1 (by rw [e1]; exact hz), fun q h1 h2 => by rw [e1, hk q (Nat.lt_of_lt_of_le h1 hS.1) h2]; exact hS.2.1 q h1 h2, fun q hq => by
    rcases List.mem_append.mp hq with h | h
    · exact hS.2.2 q h
    · exact hL q h⟩
  have w := kk r N' R' hq p e s m args below meth c T'.heap (locs ++ L) la C ⟨hn.2.2, Nat.le_trans hn.1 hn.2.1⟩ (by rw [e1]; exact hP1) hS1 (by rw [e1]; exact hz1) hl
  have m1 := su_mono hn.1
  have m2 := su_mono hn.2.1
  have c1 : n1 - n0 = n - n0 + (n1 - n) := by omega
  have c2 : su n1 - su n0 = su n - su n0 + (su n1 - su n) := by omega
  rw [c1, c2] at w
  obtain ⟨t2, a1, b1⟩ := w T' rfl X'
  refine ⟨t2, stp t2 ?_, b1⟩
  have es : (r.map (cv G)).toList ++ st.map (cv G) = (r.toList ++ st).map (cv G) := by cases r <;> rfl
  rw [es]
  exact a1
theorem Wd_blind (av : List Value) : FrameBlind (va_Pc av (Wd G n N R)) := fun a U g mk q => by
  obtain ⟨q0, hE, hK, hP, hz⟩ := q
  exact ⟨q0, Ext.warm (s := U) (U := U.calling g mk a) (State.WarmedH.refl U) hE, va_K.moved (u := U) (U := U.calling g mk a) (Vm.Alike.refl U.vm) hK, hP, hz⟩
theorem Wd_now {p : Program} {s : State} {m : MethodId} {args : Array Value} {meth : Method} {c : Code} {H : Heap} {locs : List Loc} (C : AC G o cc nL ret ini n0 p s m args meth c) (hP : va_P (gD G) vwCl (ws G n N R) H) (hS : va_S (own G) s.heap H locs) (hz : H.size = gB G + n) (U : State) (hU : U.heap = H) (hW : s.WarmedH U.vm) : Wd G n N R U := by
  refine ⟨?_, va_K.moved hW.alike C.2.2.2.2.2.2.2.2.2.1, by rw [hU]; exact hP, by rw [hU]; exact hz⟩
  rw [hU]
  exact Ext.warm hW ((C.2.2.2.2.2.2.2.2.1).kept hS.1 hS.2.1)
/-- what the tables say of a method that entry idx of the class o names -/
def MW (y : MethodName) (cc' : ByteArray) (nL' : Nat) (ret' : Option FieldType) (np : Nat) : Prop :=
  Cond.initialized y.cls ∈ ALL ∧ Cond.code y cc' nL' ret' ∈ ALL ∧ (y.cls ≠ "java/lang/invoke/MethodHandle" ∧ y.cls ≠ "java/lang/invoke/VarHandle" ∧ (parseMethodDescriptor y.desc).map (fun d => d.parameters.length) = some np)
def MWV (o : String) (idx : Nat) (y : MethodName) : Prop := Cond.methodLink o idx y ∈ ALL ∧ Cond.instanceMethod y ∈ ALL ∧ Cond.selects y.cls y y ∈ ALL
def MWS (o : String) (idx : Nat) (y : MethodName) : Prop := Cond.methodLink o idx y ∈ ALL ∧ Cond.static y ∈ ALL
def MWI (o : String) (idx : Nat) (y : MethodName) : Prop := Cond.methodLink o idx y ∈ ALL ∧ Cond.instanceMethod y ∈ ALL ∧ y.name = "<init>"
def MWN (o : String) (idx : Nat) (y : MethodName) : Prop := (o, idx, y, "LayerBook") ∈ nestM ∧ Cond.instanceMethod y ∈ ALL ∧ y.name = "<init>"
theorem st_room {st : List AV} {m : MethodId} {pc : Nat} {la : Array Slot} {s0 : List Value} (h : (st.map fun v => if isL v then 2 else 1).sum ≤ 8) : 2 * (F0 m pc la s0).monitorRoom + ((st.map (cv G)).map fun v => v.category).sum ≤ 8 := by
  apply lv_room
  rw [List.map_map]
  have e : (st.map ((fun v => v.category) ∘ cv G)) = st.map fun v => if isL v then 2 else 1 := by
    apply List.map_congr_left
    intro v _
    show (cv G v).category = _
    cases hv : isL v
    · exact cv_c1 hv
    · exact cv_c2 hv
  rw [e]
  exact h
theorem A_callV {idx c i np L nL' : Nat} {y : MethodName} {cc' : ByteArray} {ret' : Option FieldType} {av : List AV} {C0 : String} {T0 : u_T} {k0 : Nat} (hd : decode cc pc = .ok (.invokevirtual idx, 3)) (hw : MWV o idx y) (hm : MW y cc' nL' ret' np) (hrv : vwCl[c]? = some (C0, T0, k0) ∧ y.cls = C0 ∧ c < 11) (ho : okA n c i) (hnp : av.length = np) (hst : (st.map fun v => if isL v then 2 else 1).sum ≤ 8)
    (hn1 : n ≤ n1 ∧ n1 ≤ TOT) (hro : (rmL L n n1).frames + 1 ≤ rm.frames ∧ 8 + (nL' + 11) + (rmL L n n1).locals ≤ rm.locals) (hce : n1 - n0 ≤ rm.cells ∧ su n1 - su n0 ≤ rm.slots)
    (h : Ctr G y cc' nL' ret' L n n1 (vR c i :: av) N R (fun r N' R' => AW G o cc nL ret ini rm n0 Z (pc + 3) ls (r.toList ++ st) n1 N' R')) {stk : List AV} (hs : stk = av.reverse ++ vR c i :: st) : AW G o cc nL ret ini rm n0 Z pc ls stk n N R := by
  intro p e s m args below meth cx H locs la C hn hP hS hz hl
  subst hs
  have ha := ws_at (G := G) (N := N) (R := R) ho
  rw [EE_obj hrv.2.2] at ha
  have hts := C.2.2.2.2.2.1
  have had : cv G (vR c i) = .ref (ad G (c, i)) := rfl
  have m1 := su_mono hn.2
  have m2 := su_mono hn1.1
  refine A_ofRun (G := G) (o := o) (cc := cc) (nL := nL) (ret := ret) (ini := ini) (ls := ls) (Z := Z) (Q := fun r N' R' => AW G o cc nL ret ini rm n0 Z (pc + 3) ls (r.toList ++ st) n1 N' R') (a := (Value.ref (ad G (c, i)) :: av.map (cv G)).toArray) (va_runV (As := av.map (cv G)) (b := ad G (c, i)) ⟨C.1, C.2.1, C.2.2.1, C.2.2.2.2.2.2.1, hts⟩ h (cwV (C := y.cls) np hts (all_good (fun w hw2 => ?_)) rfl rfl rfl ⟨rfl, hm.2.2⟩ hro) ⟨Wd_blind _, ?_, fun U hU hW => ⟨rfl, Wd_now C hP hS hz U hU hW⟩⟩ rfl (by rw [List.length_map]; exact hnp) hl.1 ?_ (st_room hst) hd ⟨by omega, by omega⟩) C ⟨hn.2, hn1⟩ hS hl (fun r N' R' q => q)
  · unfold wsV at hw2
    simp only [List.cons_append, List.nil_append, List.mem_cons] at hw2
    rcases hw2 with rfl | rfl | rfl | rfl | rfl | hw2
    · exact hw.1
    · exact hw.2.1
    · exact hw.2.2
    · exact hm.1
    · exact hm.2.1
    · exact hw2
  · have := va_recv C.2.2.2.2.2.2.2.2.2.1 hP hrv.1 ha
    rwa [hrv.2.1]
  · show (av.reverse ++ vR c i :: st).map (cv G) = (av.map (cv G)).reverse ++ .ref (ad G (c, i)) :: st.map (cv G)
    rw [List.map_append, List.map_reverse]
    rfl
theorem A_callS {idx np L nL' : Nat} {y : MethodName} {cc' : ByteArray} {ret' : Option FieldType} {av : List AV} (hd : decode cc pc = .ok (.invokestatic idx, 3)) (hw : MWS o idx y) (hm : MW y cc' nL' ret' np) (hnp : av.length = np) (hst : (st.map fun v => if isL v then 2 else 1).sum ≤ 8)
    (hn1 : n ≤ n1 ∧ n1 ≤ TOT) (hro : (rmL L n n1).frames + 1 ≤ rm.frames ∧ 8 + (nL' + 11) + (rmL L n n1).locals ≤ rm.locals) (hce : n1 - n0 ≤ rm.cells ∧ su n1 - su n0 ≤ rm.slots)
    (h : Ctr G y cc' nL' ret' L n n1 av N R (fun r N' R' => AW G o cc nL ret ini rm n0 Z (pc + 3) ls (r.toList ++ st) n1 N' R')) {stk : List AV} (hs : stk = av.reverse ++ st) : AW G o cc nL ret ini rm n0 Z pc ls stk n N R := by
  intro p e s m args below meth cx H locs la C hn hP hS hz hl
  subst hs
  have hts := C.2.2.2.2.2.1
  have m1 := su_mono hn.2
  have m2 := su_mono hn1.1
  refine A_ofRun (G := G) (o := o) (cc := cc) (nL := nL) (ret := ret) (ini := ini) (ls := ls) (Z := Z) (Q := fun r N' R' => AW G o cc nL ret ini rm n0 Z (pc + 3) ls (r.toList ++ st) n1 N' R') (a := (av.map (cv G)).toArray) (va_runS (As := av.map (cv G)) ⟨C.1, C.2.1, C.2.2.1, C.2.2.2.2.2.2.1, hts⟩ h (va_cwS np hts (all_good (fun w hw2 => ?_)) rfl rfl rfl hm.2.2 hro) ⟨Wd_blind _, fun U hU hW => ⟨rfl, Wd_now C hP hS hz U hU hW⟩⟩ rfl (by rw [List.length_map]; exact hnp) hl.1 ?_ (st_room hst) hd ⟨by omega, by omega⟩) C ⟨hn.2, hn1⟩ hS hl (fun r N' R' q => q)
  · unfold va_wsS at hw2
    simp only [List.cons_append, List.nil_append, List.mem_cons] at hw2
    rcases hw2 with rfl | rfl | rfl | rfl | hw2
    · exact hw.1
    · exact hw.2
    · exact hm.1
    · exact hm.2.1
    · exact hw2
  · show (av.reverse ++ st).map (cv G) = (av.map (cv G)).reverse ++ st.map (cv G)
    rw [List.map_append, List.map_reverse]
theorem A_callI {idx c i np L nL' : Nat} {y : MethodName} {cc' : ByteArray} {av : List AV} (hd : decode cc pc = .ok (.invokespecial idx, 3)) (hw : MWI o idx y) (hm : MW y cc' nL' none np) (hnp : av.length = np) (hst : (st.map fun v => if isL v then 2 else 1).sum ≤ 8)
    (hn1 : n ≤ n1 ∧ n1 ≤ TOT) (hro : (rmL L n n1).frames + 1 ≤ rm.frames ∧ 8 + (nL' + 11) + (rmL L n n1).locals ≤ rm.locals) (hce : n1 - n0 ≤ rm.cells ∧ su n1 - su n0 ≤ rm.slots)
    (h : Ctr G y cc' nL' none L n n1 (vR c i :: av) N R (fun r N' R' => AW G o cc nL ret ini rm n0 Z (pc + 3) ls (r.toList ++ st) n1 N' R')) {stk : List AV} (hs : stk = av.reverse ++ vR c i :: st) : AW G o cc nL ret ini rm n0 Z pc ls stk n N R := by
  intro p e s m args below meth cx H locs la C hn hP hS hz hl
  subst hs
  have hts := C.2.2.2.2.2.1
  have m1 := su_mono hn.2
  have m2 := su_mono hn1.1
  refine A_ofRun (G := G) (o := o) (cc := cc) (nL := nL) (ret := ret) (ini := ini) (ls := ls) (Z := Z) (Q := fun r N' R' => AW G o cc nL ret ini rm n0 Z (pc + 3) ls (r.toList ++ st) n1 N' R') (a := (Value.ref (ad G (c, i)) :: av.map (cv G)).toArray) (va_runI (As := av.map (cv G)) (b := ad G (c, i)) ⟨C.1, C.2.1, C.2.2.1, C.2.2.2.2.2.2.1, hts⟩ h (cwI np hts (all_good (fun w hw2 => ?_)) rfl rfl rfl (hts _ hm.1) (hts _ hw.1) (hts _ hw.2.1) hw.2.2 hm.2.2 hro) ⟨Wd_blind _, fun U hU hW => ⟨rfl, Wd_now C hP hS hz U hU hW⟩⟩ rfl (by rw [List.length_map]; exact hnp) hl.1 ?_ (st_room hst) hd ⟨by omega, by omega⟩) C ⟨hn.2, hn1⟩ hS hl (fun r N' R' q => q)
  · rcases List.mem_cons.mp hw2 with rfl | hw2
    · exact hm.2.1
    · exact hw2
  · show (av.reverse ++ vR c i :: st).map (cv G) = (av.map (cv G)).reverse ++ .ref (ad G (c, i)) :: st.map (cv G)
    rw [List.map_append, List.map_reverse]
    rfl
theorem A_callN {idx c i np L nL' : Nat} {y : MethodName} {cc' : ByteArray} {av : List AV} (hd : decode cc pc = .ok (.invokespecial idx, 3)) (hw : MWN o idx y) (hm : MW y cc' nL' none np) (hnp : av.length = np) (hst : (st.map fun v => if isL v then 2 else 1).sum ≤ 8)
    (hn1 : n ≤ n1 ∧ n1 ≤ TOT) (hro : (rmL L n n1).frames + 1 ≤ rm.frames ∧ 8 + (nL' + 11) + (rmL L n n1).locals ≤ rm.locals) (hce : n1 - n0 ≤ rm.cells ∧ su n1 - su n0 ≤ rm.slots)
    (h : Ctr G y cc' nL' none L n n1 (vR c i :: av) N R (fun r N' R' => AW G o cc nL ret ini rm n0 Z (pc + 3) ls (r.toList ++ st) n1 N' R')) {stk : List AV} (hs : stk = av.reverse ++ vR c i :: st) : AW G o cc nL ret ini rm n0 Z pc ls stk n N R := by
  intro p e s m args below meth cx H locs la C hn hP hS hz hl
  subst hs
  have hts := C.2.2.2.2.2.1
  have m1 := su_mono hn.2
  have m2 := su_mono hn1.1
  refine A_ofRun (G := G) (o := o) (cc := cc) (nL := nL) (ret := ret) (ini := ini) (ls := ls) (Z := Z) (Q := fun r N' R' => AW G o cc nL ret ini rm n0 Z (pc + 3) ls (r.toList ++ st) n1 N' R') (a := (Value.ref (ad G (c, i)) :: av.map (cv G)).toArray) (va_runIN (As := av.map (cv G)) (b := ad G (c, i)) (host := "LayerBook") ⟨C.1, C.2.1, C.2.2.1, C.2.2.2.2.2.2.1, hts⟩ h ⟨va_cnB np hts (all_good (fun w hw2 => ?_)) rfl rfl rfl (C.2.2.2.2.2.2.2.2.1.2.2.2.2.2.2.1 _ hw.1) (hts _ hm.1) hm.2.2 hro, hw.2.2, hts _ hw.2.1⟩ ⟨Wd_blind _, fun U hU hW => ⟨rfl, Wd_now C hP hS hz U hU hW⟩⟩ rfl (by rw [List.length_map]; exact hnp) hl.1 ?_ (st_room hst) hd ⟨by omega, by omega⟩) C ⟨hn.2, hn1⟩ hS hl (fun r N' R' q => q)
  · rcases List.mem_cons.mp hw2 with rfl | hw2
    · exact hm.2.1
    · exact hw2
  · show (av.reverse ++ vR c i :: st).map (cv G) = (av.map (cv G)).reverse ++ .ref (ad G (c, i)) :: st.map (cv G)
    rw [List.map_append, List.map_reverse]
    rfl
end AWC
