/-! String's own members, walked -/
def rmJ (f l : Nat) : Room := { frames := f, cells := TOT - TOT, slots := su TOT - su TOT, locals := l }
def CtrR (G : GT) (y : MethodName) (cc : ByteArray) (nL : Nat) (ret : Option FieldType) (f l : Nat) (As : List Value) (N : NN) (R : RR) (Q : QT) : Prop :=
  Met (gl G) y (.code y cc nL ret :: ALL) (rmJ f l) (va_Pc As (Wd G TOT N R)) (QcOf G TOT Q) (TOT - TOT) (su TOT - su TOT) (own G)
theorem CtrR.ofAW {G : GT} {y : MethodName} {cc : ByteArray} {nL : Nat} {ret : Option FieldType} {f l : Nat} {As : List Value} {ls : List (Nat × AV)} {N : NN} {R : RR} {Q : QT} (o : String) (ho : y.cls = o) (hy : plainName y.cls = true) (hlen : (lg_sl As).length ≤ nL) (hsub : ∀ q ∈ cvl G ls, q ∈ lv_args 0 As)
    (h : AW G o cc nL ret false (rmJ f l) TOT (ZQ G TOT TOT Q) 0 ls [] TOT N R) : CtrR G y cc nL ret f l As N R Q := by
  refine Met.ofW (cc := cc) (maxL := nL) (ret := ret) hy rfl ?_
  intro p e s m args below meth c s₁ B hml hv
  obtain ⟨rfl, hE, hK, hP, hz⟩ := hv
  have hts := atoms_spec B.pre
  rw [lg_entry_eq]
  have hl := lv_entry As hlen
  have := h p e s m _ below meth c s.heap [] _ ⟨B.exec, B.bytes, hml, B.returns, B.notSynchronized, fun w hw => hts w (List.mem_cons_of_mem _ hw), by rw [← ho]; exact findClass_of_methodNamed B.named, fun q => absurd q (by decide), hE, hK, hz⟩ ⟨Nat.le_refl _, Nat.le_refl _⟩ hP va_S.rf hz ⟨hl.1, hl.2.1, fun q hq => hl.2.2 q (hsub q hq)⟩
  rw [Nat.sub_self, Nat.sub_self] at this
  exact this
section AWK
variable {G : GT} {o : String} {cc : ByteArray} {nL : Nat} {ret : Option FieldType} {ini : Bool} {rm : Room} {Z : ZT} {pc : Nat} {ls : List (Nat × AV)} {st : List AV} {N : NN} {R : RR}
theorem A_callSR {idx np nL' f l : Nat} {y : MethodName} {cc' : ByteArray} {ret' : Option FieldType} {av : List AV} (hd : decode cc pc = .ok (.invokestatic idx, 3)) (hw : MWS o idx y) (hm : MW y cc' nL' ret' np) (hnp : av.length = np) (hst : (st.map fun v => if isL v then 2 else 1).sum ≤ 8)
    (hro : f + 1 ≤ rm.frames ∧ 8 + (nL' + 11) + l ≤ rm.locals)
    (h : CtrR G y cc' nL' ret' f l (av.map (cv G)) N R (fun r N' R' => AW G o cc nL ret ini rm TOT Z (pc + 3) ls (r.toList ++ st) TOT N' R')) {stk : List AV} (hs : stk = av.reverse ++ st) : AW G o cc nL ret ini rm TOT Z pc ls stk TOT N R := by
  intro p e s m args below meth cx H locs la C hn hP hS hz hl
  subst hs
  have hts := C.2.2.2.2.2.1
  refine A_ofRun (G := G) (o := o) (cc := cc) (nL := nL) (ret := ret) (ini := ini) (ls := ls) (Z := Z) (n1 := TOT) (Q := fun r N' R' => AW G o cc nL ret ini rm TOT Z (pc + 3) ls (r.toList ++ st) TOT N' R') (a := (av.map (cv G)).toArray) (va_runS (As := av.map (cv G)) ⟨C.1, C.2.1, C.2.2.1, C.2.2.2.2.2.2.1, hts⟩ h (va_cwS np hts (all_good (fun w hw2 => ?_)) rfl rfl rfl hm.2.2 hro) ⟨Wd_blind _, fun U hU hW => ⟨rfl, Wd_now C hP hS hz U hU hW⟩⟩ rfl (by rw [List.length_map]; exact hnp) hl.1 ?_ (st_room hst) hd ⟨by omega, by omega⟩) C ⟨hn.2, Nat.le_refl _, Nat.le_refl _⟩ hS hl (fun r N' R' q => q)
  · unfold va_wsS at hw2
    simp only [List.cons_append, List.nil_append, List.mem_cons] at hw2
    rcases hw2 with rfl | rfl | rfl | rfl | hw2
    · exact hw.1
    · exact hw.2
    · exact hm.1
    · exact hm.2.1
    · exact hw2
  · show (av.reverse ++ st).map (cv G) = (av.map (cv G)).reverse ++ st.map (cv G)
    rw [List.map_append, List.map_reverse]
/-- a member of String's, of the text q -/
theorem A_callKR {idx np nL' f l q : Nat} {y : MethodName} {cc' : ByteArray} {ret' : Option FieldType} {av : List AV} (hd : decode cc pc = .ok (.invokevirtual idx, 3)) (hq : q < 11) (hy : y.cls = "java/lang/String") (hw : MWV o idx y) (hm : MW y cc' nL' ret' np) (hnp : av.length = np) (hst : (st.map fun v => if isL v then 2 else 1).sum ≤ 8)
    (hro : f + 1 ≤ rm.frames ∧ 8 + (nL' + 11) + l ≤ rm.locals)
    (h : CtrR G y cc' nL' ret' f l ((vR 200 q :: av).map (cv G)) N R (fun r N' R' => AW G o cc nL ret ini rm TOT Z (pc + 3) ls (r.toList ++ st) TOT N' R')) {stk : List AV} (hs : stk = av.reverse ++ vR 200 q :: st) : AW G o cc nL ret ini rm TOT Z pc ls stk TOT N R := by
  intro p e s m args below meth cx H locs la C hn hP hS hz hl
  subst hs
  have hts := C.2.2.2.2.2.1
  refine A_ofRun (G := G) (o := o) (cc := cc) (nL := nL) (ret := ret) (ini := ini) (ls := ls) (Z := Z) (n1 := TOT) (Q := fun r N' R' => AW G o cc nL ret ini rm TOT Z (pc + 3) ls (r.toList ++ st) TOT N' R') (a := (Value.ref (gK G q) :: av.map (cv G)).toArray) (va_runV (As := av.map (cv G)) (b := gK G q) ⟨C.1, C.2.1, C.2.2.1, C.2.2.2.2.2.2.1, hts⟩ h (cwV (C := y.cls) np hts (all_good (fun w hw2 => ?_)) rfl rfl rfl ⟨rfl, hm.2.2⟩ hro) ⟨Wd_blind _, ?_, fun U hU hW => ⟨rfl, Wd_now C hP hS hz U hU hW⟩⟩ rfl (by rw [List.length_map]; exact hnp) hl.1 ?_ (st_room hst) hd ⟨by omega, by omega⟩) C ⟨hn.2, Nat.le_refl _, Nat.le_refl _⟩ hS hl (fun r N' R' q => q)
  · unfold wsV at hw2
    simp only [List.cons_append, List.nil_append, List.mem_cons] at hw2
    rcases hw2 with rfl | rfl | rfl | rfl | rfl | hw2
    · exact hw.1
    · exact hw.2.1
    · exact hw.2.2
    · exact hm.1
    · exact hm.2.1
    · exact hw2
  · rw [hy]
    exact vk_recv (C.2.2.2.2.2.2.2.2.1).1 hq hS
  · show (av.reverse ++ vR 200 q :: st).map (cv G) = (av.map (cv G)).reverse ++ .ref (gK G q) :: st.map (cv G)
    rw [List.map_append, List.map_reverse]
    rfl
theorem A_ishr {x y : Int} (hd : decode cc pc = .ok (.ishr, 1)) (h : AW G o cc nL ret ini rm TOT Z (pc + 1) ls (vI ((Int32.ofInt x >>> (Int32.ofInt y &&& 31)).toInt) :: st) TOT N R) : AW G o cc nL ret ini rm TOT Z pc ls (vI y :: vI x :: st) TOT N R := by
  intro p e s m args below meth c H locs la C hn hP hS hz hl
  refine lv_ishr C.1 C.2.1 hd ?_
  rw [oI_of (x := (Int32.ofInt x >>> (Int32.ofInt y &&& 31)).toInt) rfl]
  exact h p e s m args below meth c H locs la C hn hP hS hz hl
/-- a text's bytes, its coder; what String holds -/
theorem K_value {idx q : Nat} (hd : decode cc pc = .ok (.getfield idx, 3)) (hq : q < 11) (hw : Cond.fieldLink o idx "java/lang/String" "value" "[B" ∈ ALL) (h : AW G o cc nL ret ini rm TOT Z (pc + 3) ls (vR 201 q :: st) TOT N R) : AW G o cc nL ret ini rm TOT Z pc ls (vR 200 q :: st) TOT N R := by
  intro p e s m args below meth c H locs la C hn hP hS hz hl
  exact vk_getf C.1 C.2.1 ((C.2.2.2.2.2.2.2.2.1).1.1 q hq).2.2.1 hS C.2.2.2.2.2.2.1 (C.2.2.2.2.2.1 _ hw) (fun x hx => hx) hd (h p e s m args below meth c H locs la C hn hP hS hz hl)
theorem K_coder {idx q : Nat} (hd : decode cc pc = .ok (.getfield idx, 3)) (hq : q < 11) (hw : Cond.fieldLink o idx "java/lang/String" "coder" "B" ∈ ALL) (h : AW G o cc nL ret ini rm TOT Z (pc + 3) ls (vI 0 :: st) TOT N R) : AW G o cc nL ret ini rm TOT Z pc ls (vR 200 q :: st) TOT N R := by
  intro p e s m args below meth c H locs la C hn hP hS hz hl
  have := h p e s m args below meth c H locs la C hn hP hS hz hl
  exact vk_getf C.1 C.2.1 ((C.2.2.2.2.2.2.2.2.1).1.1 q hq).2.1 hS C.2.2.2.2.2.2.1 (C.2.2.2.2.2.1 _ hw) (fun x hx => hx) hd this
theorem K_compact {idx : Nat} (hd : decode cc pc = .ok (.getstatic idx, 3)) (hw : Cond.fieldLink o idx "java/lang/String" "COMPACT_STRINGS" "Z" ∈ ALL) (h : AW G o cc nL ret ini rm TOT Z (pc + 3) ls (vI 1 :: st) TOT N R) : AW G o cc nL ret ini rm TOT Z pc ls st TOT N R := by
  intro p e s m args below meth c H locs la C hn hP hS hz hl
  have := h p e s m args below meth c H locs la C hn hP hS hz hl
  exact va_gets C.1 C.2.1 (C.2.2.2.2.2.2.2.2.1).2.1 hS C.2.2.2.2.2.2.1 (C.2.2.2.2.2.1 _ hw) (fun x hx => hx) hd this
theorem K_len {q : Nat} (hd : decode cc pc = .ok (.arraylength, 1)) (hq : q < 11) (h : AW G o cc nL ret ini rm TOT Z (pc + 1) ls (vI (lenK.getD q 0 : Nat) :: st) TOT N R) : AW G o cc nL ret ini rm TOT Z pc ls (vR 201 q :: st) TOT N R := by
  intro p e s m args below meth c H locs la C hn hP hS hz hl
  exact va_tlen C.1 C.2.1 ((C.2.2.2.2.2.2.2.2.1).1.1 q hq).2.2.2 hS rfl hd (h p e s m args below meth c H locs la C hn hP hS hz hl)
theorem K_bald {q j : Nat} {x : Int} (hd : decode cc pc = .ok (.baload, 1)) (hq : q < 11) (hj : wI x = (j : Int)) (hlt : j < lenK.getD q 0) (h : AW G o cc nL ret ini rm TOT Z (pc + 1) ls (vI (((bytK.getD q []).getD j 0).toInt) :: st) TOT N R) : AW G o cc nL ret ini rm TOT Z pc ls (vI x :: vR 201 q :: st) TOT N R := by
  intro p e s m args below meth c H locs la C hn hP hS hz hl
  refine va_tb C.1 C.2.1 ((C.2.2.2.2.2.2.2.2.1).1.1 q hq).2.2.2 hS (ix_in hj hlt) (v := .int (Int32.ofInt ((bytK.getD q []).getD j 0).toInt)) ?_ hd (h p e s m args below meth c H locs la C hn hP hS hz hl)
  rw [ix_cl hj, Int32.ofInt_toInt]
theorem K_min {idx : Nat} {x y a b : Int} (hd : decode cc pc = .ok (.invokestatic idx, 3)) (hw : MMW o idx Lib.Math.min.name Lib.Math.min.code 2 .int) (hx : wI x = a) (hy : wI y = b) (hst : (st.map fun v => if isL v then 2 else 1).sum ≤ 8) (hf : 1 ≤ rm.frames) (hl0 : 30 ≤ rm.locals) (h : AW G o cc nL ret ini rm TOT Z (pc + 3) ls (vI (min a b) :: st) TOT N R) : AW G o cc nL ret ini rm TOT Z pc ls (vI y :: vI x :: st) TOT N R := by
  intro p e s m args below meth c H locs la C hn2 hP hS hz hl
  subst hx
  subst hy
  have hts := C.2.2.2.2.2.1
  have hc := cat_sum (G := G) hst
  refine va_mmin C.1 C.2.1 (by rw [C.2.2.1]; exact hl.1.symm) C.2.2.2.2.2.2.1 (hts _ hw.1) (hts _ hw.2.1) (hts _ hw.2.2.1) (hts _ hw.2.2.2) hf (by omega) (by rw [Nat.sub_self]; exact Nat.zero_le _) (by rw [Nat.sub_self]; exact Nat.zero_le _) hd ?_
  rw [oI_min]
  exact h p e s m args below meth c H locs la C hn2 hP hS hz hl
theorem K_max {idx : Nat} {x y a b : Int} (hd : decode cc pc = .ok (.invokestatic idx, 3)) (hw : MMW o idx Lib.Math.max.name Lib.Math.max.code 2 .int) (hx : wI x = a) (hy : wI y = b) (hst : (st.map fun v => if isL v then 2 else 1).sum ≤ 8) (hf : 1 ≤ rm.frames) (hl0 : 30 ≤ rm.locals) (h : AW G o cc nL ret ini rm TOT Z (pc + 3) ls (vI (max a b) :: st) TOT N R) : AW G o cc nL ret ini rm TOT Z pc ls (vI y :: vI x :: st) TOT N R := by
  intro p e s m args below meth c H locs la C hn2 hP hS hz hl
  subst hx
  subst hy
  have hts := C.2.2.2.2.2.1
  have hc := cat_sum (G := G) hst
  refine va_mmax C.1 C.2.1 (by rw [C.2.2.1]; exact hl.1.symm) C.2.2.2.2.2.2.1 (hts _ hw.1) (hts _ hw.2.1) (hts _ hw.2.2.1) (hts _ hw.2.2.2) hf (by omega) (by rw [Nat.sub_self]; exact Nat.zero_le _) (by rw [Nat.sub_self]; exact Nat.zero_le _) hd ?_
  rw [oI_max]
  exact h p e s m args below meth c H locs la C hn2 hP hS hz hl
/-- an index looked at: the message's maker is only handed on -/
theorem K_check {x n : Int} (hd1 : decode cc pc = .ok (.getstatic 1053, 3)) (hd2 : decode cc (pc + 3) = .ok (.invokestatic 1059, 3)) (ho : o = RJ0) (hfr : 1 ≤ rm.frames) (hlo : 22 ≤ rm.locals) (hst : (st.map fun v => if isL v then 2 else 1).sum ≤ 8)
    (hM : ∀ v : Value, (v = .null ∨ ∃ t, v = .ref t) → CtrR G yJ3_checkIndex_8e157 cJ3_checkIndex_8e157 3 (some .int) 0 0 [.int (Int32.ofInt x), .int (Int32.ofInt n), v] N R (fun r N' R' => r = some (vI x) ∧ N' = N ∧ R' = R))
    (h : AW G o cc nL ret ini rm TOT Z (pc + 6) ls (vI x :: st) TOT N R) : AW G o cc nL ret ini rm TOT Z pc ls (vI n :: vI x :: st) TOT N R := by
  intro p e s m args below meth cx H locs la C hn hP hS hz hl
  subst ho
  have hts := C.2.2.2.2.2.1
  have key : ∀ v : Value, (v = .null ∨ ∃ t, v = .ref t) → va_Z "jdk/internal/util/Preconditions" "SIOOBE_FORMATTER" "Ljava/util/function/BiFunction;" v (own G) s s.heap → W p (gl G) e rm s m args below meth cx H locs (TOT - TOT) (su TOT - su TOT) (Z below args s) (F0 m pc la ((vI n :: vI x :: st).map (cv G))) := by
    intro v hv hz0
    refine va_gets C.1 C.2.1 hz0 hS C.2.2.2.2.2.2.1 (hts _ fJ0_1053) (fun x hx => hx) hd1 ?_
    have mm := hM v hv
    have cat : v.category = 1 := by rcases hv with rfl | ⟨t, rfl⟩ <;> rfl
    refine A_ofRun (G := G) (o := RJ0) (cc := cc) (nL := nL) (ret := ret) (ini := ini) (ls := ls) (Z := Z) (n1 := TOT) (pc := pc + 3) (Q := fun r N' R' => r = some (vI x) ∧ N' = N ∧ R' = R) (a := ([.int (Int32.ofInt x), .int (Int32.ofInt n), v] : List Value).toArray) (va_runS (As := [.int (Int32.ofInt x), .int (Int32.ofInt n), v]) ⟨C.1, C.2.1, C.2.2.1, C.2.2.2.2.2.2.1, hts⟩ mm (va_cwS 3 hts (all_good (fun w hw2 => ?_)) rfl rfl rfl mJ3_checkIndex_8e157.2.2 ⟨hfr, hlo⟩) ⟨Wd_blind _, fun U hU hW => ⟨rfl, Wd_now C hP hS hz U hU hW⟩⟩ rfl rfl hl.1 ?_ (st_room hst) hd2 ⟨by omega, by omega⟩) C ⟨hn.2, Nat.le_refl _, Nat.le_refl _⟩ hS hl (fun r N' R' q => ?_)
    · unfold va_wsS at hw2
      simp only [List.cons_append, List.nil_append, List.mem_cons] at hw2
      rcases hw2 with rfl | rfl | rfl | rfl | hw2
      · exact vJ0_1059.1
      · exact vJ0_1059.2
      · exact mJ3_checkIndex_8e157.1
      · exact mJ3_checkIndex_8e157.2.1
      · exact hw2
    · rfl
    · obtain ⟨rfl, rfl, rfl⟩ := q
      exact h
  rcases (C.2.2.2.2.2.2.2.2.1).2.2.1 with z | ⟨t, z⟩
  · exact key _ (Or.inl rfl) z
  · exact key _ (Or.inr ⟨t, rfl⟩) z
end AWK
theorem CtrR.mono {G : GT} {y : MethodName} {cc : ByteArray} {nL : Nat} {ret : Option FieldType} {f l : Nat} {As : List Value} {N : NN} {R : RR} {Q Q' : QT} (h : CtrR G y cc nL ret f l As N R Q) (hq : ∀ r N' R', Q r N' R' → Q' r N' R') : CtrR G y cc nL ret f l As N R Q' := by
  intro p e ha hc hk s m args below hf happ hp htr
  obtain ⟨k, oc, h1, h2, h3, ⟨⟨r, N', R', g1, g2, g3⟩, g4⟩, h5⟩ := h p e ha hc hk s m args below hf happ hp htr
  exact ⟨k, oc, h1, h2, h3, ⟨⟨r, N', R', g1, hq _ _ _ g2, g3⟩, g4⟩, h5⟩
section JM
variable {G : GT} {N : NN} {R : RR} {q : Nat}
/-- the answer x, and nothing changed -/
def QA (x : Int) (N : NN) (R : RR) : QT := fun r N' R' => r = some (vI x) ∧ N' = N ∧ R' = R
theorem byt_ok : ∀ q, q < 11 → ∀ j, j < lenK.getD q 0 → (i2cI (andI ((bytK.getD q []).getD j 0).toInt 255) = ((bytK.getD q []).getD j 0).toInt ∧ 0 ≤ ((bytK.getD q []).getD j 0).toInt ∧ ((bytK.getD q []).getD j 0).toInt ≤ 127) := by decide +kernel
theorem len_ok : ∀ q, q < 11 → lenK.getD q 0 = (bytK.getD q []).length ∧ lenK.getD q 0 ≤ 40 := by decide +kernel
theorem cJ_coder (hq : q < 11) : CtrR G yJ0_coder_7d493 cJ0_coder_7d493 1 (some .byte) 0 0 ([vR 200 q].map (cv G)) N R (QA 0 N R) := by
  refine CtrR.ofAW (ls := [(0, vR 200 q)]) RJ0 rfl (by decide +kernel) (Nat.le_refl _) (fun w hw => hw) ?_
  refine K_compact dJ0_coder_7d493_0 fJ0_38 (A_if_eq dJ0_coder_7d493_3 (tgt := 13) rfl (fun z => absurd z (by decide)) (fun _ => A_aload_n dJ0_coder_7d493_6 rfl rfl (K_coder dJ0_coder_7d493_7 hq fJ0_15 (A_goto dJ0_coder_7d493_10 (tgt := 14) rfl (A_xret dJ0_coder_7d493_14 rfl ⟨rfl, rfl, rfl⟩)))))
theorem cJ_isLatin1 (hq : q < 11) : CtrR G yJ0_isLatin1_aae02 cJ0_isLatin1_aae02 1 (some .boolean) 0 0 ([vR 200 q].map (cv G)) N R (QA 1 N R) := by
  refine CtrR.ofAW (ls := [(0, vR 200 q)]) RJ0 rfl (by decide +kernel) (Nat.le_refl _) (fun w hw => hw) ?_
  refine K_compact dJ0_isLatin1_aae02_0 fJ0_38 (A_if_eq dJ0_isLatin1_aae02_3 (tgt := 17) rfl (fun z => absurd z (by decide)) (fun _ => A_aload_n dJ0_isLatin1_aae02_6 rfl rfl (K_coder dJ0_isLatin1_aae02_7 hq fJ0_15 (A_if_ne dJ0_isLatin1_aae02_10 (tgt := 17) rfl (fun z => absurd (by decide) z) (fun _ => A_iconst dJ0_isLatin1_aae02_13 rfl (A_goto dJ0_isLatin1_aae02_14 (tgt := 18) rfl (A_zret dJ0_isLatin1_aae02_18 (Or.inr rfl) ⟨rfl, rfl, rfl⟩)))))))
theorem shr_0 : ∀ q, q < 11 → (Int32.ofInt ((lenK.getD q 0 : Nat) : Int) >>> (Int32.ofInt 0 &&& 31)).toInt = ((lenK.getD q 0 : Nat) : Int) := by decide +kernel
theorem cJ_length (hq : q < 11) : CtrR G yJ0_length_8abf5 cJ0_length_8abf5 1 (some .int) 1 30 ([vR 200 q].map (cv G)) N R (QA (lenK.getD q 0 : Nat) N R) := by
  refine CtrR.ofAW (ls := [(0, vR 200 q)]) RJ0 rfl (by decide +kernel) (Nat.le_refl _) (fun w hw => hw) ?_
  refine A_aload_n dJ0_length_8abf5_0 rfl rfl (K_value dJ0_length_8abf5_1 hq fJ0_9 (K_len dJ0_length_8abf5_4 hq (A_aload_n dJ0_length_8abf5_5 rfl rfl ?_)))
  refine A_callKR (av := []) (f := 0) (l := 0) dJ0_length_8abf5_6 hq rfl vJ0_335 mJ0_coder_7d493 rfl (Nat.le_of_ble_eq_true rfl) ⟨by decide, by decide⟩ (CtrR.mono (cJ_coder hq) ?_) rfl
  rintro r N' R' ⟨rfl, rfl, rfl⟩
  refine A_ishr dJ0_length_8abf5_9 ?_
  rw [shr_0 q hq]
  exact A_iret dJ0_length_8abf5_10 ⟨rfl, rfl, rfl⟩
theorem cJ3_check {x n : Int} (v : Value) (hv : v = .null ∨ ∃ t, v = .ref t) (h0 : 0 ≤ wI x) (h1 : wI x < wI n) : CtrR G yJ3_checkIndex_8e157 cJ3_checkIndex_8e157 3 (some .int) 0 0 [.int (Int32.ofInt x), .int (Int32.ofInt n), v] N R (fun r N' R' => r = some (vI x) ∧ N' = N ∧ R' = R) := by
  refine CtrR.ofAW (ls := [(0, vI x), (1, vI n)]) RJ3 rfl (by decide +kernel) ?_ ?_ ?_
  · rcases hv with rfl | ⟨t, rfl⟩ <;> exact Nat.le_refl _
  · intro w hw
    rcases List.mem_cons.mp hw with rfl | hw
    · exact List.mem_cons_self
    · rcases List.mem_cons.mp hw with rfl | hw
      · exact List.mem_cons_of_mem _ List.mem_cons_self
      · cases hw
  · refine A_iload_n dJ3_checkIndex_8e157_0 rfl rfl (A_if_lt dJ3_checkIndex_8e157_1 (tgt := 9) rfl (fun z => absurd h0 (by omega)) (fun _ => A_iload_n dJ3_checkIndex_8e157_4 rfl rfl (A_iload_n dJ3_checkIndex_8e157_5 rfl rfl (A_icmp_lt dJ3_checkIndex_8e157_6 (tgt := 16) rfl (fun _ => A_iload_n dJ3_checkIndex_8e157_16 rfl rfl (A_iret dJ3_checkIndex_8e157_17 ⟨rfl, rfl, rfl⟩)) (fun z => absurd h1 z)))))
theorem cJ0_check {x n : Int} (h0 : 0 ≤ wI x) (h1 : wI x < wI n) : CtrR G yJ0_checkIndex_df160 cJ0_checkIndex_df160 2 none 1 30 ([vI x, vI n].map (cv G)) N R (fun r N' R' => r = none ∧ N' = N ∧ R' = R) := by
  refine CtrR.ofAW (ls := [(0, vI x), (1, vI n)]) RJ0 rfl (by decide +kernel) (Nat.le_refl _) (fun w hw => hw) ?_
  refine A_iload_n dJ0_checkIndex_df160_0 rfl rfl (A_iload_n dJ0_checkIndex_df160_1 rfl rfl (K_check dJ0_checkIndex_df160_2 dJ0_checkIndex_df160_5 rfl (by decide) (by decide) (Nat.le_of_ble_eq_true rfl) (fun v hv => cJ3_check v hv h0 h1) (A_pop dJ0_checkIndex_df160_8 rfl (A_vret dJ0_checkIndex_df160_9 ⟨rfl, rfl, rfl⟩))))
theorem cJ1_charAt {j : Nat} {x : Int} (hq : q < 11) (hj : wI x = (j : Int)) (hlt : j < lenK.getD q 0) : CtrR G yJ1_charAt_3b067 cJ1_charAt_3b067 2 (some .char) 2 60 ([vR 201 q, vI x].map (cv G)) N R (QA ((bytK.getD q []).getD j 0).toInt N R) := by
  refine CtrR.ofAW (ls := [(0, vR 201 q), (1, vI x)]) RJ1 rfl (by decide +kernel) (Nat.le_refl _) (fun w hw => hw) ?_
  have l40 := (len_ok q hq).2
  refine A_iload_n dJ1_charAt_3b067_0 rfl rfl (A_aload_n dJ1_charAt_3b067_1 rfl rfl (K_len dJ1_charAt_3b067_2 hq ?_))
  refine A_callSR (av := [vI x, vI (lenK.getD q 0 : Nat)]) (st := []) (f := 1) (l := 30) dJ1_charAt_3b067_3 vJ1_9 mJ0_checkIndex_df160 rfl (Nat.le_of_ble_eq_true rfl) ⟨by decide, by decide⟩ (CtrR.mono (cJ0_check (by rw [hj]; omega) (by rw [hj, wI_id (by omega) (by omega)]; omega)) ?_) rfl
  rintro r N' R' ⟨rfl, rfl, rfl⟩
  refine A_aload_n dJ1_charAt_3b067_6 rfl rfl (A_iload_n dJ1_charAt_3b067_7 rfl rfl (K_bald dJ1_charAt_3b067_8 hq hj hlt (A_sipush dJ1_charAt_3b067_9 (v := 255) (by decide +kernel) (A_iand dJ1_charAt_3b067_12 (A_i2c dJ1_charAt_3b067_13 ?_)))))
  rw [(byt_ok q hq j hlt).1]
  refine A_xret dJ1_charAt_3b067_14 ?_ ⟨rfl, rfl, rfl⟩
  rw [Int32.ofInt_toInt]
  have key : ∀ q, q < 11 → ∀ j, j < lenK.getD q 0 → (((bytK.getD q []).getD j 0).toUInt32 % 65536).toInt32 = (bytK.getD q []).getD j 0 := by decide +kernel
  exact congrArg Value.int (key q hq j hlt)
theorem cJ0_charAt {j : Nat} {x : Int} (hq : q < 11) (hj : wI x = (j : Int)) (hlt : j < lenK.getD q 0) : CtrR G yJ0_charAt_5068e cJ0_charAt_5068e 2 (some .char) 3 90 ([vR 200 q, vI x].map (cv G)) N R (QA ((bytK.getD q []).getD j 0).toInt N R) := by
  refine CtrR.ofAW (ls := [(0, vR 200 q), (1, vI x)]) RJ0 rfl (by decide +kernel) (Nat.le_refl _) (fun w hw => hw) ?_
  refine A_aload_n dJ0_charAt_5068e_0 rfl rfl ?_
  refine A_callKR (av := []) (f := 0) (l := 0) dJ0_charAt_5068e_1 hq rfl vJ0_492 mJ0_isLatin1_aae02 rfl (Nat.le_of_ble_eq_true rfl) ⟨by decide, by decide⟩ (CtrR.mono (cJ_isLatin1 hq) ?_) rfl
  rintro r N' R' ⟨rfl, rfl, rfl⟩
  refine A_if_eq dJ0_charAt_5068e_4 (tgt := 16) rfl (fun z => absurd z (by decide)) (fun _ => A_aload_n dJ0_charAt_5068e_7 rfl rfl (K_value dJ0_charAt_5068e_8 hq fJ0_9 (A_iload_n dJ0_charAt_5068e_11 rfl rfl ?_)))
  refine A_callSR (av := [vR 201 q, vI x]) (st := []) (f := 2) (l := 60) dJ0_charAt_5068e_12 vJ0_495 mJ1_charAt_3b067 rfl (Nat.le_of_ble_eq_true rfl) ⟨by decide, by decide⟩ (CtrR.mono (cJ1_charAt hq hj hlt) ?_) rfl
  rintro r N' R' ⟨rfl, rfl, rfl⟩
  refine A_xret dJ0_charAt_5068e_15 ?_ ⟨rfl, rfl, rfl⟩
  rw [Int32.ofInt_toInt]
  have key : ∀ q, q < 11 → ∀ j, j < lenK.getD q 0 → (((bytK.getD q []).getD j 0).toUInt32 % 65536).toInt32 = (bytK.getD q []).getD j 0 := by decide +kernel
  exact congrArg Value.int (key q hq j hlt)
/-! where a sign stands -/
def fI : List Int32 → Nat → Int → Int
  | [], _, _ => -1
  | b :: l, k, v => if b.toInt = v then (k : Int) else fI l (k + 1) v
theorem fI_find (x : Int) : ∀ (l : List Int32) (k : Nat), fI l k (wI x) = ((l.findIdx? (fun b => b == Int32.ofInt x)).map (fun j => ((k + j : Nat) : Int))).getD (-1)
  | [], k => rfl
  | b :: l, k => by
    unfold fI
    rw [List.findIdx?_cons]
    have e : (b == Int32.ofInt x) = decide (b.toInt = wI x) := by
      rw [← oI_toInt]
      by_cases h : b = Int32.ofInt x
      · subst h; simp
      · rw [decide_eq_false (fun z => h (Int32.toInt_inj.mp z))]
        simp [h]
    by_cases h : b.toInt = wI x
    · rw [if_pos h, e, decide_eq_true h]
      rfl
    · rw [if_neg h, e, decide_eq_false h, fI_find x l (k + 1)]
      cases l.findIdx? (fun b => b == Int32.ofInt x) with
      | none => rfl
      | some j =>
        show ((k + 1 + j : Nat) : Int) = ((k + (j + 1) : Nat) : Int)
        omega
theorem fI_out {v : Int} : ∀ (l : List Int32) (k : Nat), (∀ b ∈ l, b.toInt ≠ v) → fI l k v = -1
  | [], _, _ => rfl
  | b :: l, k, h => by
    unfold fI
    rw [if_neg (h b List.mem_cons_self)]
    exact fI_out l (k + 1) (fun b hb => h b (List.mem_cons_of_mem _ hb))
theorem byt_all : ∀ q, q < 11 → ∀ b ∈ bytK.getD q [], 0 ≤ b.toInt ∧ b.toInt ≤ 127 := by decide +kernel
theorem cJ1_canEncode {x : Int} : CtrR G yJ1_canEncode_9a6ad cJ1_canEncode_9a6ad 1 (some .boolean) 0 0 ([vI x].map (cv G)) N R (QA (if 0 ≤ wI x ∧ wI x ≤ 255 then 1 else 0) N R) := by
  refine CtrR.ofAW (ls := [(0, vI x)]) RJ1 rfl (by decide +kernel) (Nat.le_refl _) (fun w hw => hw) ?_
  have w255 : wI 255 = 255 := by decide +kernel
  refine A_iload_n dJ1_canEncode_9a6ad_0 rfl rfl (A_if_lt dJ1_canEncode_9a6ad_1 (tgt := 15) rfl (fun z => A_iconst dJ1_canEncode_9a6ad_15 rfl (A_zret dJ1_canEncode_9a6ad_16 (Or.inl rfl) ⟨by rw [if_neg (by omega)], rfl, rfl⟩)) (fun z => A_iload_n dJ1_canEncode_9a6ad_4 rfl rfl (A_sipush dJ1_canEncode_9a6ad_5 (v := 255) (by decide +kernel) (A_icmp_gt dJ1_canEncode_9a6ad_8 (tgt := 15) rfl (fun z2 => A_iconst dJ1_canEncode_9a6ad_15 rfl (A_zret dJ1_canEncode_9a6ad_16 (Or.inl rfl) ⟨by rw [w255] at z2; rw [if_neg (by omega)], rfl, rfl⟩)) (fun z2 => A_iconst dJ1_canEncode_9a6ad_11 rfl (A_goto dJ1_canEncode_9a6ad_12 (tgt := 16) rfl (A_zret dJ1_canEncode_9a6ad_16 (Or.inr rfl) ⟨by rw [w255] at z2; rw [if_pos (by omega)], rfl, rfl⟩)))))))
theorem i2b_mod (x : Int) (hx : 0 ≤ wI x ∧ wI x ≤ 255) : i2bI x = if wI x < 128 then wI x else wI x - 256 := by
  unfold i2bI
  rw [Int8.toInt_toInt32, Int32.toInt8_ofInt, Int8.toInt_ofInt]
  have e : x.bmod 256 = (wI x).bmod 256 := by
    unfold wI
    rw [Int.bmod_bmod_of_dvd]
    exact ⟨16777216, by decide +kernel⟩
  show x.bmod 256 = _
  rw [e, Int.bmod_def]
  generalize wI x = y at hx
  split <;> split <;> omega
theorem drop_at {l l' : List Int32} {b : Int32} {k : Nat} (h : l.drop k = b :: l') : k < l.length ∧ l.getD k 0 = b ∧ l.drop (k + 1) = l' := by
  have h1 : k < l.length := by
    rcases Nat.lt_or_ge k l.length with q | q
    · exact q
    · rw [List.drop_eq_nil_of_le q] at h; cases h
  rw [List.drop_eq_getElem_cons h1] at h
  cases h
  refine ⟨h1, ?_, rfl⟩
  rw [List.getD_eq_getElem?_getD, List.getElem?_eq_getElem h1]
  rfl
theorem lp_ixChar {x : Int} (hq : q < 11) (hx : 0 ≤ wI x ∧ wI x ≤ 255) {Q : QT} : ∀ (l : List Int32) (k : Nat), (bytK.getD q []).drop k = l → k ≤ (bytK.getD q []).length → Q (some (vI (fI l k (wI x)))) N R → AW G RJ1 cJ1_indexOfChar_4cfef 6 (some .int) false (rmJ 0 0) TOT (ZQ G TOT TOT Q) 7 [(5, vI (k : Int)), (4, vI (i2bI x)), (0, vR 201 q), (3, vI (lenK.getD q 0 : Nat))] [] TOT N R
  | [], k, h, hk0, hQ => by
    obtain ⟨e, l40⟩ := len_ok q hq
    have hk : (bytK.getD q []).length ≤ k := List.drop_eq_nil_iff.mp h
    refine A_iload dJ1_indexOfChar_4cfef_7 rfl (A_iload_n dJ1_indexOfChar_4cfef_9 rfl rfl (A_icmp_ge dJ1_indexOfChar_4cfef_10 (tgt := 31) rfl (fun _ => A_iconst dJ1_indexOfChar_4cfef_31 rfl (A_iret dJ1_indexOfChar_4cfef_32 hQ)) (fun z => absurd ?_ z)))
    rw [wI_id (by omega) (by omega), wI_id (by omega) (by omega)]
    omega
  | b :: l, k, h, hk0, hQ => by
    obtain ⟨e, l40⟩ := len_ok q hq
    obtain ⟨h1, h2, h3⟩ := drop_at h
    have hb := byt_all q hq b (by rw [← List.take_append_drop k (bytK.getD q []), h]; exact List.mem_append_right _ List.mem_cons_self)
    refine A_iload dJ1_indexOfChar_4cfef_7 rfl (A_iload_n dJ1_indexOfChar_4cfef_9 rfl rfl (A_icmp_ge dJ1_indexOfChar_4cfef_10 (tgt := 31) rfl (fun z => absurd z ?_) (fun _ => A_aload_n dJ1_indexOfChar_4cfef_13 rfl rfl (A_iload dJ1_indexOfChar_4cfef_14 rfl (K_bald dJ1_indexOfChar_4cfef_16 hq (j := k) (wI_id (by omega) (by omega)) (by omega) (A_iload dJ1_indexOfChar_4cfef_17 rfl (A_icmp_ne dJ1_indexOfChar_4cfef_19 (tgt := 25) rfl (fun z => ?_) (fun z => ?_))))))))
    · rw [wI_id (by omega) (by omega), wI_id (by omega) (by omega)]
      omega
    all_goals
      rw [h2, wI_id (x := b.toInt) (by omega) (by omega), i2b_mod x hx, wI_id (by split <;> omega) (by split <;> omega)] at z
      unfold fI at hQ
    · rw [if_neg (by intro w; apply z; rw [if_pos (by omega)]; exact w)] at hQ
      refine A_iinc dJ1_indexOfChar_4cfef_25 (by decide) rfl (v := ((k + 1 : Nat) : Int)) rfl rfl (A_goto dJ1_indexOfChar_4cfef_28 (tgt := 7) rfl (A_locals (fun w hw => ?_) (lp_ixChar hq hx l (k + 1) h3 h1 hQ)))
      exact hw
    · have z' := Decidable.not_not.mp z
      rw [if_pos (by split at z' <;> omega)] at hQ
      exact A_iload dJ1_indexOfChar_4cfef_22 rfl (A_iret dJ1_indexOfChar_4cfef_24 hQ)
abbrev lenI (q : Nat) : Int := (lenK.getD q 0 : Nat)
abbrev ixI (q : Nat) (x : Int) : Int := fI (bytK.getD q []) 0 (wI x)
theorem cJ1_ixChar {x : Int} (hq : q < 11) (hx : 0 ≤ wI x ∧ wI x ≤ 255) : CtrR G yJ1_indexOfChar_4cfef cJ1_indexOfChar_4cfef 6 (some .int) 0 0 ([vR 201 q, vI x, vI 0, vI (lenI q)].map (cv G)) N R (QA (ixI q x) N R) := by
  refine CtrR.ofAW (ls := [(0, vR 201 q), (1, vI x), (2, vI 0), (3, vI (lenI q))]) RJ1 rfl (by decide +kernel) (Nat.le_of_ble_eq_true rfl) (fun w hw => hw) ?_
  refine A_iload_n dJ1_indexOfChar_4cfef_0 rfl rfl (A_i2b dJ1_indexOfChar_4cfef_1 (A_istore dJ1_indexOfChar_4cfef_2 (by decide) rfl (A_iload_n dJ1_indexOfChar_4cfef_4 rfl rfl (A_istore dJ1_indexOfChar_4cfef_5 (by decide) rfl (A_pick [0, 1, 2, 5] rfl (lp_ixChar hq hx _ 0 rfl (Nat.zero_le _) ⟨rfl, rfl, rfl⟩))))))
theorem cJ1_indexOf {x : Int} (hq : q < 11) : CtrR G yJ1_indexOf_4cfef cJ1_indexOf_4cfef 4 (some .int) 1 30 ([vR 201 q, vI x, vI 0, vI (lenI q)].map (cv G)) N R (QA (ixI q x) N R) := by
  refine CtrR.ofAW (ls := [(0, vR 201 q), (1, vI x), (2, vI 0), (3, vI (lenI q))]) RJ1 rfl (by decide +kernel) (Nat.le_of_ble_eq_true rfl) (fun w hw => hw) ?_
  obtain ⟨e, l40⟩ := len_ok q hq
  have lp : ∀ q, q < 11 → 0 < lenK.getD q 0 := by decide +kernel
  have lp := lp q hq
  have wl := fun _ : Unit => wI_id (x := ((lenK.getD q 0 : Nat) : Int)) (by omega) (by omega)
  refine A_iload_n dJ1_indexOf_4cfef_0 rfl rfl ?_
  refine A_callSR (av := [vI x]) (st := []) (f := 0) (l := 0) dJ1_indexOf_4cfef_1 vJ1_88 mJ1_canEncode_9a6ad rfl (Nat.le_of_ble_eq_true rfl) ⟨by decide, by decide⟩ (CtrR.mono cJ1_canEncode ?_) rfl
  rintro r N' R' ⟨rfl, rfl, rfl⟩
  by_cases hx : 0 ≤ wI x ∧ wI x ≤ 255
  · rw [if_pos hx]
    refine A_if_ne dJ1_indexOf_4cfef_4 (tgt := 9) rfl (fun _ => A_iload_n dJ1_indexOf_4cfef_9 rfl rfl (A_iconst dJ1_indexOf_4cfef_10 rfl (K_max dJ1_indexOf_4cfef_11 mmJ1_92 (a := 0) (b := 0) rfl rfl (Nat.le_of_ble_eq_true rfl) (by decide) (by decide) (A_istore_n dJ1_indexOf_4cfef_14 rfl (by decide) rfl (A_iload_n dJ1_indexOf_4cfef_15 rfl rfl (A_aload_n dJ1_indexOf_4cfef_16 rfl rfl (K_len dJ1_indexOf_4cfef_17 hq (K_min dJ1_indexOf_4cfef_18 mmJ1_38 (wl ()) (wl ()) (Nat.le_of_ble_eq_true rfl) (by decide) (by decide) ?_)))))))) (fun z => absurd (by decide) z)
    rw [Int.min_self]
    refine A_istore_n dJ1_indexOf_4cfef_21 rfl (by decide) rfl (A_iload_n dJ1_indexOf_4cfef_22 rfl rfl (A_iload_n dJ1_indexOf_4cfef_23 rfl rfl (A_icmp_lt dJ1_indexOf_4cfef_24 (tgt := 29) rfl (fun _ => A_aload_n dJ1_indexOf_4cfef_29 rfl rfl (A_iload_n dJ1_indexOf_4cfef_30 rfl rfl (A_iload_n dJ1_indexOf_4cfef_31 rfl rfl (A_iload_n dJ1_indexOf_4cfef_32 rfl rfl ?_)))) (fun z => absurd ?_ z))))
    · refine A_callSR (av := [vR 201 q, vI x, vI 0, vI (lenI q)]) (st := []) (f := 0) (l := 0) dJ1_indexOf_4cfef_33 vJ1_95 mJ1_indexOfChar_4cfef rfl (Nat.le_of_ble_eq_true rfl) ⟨by decide, by decide⟩ (CtrR.mono (cJ1_ixChar hq hx) ?_) rfl
      rintro r N' R' ⟨rfl, rfl, rfl⟩
      exact A_iret dJ1_indexOf_4cfef_36 ⟨rfl, rfl, rfl⟩
    · rw [wl (), show wI (max 0 0) = 0 from rfl]
      show (0 : Int) < ((lenK.getD q 0 : Nat) : Int)
      omega
  · rw [if_neg hx]
    refine A_if_ne dJ1_indexOf_4cfef_4 (tgt := 9) rfl (fun z => absurd rfl z) (fun _ => A_iconst dJ1_indexOf_4cfef_7 rfl (A_iret dJ1_indexOf_4cfef_8 ⟨?_, rfl, rfl⟩))
    rw [show ixI q x = -1 from fI_out _ _ (fun b hb z => by have := byt_all q hq b hb; omega)]
theorem cJ0_indexOf2 {x : Int} (hq : q < 11) : CtrR G yJ0_indexOf_7cf53 cJ0_indexOf_7cf53 3 (some .int) 2 60 ([vR 200 q, vI x, vI 0].map (cv G)) N R (QA (ixI q x) N R) := by
  refine CtrR.ofAW (ls := [(0, vR 200 q), (1, vI x), (2, vI 0)]) RJ0 rfl (by decide +kernel) (Nat.le_of_ble_eq_true rfl) (fun w hw => hw) ?_
  refine A_aload_n dJ0_indexOf_7cf53_0 rfl rfl ?_
  refine A_callKR (av := []) (f := 0) (l := 0) dJ0_indexOf_7cf53_1 hq rfl vJ0_492 mJ0_isLatin1_aae02 rfl (Nat.le_of_ble_eq_true rfl) ⟨by decide, by decide⟩ (CtrR.mono (cJ_isLatin1 hq) ?_) rfl
  rintro r N' R' ⟨rfl, rfl, rfl⟩
  refine A_if_eq dJ0_indexOf_7cf53_4 (tgt := 23) rfl (fun z => absurd z (by decide)) (fun _ => A_aload_n dJ0_indexOf_7cf53_7 rfl rfl (K_value dJ0_indexOf_7cf53_8 hq fJ0_9 (A_iload_n dJ0_indexOf_7cf53_11 rfl rfl (A_iload_n dJ0_indexOf_7cf53_12 rfl rfl (A_aload_n dJ0_indexOf_7cf53_13 rfl rfl ?_)))))
  refine A_callKR (av := []) (f := 1) (l := 30) dJ0_indexOf_7cf53_14 hq rfl vJ0_505 mJ0_length_8abf5 rfl (Nat.le_of_ble_eq_true rfl) ⟨by decide, by decide⟩ (CtrR.mono (cJ_length hq) ?_) rfl
  rintro r N' R' ⟨rfl, rfl, rfl⟩
  refine A_callSR (av := [vR 201 q, vI x, vI 0, vI (lenI q)]) (st := []) (f := 1) (l := 30) dJ0_indexOf_7cf53_17 vJ0_637 mJ1_indexOf_4cfef rfl (Nat.le_of_ble_eq_true rfl) ⟨by decide, by decide⟩ (CtrR.mono (cJ1_indexOf hq) ?_) rfl
  rintro r N' R' ⟨rfl, rfl, rfl⟩
  exact A_goto dJ0_indexOf_7cf53_20 (tgt := 36) rfl (A_iret dJ0_indexOf_7cf53_36 ⟨rfl, rfl, rfl⟩)
theorem cJ0_indexOf1 {x : Int} (hq : q < 11) : CtrR G yJ0_indexOf_0f7a4 cJ0_indexOf_0f7a4 2 (some .int) 3 90 ([vR 200 q, vI x].map (cv G)) N R (QA (ixI q x) N R) := by
  refine CtrR.ofAW (ls := [(0, vR 200 q), (1, vI x)]) RJ0 rfl (by decide +kernel) (Nat.le_of_ble_eq_true rfl) (fun w hw => hw) ?_
  refine A_aload_n dJ0_indexOf_0f7a4_0 rfl rfl (A_iload_n dJ0_indexOf_0f7a4_1 rfl rfl (A_iconst dJ0_indexOf_0f7a4_2 rfl ?_))
  refine A_callKR (av := [vI x, vI 0]) (f := 2) (l := 60) dJ0_indexOf_0f7a4_3 hq rfl vJ0_633 mJ0_indexOf_7cf53 rfl (Nat.le_of_ble_eq_true rfl) ⟨by decide, by decide⟩ (CtrR.mono (cJ0_indexOf2 hq) ?_) rfl
  rintro r N' R' ⟨rfl, rfl, rfl⟩
  exact A_iret dJ0_indexOf_0f7a4_6 ⟨rfl, rfl, rfl⟩
end JM
section JR
variable {G : GT} {cc : ByteArray} {nL : Nat} {ret : Option FieldType} {L0 : Nat} {Z : ZT} {pc : Nat} {ls : List (Nat × AV)} {st : List AV} {N : NN} {R : RR}
theorem JK_length {q : Nat} (hd : decode cc pc = .ok (.invokevirtual 66, 3)) (hq : q < 11) (hst : (st.map fun v => if isL v then 2 else 1).sum ≤ 8) (h : AW G RX8 cc nL ret false (rmL L0 TOT TOT) TOT Z (pc + 3) ls (vI (lenI q) :: st) TOT N R) : AW G RX8 cc nL ret false (rmL L0 TOT TOT) TOT Z pc ls (vR 200 q :: st) TOT N R := by
  refine A_callKR (av := []) (f := 1) (l := 30) hd hq rfl vX8_66 mJ0_length_8abf5 rfl hst ⟨by show 2 ≤ 8 + L0; omega, by show 8 + (1 + 11) + 30 ≤ 400 + 40 * L0; omega⟩ (CtrR.mono (cJ_length hq) ?_) rfl
  rintro r N' R' ⟨rfl, rfl, rfl⟩
  exact h
theorem JK_charAt {q j : Nat} {x : Int} (hd : decode cc pc = .ok (.invokevirtual 70, 3)) (hq : q < 11) (hj : wI x = (j : Int)) (hlt : j < lenK.getD q 0) (hst : (st.map fun v => if isL v then 2 else 1).sum ≤ 8) (h : AW G RX8 cc nL ret false (rmL L0 TOT TOT) TOT Z (pc + 3) ls (vI ((bytK.getD q []).getD j 0).toInt :: st) TOT N R) : AW G RX8 cc nL ret false (rmL L0 TOT TOT) TOT Z pc ls (vI x :: vR 200 q :: st) TOT N R := by
  refine A_callKR (av := [vI x]) (f := 3) (l := 90) hd hq rfl vX8_70 mJ0_charAt_5068e rfl hst ⟨by show 4 ≤ 8 + L0; omega, by show 8 + (2 + 11) + 90 ≤ 400 + 40 * L0; omega⟩ (CtrR.mono (cJ0_charAt hq hj hlt) ?_) rfl
  rintro r N' R' ⟨rfl, rfl, rfl⟩
  exact h
theorem JK_indexOf {q : Nat} {x : Int} (hd : decode cc pc = .ok (.invokevirtual 50, 3)) (hq : q < 11) (hst : (st.map fun v => if isL v then 2 else 1).sum ≤ 8) (h : AW G RX8 cc nL ret false (rmL L0 TOT TOT) TOT Z (pc + 3) ls (vI (ixI q x) :: st) TOT N R) : AW G RX8 cc nL ret false (rmL L0 TOT TOT) TOT Z pc ls (vI x :: vR 200 q :: st) TOT N R := by
  refine A_callKR (av := [vI x]) (f := 3) (l := 90) hd hq rfl vX8_50 mJ0_indexOf_0f7a4 rfl hst ⟨by show 4 ≤ 8 + L0; omega, by show 8 + (2 + 11) + 90 ≤ 400 + 40 * L0; omega⟩ (CtrR.mono (cJ0_indexOf1 hq) ?_) rfl
  rintro r N' R' ⟨rfl, rfl, rfl⟩
  exact h
end JR
