/-! null in a local, the static table, Math's words -/
theorem wlitI {k : Int} (h1 : -2147483648 ≤ k) (h2 : k < 2147483648) : wI k = k := wI_id h1 h2
theorem wlitL {k : Int} (h1 : -9223372036854775808 ≤ k) (h2 : k < 9223372036854775808) : wL k = k := wL_id h1 h2
section LVN
variable {p : Program} {l : Launch} {e : Env} {R : Room} {s : State} {m : MethodId} {args : Array Value} {below : List Frame} {meth : Method} {c : Code} {H : Heap} {locs : List Loc} {cells slots : Nat} {Q : State → Prop}
variable {cc : ByteArray} {pc : Nat} {ls : Array Slot} {rest : List Value}
theorem lx_astoreN (hexec : p.tables.exec = Jvm.exec) (hb : c.code = cc) {i nL : Nat} {lv lv' : List (Nat × Value)} (hdg : decode cc pc = .ok (.astore i, 2)) (h : lv_has ls nL lv) (hn : i < nL) (hl : (i, Value.null) :: lv.filter (fun q => !(q.1 == i) && !(q.1 + 1 == i && q.2.category == 2)) = lv')
    (kk : ∀ ls' : Array Slot, lv_has ls' nL lv' → W p l e R s m args below meth c H locs cells slots Q (F0 m (pc + 2) ls' rest)) : W p l e R s m args below meth c H locs cells slots Q (F0 m pc ls (.null :: rest)) := by
  obtain ⟨ls', e', h'⟩ := lv_store1 (v := .null) h hn rfl
  intro T hT X
  obtain ⟨t, a, b⟩ := kk ls' (hl ▸ h') T hT X
  refine ⟨t, ?_, b⟩
  jvm_step X.here [X.here.top, ↓top_set X.here.top, hexec, hb, hdg, e', Value.isRef]
  exact a
theorem lx_aloadN (hexec : p.tables.exec = Jvm.exec) (hb : c.code = cc) {i : Nat} (hdg : decode cc pc = .ok (.aload i, 2)) (hl : ls[i]? = some (.val .null))
    (k : W p l e R s m args below meth c H locs cells slots Q (F0 m (pc + 2) ls (.null :: rest))) : W p l e R s m args below meth c H locs cells slots Q (F0 m pc ls (rest)) := by
  intro T hT X
  obtain ⟨t, a, b⟩ := k T hT X
  refine ⟨t, ?_, b⟩
  jvm_step X.here [X.here.top, hexec, hb, hdg, hl, Value.isRef]
  exact a
end LVN
section AWM
variable {G : GT} {o : String} {cc : ByteArray} {nL : Nat} {ret : Option FieldType} {ini : Bool} {rm : Room} {n0 : Nat} {Z : ZT} {pc : Nat} {ls : List (Nat × AV)} {st : List AV} {n : Nat} {N : NN} {R : RR}
theorem A_aloadN {i : Nat} (hd : decode cc pc = .ok (.aload i, 2)) (hk : ls.lookup i = some vN) (h : AW G o cc nL ret ini rm n0 Z (pc + 2) ls (vN :: st) n N R) : AW G o cc nL ret ini rm n0 Z pc ls st n N R := by
  intro p e s m args below meth c H locs la C hn hP hS hz hl
  exact lx_aloadN C.1 C.2.1 hd (cvl_at hl hk) (h p e s m args below meth c H locs la C hn hP hS hz hl)
theorem A_astoreN {i : Nat} {ls' : List (Nat × AV)} (hd : decode cc pc = .ok (.astore i, 2)) (hlt : i < nL) (he : ls1 i vN ls = ls') (h : AW G o cc nL ret ini rm n0 Z (pc + 2) ls' st n N R) : AW G o cc nL ret ini rm n0 Z pc ls (vN :: st) n N R := by
  intro p e s m args below meth c H locs la C hn hP hS hz hl
  subst he
  exact lx_astoreN C.1 C.2.1 hd hl hlt (cvl_1 G i vN ls) (fun la2 hl2 => h p e s m args below meth c H locs la2 C hn hP hS hz hl2)
theorem A_ldc_w {v : Int32} {x : Int} {k : Nat} (hd : decode cc pc = .ok (.ldc_w k, 3)) (hw : Cond.constant o k v ∈ ALL) (hv : v = Int32.ofInt x) (h : AW G o cc nL ret ini rm n0 Z (pc + 3) ls (vI x :: st) n N R) : AW G o cc nL ret ini rm n0 Z pc ls st n N R := by
  intro p e s m args below meth c H locs la C hn hP hS hz hl
  subst hv
  exact lv_ldcw C.1 C.2.1 C.2.2.2.2.2.2.1 (C.2.2.2.2.2.1 _ hw) hd (h p e s m args below meth c H locs la C hn hP hS hz hl)
def above (j : Nat) : Int := (fAb j).toInt
theorem A_above (hd : decode cc pc = .ok (.getstatic 37, 3)) (ho : o = "LayerBook$Loan") (h : AW G o cc nL ret ini rm n0 Z (pc + 3) ls (vR 202 0 :: st) n N R) : AW G o cc nL ret ini rm n0 Z pc ls st n N R := by
  intro p e s m args below meth c H locs la C hn hP hS hz hl
  subst ho
  obtain ⟨h1, h2, h3, h4, h5, h6, h7, h8, h9⟩ := C.2.2.2.2.2.2.2.2.1
  exact va_getsN C.1 C.2.1 h4 hS C.2.2.2.2.2.2.1 (va_Nw.use rfl h8) (fun x hx => hx) hd (h p e s m args below meth c H locs la C hn hP hS hz hl)
theorem A_aboveld {x : Int} {j : Nat} (hd : decode cc pc = .ok (.iaload, 1)) (hj : wI x = (j : Int)) (hlt : j < 6) (h : AW G o cc nL ret ini rm n0 Z (pc + 1) ls (vI (above j) :: st) n N R) : AW G o cc nL ret ini rm n0 Z pc ls (vI x :: vR 202 0 :: st) n N R := by
  intro p e s m args below meth c H locs la C hn hP hS hz hl
  obtain ⟨h1, h2, h3, h4, h5, h6, h7, h8, h9⟩ := C.2.2.2.2.2.2.2.2.1
  refine va_ti C.1 C.2.1 h5 hS (ix_in hj hlt) (v := .int (Int32.ofInt (above j))) ?_ hd (h p e s m args below meth c H locs la C hn hP hS hz hl)
  rw [ix_cl hj]
  show Value.int (fAb j) = .int (Int32.ofInt (fAb j).toInt)
  rw [Int32.ofInt_toInt]
end AWM
theorem mmX0_116 : MMW RX0 116 Lib.MathLoose.min_long.x Lib.MathLoose.min_long.code 4 .long := ⟨(mT4 (i := 69) rfl rfl), (mT4 (i := 70) rfl rfl), (mT1 (i := 14) rfl rfl), (mT4 (i := 71) rfl rfl)⟩
theorem mmX0_156 : MMW RX0 156 Lib.MathLoose.max_long.x Lib.MathLoose.max_long.code 4 .long := ⟨(mT4 (i := 81) rfl rfl), (mT4 (i := 82) rfl rfl), (mT1 (i := 14) rfl rfl), (mT4 (i := 83) rfl rfl)⟩
theorem mmX2_58 : MMW RX2 58 Lib.MathLoose.max_long.x Lib.MathLoose.max_long.code 4 .long := ⟨(mT4 (i := 157) rfl rfl), (mT4 (i := 82) rfl rfl), (mT1 (i := 14) rfl rfl), (mT4 (i := 83) rfl rfl)⟩
theorem mmX2_64 : MMW RX2 64 Lib.MathLoose.min_long.x Lib.MathLoose.min_long.code 4 .long := ⟨(mT4 (i := 158) rfl rfl), (mT4 (i := 70) rfl rfl), (mT1 (i := 14) rfl rfl), (mT4 (i := 71) rfl rfl)⟩
theorem mmX2_75 : MMW RX2 75 Lib.Math.min.name Lib.Math.min.code 2 .int := ⟨(mT4 (i := 159) rfl rfl), (mT3 (i := 57) rfl rfl), (mT1 (i := 14) rfl rfl), (mT3 (i := 58) rfl rfl)⟩
theorem mmX6_93 : MMW RX6 93 Lib.MathLoose.min_long.x Lib.MathLoose.min_long.code 4 .long := ⟨(mT4 (i := 214) rfl rfl), (mT4 (i := 70) rfl rfl), (mT1 (i := 14) rfl rfl), (mT4 (i := 71) rfl rfl)⟩
theorem mmX6_146 : MMW RX6 146 Lib.Math.min.name Lib.Math.min.code 2 .int := ⟨(mT4 (i := 170) rfl rfl), (mT3 (i := 57) rfl rfl), (mT1 (i := 14) rfl rfl), (mT3 (i := 58) rfl rfl)⟩
theorem mmX6_148 : MMW RX6 148 Lib.Math.max.name Lib.Math.max.code 2 .int := ⟨(mT4 (i := 171) rfl rfl), (mT3 (i := 54) rfl rfl), (mT1 (i := 14) rfl rfl), (mT3 (i := 55) rfl rfl)⟩
/-! texts of constants: how long, the byte at a place, where a sign stands -/
def strLenN (q : Nat) : Nat := lenK.getD q 0
def strLen (q : Nat) : Int := (strLenN q : Int)
def strAt (q j : Nat) : Int := ((bytK.getD q []).getD j 0).toInt
def strIx (q : Nat) (x : Int) : Int := match (bytK.getD q []).findIdx? (fun b => b == Int32.ofInt x) with
  | some j => (j : Int)
  | none => -1
section AWJ
variable {G : GT} {cc : ByteArray} {nL : Nat} {ret : Option FieldType} {L0 : Nat} {Z : ZT} {pc : Nat} {ls : List (Nat × AV)} {st : List AV} {N : NN} {R : RR}
theorem J_length {q : Nat} (hd : decode cc pc = .ok (.invokevirtual 66, 3)) (hq : q < 11) (hst : (st.map fun v => if isL v then 2 else 1).sum ≤ 8) (h : AW G RX8 cc nL ret false (rmL L0 TOT TOT) TOT Z (pc + 3) ls (vI (strLen q) :: st) TOT N R) : AW G RX8 cc nL ret false (rmL L0 TOT TOT) TOT Z pc ls (vR 200 q :: st) TOT N R := by
  exact JK_length hd hq hst h
theorem J_charAt {q j : Nat} {x : Int} (hd : decode cc pc = .ok (.invokevirtual 70, 3)) (hq : q < 11) (hj : wI x = (j : Int)) (hlt : j < strLenN q) (hst : (st.map fun v => if isL v then 2 else 1).sum ≤ 8) (h : AW G RX8 cc nL ret false (rmL L0 TOT TOT) TOT Z (pc + 3) ls (vI (strAt q j) :: st) TOT N R) : AW G RX8 cc nL ret false (rmL L0 TOT TOT) TOT Z pc ls (vI x :: vR 200 q :: st) TOT N R := by
  exact JK_charAt hd hq hj hlt hst h
theorem J_indexOf {q : Nat} {x : Int} (hd : decode cc pc = .ok (.invokevirtual 50, 3)) (hq : q < 11) (hst : (st.map fun v => if isL v then 2 else 1).sum ≤ 8) (h : AW G RX8 cc nL ret false (rmL L0 TOT TOT) TOT Z (pc + 3) ls (vI (strIx q x) :: st) TOT N R) : AW G RX8 cc nL ret false (rmL L0 TOT TOT) TOT Z pc ls (vI x :: vR 200 q :: st) TOT N R := by
  refine JK_indexOf hd hq hst ?_
  have e : strIx q x = ixI q x := by
    show _ = fI _ _ _
    rw [fI_find]
    unfold strIx
    cases (bytK.getD q []).findIdx? (fun b => b == Int32.ofInt x) with
    | none => rfl
    | some j => show (j : Int) = ((0 + j : Nat) : Int); rw [Nat.zero_add]
  rw [← e]
  exact h
end AWJ
