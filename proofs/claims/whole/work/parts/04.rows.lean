/-! AW: from here on the method goes to its end, over any heap that holds the picture -/
def isL (v : AV) : Bool := match v with
  | .inr (.inl _) => true
  | _ => false
theorem cv_isL (G : GT) (v : AV) : ((cv G v).category == 2) = isL v := by
  rcases v with x | x | r
  · rfl
  · rfl
  · cases r <;> rfl
def cvl (G : GT) (ls : List (Nat × AV)) : List (Nat × Value) := ls.map (fun q => (q.1, cv G q.2))
def ls1 (i : Nat) (v : AV) (ls : List (Nat × AV)) : List (Nat × AV) := (i, v) :: ls.filter (fun q => !(q.1 == i) && !(q.1 + 1 == i && isL q.2))
def ls2 (i : Nat) (v : AV) (ls : List (Nat × AV)) : List (Nat × AV) := (i, v) :: ls.filter (fun q => !(q.1 == i) && (!(q.1 == i + 1) && !(q.1 + 1 == i && isL q.2)))
theorem cvl_1 (G : GT) (i : Nat) (v : AV) (ls : List (Nat × AV)) : (i, cv G v) :: (cvl G ls).filter (fun q => !(q.1 == i) && !(q.1 + 1 == i && q.2.category == 2)) = cvl G (ls1 i v ls) := by
  unfold cvl ls1
  rw [List.filter_map, List.map_cons]
  congr 2
  apply List.filter_congr
  intro q _
  simp only [Function.comp_apply, cv_isL]
theorem cvl_2 (G : GT) (i : Nat) (v : AV) (ls : List (Nat × AV)) : (i, cv G v) :: (cvl G ls).filter (fun q => !(q.1 == i) && (!(q.1 == i + 1) && !(q.1 + 1 == i && q.2.category == 2))) = cvl G (ls2 i v ls) := by
  unfold cvl ls2
  rw [List.filter_map, List.map_cons]
  congr 2
  apply List.filter_congr
  intro q _
  simp only [Function.comp_apply, cv_isL]
theorem lk_mem {i : Nat} {v : AV} : ∀ {ls : List (Nat × AV)}, ls.lookup i = some v → (i, v) ∈ ls
  | [], h => by cases h
  | (j, w) :: l, h => by
    rw [List.lookup_cons] at h
    by_cases e : i = j
    · subst e
      simp at h
      rw [h]
      exact List.mem_cons_self
    · rw [show (i == j) = false from by simp [e]] at h
      exact List.mem_cons_of_mem _ (lk_mem h)
theorem cvl_at {G : GT} {la : Array Slot} {nL : Nat} {ls : List (Nat × AV)} (h : lv_has la nL (cvl G ls)) {i : Nat} {v : AV} (hk : ls.lookup i = some v) : la[i]? = some (.val (cv G v)) := h.2.2 (i, cv G v) (List.mem_map.mpr ⟨(i, v), lk_mem hk, rfl⟩)
theorem cvl_pos {G : GT} {i : Nat} {v : AV} {ls : List (Nat × AV)} (hk : ls.lookup i = some v) : ∃ k : Nat, (cvl G ls)[k]? = some (i, cv G v) := by
  obtain ⟨k, hk⟩ := List.getElem?_of_mem (lk_mem hk)
  exact ⟨k, by unfold cvl; rw [List.getElem?_map, hk]; rfl⟩
abbrev ZT : Type := List Frame → Array Value → State → State → Prop
def AC (G : GT) (o : String) (cc : ByteArray) (nL : Nat) (ret : Option FieldType) (ini : Bool) (n0 : Nat) (p : Program) (s : State) (m : MethodId) (args : Array Value) (meth : Method) (c : Code) : Prop :=
  p.tables.exec = Jvm.exec ∧ c.code = cc ∧ c.maxLocals = nL ∧ meth.sig.returnType = ret ∧ meth.locks = false ∧ (∀ w ∈ ALL, w.before args s = true) ∧ s.vm.findClass o = some m.cls ∧ (ini = true → meth.name = "<init>") ∧ Ext G s s.heap ∧ va_K (gD G) vwCl (tys G) s ∧ s.heap.size = gB G + n0
def AW (G : GT) (o : String) (cc : ByteArray) (nL : Nat) (ret : Option FieldType) (ini : Bool) (rm : Room) (n0 : Nat) (Z : ZT) (pc : Nat) (ls : List (Nat × AV)) (st : List AV) (n : Nat) (N : NN) (R : RR) : Prop :=
  ∀ (p : Program) (e : Env) (s : State) (m : MethodId) (args : Array Value) (below : List Frame) (meth : Method) (c : Code) (H : Heap) (locs : List Loc) (la : Array Slot),
    AC G o cc nL ret ini n0 p s m args meth c → n ≤ TOT ∧ n0 ≤ n → va_P (gD G) vwCl (ws G n N R) H → va_S (own G) s.heap H locs → H.size = gB G + n → lv_has la nL (cvl G ls) →
    W p (gl G) e rm s m args below meth c H locs (n - n0) (su n - su n0) (Z below args s) (F0 m pc la (st.map (cv G)))
section AWR
variable {G : GT} {o : String} {cc : ByteArray} {nL : Nat} {ret : Option FieldType} {ini : Bool} {rm : Room} {n0 : Nat} {Z : ZT} {pc : Nat} {ls : List (Nat × AV)} {st : List AV} {n : Nat} {N : NN} {R : RR}
theorem A_iconst  {k v : Int} (hd : decode cc pc = .ok (.iconst k, 1)) (hv : k = v) (h : AW G o cc nL ret ini rm n0 Z (pc + 1) ls (vI v :: st) n N R) : AW G o cc nL ret ini rm n0 Z pc ls st n N R := by
  intro p e s m args below meth c H locs la C hn hP hS hz hl
  subst hv
  exact lv_iconst C.1 C.2.1 hd rfl (h p e s m args below meth c H locs la C hn hP hS hz hl)
theorem A_bipush  {k v : Int} (hd : decode cc pc = .ok (.bipush k, 2)) (hv : (Int8.ofInt k).toInt32 = Int32.ofInt v) (h : AW G o cc nL ret ini rm n0 Z (pc + 2) ls (vI v :: st) n N R) : AW G o cc nL ret ini rm n0 Z pc ls st n N R := by
  intro p e s m args below meth c H locs la C hn hP hS hz hl
  exact lv_bipush C.1 C.2.1 hd hv (h p e s m args below meth c H locs la C hn hP hS hz hl)
theorem A_sipush  {k v : Int} (hd : decode cc pc = .ok (.sipush k, 3)) (hv : (Int16.ofInt k).toInt32 = Int32.ofInt v) (h : AW G o cc nL ret ini rm n0 Z (pc + 3) ls (vI v :: st) n N R) : AW G o cc nL ret ini rm n0 Z pc ls st n N R := by
  intro p e s m args below meth c H locs la C hn hP hS hz hl
  exact lv_sipush C.1 C.2.1 hd hv (h p e s m args below meth c H locs la C hn hP hS hz hl)
theorem A_lconst  {k : Fin 2} {v : Int} (hd : decode cc pc = .ok (.lconst k, 1)) (hv : Int64.ofNat (k : Nat) = Int64.ofInt v) (h : AW G o cc nL ret ini rm n0 Z (pc + 1) ls (vL v :: st) n N R) : AW G o cc nL ret ini rm n0 Z pc ls st n N R := by
  intro p e s m args below meth c H locs la C hn hP hS hz hl
  exact lv_lconst C.1 C.2.1 hd hv (h p e s m args below meth c H locs la C hn hP hS hz hl)
theorem A_null  (hd : decode cc pc = .ok (.aconst_null, 1)) (h : AW G o cc nL ret ini rm n0 Z (pc + 1) ls (vN :: st) n N R) : AW G o cc nL ret ini rm n0 Z pc ls st n N R := by
  intro p e s m args below meth c H locs la C hn hP hS hz hl
  exact lv_null C.1 C.2.1 hd (h p e s m args below meth c H locs la C hn hP hS hz hl)
theorem A_ldc  {v : Int32} {x : Int} {k : Nat} (hd : decode cc pc = .ok (.ldc k, 2)) (hw : Cond.constant o k v ∈ ALL) (hv : v = Int32.ofInt x) (h : AW G o cc nL ret ini rm n0 Z (pc + 2) ls (vI x :: st) n N R) : AW G o cc nL ret ini rm n0 Z pc ls st n N R := by
  intro p e s m args below meth c H locs la C hn hP hS hz hl
  subst hv
  exact lv_ldc C.1 C.2.1 C.2.2.2.2.2.2.1 (C.2.2.2.2.2.1 _ hw) hd (h p e s m args below meth c H locs la C hn hP hS hz hl)
theorem A_ldc2  {v : Int64} {x : Int} {k : Nat} (hd : decode cc pc = .ok (.ldc2_w k, 3)) (hw : Cond.constantLong o k v ∈ ALL) (hv : v = Int64.ofInt x) (h : AW G o cc nL ret ini rm n0 Z (pc + 3) ls (vL x :: st) n N R) : AW G o cc nL ret ini rm n0 Z pc ls st n N R := by
  intro p e s m args below meth c H locs la C hn hP hS hz hl
  subst hv
  exact lv_ldc2 C.1 C.2.1 C.2.2.2.2.2.2.1 (C.2.2.2.2.2.1 _ hw) hd (h p e s m args below meth c H locs la C hn hP hS hz hl)
theorem A_ldcS  {tx : String} {k q : Nat} (hd : decode cc pc = .ok (.ldc k, 2)) (hw : (o, k, tx, q) ∈ strR) (h : AW G o cc nL ret ini rm n0 Z (pc + 2) ls (vR 200 q :: st) n N R) : AW G o cc nL ret ini rm n0 Z pc ls st n N R := by
  intro p e s m args below meth c H locs la C hn hP hS hz hl
  exact va_ldcS C.1 C.2.1 C.2.2.2.2.2.2.1 (C.2.2.2.2.2.2.2.2.1.2.2.2.2.2.1 _ hw) hd (h p e s m args below meth c H locs la C hn hP hS hz hl)
theorem A_iload_n  {k : Fin 4} {i : Nat} {x : Int} (hd : decode cc pc = .ok (.iload_n k, 1)) (hi : (k : Nat) = i) (hk : ls.lookup i = some (vI x)) (h : AW G o cc nL ret ini rm n0 Z (pc + 1) ls (vI x :: st) n N R) : AW G o cc nL ret ini rm n0 Z pc ls st n N R := by
  intro p e s m args below meth c H locs la C hn hP hS hz hl
  exact lv_iload_n C.1 C.2.1 hd hi (cvl_at hl hk) (h p e s m args below meth c H locs la C hn hP hS hz hl)
theorem A_iload  {i : Nat} {x : Int} (hd : decode cc pc = .ok (.iload i, 2)) (hk : ls.lookup i = some (vI x)) (h : AW G o cc nL ret ini rm n0 Z (pc + 2) ls (vI x :: st) n N R) : AW G o cc nL ret ini rm n0 Z pc ls st n N R := by
  intro p e s m args below meth c H locs la C hn hP hS hz hl
  exact lv_iload C.1 C.2.1 hd (cvl_at hl hk) (h p e s m args below meth c H locs la C hn hP hS hz hl)
theorem A_lload_n  {k : Fin 4} {i : Nat} {x : Int} (hd : decode cc pc = .ok (.lload_n k, 1)) (hi : (k : Nat) = i) (hk : ls.lookup i = some (vL x)) (h : AW G o cc nL ret ini rm n0 Z (pc + 1) ls (vL x :: st) n N R) : AW G o cc nL ret ini rm n0 Z pc ls st n N R := by
  intro p e s m args below meth c H locs la C hn hP hS hz hl
  exact lv_lload_n C.1 C.2.1 hd hi (cvl_at hl hk) (h p e s m args below meth c H locs la C hn hP hS hz hl)
theorem A_lload  {i : Nat} {x : Int} (hd : decode cc pc = .ok (.lload i, 2)) (hk : ls.lookup i = some (vL x)) (h : AW G o cc nL ret ini rm n0 Z (pc + 2) ls (vL x :: st) n N R) : AW G o cc nL ret ini rm n0 Z pc ls st n N R := by
  intro p e s m args below meth c H locs la C hn hP hS hz hl
  exact lv_lload C.1 C.2.1 hd (cvl_at hl hk) (h p e s m args below meth c H locs la C hn hP hS hz hl)
theorem A_aload_n  {k : Fin 4} {i c0 i0 : Nat} (hd : decode cc pc = .ok (.aload_n k, 1)) (hi : (k : Nat) = i) (hk : ls.lookup i = some (vR c0 i0)) (h : AW G o cc nL ret ini rm n0 Z (pc + 1) ls (vR c0 i0 :: st) n N R) : AW G o cc nL ret ini rm n0 Z pc ls st n N R := by
  intro p e s m args below meth c H locs la C hn hP hS hz hl
  exact lv_aload_n C.1 C.2.1 hd hi (cvl_at hl hk) (h p e s m args below meth c H locs la C hn hP hS hz hl)
theorem A_aload  {i c0 i0 : Nat} (hd : decode cc pc = .ok (.aload i, 2)) (hk : ls.lookup i = some (vR c0 i0)) (h : AW G o cc nL ret ini rm n0 Z (pc + 2) ls (vR c0 i0 :: st) n N R) : AW G o cc nL ret ini rm n0 Z pc ls st n N R := by
  intro p e s m args below meth c H locs la C hn hP hS hz hl
  exact lv_aload C.1 C.2.1 hd (cvl_at hl hk) (h p e s m args below meth c H locs la C hn hP hS hz hl)
theorem A_istore_n  {k : Fin 4} {i : Nat} {x : Int} {ls' : List (Nat × AV)} (hd : decode cc pc = .ok (.istore_n k, 1)) (hi : (k : Nat) = i) (hlt : i < nL) (he : ls1 i (vI x) ls = ls') (h : AW G o cc nL ret ini rm n0 Z (pc + 1) ls' st n N R) : AW G o cc nL ret ini rm n0 Z pc ls (vI x :: st) n N R := by
  intro p e s m args below meth c H locs la C hn hP hS hz hl
  subst he
  exact lv_istore_n C.1 C.2.1 hd hi hl hlt (cvl_1 G i (vI x) ls) (fun la2 hl2 => h p e s m args below meth c H locs la2 C hn hP hS hz hl2)
theorem A_istore  {i : Nat} {x : Int} {ls' : List (Nat × AV)} (hd : decode cc pc = .ok (.istore i, 2)) (hlt : i < nL) (he : ls1 i (vI x) ls = ls') (h : AW G o cc nL ret ini rm n0 Z (pc + 2) ls' st n N R) : AW G o cc nL ret ini rm n0 Z pc ls (vI x :: st) n N R := by
  intro p e s m args below meth c H locs la C hn hP hS hz hl
  subst he
  exact lv_istore C.1 C.2.1 hd hl hlt (cvl_1 G i (vI x) ls) (fun la2 hl2 => h p e s m args below meth c H locs la2 C hn hP hS hz hl2)
theorem A_lstore_n  {k : Fin 4} {i : Nat} {x : Int} {ls' : List (Nat × AV)} (hd : decode cc pc = .ok (.lstore_n k, 1)) (hi : (k : Nat) = i) (hlt : i + 1 < nL) (he : ls2 i (vL x) ls = ls') (h : AW G o cc nL ret ini rm n0 Z (pc + 1) ls' st n N R) : AW G o cc nL ret ini rm n0 Z pc ls (vL x :: st) n N R := by
  intro p e s m args below meth c H locs la C hn hP hS hz hl
  subst he
  exact lv_lstore_n C.1 C.2.1 hd hi hl hlt (cvl_2 G i (vL x) ls) (fun la2 hl2 => h p e s m args below meth c H locs la2 C hn hP hS hz hl2)
theorem A_lstore  {i : Nat} {x : Int} {ls' : List (Nat × AV)} (hd : decode cc pc = .ok (.lstore i, 2)) (hlt : i + 1 < nL) (he : ls2 i (vL x) ls = ls') (h : AW G o cc nL ret ini rm n0 Z (pc + 2) ls' st n N R) : AW G o cc nL ret ini rm n0 Z pc ls (vL x :: st) n N R := by
  intro p e s m args below meth c H locs la C hn hP hS hz hl
  subst he
  exact lv_lstore C.1 C.2.1 hd hl hlt (cvl_2 G i (vL x) ls) (fun la2 hl2 => h p e s m args below meth c H locs la2 C hn hP hS hz hl2)
theorem A_astore_n  {k : Fin 4} {i : Nat} {c0 i0 : Nat} {ls' : List (Nat × AV)} (hd : decode cc pc = .ok (.astore_n k, 1)) (hi : (k : Nat) = i) (hlt : i < nL) (he : ls1 i (vR c0 i0) ls = ls') (h : AW G o cc nL ret ini rm n0 Z (pc + 1) ls' st n N R) : AW G o cc nL ret ini rm n0 Z pc ls (vR c0 i0 :: st) n N R := by
  intro p e s m args below meth c H locs la C hn hP hS hz hl
  subst he
  exact lv_astore_n C.1 C.2.1 hd hi hl hlt (cvl_1 G i (vR c0 i0) ls) (fun la2 hl2 => h p e s m args below meth c H locs la2 C hn hP hS hz hl2)
theorem A_astore  {i : Nat} {c0 i0 : Nat} {ls' : List (Nat × AV)} (hd : decode cc pc = .ok (.astore i, 2)) (hlt : i < nL) (he : ls1 i (vR c0 i0) ls = ls') (h : AW G o cc nL ret ini rm n0 Z (pc + 2) ls' st n N R) : AW G o cc nL ret ini rm n0 Z pc ls (vR c0 i0 :: st) n N R := by
  intro p e s m args below meth c H locs la C hn hP hS hz hl
  subst he
  exact lv_astore C.1 C.2.1 hd hl hlt (cvl_1 G i (vR c0 i0) ls) (fun la2 hl2 => h p e s m args below meth c H locs la2 C hn hP hS hz hl2)
theorem A_iinc  {i : Nat} {x k v : Int} {ls' : List (Nat × AV)} (hd : decode cc pc = .ok (.iinc i k, 3)) (hlt : i < nL) (hk : ls.lookup i = some (vI x)) (hv : x + k = v) (he : ls1 i (vI v) ls = ls') (h : AW G o cc nL ret ini rm n0 Z (pc + 3) ls' st n N R) : AW G o cc nL ret ini rm n0 Z pc ls st n N R := by
  intro p e s m args below meth c H locs la C hn hP hS hz hl
  subst he
  subst hv
  obtain ⟨q, hq⟩ := cvl_pos (G := G) hk
  exact lv_iinc C.1 C.2.1 hd hl hq (Int32.ofInt_add _ _).symm hlt (cvl_1 G i (vI (x + k)) ls) (fun la2 hl2 => h p e s m args below meth c H locs la2 C hn hP hS hz hl2)
theorem A_iadd  {x y : Int} (hd : decode cc pc = .ok (.iadd, 1)) (h : AW G o cc nL ret ini rm n0 Z (pc + 1) ls (vI (x + y) :: st) n N R) : AW G o cc nL ret ini rm n0 Z pc ls (vI y :: vI x :: st) n N R := by
  intro p e s m args below meth c H locs la C hn hP hS hz hl
  refine lv_iadd C.1 C.2.1 hd ?_
  rw [← Int32.ofInt_add]
  exact h p e s m args below meth c H locs la C hn hP hS hz hl
theorem A_ladd  {x y : Int} (hd : decode cc pc = .ok (.ladd, 1)) (h : AW G o cc nL ret ini rm n0 Z (pc + 1) ls (vL (x + y) :: st) n N R) : AW G o cc nL ret ini rm n0 Z pc ls (vL y :: vL x :: st) n N R := by
  intro p e s m args below meth c H locs la C hn hP hS hz hl
  refine lv_ladd C.1 C.2.1 hd ?_
  rw [← Int64.ofInt_add]
  exact h p e s m args below meth c H locs la C hn hP hS hz hl
theorem A_isub  {x y : Int} (hd : decode cc pc = .ok (.isub, 1)) (h : AW G o cc nL ret ini rm n0 Z (pc + 1) ls (vI (x - y) :: st) n N R) : AW G o cc nL ret ini rm n0 Z pc ls (vI y :: vI x :: st) n N R := by
  intro p e s m args below meth c H locs la C hn hP hS hz hl
  refine lv_isub C.1 C.2.1 hd ?_
  rw [← Int32.ofInt_sub]
  exact h p e s m args below meth c H locs la C hn hP hS hz hl
theorem A_lsub  {x y : Int} (hd : decode cc pc = .ok (.lsub, 1)) (h : AW G o cc nL ret ini rm n0 Z (pc + 1) ls (vL (x - y) :: st) n N R) : AW G o cc nL ret ini rm n0 Z pc ls (vL y :: vL x :: st) n N R := by
  intro p e s m args below meth c H locs la C hn hP hS hz hl
  refine lv_lsub C.1 C.2.1 hd ?_
  rw [← Int64.ofInt_sub]
  exact h p e s m args below meth c H locs la C hn hP hS hz hl
theorem A_imul  {x y : Int} (hd : decode cc pc = .ok (.imul, 1)) (h : AW G o cc nL ret ini rm n0 Z (pc + 1) ls (vI (x * y) :: st) n N R) : AW G o cc nL ret ini rm n0 Z pc ls (vI y :: vI x :: st) n N R := by
  intro p e s m args below meth c H locs la C hn hP hS hz hl
  refine lv_imul C.1 C.2.1 hd ?_
  rw [← Int32.ofInt_mul]
  exact h p e s m args below meth c H locs la C hn hP hS hz hl
theorem A_lmul  {x y : Int} (hd : decode cc pc = .ok (.lmul, 1)) (h : AW G o cc nL ret ini rm n0 Z (pc + 1) ls (vL (x * y) :: st) n N R) : AW G o cc nL ret ini rm n0 Z pc ls (vL y :: vL x :: st) n N R := by
  intro p e s m args below meth c H locs la C hn hP hS hz hl
  refine lv_lmul C.1 C.2.1 hd ?_
  rw [← Int64.ofInt_mul]
  exact h p e s m args below meth c H locs la C hn hP hS hz hl
theorem A_ineg  {x : Int} (hd : decode cc pc = .ok (.ineg, 1)) (h : AW G o cc nL ret ini rm n0 Z (pc + 1) ls (vI (-x) :: st) n N R) : AW G o cc nL ret ini rm n0 Z pc ls (vI x :: st) n N R := by
  intro p e s m args below meth c H locs la C hn hP hS hz hl
  refine lv_ineg C.1 C.2.1 hd ?_
  rw [← Int32.ofInt_neg]
  exact h p e s m args below meth c H locs la C hn hP hS hz hl
theorem A_lneg  {x : Int} (hd : decode cc pc = .ok (.lneg, 1)) (h : AW G o cc nL ret ini rm n0 Z (pc + 1) ls (vL (-x) :: st) n N R) : AW G o cc nL ret ini rm n0 Z pc ls (vL x :: st) n N R := by
  intro p e s m args below meth c H locs la C hn hP hS hz hl
  refine lv_lneg C.1 C.2.1 hd ?_
  rw [← Int64.ofInt_neg]
  exact h p e s m args below meth c H locs la C hn hP hS hz hl
theorem A_idiv  {x y : Int} (hd : decode cc pc = .ok (.idiv, 1)) (hne : wI y ≠ 0) (h : AW G o cc nL ret ini rm n0 Z (pc + 1) ls (vI ((wI x).tdiv (wI y)) :: st) n N R) : AW G o cc nL ret ini rm n0 Z pc ls (vI y :: vI x :: st) n N R := by
  intro p e s m args below meth c H locs la C hn hP hS hz hl
  refine lv_idiv C.1 C.2.1 hd (fun q => hne (oI_eq0.mp q)) ?_
  rw [oI_div]
  exact h p e s m args below meth c H locs la C hn hP hS hz hl
theorem A_irem  {x y : Int} (hd : decode cc pc = .ok (.irem, 1)) (hne : wI y ≠ 0) (h : AW G o cc nL ret ini rm n0 Z (pc + 1) ls (vI ((wI x).tmod (wI y)) :: st) n N R) : AW G o cc nL ret ini rm n0 Z pc ls (vI y :: vI x :: st) n N R := by
  intro p e s m args below meth c H locs la C hn hP hS hz hl
  refine lv_irem C.1 C.2.1 hd (fun q => hne (oI_eq0.mp q)) ?_
  rw [oI_rem]
  exact h p e s m args below meth c H locs la C hn hP hS hz hl
theorem A_ldiv  {x y : Int} (hd : decode cc pc = .ok (.ldiv, 1)) (hne : wL y ≠ 0) (h : AW G o cc nL ret ini rm n0 Z (pc + 1) ls (vL ((wL x).tdiv (wL y)) :: st) n N R) : AW G o cc nL ret ini rm n0 Z pc ls (vL y :: vL x :: st) n N R := by
  intro p e s m args below meth c H locs la C hn hP hS hz hl
  refine lv_ldiv C.1 C.2.1 hd (fun q => hne (oL_eq0.mp q)) ?_
  rw [oL_div]
  exact h p e s m args below meth c H locs la C hn hP hS hz hl
theorem A_lrem  {x y : Int} (hd : decode cc pc = .ok (.lrem, 1)) (hne : wL y ≠ 0) (h : AW G o cc nL ret ini rm n0 Z (pc + 1) ls (vL ((wL x).tmod (wL y)) :: st) n N R) : AW G o cc nL ret ini rm n0 Z pc ls (vL y :: vL x :: st) n N R := by
  intro p e s m args below meth c H locs la C hn hP hS hz hl
  refine lv_lrem C.1 C.2.1 hd (fun q => hne (oL_eq0.mp q)) ?_
  rw [oL_rem]
  exact h p e s m args below meth c H locs la C hn hP hS hz hl
def andI (x y : Int) : Int := (Int32.ofInt x &&& Int32.ofInt y).toInt
def andL (x y : Int) : Int := (Int64.ofInt x &&& Int64.ofInt y).toInt
def orL (x y : Int) : Int := (Int64.ofInt x ||| Int64.ofInt y).toInt
def shlL (x y : Int) : Int := (Int64.ofInt x <<< ((Int32.ofInt y).toInt64 &&& 63)).toInt
def shrL (x y : Int) : Int := (Int64.ofInt x >>> ((Int32.ofInt y).toInt64 &&& 63)).toInt
def ushrL (x y : Int) : Int := (((Int64.ofInt x).toUInt64 >>> ((Int32.ofInt y).toInt64.toUInt64 &&& Int64.toUInt64 63)).toInt64).toInt
def i2bI (x : Int) : Int := (Int32.ofInt x).toInt8.toInt32.toInt
def i2sI (x : Int) : Int := (Int32.ofInt x).toInt16.toInt32.toInt
def i2cI (x : Int) : Int := ((Int32.ofInt x).toUInt32 % 65536).toInt32.toInt
def cmpI (a b : Int) : Int := if b < a then 1 else if a = b then 0 else -1
theorem A_iand  {x y : Int} (hd : decode cc pc = .ok (.iand, 1)) (h : AW G o cc nL ret ini rm n0 Z (pc + 1) ls (vI (andI x y) :: st) n N R) : AW G o cc nL ret ini rm n0 Z pc ls (vI y :: vI x :: st) n N R := by
  intro p e s m args below meth c H locs la C hn hP hS hz hl
  refine lv_iand C.1 C.2.1 hd ?_
  rw [oI_of (x := andI x y) rfl]
  exact h p e s m args below meth c H locs la C hn hP hS hz hl
theorem A_land  {x y : Int} (hd : decode cc pc = .ok (.land, 1)) (h : AW G o cc nL ret ini rm n0 Z (pc + 1) ls (vL (andL x y) :: st) n N R) : AW G o cc nL ret ini rm n0 Z pc ls (vL y :: vL x :: st) n N R := by
  intro p e s m args below meth c H locs la C hn hP hS hz hl
  refine lv_land C.1 C.2.1 hd ?_
  rw [oL_of (x := andL x y) rfl]
  exact h p e s m args below meth c H locs la C hn hP hS hz hl
theorem A_lor  {x y : Int} (hd : decode cc pc = .ok (.lor, 1)) (h : AW G o cc nL ret ini rm n0 Z (pc + 1) ls (vL (orL x y) :: st) n N R) : AW G o cc nL ret ini rm n0 Z pc ls (vL y :: vL x :: st) n N R := by
  intro p e s m args below meth c H locs la C hn hP hS hz hl
  refine lv_lor C.1 C.2.1 hd ?_
  rw [oL_of (x := orL x y) rfl]
  exact h p e s m args below meth c H locs la C hn hP hS hz hl
theorem A_lshl  {x y : Int} (hd : decode cc pc = .ok (.lshl, 1)) (h : AW G o cc nL ret ini rm n0 Z (pc + 1) ls (vL (shlL x y) :: st) n N R) : AW G o cc nL ret ini rm n0 Z pc ls (vI y :: vL x :: st) n N R := by
  intro p e s m args below meth c H locs la C hn hP hS hz hl
  exact lv_lshl C.1 C.2.1 hd (oL_of (x := shlL x y) rfl) (h p e s m args below meth c H locs la C hn hP hS hz hl)
theorem A_lshr  {x y : Int} (hd : decode cc pc = .ok (.lshr, 1)) (h : AW G o cc nL ret ini rm n0 Z (pc + 1) ls (vL (shrL x y) :: st) n N R) : AW G o cc nL ret ini rm n0 Z pc ls (vI y :: vL x :: st) n N R := by
  intro p e s m args below meth c H locs la C hn hP hS hz hl
  exact lv_lshr C.1 C.2.1 hd (oL_of (x := shrL x y) rfl) (h p e s m args below meth c H locs la C hn hP hS hz hl)
theorem A_lushr  {x y : Int} (hd : decode cc pc = .ok (.lushr, 1)) (h : AW G o cc nL ret ini rm n0 Z (pc + 1) ls (vL (ushrL x y) :: st) n N R) : AW G o cc nL ret ini rm n0 Z pc ls (vI y :: vL x :: st) n N R := by
  intro p e s m args below meth c H locs la C hn hP hS hz hl
  exact lv_lushr C.1 C.2.1 hd (oL_of (x := ushrL x y) rfl) (h p e s m args below meth c H locs la C hn hP hS hz hl)
theorem A_i2b  {x : Int} (hd : decode cc pc = .ok (.i2b, 1)) (h : AW G o cc nL ret ini rm n0 Z (pc + 1) ls (vI (i2bI x) :: st) n N R) : AW G o cc nL ret ini rm n0 Z pc ls (vI x :: st) n N R := by
  intro p e s m args below meth c H locs la C hn hP hS hz hl
  exact lv_i2b C.1 C.2.1 hd (oI_of (x := i2bI x) rfl) (h p e s m args below meth c H locs la C hn hP hS hz hl)
theorem A_i2s  {x : Int} (hd : decode cc pc = .ok (.i2s, 1)) (h : AW G o cc nL ret ini rm n0 Z (pc + 1) ls (vI (i2sI x) :: st) n N R) : AW G o cc nL ret ini rm n0 Z pc ls (vI x :: st) n N R := by
  intro p e s m args below meth c H locs la C hn hP hS hz hl
  exact lv_i2s C.1 C.2.1 hd (oI_of (x := i2sI x) rfl) (h p e s m args below meth c H locs la C hn hP hS hz hl)
theorem A_i2c  {x : Int} (hd : decode cc pc = .ok (.i2c, 1)) (h : AW G o cc nL ret ini rm n0 Z (pc + 1) ls (vI (i2cI x) :: st) n N R) : AW G o cc nL ret ini rm n0 Z pc ls (vI x :: st) n N R := by
  intro p e s m args below meth c H locs la C hn hP hS hz hl
  exact lv_i2c C.1 C.2.1 hd (oI_of (x := i2cI x) rfl) (h p e s m args below meth c H locs la C hn hP hS hz hl)
theorem A_i2l  {x : Int} (hd : decode cc pc = .ok (.i2l, 1)) (h : AW G o cc nL ret ini rm n0 Z (pc + 1) ls (vL (wI x) :: st) n N R) : AW G o cc nL ret ini rm n0 Z pc ls (vI x :: st) n N R := by
  intro p e s m args below meth c H locs la C hn hP hS hz hl
  exact lv_i2l C.1 C.2.1 hd (oI_L x) (h p e s m args below meth c H locs la C hn hP hS hz hl)
theorem A_l2i  {x : Int} (hd : decode cc pc = .ok (.l2i, 1)) (h : AW G o cc nL ret ini rm n0 Z (pc + 1) ls (vI x :: st) n N R) : AW G o cc nL ret ini rm n0 Z pc ls (vL x :: st) n N R := by
  intro p e s m args below meth c H locs la C hn hP hS hz hl
  exact lv_l2i C.1 C.2.1 hd (oL_I x) (h p e s m args below meth c H locs la C hn hP hS hz hl)
theorem cmp_o (x y : Int) : lg_cmp (Int64.ofInt x) (Int64.ofInt y) = Int32.ofInt (cmpI (wL x) (wL y)) := by
  unfold lg_cmp cmpI
  by_cases h1 : Int64.ofInt y < Int64.ofInt x
  · rw [if_pos h1, if_pos (oL_lt.mp h1)]
    decide +kernel
  · rw [if_neg h1, if_neg (fun q => h1 (oL_lt.mpr q))]
    by_cases h2 : Int64.ofInt x = Int64.ofInt y
    · rw [if_pos h2, if_pos (oL_eq.mp h2)]
      decide +kernel
    · rw [if_neg h2, if_neg (fun q => h2 (oL_eq.mpr q))]
      decide +kernel
theorem A_lcmp  {x y : Int} (hd : decode cc pc = .ok (.lcmp, 1)) (h : AW G o cc nL ret ini rm n0 Z (pc + 1) ls (vI (cmpI (wL x) (wL y)) :: st) n N R) : AW G o cc nL ret ini rm n0 Z pc ls (vL y :: vL x :: st) n N R := by
  intro p e s m args below meth c H locs la C hn hP hS hz hl
  refine W.lcmp C.1 C.2.1 hd ?_
  rw [cmp_o]
  exact h p e s m args below meth c H locs la C hn hP hS hz hl
theorem cv_c1 {G : GT} {v : AV} (h : isL v = false) : (cv G v).category = 1 := by
  rcases v with x | x | r
  · rfl
  · cases h
  · cases r <;> rfl
theorem cv_c2 {G : GT} {v : AV} (h : isL v = true) : (cv G v).category = 2 := by
  rcases v with x | x | r
  · cases h
  · rfl
  · cases r <;> cases h
theorem A_dup  {v : AV} (hd : decode cc pc = .ok (.dup, 1)) (hv : isL v = false) (h : AW G o cc nL ret ini rm n0 Z (pc + 1) ls (v :: v :: st) n N R) : AW G o cc nL ret ini rm n0 Z pc ls (v :: st) n N R := by
  intro p e s m args below meth c H locs la C hn hP hS hz hl
  exact lv_dup C.1 C.2.1 hd (cv_c1 hv) (h p e s m args below meth c H locs la C hn hP hS hz hl)
theorem A_pop  {v : AV} (hd : decode cc pc = .ok (.pop, 1)) (hv : isL v = false) (h : AW G o cc nL ret ini rm n0 Z (pc + 1) ls (st) n N R) : AW G o cc nL ret ini rm n0 Z pc ls (v :: st) n N R := by
  intro p e s m args below meth c H locs la C hn hP hS hz hl
  exact lv_pop C.1 C.2.1 hd (cv_c1 hv) (h p e s m args below meth c H locs la C hn hP hS hz hl)
theorem A_dup2  {v w : AV} (hd : decode cc pc = .ok (.dup2, 1)) (hv : isL v = false) (hw : isL w = false) (h : AW G o cc nL ret ini rm n0 Z (pc + 1) ls (v :: w :: v :: w :: st) n N R) : AW G o cc nL ret ini rm n0 Z pc ls (v :: w :: st) n N R := by
  intro p e s m args below meth c H locs la C hn hP hS hz hl
  exact lv_dup2_11 C.1 C.2.1 hd (cv_c1 hv) (cv_c1 hw) (h p e s m args below meth c H locs la C hn hP hS hz hl)
theorem A_dup2L  {v : AV} (hd : decode cc pc = .ok (.dup2, 1)) (hv : isL v = true) (h : AW G o cc nL ret ini rm n0 Z (pc + 1) ls (v :: v :: st) n N R) : AW G o cc nL ret ini rm n0 Z pc ls (v :: st) n N R := by
  intro p e s m args below meth c H locs la C hn hP hS hz hl
  exact lv_dup2_2 C.1 C.2.1 hd (cv_c2 hv) (h p e s m args below meth c H locs la C hn hP hS hz hl)
theorem A_if_eq {x : Int} {off : Int} {tgt : Nat} (hd : decode cc pc = .ok (.ifCond .eq off, 3)) (hg : (pc : Int) + off = (tgt : Int)) (ht : (wI x = 0) → AW G o cc nL ret ini rm n0 Z tgt ls st n N R) (hf : ¬ (wI x = 0) → AW G o cc nL ret ini rm n0 Z (pc + 3) ls st n N R) : AW G o cc nL ret ini rm n0 Z pc ls (vI x :: st) n N R := by
  intro p e s m args below meth c H locs la C hn hP hS hz hl
  exact lv_if_eq C.1 C.2.1 hd hg (fun q => ht (oI_eq0.mp q) p e s m args below meth c H locs la C hn hP hS hz hl) (fun q => hf (fun z => q (oI_eq0.mpr z)) p e s m args below meth c H locs la C hn hP hS hz hl)
theorem A_icmp_eq {x y : Int} {off : Int} {tgt : Nat} (hd : decode cc pc = .ok (.if_icmp .eq off, 3)) (hg : (pc : Int) + off = (tgt : Int)) (ht : (wI x = wI y) → AW G o cc nL ret ini rm n0 Z tgt ls st n N R) (hf : ¬ (wI x = wI y) → AW G o cc nL ret ini rm n0 Z (pc + 3) ls st n N R) : AW G o cc nL ret ini rm n0 Z pc ls (vI y :: vI x :: st) n N R := by
  intro p e s m args below meth c H locs la C hn hP hS hz hl
  exact lv_icmp_eq C.1 C.2.1 hd hg (fun q => ht (oI_eq.mp q) p e s m args below meth c H locs la C hn hP hS hz hl) (fun q => hf (fun z => q (oI_eq.mpr z)) p e s m args below meth c H locs la C hn hP hS hz hl)
theorem A_if_ne {x : Int} {off : Int} {tgt : Nat} (hd : decode cc pc = .ok (.ifCond .ne off, 3)) (hg : (pc : Int) + off = (tgt : Int)) (ht : (wI x ≠ 0) → AW G o cc nL ret ini rm n0 Z tgt ls st n N R) (hf : ¬ (wI x ≠ 0) → AW G o cc nL ret ini rm n0 Z (pc + 3) ls st n N R) : AW G o cc nL ret ini rm n0 Z pc ls (vI x :: st) n N R := by
  intro p e s m args below meth c H locs la C hn hP hS hz hl
  exact lv_if_ne C.1 C.2.1 hd hg (fun q => ht (fun z => q (oI_eq0.mpr z)) p e s m args below meth c H locs la C hn hP hS hz hl) (fun q => hf (fun z => z (oI_eq0.mp q)) p e s m args below meth c H locs la C hn hP hS hz hl)
theorem A_icmp_ne {x y : Int} {off : Int} {tgt : Nat} (hd : decode cc pc = .ok (.if_icmp .ne off, 3)) (hg : (pc : Int) + off = (tgt : Int)) (ht : (wI x ≠ wI y) → AW G o cc nL ret ini rm n0 Z tgt ls st n N R) (hf : ¬ (wI x ≠ wI y) → AW G o cc nL ret ini rm n0 Z (pc + 3) ls st n N R) : AW G o cc nL ret ini rm n0 Z pc ls (vI y :: vI x :: st) n N R := by
  intro p e s m args below meth c H locs la C hn hP hS hz hl
  exact lv_icmp_ne C.1 C.2.1 hd hg (fun q => ht (fun z => q (oI_eq.mpr z)) p e s m args below meth c H locs la C hn hP hS hz hl) (fun q => hf (fun z => z (oI_eq.mp q)) p e s m args below meth c H locs la C hn hP hS hz hl)
theorem A_if_lt {x : Int} {off : Int} {tgt : Nat} (hd : decode cc pc = .ok (.ifCond .lt off, 3)) (hg : (pc : Int) + off = (tgt : Int)) (ht : (wI x < 0) → AW G o cc nL ret ini rm n0 Z tgt ls st n N R) (hf : ¬ (wI x < 0) → AW G o cc nL ret ini rm n0 Z (pc + 3) ls st n N R) : AW G o cc nL ret ini rm n0 Z pc ls (vI x :: st) n N R := by
  intro p e s m args below meth c H locs la C hn hP hS hz hl
  exact lv_if_lt C.1 C.2.1 hd hg (fun q => ht (oI_lt0.mp q) p e s m args below meth c H locs la C hn hP hS hz hl) (fun q => hf (fun z => q (oI_lt0.mpr z)) p e s m args below meth c H locs la C hn hP hS hz hl)
theorem A_icmp_lt {x y : Int} {off : Int} {tgt : Nat} (hd : decode cc pc = .ok (.if_icmp .lt off, 3)) (hg : (pc : Int) + off = (tgt : Int)) (ht : (wI x < wI y) → AW G o cc nL ret ini rm n0 Z tgt ls st n N R) (hf : ¬ (wI x < wI y) → AW G o cc nL ret ini rm n0 Z (pc + 3) ls st n N R) : AW G o cc nL ret ini rm n0 Z pc ls (vI y :: vI x :: st) n N R := by
  intro p e s m args below meth c H locs la C hn hP hS hz hl
  exact lv_icmp_lt C.1 C.2.1 hd hg (fun q => ht (oI_lt.mp q) p e s m args below meth c H locs la C hn hP hS hz hl) (fun q => hf (fun z => q (oI_lt.mpr z)) p e s m args below meth c H locs la C hn hP hS hz hl)
theorem A_if_ge {x : Int} {off : Int} {tgt : Nat} (hd : decode cc pc = .ok (.ifCond .ge off, 3)) (hg : (pc : Int) + off = (tgt : Int)) (ht : (0 ≤ wI x) → AW G o cc nL ret ini rm n0 Z tgt ls st n N R) (hf : ¬ (0 ≤ wI x) → AW G o cc nL ret ini rm n0 Z (pc + 3) ls st n N R) : AW G o cc nL ret ini rm n0 Z pc ls (vI x :: st) n N R := by
  intro p e s m args below meth c H locs la C hn hP hS hz hl
  exact lv_if_ge C.1 C.2.1 hd hg (fun q => ht (oI_ge0.mp q) p e s m args below meth c H locs la C hn hP hS hz hl) (fun q => hf (fun z => q (oI_ge0.mpr z)) p e s m args below meth c H locs la C hn hP hS hz hl)
theorem A_icmp_ge {x y : Int} {off : Int} {tgt : Nat} (hd : decode cc pc = .ok (.if_icmp .ge off, 3)) (hg : (pc : Int) + off = (tgt : Int)) (ht : (wI y ≤ wI x) → AW G o cc nL ret ini rm n0 Z tgt ls st n N R) (hf : ¬ (wI y ≤ wI x) → AW G o cc nL ret ini rm n0 Z (pc + 3) ls st n N R) : AW G o cc nL ret ini rm n0 Z pc ls (vI y :: vI x :: st) n N R := by
  intro p e s m args below meth c H locs la C hn hP hS hz hl
  exact lv_icmp_ge C.1 C.2.1 hd hg (fun q => ht (oI_le.mp q) p e s m args below meth c H locs la C hn hP hS hz hl) (fun q => hf (fun z => q (oI_le.mpr z)) p e s m args below meth c H locs la C hn hP hS hz hl)
theorem A_if_gt {x : Int} {off : Int} {tgt : Nat} (hd : decode cc pc = .ok (.ifCond .gt off, 3)) (hg : (pc : Int) + off = (tgt : Int)) (ht : (0 < wI x) → AW G o cc nL ret ini rm n0 Z tgt ls st n N R) (hf : ¬ (0 < wI x) → AW G o cc nL ret ini rm n0 Z (pc + 3) ls st n N R) : AW G o cc nL ret ini rm n0 Z pc ls (vI x :: st) n N R := by
  intro p e s m args below meth c H locs la C hn hP hS hz hl
  exact lv_if_gt C.1 C.2.1 hd hg (fun q => ht (oI_gt0.mp q) p e s m args below meth c H locs la C hn hP hS hz hl) (fun q => hf (fun z => q (oI_gt0.mpr z)) p e s m args below meth c H locs la C hn hP hS hz hl)
theorem A_icmp_gt {x y : Int} {off : Int} {tgt : Nat} (hd : decode cc pc = .ok (.if_icmp .gt off, 3)) (hg : (pc : Int) + off = (tgt : Int)) (ht : (wI y < wI x) → AW G o cc nL ret ini rm n0 Z tgt ls st n N R) (hf : ¬ (wI y < wI x) → AW G o cc nL ret ini rm n0 Z (pc + 3) ls st n N R) : AW G o cc nL ret ini rm n0 Z pc ls (vI y :: vI x :: st) n N R := by
  intro p e s m args below meth c H locs la C hn hP hS hz hl
  exact lv_icmp_gt C.1 C.2.1 hd hg (fun q => ht (oI_lt.mp q) p e s m args below meth c H locs la C hn hP hS hz hl) (fun q => hf (fun z => q (oI_lt.mpr z)) p e s m args below meth c H locs la C hn hP hS hz hl)
theorem A_if_le {x : Int} {off : Int} {tgt : Nat} (hd : decode cc pc = .ok (.ifCond .le off, 3)) (hg : (pc : Int) + off = (tgt : Int)) (ht : (wI x ≤ 0) → AW G o cc nL ret ini rm n0 Z tgt ls st n N R) (hf : ¬ (wI x ≤ 0) → AW G o cc nL ret ini rm n0 Z (pc + 3) ls st n N R) : AW G o cc nL ret ini rm n0 Z pc ls (vI x :: st) n N R := by
  intro p e s m args below meth c H locs la C hn hP hS hz hl
  exact lv_if_le C.1 C.2.1 hd hg (fun q => ht (oI_le0.mp q) p e s m args below meth c H locs la C hn hP hS hz hl) (fun q => hf (fun z => q (oI_le0.mpr z)) p e s m args below meth c H locs la C hn hP hS hz hl)
theorem A_icmp_le {x y : Int} {off : Int} {tgt : Nat} (hd : decode cc pc = .ok (.if_icmp .le off, 3)) (hg : (pc : Int) + off = (tgt : Int)) (ht : (wI x ≤ wI y) → AW G o cc nL ret ini rm n0 Z tgt ls st n N R) (hf : ¬ (wI x ≤ wI y) → AW G o cc nL ret ini rm n0 Z (pc + 3) ls st n N R) : AW G o cc nL ret ini rm n0 Z pc ls (vI y :: vI x :: st) n N R := by
  intro p e s m args below meth c H locs la C hn hP hS hz hl
  exact lv_icmp_le C.1 C.2.1 hd hg (fun q => ht (oI_le.mp q) p e s m args below meth c H locs la C hn hP hS hz hl) (fun q => hf (fun z => q (oI_le.mpr z)) p e s m args below meth c H locs la C hn hP hS hz hl)
theorem A_lcmp_eq {x y : Int} {off : Int} {pc1 tgt : Nat} (hd : decode cc pc = .ok (.lcmp, 1)) (hp : pc + 1 = pc1) (hd2 : decode cc pc1 = .ok (.ifCond .eq off, 3)) (hg : (pc1 : Int) + off = (tgt : Int)) (ht : (wL x = wL y) → AW G o cc nL ret ini rm n0 Z tgt ls st n N R) (hf : ¬ (wL x = wL y) → AW G o cc nL ret ini rm n0 Z (pc1 + 3) ls st n N R) : AW G o cc nL ret ini rm n0 Z pc ls (vL y :: vL x :: st) n N R := by
  subst hp
  have e1 : wI (cmpI (wL x) (wL y)) = cmpI (wL x) (wL y) := wI_id (by unfold cmpI; split <;> (try split) <;> omega) (by unfold cmpI; split <;> (try split) <;> omega)
  refine A_lcmp hd (A_if_eq hd2 hg (fun q => ht ?_) (fun q => hf (fun z => q ?_)))
  all_goals rw [e1] at *
  all_goals unfold cmpI at *
  all_goals (split at * <;> (try split at *) <;> omega)
theorem A_lcmp_ne {x y : Int} {off : Int} {pc1 tgt : Nat} (hd : decode cc pc = .ok (.lcmp, 1)) (hp : pc + 1 = pc1) (hd2 : decode cc pc1 = .ok (.ifCond .ne off, 3)) (hg : (pc1 : Int) + off = (tgt : Int)) (ht : (wL x ≠ wL y) → AW G o cc nL ret ini rm n0 Z tgt ls st n N R) (hf : ¬ (wL x ≠ wL y) → AW G o cc nL ret ini rm n0 Z (pc1 + 3) ls st n N R) : AW G o cc nL ret ini rm n0 Z pc ls (vL y :: vL x :: st) n N R := by
  subst hp
  have e1 : wI (cmpI (wL x) (wL y)) = cmpI (wL x) (wL y) := wI_id (by unfold cmpI; split <;> (try split) <;> omega) (by unfold cmpI; split <;> (try split) <;> omega)
  refine A_lcmp hd (A_if_ne hd2 hg (fun q => ht ?_) (fun q => hf (fun z => q ?_)))
  all_goals rw [e1] at *
  all_goals unfold cmpI at *
  all_goals (split at * <;> (try split at *) <;> omega)
theorem A_lcmp_lt {x y : Int} {off : Int} {pc1 tgt : Nat} (hd : decode cc pc = .ok (.lcmp, 1)) (hp : pc + 1 = pc1) (hd2 : decode cc pc1 = .ok (.ifCond .lt off, 3)) (hg : (pc1 : Int) + off = (tgt : Int)) (ht : (wL x < wL y) → AW G o cc nL ret ini rm n0 Z tgt ls st n N R) (hf : ¬ (wL x < wL y) → AW G o cc nL ret ini rm n0 Z (pc1 + 3) ls st n N R) : AW G o cc nL ret ini rm n0 Z pc ls (vL y :: vL x :: st) n N R := by
  subst hp
  have e1 : wI (cmpI (wL x) (wL y)) = cmpI (wL x) (wL y) := wI_id (by unfold cmpI; split <;> (try split) <;> omega) (by unfold cmpI; split <;> (try split) <;> omega)
  refine A_lcmp hd (A_if_lt hd2 hg (fun q => ht ?_) (fun q => hf (fun z => q ?_)))
  all_goals rw [e1] at *
  all_goals unfold cmpI at *
  all_goals (split at * <;> (try split at *) <;> omega)
theorem A_lcmp_ge {x y : Int} {off : Int} {pc1 tgt : Nat} (hd : decode cc pc = .ok (.lcmp, 1)) (hp : pc + 1 = pc1) (hd2 : decode cc pc1 = .ok (.ifCond .ge off, 3)) (hg : (pc1 : Int) + off = (tgt : Int)) (ht : (wL y ≤ wL x) → AW G o cc nL ret ini rm n0 Z tgt ls st n N R) (hf : ¬ (wL y ≤ wL x) → AW G o cc nL ret ini rm n0 Z (pc1 + 3) ls st n N R) : AW G o cc nL ret ini rm n0 Z pc ls (vL y :: vL x :: st) n N R := by
  subst hp
  have e1 : wI (cmpI (wL x) (wL y)) = cmpI (wL x) (wL y) := wI_id (by unfold cmpI; split <;> (try split) <;> omega) (by unfold cmpI; split <;> (try split) <;> omega)
  refine A_lcmp hd (A_if_ge hd2 hg (fun q => ht ?_) (fun q => hf (fun z => q ?_)))
  all_goals rw [e1] at *
  all_goals unfold cmpI at *
  all_goals (split at * <;> (try split at *) <;> omega)
theorem A_lcmp_gt {x y : Int} {off : Int} {pc1 tgt : Nat} (hd : decode cc pc = .ok (.lcmp, 1)) (hp : pc + 1 = pc1) (hd2 : decode cc pc1 = .ok (.ifCond .gt off, 3)) (hg : (pc1 : Int) + off = (tgt : Int)) (ht : (wL y < wL x) → AW G o cc nL ret ini rm n0 Z tgt ls st n N R) (hf : ¬ (wL y < wL x) → AW G o cc nL ret ini rm n0 Z (pc1 + 3) ls st n N R) : AW G o cc nL ret ini rm n0 Z pc ls (vL y :: vL x :: st) n N R := by
  subst hp
  have e1 : wI (cmpI (wL x) (wL y)) = cmpI (wL x) (wL y) := wI_id (by unfold cmpI; split <;> (try split) <;> omega) (by unfold cmpI; split <;> (try split) <;> omega)
  refine A_lcmp hd (A_if_gt hd2 hg (fun q => ht ?_) (fun q => hf (fun z => q ?_)))
  all_goals rw [e1] at *
  all_goals unfold cmpI at *
  all_goals (split at * <;> (try split at *) <;> omega)
theorem A_lcmp_le {x y : Int} {off : Int} {pc1 tgt : Nat} (hd : decode cc pc = .ok (.lcmp, 1)) (hp : pc + 1 = pc1) (hd2 : decode cc pc1 = .ok (.ifCond .le off, 3)) (hg : (pc1 : Int) + off = (tgt : Int)) (ht : (wL x ≤ wL y) → AW G o cc nL ret ini rm n0 Z tgt ls st n N R) (hf : ¬ (wL x ≤ wL y) → AW G o cc nL ret ini rm n0 Z (pc1 + 3) ls st n N R) : AW G o cc nL ret ini rm n0 Z pc ls (vL y :: vL x :: st) n N R := by
  subst hp
  have e1 : wI (cmpI (wL x) (wL y)) = cmpI (wL x) (wL y) := wI_id (by unfold cmpI; split <;> (try split) <;> omega) (by unfold cmpI; split <;> (try split) <;> omega)
  refine A_lcmp hd (A_if_le hd2 hg (fun q => ht ?_) (fun q => hf (fun z => q ?_)))
  all_goals rw [e1] at *
  all_goals unfold cmpI at *
  all_goals (split at * <;> (try split at *) <;> omega)
theorem A_goto  {off : Int} {tgt : Nat} (hd : decode cc pc = .ok (.goto off, 3)) (hg : (pc : Int) + off = (tgt : Int)) (h : AW G o cc nL ret ini rm n0 Z tgt ls st n N R) : AW G o cc nL ret ini rm n0 Z pc ls st n N R := by
  intro p e s m args below meth c H locs la C hn hP hS hz hl
  exact lv_goto C.1 C.2.1 hd hg (h p e s m args below meth c H locs la C hn hP hS hz hl)
theorem A_ifnull  {c0 i0 : Nat} {off : Int} (hd : decode cc pc = .ok (.ifnull off, 3)) (h : AW G o cc nL ret ini rm n0 Z (pc + 3) ls st n N R) : AW G o cc nL ret ini rm n0 Z pc ls (vR c0 i0 :: st) n N R := by
  intro p e s m args below meth c H locs la C hn hP hS hz hl
  exact lv_ifnull C.1 C.2.1 hd (h p e s m args below meth c H locs la C hn hP hS hz hl)
theorem A_ifnullN  {off : Int} {tgt : Nat} (hd : decode cc pc = .ok (.ifnull off, 3)) (hg : (pc : Int) + off = (tgt : Int)) (h : AW G o cc nL ret ini rm n0 Z tgt ls st n N R) : AW G o cc nL ret ini rm n0 Z pc ls (vN :: st) n N R := by
  intro p e s m args below meth c H locs la C hn hP hS hz hl
  exact lv_ifnullN C.1 C.2.1 hd hg (h p e s m args below meth c H locs la C hn hP hS hz hl)
theorem A_ifnonnull  {c0 i0 : Nat} {off : Int} {tgt : Nat} (hd : decode cc pc = .ok (.ifnonnull off, 3)) (hg : (pc : Int) + off = (tgt : Int)) (h : AW G o cc nL ret ini rm n0 Z tgt ls st n N R) : AW G o cc nL ret ini rm n0 Z pc ls (vR c0 i0 :: st) n N R := by
  intro p e s m args below meth c H locs la C hn hP hS hz hl
  exact lv_ifnonnull C.1 C.2.1 hd hg (h p e s m args below meth c H locs la C hn hP hS hz hl)
theorem A_ifnonnullN  {off : Int} (hd : decode cc pc = .ok (.ifnonnull off, 3)) (h : AW G o cc nL ret ini rm n0 Z (pc + 3) ls st n N R) : AW G o cc nL ret ini rm n0 Z pc ls (vN :: st) n N R := by
  intro p e s m args below meth c H locs la C hn hP hS hz hl
  exact lv_ifnonnullN C.1 C.2.1 hd (h p e s m args below meth c H locs la C hn hP hS hz hl)
theorem A_tableOut {x lo hi dflt : Int} {offs : Array Int} {len tgt : Nat} (hd : decode cc pc = .ok (.tableswitch dflt lo hi offs, len)) (hx : wI x < lo ∨ hi < wI x) (hg : (pc : Int) + dflt = (tgt : Int)) (h : AW G o cc nL ret ini rm n0 Z tgt ls st n N R) : AW G o cc nL ret ini rm n0 Z pc ls (vI x :: st) n N R := by
  intro p e s m args below meth c H locs la C hn hP hS hz hl
  exact lv_tableOut C.1 C.2.1 hd (by rw [oI_toInt]; exact hx) hg (h p e s m args below meth c H locs la C hn hP hS hz hl)
theorem A_tableIn {x lo hi dflt off k : Int} {offs : Array Int} {len tgt : Nat} (hd : decode cc pc = .ok (.tableswitch dflt lo hi offs, len)) (hx : wI x = k) (h1 : lo ≤ k ∧ k ≤ hi) (ho : offs[(k - lo).toNat]? = some off) (hg : (pc : Int) + off = (tgt : Int)) (h : AW G o cc nL ret ini rm n0 Z tgt ls st n N R) : AW G o cc nL ret ini rm n0 Z pc ls (vI x :: st) n N R := by
  intro p e s m args below meth c H locs la C hn hP hS hz hl
  subst hx
  exact lv_tableIn C.1 C.2.1 hd (by rw [oI_toInt]; omega) (by rw [oI_toInt]; omega) (by rw [oI_toInt]; exact ho) hg (h p e s m args below meth c H locs la C hn hP hS hz hl)
theorem A_locals {ls' : List (Nat × AV)} (hs : ∀ q ∈ ls', q ∈ ls) (h : AW G o cc nL ret ini rm n0 Z pc ls' st n N R) : AW G o cc nL ret ini rm n0 Z pc ls st n N R := by
  intro p e s m args below meth c H locs la C hn hP hS hz hl
  refine h p e s m args below meth c H locs la C hn hP hS hz ⟨hl.1, hl.2.1, fun q hq => hl.2.2 q ?_⟩
  obtain ⟨r, hr, rfl⟩ := List.mem_map.mp hq
  exact List.mem_map.mpr ⟨r, hs r hr, rfl⟩
end AWR
