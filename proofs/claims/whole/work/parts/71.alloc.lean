/-! new cells, at the next place -/
theorem ws_push {G : GT} {n : Nat} {N : NN} {R : RR} : ws G (n + 1) N R = ws G n N R ++ [(gB G + n, EE G N R (layF n))] := by
  unfold ws
  rw [List.range_succ, List.map_append]
  rfl
theorem P_grow {G : GT} {n : Nat} {N : NN} {R : RR} {H H1 : Heap} (hP : va_P (gD G) vwCl (ws G n N R) H) (hold : ∀ q : Nat, q < H.size → H1[q]? = H[q]?) (hnew : va_at (gD G) vwCl (gB G + n, EE G N R (layF n)) H1) : va_P (gD G) vwCl (ws G (n + 1) N R) H1 := by
  rw [ws_push]
  refine (hP.kept fun k x hx => hold x.1 ((hP k x hx).lt)).app fun k x hx => ?_
  have h0 : k < 1 := (List.getElem?_eq_some_iff.mp hx).1
  rw [show k = 0 by omega] at hx
  cases hx
  exact hnew
theorem S_grow {G : GT} {s : State} {H H1 : Heap} {locs : List Loc} (hS : va_S (own G) s.heap H locs) (hz : H.size ≤ H1.size) (hold : ∀ q : Nat, q < H.size → H1[q]? = H[q]?) : va_S (own G) s.heap H1 locs :=
  ⟨Nat.le_trans hS.1 hz, fun x h1 h2 => (hold x (Nat.lt_of_lt_of_le h1 hS.1)).trans (hS.2.1 x h1 h2), hS.2.2⟩
theorem dfl_ok (t : FieldType) (h1 : t ≠ .float) (h2 : t ≠ .double) : defaultValue t = (match tagOf t with | 0 => .int 0 | 1 => .long 0 | _ => .null) := by
  cases t <;> first | rfl | exact absurd rfl h1 | exact absurd rfl h2
def flt (t : FieldType) : Bool := match t with
  | .float => true
  | .double => true
  | _ => false
theorem flt_no {t : FieldType} (h : flt t = false) : t ≠ .float ∧ t ≠ .double := by
  constructor <;> · rintro rfl; cases h
theorem fld_no : ∀ c, c < 11 → ∀ k, k < nf c → flt (tyC c k) = false := by decide +kernel
theorem tag_3 (t : FieldType) : tagOf t = 0 ∨ tagOf t = 1 ∨ tagOf t = 2 := by cases t <;> simp [tagOf]
theorem arr_no : ∀ c, c < 86 → flt (aT c) = false := by decide +kernel
section AWN
variable {G : GT} {o : String} {cc : ByteArray} {nL : Nat} {ret : Option FieldType} {ini : Bool} {rm : Room} {n0 : Nat} {Z : ZT} {pc : Nat} {ls : List (Nat × AV)} {st : List AV} {n : Nat} {N : NN} {R : RR}
theorem A_new {idx c i : Nat} {C0 : String} {T0 : u_T} {k0 : Nat} (hd : decode cc pc = .ok (.new idx, 3)) (F : CF c C0 T0 k0) (hcl : Cond.classLink o idx C0 ∈ ALL) (hinst : Cond.instantiable C0 k0 ∈ ALL) (hini : Cond.initialized C0 ∈ ALL) (hL : layF n = (c, i)) (hn1 : n < TOT) (hce : n + 1 - n0 ≤ rm.cells ∧ su (n + 1) - su n0 ≤ rm.slots) (hN : ∀ k, N c i k = 0) (hR : ∀ k, R c i k = none)
    (h : AW G o cc nL ret ini rm n0 Z (pc + 3) ls (vR c i :: st) (n + 1) N R) : AW G o cc nL ret ini rm n0 Z pc ls st n N R := by
  intro p e s m args below meth cx H locs la C hn hP hS hz hl
  have hts := C.2.2.2.2.2.1
  have hK := C.2.2.2.2.2.2.2.2.2.1
  have hKn := hK.1 c _ F.1
  have m1 := su_mono hn.2
  have es : su (n + 1) = su n + k0 := by
    show su n + szOf (layF n).1 = _
    rw [hL]
    unfold szOf
    rw [if_pos F.2.2.1, F.2.1]
  have hp : pos (c, i) = n := by rw [← hL]; exact lay_pos n hn1
  have hi : i < cnt c := by
    rcases Nat.lt_or_ge i (cnt c) with q | q
    · exact q
    · exfalso
      have : ∀ q, q < TOT → (layF q).2 < cnt (layF q).1 := by decide +kernel
      have := this n hn1
      rw [hL] at this
      exact Nat.not_lt_of_le q this
  refine W.newcK C.1 C.2.1 C.2.2.2.2.2.2.1 (hts _ hcl) (hts _ hinst) (hts _ hini) rfl hd (by omega) (by omega) hKn.2.1 rfl fun H1 kC hkC e1 z1 o1 => ?_
  have hnew : va_at (gD G) vwCl (gB G + n, EE G N R (layF n)) H1 := by
    rw [hL, EE_obj F.2.2.1]
    rw [hz] at e1
    refine ⟨_, F.1, (u_born (tyC c) hts F.2.2.2.1 hKn hkC e1 F.2.2.2.2.1).to fun j hj => ?_⟩
    have nd := flt_no (fld_no c F.2.2.1 j (by rw [F.2.1]; exact hj))
    unfold vp_V
    rw [List.getD_eq_getElem?_getD, List.getElem?_map, List.getElem?_range (by rw [F.2.1]; exact hj), Option.map_some, Option.getD_some, dfl_ok _ nd.1 nd.2]
    unfold slot
    rw [hN, hR]
    rcases tag_3 (tyC c j) with t | t | t <;> rw [t] <;> rfl
  have w := h p e s m args below meth cx H1 locs la C ⟨by omega, by omega⟩ (P_grow hP o1 hnew) (S_grow hS (by omega) o1) (by rw [z1, hz]; omega) hl
  have c1 : n + 1 - n0 = n - n0 + 1 := by omega
  have c2 : su (n + 1) - su n0 = su n - su n0 + k0 := by omega
  rw [c1, c2] at w
  have ea : cv G (vR c i) = .ref H.size := by
    show Value.ref (ad G (c, i)) = _
    rw [ad_ok hi, hp, hz]
  show W _ _ _ _ _ _ _ _ _ _ _ _ _ _ _ (F0 m (pc + 3) la (.ref H.size :: st.map (cv G)))
  rw [← ea]
  exact w
theorem lay_in : ∀ q, q < TOT → (layF q).2 < cnt (layF q).1 := by decide +kernel
theorem lay_ok {n c i : Nat} (hL : layF n = (c, i)) (hn1 : n < TOT) : i < cnt c ∧ pos (c, i) = n := by
  refine ⟨?_, by rw [← hL]; exact lay_pos n hn1⟩
  have := lay_in n hn1
  rw [hL] at this
  exact this
theorem arr_default {G : GT} {N : NN} {R : RR} {c i : Nat} (hf : flt (aT c) = false) (hN : ∀ k, N c i k = 0) (hR : ∀ k, R c i k = none) (cA : ClassId) : vp_cell cA (aN c, arrE G N R c i) = arrV cA (aN c) (fun _ => defaultValue (aT c)) := by
  have nd := flt_no hf
  rw [dfl_ok _ nd.1 nd.2]
  rcases tag_3 (aT c) with t | t | t
  · rw [arrE_0 t, t, vp_cell_i]
    simp only [hN]
    rfl
  · rw [arrE_1 t, t, vp_cell_l]
    simp only [hN]
    rfl
  · rw [arrE_2 t, t, vp_cell_q]
    simp only [hR]
    rfl
theorem A_newa {c i : Nat} {x : Int} {atype : ArrayType} (hd : decode cc pc = .ok (.newarray atype, 2)) (h2 : 20 ≤ c) (hT : newarray.typeOf atype = aT c) (harr : Cond.arrayClass (aT c) ∈ ALL) (hx : x = (aN c : Nat)) (hsm : aN c ≤ 2000) (hL : layF n = (c, i)) (hn1 : n < TOT) (hce : n + 1 - n0 ≤ rm.cells ∧ su (n + 1) - su n0 ≤ rm.slots) (hN : ∀ k, N c i k = 0) (hR : ∀ k, R c i k = none)
    (h : AW G o cc nL ret ini rm n0 Z (pc + 2) ls (vR c i :: st) (n + 1) N R) : AW G o cc nL ret ini rm n0 Z pc ls (vI x :: st) n N R := by
  intro p e s m args below meth cx H locs la C hn hP hS hz hl
  subst hx
  have hts := C.2.2.2.2.2.1
  have hK := C.2.2.2.2.2.2.2.2.2.1
  have m1 := su_mono hn.2
  obtain ⟨hi, hp⟩ := lay_ok hL hn1
  have c86 := cnt_lt hi
  have es : su (n + 1) = su n + aN c := by
    show su n + szOf (layF n).1 = _
    rw [hL]
    unfold szOf
    rw [if_neg (show ¬ c < 11 by omega)]
  have hk := hK.2 _ _ (tys_at (G := G) h2 hi)
  have hcl : (Int32.ofInt ((aN c : Nat) : Int)).toNatClampNeg = aN c := ix_cl (wI_id (by omega) (by omega))
  have hnn : ¬ Int32.ofInt ((aN c : Nat) : Int) < 0 := by rw [oI_lt0, wI_id (by omega) (by omega)]; omega
  have hb8 : ∀ t : FieldType, componentBytes t ≤ 8 := by intro t; cases t <;> exact Nat.le_of_ble_eq_true rfl
  have hb := hb8 (newarray.typeOf atype)
  refine va_newaK C.1 C.2.1 (by rw [hT]; exact hts _ harr) rfl hd rfl hnn hcl (by have := Nat.mul_le_mul hsm hb; omega) (by omega) (by omega) rfl fun H1 cA e1 z1 o1 hAr hNm => ?_
  have hf : flt (aT c) = false := arr_no c c86
  have eA : cA = gA G (tix c) := by
    rw [hT] at hNm
    have h3 := hk.2
    have : s.vm.findClass ("[" ++ (aT c).toString) = some (gA G (tix c)) := by
      rw [← hT] at h3 ⊢
      cases atype <;> exact h3
    rw [hNm] at this
    exact Option.some.inj this
  subst eA
  have hnew : va_at (gD G) vwCl (gB G + n, EE G N R (layF n)) H1 := by
    rw [hL, EE_arr h2]
    show H1[gB G + n]? = some (vp_cell _ _)
    rw [arr_default hf hN hR, ← hz, ← hT]
    exact e1
  have w := h p e s m args below meth cx H1 locs la C ⟨by omega, by omega⟩ (P_grow hP o1 hnew) (S_grow hS (by omega) o1) (by rw [z1, hz]; omega) hl
  have c1 : n + 1 - n0 = n - n0 + 1 := by omega
  have c2 : su (n + 1) - su n0 = su n - su n0 + aN c := by omega
  rw [c1, c2] at w
  have ea : cv G (vR c i) = .ref H.size := by
    show Value.ref (ad G (c, i)) = _
    rw [ad_ok hi, hp, hz]
  show W _ _ _ _ _ _ _ _ _ _ _ _ _ _ _ (F0 m (pc + 2) la (.ref H.size :: st.map (cv G)))
  rw [← ea]
  exact w
theorem A_anew {c i idx : Nat} {x : Int} {C0 : String} (hd : decode cc pc = .ok (.anewarray idx, 3)) (h2 : 20 ≤ c) (hT : aT c = .object C0) (hcl0 : Cond.classLink o idx C0 ∈ ALL) (hao : C0 ∈ aoW) (hx : x = (aN c : Nat)) (hsm : aN c ≤ 2000) (hL : layF n = (c, i)) (hn1 : n < TOT) (hce : n + 1 - n0 ≤ rm.cells ∧ su (n + 1) - su n0 ≤ rm.slots) (hN : ∀ k, N c i k = 0) (hR : ∀ k, R c i k = none)
    (h : AW G o cc nL ret ini rm n0 Z (pc + 3) ls (vR c i :: st) (n + 1) N R) : AW G o cc nL ret ini rm n0 Z pc ls (vI x :: st) n N R := by
  intro p e s m args below meth cx H locs la C hn hP hS hz hl
  subst hx
  have hts := C.2.2.2.2.2.1
  have hK := C.2.2.2.2.2.2.2.2.2.1
  have hE := C.2.2.2.2.2.2.2.2.1
  have m1 := su_mono hn.2
  obtain ⟨hi, hp⟩ := lay_ok hL hn1
  have es : su (n + 1) = su n + aN c := by
    show su n + szOf (layF n).1 = _
    rw [hL]
    unfold szOf
    rw [if_neg (show ¬ c < 11 by omega)]
  have hk := hK.2 _ _ (tys_at (G := G) h2 hi)
  have hcl : (Int32.ofInt ((aN c : Nat) : Int)).toNatClampNeg = aN c := ix_cl (wI_id (by omega) (by omega))
  have hnn : ¬ Int32.ofInt ((aN c : Nat) : Int) < 0 := by rw [oI_lt0, wI_id (by omega) (by omega)]; omega
  refine W.anew C.1 C.2.1 C.2.2.2.2.2.2.1 (hts _ hcl0) (va_AO.use (hE.2.2.2.2.2.2.2.2.1 _ hao)) rfl hd rfl hnn (by rw [hcl]; omega) (by omega) (by rw [hcl]; omega) fun cA kA comp f1 f2 f3 f4 => ?_
  generalize hH1 : H.push ({ cls := cA, slots := Array.replicate (Int32.ofInt ((aN c : Nat) : Int)).toNatClampNeg .null, vm := .none } : Cell) = H1
  have z1 : H1.size = H.size + 1 := by rw [← hH1, Array.size_push]
  have e1 : H1[H.size]? = some (arrV cA (aN c) (fun _ => .null)) := by rw [← hH1, Array.getElem?_push_size, ← arrV_new, hcl]
  have o1 : ∀ q : Nat, q < H.size → H1[q]? = H[q]? := fun q hq => by rw [← hH1, Array.getElem?_push, if_neg (Nat.ne_of_lt hq)]
  have eA : cA = gA G (tix c) := by
    have h3 := hk.2
    rw [hT] at h3
    obtain ⟨kA', comp', q1, q2, q3, q4⟩ := h3
    rw [f1] at q4
    exact Option.some.inj q4
  subst eA
  have hnew : va_at (gD G) vwCl (gB G + n, EE G N R (layF n)) H1 := by
    rw [hL, EE_arr h2]
    show H1[gB G + n]? = some (vp_cell _ _)
    rw [arr_default (by rw [hT]; rfl) hN hR, ← hz, hT]
    exact e1
  have w := h p e s m args below meth cx H1 locs la C ⟨by omega, by omega⟩ (P_grow hP o1 hnew) (S_grow hS (by omega) o1) (by rw [z1, hz]; omega) hl
  have c1 : n + 1 - n0 = n - n0 + 1 := by omega
  have c2 : su (n + 1) - su n0 = su n - su n0 + (Int32.ofInt ((aN c : Nat) : Int)).toNatClampNeg := by rw [hcl]; omega
  rw [c1, c2] at w
  have ea : cv G (vR c i) = .ref H.size := by
    show Value.ref (ad G (c, i)) = _
    rw [ad_ok hi, hp, hz]
  show W _ _ _ _ _ _ _ _ _ _ _ _ _ _ _ (F0 m (pc + 3) la (.ref H.size :: st.map (cv G)))
  rw [← ea]
  exact w
theorem A_objInit {idx c i : Nat} (hd : decode cc pc = .ok (.invokespecial idx, 3)) (hw : Cond.methodLink o idx Lib.objectInit ∈ ALL) (hi : Cond.instanceMethod Lib.objectInit ∈ ALL) (hc : Cond.code Lib.objectInit ⟨#[0xb1]⟩ 1 none ∈ ALL) (hst : (st.map fun v => if isL v then 2 else 1).sum ≤ 8) (hf : 1 ≤ rm.frames) (hlo : 30 ≤ rm.locals) (h : AW G o cc nL ret ini rm n0 Z (pc + 3) ls st n N R) : AW G o cc nL ret ini rm n0 Z pc ls (vR c i :: st) n N R := by
  intro p e s m args below meth cx H locs la C hn hP hS hz hl
  have hts := C.2.2.2.2.2.1
  have hr := st_room (G := G) (m := m) (pc := pc) (la := la) (s0 := cv G (vR c i) :: st.map (cv G)) hst
  exact W.objInit C.1 C.2.1 C.2.2.2.2.2.2.1 (hts _ hw) (hts _ hi) (hts _ hc) rfl (by rw [C.2.2.1]; exact hl.1) rfl hd hf (Nat.le_trans (Nat.add_le_add_right hr 12) (by omega)) (h p e s m args below meth cx H locs la C hn hP hS hz hl)
end AWN
theorem arrV_ext {cA : ClassId} {n : Nat} {f g : Nat → Value} (h : ∀ j, j < n → f j = g j) : arrV cA n f = arrV cA n g := by
  unfold arrV
  congr 2
  funext j
  exact h j.1 j.2
theorem P_many {G : GT} {n : Nat} {N : NN} {R : RR} {H1 : Heap} (hP : va_P (gD G) vwCl (ws G n N R) H1) : ∀ k : Nat, (∀ j, j < k → va_at (gD G) vwCl (gB G + (n + j), EE G N R (layF (n + j))) H1) → va_P (gD G) vwCl (ws G (n + k) N R) H1
  | 0, _ => hP
  | k + 1, h => P_grow (P_many hP k fun j hj => h j (by omega)) (fun _ _ => rfl) (h k (by omega))
def rowsR (R : RR) (i : Nat) : RR := fun c i' k => if c = 32 ∧ i' = i ∧ k < 10 then some (33, 10 * i + k) else R c i' k
