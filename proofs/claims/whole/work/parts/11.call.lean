/-! ===== contracts over the world by codes ===== -/
def xw_B (D : va_G) (tys : List (ClassId × FieldType)) (base N : Nat) (ad : Nat → Nat) (ce : Nat → va_E) (U : State) : Prop :=
  base ≤ U.heap.size ∧ va_P D vwCl (xw_wd N ad ce) U.heap ∧ va_K D vwCl tys U
abbrev xk_Pc (D : va_G) (tys : List (ClassId × FieldType)) (base N : Nat) (ad : Nat → Nat) (av : List Value) (ce : Nat → va_E) : Array Value → State → Prop := va_Pc av (fun U => xw_B D tys base N ad ce U ∧ xw_Z base U)
abbrev xk_Qi (D : va_G) (tys : List (ClassId × FieldType)) (base N : Nat) (ad : Nat → Nat) (ce' : Nat → va_E) (r : Int32) : Array Value → State → Outcome → State → Prop := va_Qi (fun (r' : Int32) (_ : Unit) => r' = r) (fun _ t => xw_B D tys base N ad ce' t) (fun q => base ≤ q)
abbrev xk_Qv (D : va_G) (tys : List (ClassId × FieldType)) (base N : Nat) (ad : Nat → Nat) (ce' : Nat → va_E) : Array Value → State → Outcome → State → Prop := va_Qv (fun (_ : Unit) => True) (fun _ t => xw_B D tys base N ad ce' t) (fun q => base ≤ q)
/-- an int method: from ce it comes to ce', the answer is r -/
def xk_i (l : Launch) (y : MethodName) (cc : ByteArray) (nL : Nat) (ret : Option FieldType) (rm : Room) (D : va_G) (tys : List (ClassId × FieldType)) (base N : Nat) (ad : Nat → Nat) (av : List Value) (ce ce' : Nat → va_E) (r : Int32) : Prop :=
  Met l y (Cond.code y cc nL ret :: xw_big) rm (xk_Pc D tys base N ad av ce) (xk_Qi D tys base N ad ce' r) 0 0 (fun q => base ≤ q)
def xk_v (l : Launch) (y : MethodName) (cc : ByteArray) (nL : Nat) (ret : Option FieldType) (rm : Room) (D : va_G) (tys : List (ClassId × FieldType)) (base N : Nat) (ad : Nat → Nat) (av : List Value) (ce ce' : Nat → va_E) : Prop :=
  Met l y (Cond.code y cc nL ret :: xw_big) rm (xk_Pc D tys base N ad av ce) (xk_Qv D tys base N ad ce') 0 0 (fun q => base ≤ q)
/-- methods that may throw: the outcome o is an int (0 of a void one) or the exception's class -/
abbrev xk_XC (D : va_G) (tys : List (ClassId × FieldType)) (base N : Nat) (ad : Nat → Nat) (ce' : Nat → va_E) (o : Int32 ⊕ String) : String → State → State → Prop := vx_X (fun (_ : Unit) => True) (fun E _ t => o = .inr E ∧ xw_B D tys base N ad ce' t) (fun q => base ≤ q)
abbrev xk_Qxi (D : va_G) (tys : List (ClassId × FieldType)) (base N : Nat) (ad : Nat → Nat) (ce' : Nat → va_E) (o : Int32 ⊕ String) : Array Value → State → Outcome → State → Prop := va_Qi (fun (r' : Int32) (_ : Unit) => o = .inl r') (fun _ t => xw_B D tys base N ad ce' t) (fun q => base ≤ q)
abbrev xk_Qxv (D : va_G) (tys : List (ClassId × FieldType)) (base N : Nat) (ad : Nat → Nat) (ce' : Nat → va_E) (o : Int32 ⊕ String) : Array Value → State → Outcome → State → Prop := va_Qv (fun (_ : Unit) => o = .inl 0) (fun _ t => xw_B D tys base N ad ce' t) (fun q => base ≤ q)
def xk_xi (l : Launch) (y : MethodName) (cc : ByteArray) (nL : Nat) (ret : Option FieldType) (rm : Room) (D : va_G) (tys : List (ClassId × FieldType)) (base N : Nat) (ad : Nat → Nat) (av : List Value) (ce ce' : Nat → va_E) (o : Int32 ⊕ String) (mc ms : Nat) : Prop :=
  vx_Met l y (Cond.code y cc nL ret :: xw_big) rm (xk_Pc D tys base N ad av ce) (xk_Qxi D tys base N ad ce' o) (xk_XC D tys base N ad ce' o) mc ms (fun q => base ≤ q)
def xk_xv (l : Launch) (y : MethodName) (cc : ByteArray) (nL : Nat) (ret : Option FieldType) (rm : Room) (D : va_G) (tys : List (ClassId × FieldType)) (base N : Nat) (ad : Nat → Nat) (av : List Value) (ce ce' : Nat → va_E) (o : Int32 ⊕ String) (mc ms : Nat) : Prop :=
  vx_Met l y (Cond.code y cc nL ret :: xw_big) rm (xk_Pc D tys base N ad av ce) (xk_Qxv D tys base N ad ce' o) (xk_XC D tys base N ad ce' o) mc ms (fun q => base ≤ q)
/-! what a body owes at its end -/
abbrev xw_qi (G : xwG) (N : Nat) (ad : Nat → Nat) (ce' : Nat → va_E) (r : Int32) : State → Prop := MQ (xgb G) (xk_Qi (xgD G) (xgt G) (xgB G) N ad ce' r) (xga G) (xgs G) 0 0 (fun q => xgB G ≤ q)
abbrev xw_qv (G : xwG) (N : Nat) (ad : Nat → Nat) (ce' : Nat → va_E) : State → Prop := MQ (xgb G) (xk_Qv (xgD G) (xgt G) (xgB G) N ad ce') (xga G) (xgs G) 0 0 (fun q => xgB G ≤ q)
abbrev xw_qxi (G : xwG) (N : Nat) (ad : Nat → Nat) (ce' : Nat → va_E) (o : Int32 ⊕ String) (mc ms : Nat) : State → Prop := vx_MQ (xgb G) (xk_Qxi (xgD G) (xgt G) (xgB G) N ad ce' o) (xk_XC (xgD G) (xgt G) (xgB G) N ad ce' o) (xga G) (xgs G) mc ms (fun q => xgB G ≤ q)
abbrev xw_qxv (G : xwG) (N : Nat) (ad : Nat → Nat) (ce' : Nat → va_E) (o : Int32 ⊕ String) (mc ms : Nat) : State → Prop := vx_MQ (xgb G) (xk_Qxv (xgD G) (xgt G) (xgB G) N ad ce' o) (xk_XC (xgD G) (xgt G) (xgB G) N ad ce' o) (xga G) (xgs G) mc ms (fun q => xgB G ≤ q)
section XE
variable {l : Launch} {y : MethodName} {cc : ByteArray} {nL : Nat} {ret : Option FieldType} {rm : Room} {D : va_G} {tys : List (ClassId × FieldType)} {base N : Nat} {ad : Nat → Nat} {av : List Value} {ce ce' : Nat → va_E} {r : Int32} {o : Int32 ⊕ String} {mc ms : Nat}
theorem xk_ofi (q : Nat) (hy : plainName y.cls = true) (hJ : xw_J N ad base) (hc : ∀ v ∈ av, v.category = 1) (hlen : (lg_sl av).length ≤ nL)
    (body : ∀ G : xwG, xgl G = l → xgR G = rm → xgD G = D → xgt G = tys → xgB G = base → (xgM G).sig.returnType = ret → xw_C G cc nL y.cls N ad → XW G (xw_qi G N ad ce' r) nL 0 0 N ad ce 0 (av.map some ++ List.replicate q none) []) : xk_i l y cc nL ret rm D tys base N ad av ce ce' r := by
  refine Met.ofW (cc := cc) (maxL := nL) (ret := ret) hy rfl ?_
  intro p e s m args below meth c s₁ B hml hv
  obtain ⟨rfl, ⟨hb0, hP, hK⟩, hZ⟩ := hv
  have h := body (p, l, e, rm, s, m, av.toArray, below, meth, c, D, tys, base) rfl rfl rfl rfl rfl B.returns ⟨B.exec, B.bytes, hml, findClass_of_methodNamed B.named, fun w hw => atoms_spec B.pre w (List.mem_cons_of_mem _ hw), hK, hb0, B.notSynchronized, hJ, hZ⟩
  rw [lg_entry_eq]
  exact h s.heap [] _ hP va_S.rf (xw_entry av q hlen hc)
theorem xk_ofv (q : Nat) (hy : plainName y.cls = true) (hJ : xw_J N ad base) (hc : ∀ v ∈ av, v.category = 1) (hlen : (lg_sl av).length ≤ nL)
    (body : ∀ G : xwG, xgl G = l → xgR G = rm → xgD G = D → xgt G = tys → xgB G = base → (xgM G).sig.returnType = ret → xw_C G cc nL y.cls N ad → XW G (xw_qv G N ad ce') nL 0 0 N ad ce 0 (av.map some ++ List.replicate q none) []) : xk_v l y cc nL ret rm D tys base N ad av ce ce' := by
  refine Met.ofW (cc := cc) (maxL := nL) (ret := ret) hy rfl ?_
  intro p e s m args below meth c s₁ B hml hv
  obtain ⟨rfl, ⟨hb0, hP, hK⟩, hZ⟩ := hv
  have h := body (p, l, e, rm, s, m, av.toArray, below, meth, c, D, tys, base) rfl rfl rfl rfl rfl B.returns ⟨B.exec, B.bytes, hml, findClass_of_methodNamed B.named, fun w hw => atoms_spec B.pre w (List.mem_cons_of_mem _ hw), hK, hb0, B.notSynchronized, hJ, hZ⟩
  rw [lg_entry_eq]
  exact h s.heap [] _ hP va_S.rf (xw_entry av q hlen hc)
theorem xk_ofxi (q : Nat) (hy : plainName y.cls = true) (hJ : xw_J N ad base) (hc : ∀ v ∈ av, v.category = 1) (hlen : (lg_sl av).length ≤ nL)
    (body : ∀ G : xwG, xgl G = l → xgR G = rm → xgD G = D → xgt G = tys → xgB G = base → (xgM G).sig.returnType = ret → (∀ x ∈ (xgc G).exceptionTable.toList, False) → xw_C G cc nL y.cls N ad → XW G (xw_qxi G N ad ce' o mc ms) nL 0 0 N ad ce 0 (av.map some ++ List.replicate q none) []) : xk_xi l y cc nL ret rm D tys base N ad av ce ce' o mc ms := by
  refine vx_ofW (cc := cc) (maxL := nL) (ret := ret) hy rfl ?_
  intro p e s m args below meth c s₁ B hml hE hv
  obtain ⟨rfl, ⟨hb0, hP, hK⟩, hZ⟩ := hv
  have h := body (p, l, e, rm, s, m, av.toArray, below, meth, c, D, tys, base) rfl rfl rfl rfl rfl B.returns hE ⟨B.exec, B.bytes, hml, findClass_of_methodNamed B.named, fun w hw => atoms_spec B.pre w (List.mem_cons_of_mem _ hw), hK, hb0, B.notSynchronized, hJ, hZ⟩
  rw [lg_entry_eq]
  exact h s.heap [] _ hP va_S.rf (xw_entry av q hlen hc)
theorem xk_ofxv (q : Nat) (hy : plainName y.cls = true) (hJ : xw_J N ad base) (hc : ∀ v ∈ av, v.category = 1) (hlen : (lg_sl av).length ≤ nL)
    (body : ∀ G : xwG, xgl G = l → xgR G = rm → xgD G = D → xgt G = tys → xgB G = base → (xgM G).sig.returnType = ret → (∀ x ∈ (xgc G).exceptionTable.toList, False) → xw_C G cc nL y.cls N ad → XW G (xw_qxv G N ad ce' o mc ms) nL 0 0 N ad ce 0 (av.map some ++ List.replicate q none) []) : xk_xv l y cc nL ret rm D tys base N ad av ce ce' o mc ms := by
  refine vx_ofW (cc := cc) (maxL := nL) (ret := ret) hy rfl ?_
  intro p e s m args below meth c s₁ B hml hE hv
  obtain ⟨rfl, ⟨hb0, hP, hK⟩, hZ⟩ := hv
  have h := body (p, l, e, rm, s, m, av.toArray, below, meth, c, D, tys, base) rfl rfl rfl rfl rfl B.returns hE ⟨B.exec, B.bytes, hml, findClass_of_methodNamed B.named, fun w hw => atoms_spec B.pre w (List.mem_cons_of_mem _ hw), hK, hb0, B.notSynchronized, hJ, hZ⟩
  rw [lg_entry_eq]
  exact h s.heap [] _ hP va_S.rf (xw_entry av q hlen hc)
end XE
section XF
variable {G : xwG} {Q : State → Prop} {cc : ByteArray} {own : String} {nL cells slots N : Nat} {ad : Nat → Nat} {ce : Nat → va_E} {pc : Nat} {lv : List (Option Value)} {st : List Value}
theorem xw_Bof (C : xw_C G cc nL own N ad) {H : Heap} {locs : List Loc} (hP : va_P (xgD G) vwCl (xw_wd N ad ce) H) (hS : va_S (fun q => xgB G ≤ q) (xgs G).heap H locs) {t : State} (ht : t.heap = H) (hW : (xgs G).vm.Alike t.vm) : xw_B (xgD G) (xgt G) (xgB G) N ad ce t :=
  ⟨by rw [ht]; exact Nat.le_trans C.2.2.2.2.2.2.1 hS.1, by rw [ht]; exact hP, va_K.moved hW C.2.2.2.2.2.1⟩
theorem xw_reti (C : xw_C G cc nL own N ad) (hr : (xgM G).sig.returnType = some .int) {v : Int32} (hd : decode cc pc = .ok (.ireturn, 1)) : XW G (xw_qi G N ad ce v) nL 0 0 N ad ce pc lv [.int v] :=
  fun H locs ls hP hS hL => W.iret C.1 C.2.1 hr (fun t ht hW => ⟨⟨v, (), rfl, rfl, xw_Bof C hP hS ht hW.alike⟩, hS.F ht⟩) hS.2.2 hd C.2.2.2.2.2.2.2.1
theorem xw_retz (C : xw_C G cc nL own N ad) (hr : (xgM G).sig.returnType = some .boolean) {v : Int32} (hz : v = 0 ∨ v = 1) (hd : decode cc pc = .ok (.ireturn, 1)) : XW G (xw_qi G N ad ce v) nL 0 0 N ad ce pc lv [.int v] :=
  fun H locs ls hP hS hL => W.zret C.1 C.2.1 hr (by rcases hz with rfl | rfl <;> decide) (fun t ht hW => ⟨⟨v, (), rfl, rfl, xw_Bof C hP hS ht hW.alike⟩, hS.F ht⟩) hS.2.2 hd C.2.2.2.2.2.2.2.1
theorem xw_retv (C : xw_C G cc nL own N ad) (hr : (xgM G).sig.returnType = none) (hd : decode cc pc = .ok (.return_, 1)) : XW G (xw_qv G N ad ce) nL 0 0 N ad ce pc lv [] :=
  fun H locs ls hP hS hL => W.vret C.1 C.2.1 hr (fun t ht hW => ⟨⟨(), rfl, trivial, xw_Bof C hP hS ht hW.alike⟩, hS.F ht⟩) hS.2.2 hd C.2.2.2.2.2.2.2.1
theorem xw_retxi (C : xw_C G cc nL own N ad) (hr : (xgM G).sig.returnType = some .int) {v : Int32} {mc ms : Nat} (hc : cells ≤ mc) (hs : slots ≤ ms) (hd : decode cc pc = .ok (.ireturn, 1)) : XW G (xw_qxi G N ad ce (.inl v) mc ms) nL cells slots N ad ce pc lv [.int v] :=
  fun H locs ls hP hS hL => W.widen hc hs (vx_ret (W.iret C.1 C.2.1 hr (fun t ht hW => ⟨⟨v, (), rfl, rfl, xw_Bof C hP hS ht hW.alike⟩, hS.F ht⟩) hS.2.2 hd C.2.2.2.2.2.2.2.1))
theorem xw_retxz (C : xw_C G cc nL own N ad) (hr : (xgM G).sig.returnType = some .boolean) {v : Int32} {mc ms : Nat} (hz : v = 0 ∨ v = 1) (hc : cells ≤ mc) (hs : slots ≤ ms) (hd : decode cc pc = .ok (.ireturn, 1)) : XW G (xw_qxi G N ad ce (.inl v) mc ms) nL cells slots N ad ce pc lv [.int v] :=
  fun H locs ls hP hS hL => W.widen hc hs (vx_ret (W.zret C.1 C.2.1 hr (by rcases hz with rfl | rfl <;> decide) (fun t ht hW => ⟨⟨v, (), rfl, rfl, xw_Bof C hP hS ht hW.alike⟩, hS.F ht⟩) hS.2.2 hd C.2.2.2.2.2.2.2.1))
theorem xw_retxv (C : xw_C G cc nL own N ad) (hr : (xgM G).sig.returnType = none) {mc ms : Nat} (hc : cells ≤ mc) (hs : slots ≤ ms) (hd : decode cc pc = .ok (.return_, 1)) : XW G (xw_qxv G N ad ce (.inl 0) mc ms) nL cells slots N ad ce pc lv [] :=
  fun H locs ls hP hS hL => W.widen hc hs (vx_ret (W.vret C.1 C.2.1 hr (fun t ht hW => ⟨⟨(), rfl, rfl, xw_Bof C hP hS ht hW.alike⟩, hS.F ht⟩) hS.2.2 hd C.2.2.2.2.2.2.2.1))
/-! calls -/
def xf_V (y : MethodName) (cc' : ByteArray) (nL' : Nat) (ret' : Option FieldType) (Cn : String) (n : Nat) : Prop :=
  Cond.instanceMethod y ∈ xw_big ∧ Cond.selects Cn y y ∈ xw_big ∧ Cond.initialized Cn ∈ xw_big ∧ Cond.code y cc' nL' ret' ∈ xw_big ∧ y.cls = Cn ∧ y.cls ≠ "java/lang/invoke/MethodHandle" ∧ y.cls ≠ "java/lang/invoke/VarHandle" ∧ (parseMethodDescriptor y.desc).map (fun d => d.parameters.length) = some n
def xf_S (y : MethodName) (cc' : ByteArray) (nL' : Nat) (ret' : Option FieldType) (n : Nat) : Prop :=
  Cond.static y ∈ xw_big ∧ Cond.initialized y.cls ∈ xw_big ∧ Cond.code y cc' nL' ret' ∈ xw_big ∧ y.cls ≠ "java/lang/invoke/MethodHandle" ∧ y.cls ≠ "java/lang/invoke/VarHandle" ∧ (parseMethodDescriptor y.desc).map (fun d => d.parameters.length) = some n
variable {y : MethodName} {cc' : ByteArray} {nL' : Nat} {ret' : Option FieldType} {rm' : Room} {As : List Value} {ce' : Nat → va_E} {r : Int32} {k9 ci NF index n mc ms : Nat} {Cn : String} {T : u_T} {fs : List Value} {o : Int32 ⊕ String}
theorem xf_gV (F : xf_V y cc' nL' ret' Cn n) (hl : Cond.methodLink own index y ∈ xw_big) : GoodIn xw_big (wsV own index Cn y (Cond.code y cc' nL' ret' :: xw_big)) := xw_gs (fun w hw => by
  unfold wsV at hw
  rcases List.mem_append.mp hw with h | h
  · simp only [List.mem_cons, List.not_mem_nil, or_false] at h
    rcases h with rfl | rfl | rfl | rfl
    · exact hl
    · exact F.1
    · exact F.2.1
    · exact F.2.2.1
  · exact xw_gcode F.2.2.2.1 w h)
theorem xf_gS (F : xf_S y cc' nL' ret' n) (hl : Cond.methodLink own index y ∈ xw_big) : GoodIn xw_big (va_wsS own index y (Cond.code y cc' nL' ret' :: xw_big)) := xw_gs (fun w hw => by
  unfold va_wsS at hw
  rcases List.mem_append.mp hw with h | h
  · simp only [List.mem_cons, List.not_mem_nil, or_false] at h
    rcases h with rfl | rfl | rfl
    · exact hl
    · exact F.1
    · exact F.2.1
  · exact xw_gcode F.2.2.1 w h)
theorem xf_blind {D : va_G} {tys : List (ClassId × FieldType)} {base : Nat} {av : List Value} : FrameBlind (xk_Pc D tys base N ad av ce) := fun a U g mk q => by
  obtain ⟨q0, ⟨q1, q2, q3⟩, q4⟩ := q
  exact ⟨q0, ⟨q1, q2, va_K.moved (u := U) (U := U.calling g mk a) (Vm.Alike.refl U.vm) q3⟩, xw_Z.go (U := U.calling g mk a) (State.WarmedH.refl U) (fun _ _ _ => rfl) q4⟩
theorem xf_pre (C : xw_C G cc nL own N ad) {av : List Value} {H : Heap} {locs : List Loc} (hP : va_P (xgD G) vwCl (xw_wd N ad ce) H) (hS : va_S (fun q => xgB G ≤ q) (xgs G).heap H locs) : ∀ U : State, U.heap = H → (xgs G).WarmedH U.vm → xk_Pc (xgD G) (xgt G) (xgB G) N ad av ce av.toArray U := fun U hU hW =>
  ⟨rfl, xw_Bof C hP hS hU hW.alike, xw_Z.go hW (fun a h1 h2 => by rw [hU]; exact hS.2.1 a h1 h2) C.2.2.2.2.2.2.2.2.2⟩
/-- the callee's room fits ours -/
abbrev xf_R (rm' : Room) (nL' : Nat) (R : Room) (mc ms : Nat) : Prop := rm'.cells = mc ∧ rm'.slots = ms ∧ rm'.frames + 1 ≤ R.frames ∧ 8 + (nL' + 11) + rm'.locals ≤ R.locals
theorem xw_callVi (C : xw_C G cc nL own N ad) (hM : xk_i (xgl G) y cc' nL' ret' rm' (xgD G) (xgt G) (xgB G) N ad (.ref (ad k9) :: As) ce ce' r) (F : xf_V y cc' nL' ret' Cn n) (hl : Cond.methodLink own index y ∈ xw_big) (hk : k9 < N) (he : ce k9 = .inr (ci, fs)) (hc : vwCl[ci]? = some (Cn, T, NF)) (hR : xf_R rm' nL' (xgR G) 0 0) (hcs : cells ≤ (xgR G).cells ∧ slots ≤ (xgR G).slots) (hn : As.length = n) (hst : (st.map fun v => v.category).sum ≤ 8) (hd : decode cc pc = .ok (.invokevirtual index, 3))
    (k : XW G Q nL cells slots N ad ce' (pc + 3) lv (.int r :: st)) : XW G Q nL cells slots N ad ce pc lv (As.reverse ++ .ref (ad k9) :: st) := by
  intro H locs ls hP hS hL
  refine va_calli (va_runV (As := As) (rest := st) ⟨C.1, C.2.1, C.2.2.1, C.2.2.2.1, C.2.2.2.2.1⟩ hM (cwV n C.2.2.2.2.1 (xf_gV F hl) rfl hR.1 hR.2.1 F.2.2.2.2 ⟨hR.2.2.1, hR.2.2.2⟩) ⟨xf_blind, va_recv C.2.2.2.2.2.1 hP hc (by rw [xw_at hk, he]), xf_pre C hP hS⟩ rfl hn hL.1 rfl (lv_room hst) hd hcs) hS (fun q _ h => h) (fun q h => h) (fun r' u t H1 locs1 ht hvm hw hB hz hk1 hS1 => ?_)
  subst hw
  exact k H1 locs1 ls (by rw [← ht]; exact hB.2.1) hS1 hL
theorem xw_callVv (C : xw_C G cc nL own N ad) (hM : xk_v (xgl G) y cc' nL' ret' rm' (xgD G) (xgt G) (xgB G) N ad (.ref (ad k9) :: As) ce ce') (F : xf_V y cc' nL' ret' Cn n) (hl : Cond.methodLink own index y ∈ xw_big) (hk : k9 < N) (he : ce k9 = .inr (ci, fs)) (hc : vwCl[ci]? = some (Cn, T, NF)) (hR : xf_R rm' nL' (xgR G) 0 0) (hcs : cells ≤ (xgR G).cells ∧ slots ≤ (xgR G).slots) (hn : As.length = n) (hst : (st.map fun v => v.category).sum ≤ 8) (hd : decode cc pc = .ok (.invokevirtual index, 3))
    (k : XW G Q nL cells slots N ad ce' (pc + 3) lv st) : XW G Q nL cells slots N ad ce pc lv (As.reverse ++ .ref (ad k9) :: st) := by
  intro H locs ls hP hS hL
  refine va_callv (va_runV (As := As) (rest := st) ⟨C.1, C.2.1, C.2.2.1, C.2.2.2.1, C.2.2.2.2.1⟩ hM (cwV n C.2.2.2.2.1 (xf_gV F hl) rfl hR.1 hR.2.1 F.2.2.2.2 ⟨hR.2.2.1, hR.2.2.2⟩) ⟨xf_blind, va_recv C.2.2.2.2.2.1 hP hc (by rw [xw_at hk, he]), xf_pre C hP hS⟩ rfl hn hL.1 rfl (lv_room hst) hd hcs) hS (fun q _ h => h) (fun q h => h) (fun u t H1 locs1 ht hvm hw hB hz hk1 hS1 => ?_)
  exact k H1 locs1 ls (by rw [← ht]; exact hB.2.1) hS1 hL
theorem xw_callSi (C : xw_C G cc nL own N ad) (hM : xk_i (xgl G) y cc' nL' ret' rm' (xgD G) (xgt G) (xgB G) N ad As ce ce' r) (F : xf_S y cc' nL' ret' n) (hl : Cond.methodLink own index y ∈ xw_big) (hR : xf_R rm' nL' (xgR G) 0 0) (hcs : cells ≤ (xgR G).cells ∧ slots ≤ (xgR G).slots) (hn : As.length = n) (hst : (st.map fun v => v.category).sum ≤ 8) (hd : decode cc pc = .ok (.invokestatic index, 3))
    (k : XW G Q nL cells slots N ad ce' (pc + 3) lv (.int r :: st)) : XW G Q nL cells slots N ad ce pc lv (As.reverse ++ st) := by
  intro H locs ls hP hS hL
  refine va_calli (va_runS (As := As) (rest := st) ⟨C.1, C.2.1, C.2.2.1, C.2.2.2.1, C.2.2.2.2.1⟩ hM (va_cwS n C.2.2.2.2.1 (xf_gS F hl) rfl hR.1 hR.2.1 F.2.2.2 ⟨hR.2.2.1, hR.2.2.2⟩) ⟨xf_blind, xf_pre C hP hS⟩ rfl hn hL.1 rfl (lv_room hst) hd hcs) hS (fun q _ h => h) (fun q h => h) (fun r' u t H1 locs1 ht hvm hw hB hz hk1 hS1 => ?_)
  subst hw
  exact k H1 locs1 ls (by rw [← ht]; exact hB.2.1) hS1 hL
theorem xw_callSv (C : xw_C G cc nL own N ad) (hM : xk_v (xgl G) y cc' nL' ret' rm' (xgD G) (xgt G) (xgB G) N ad As ce ce') (F : xf_S y cc' nL' ret' n) (hl : Cond.methodLink own index y ∈ xw_big) (hR : xf_R rm' nL' (xgR G) 0 0) (hcs : cells ≤ (xgR G).cells ∧ slots ≤ (xgR G).slots) (hn : As.length = n) (hst : (st.map fun v => v.category).sum ≤ 8) (hd : decode cc pc = .ok (.invokestatic index, 3))
    (k : XW G Q nL cells slots N ad ce' (pc + 3) lv st) : XW G Q nL cells slots N ad ce pc lv (As.reverse ++ st) := by
  intro H locs ls hP hS hL
  refine va_callv (va_runS (As := As) (rest := st) ⟨C.1, C.2.1, C.2.2.1, C.2.2.2.1, C.2.2.2.2.1⟩ hM (va_cwS n C.2.2.2.2.1 (xf_gS F hl) rfl hR.1 hR.2.1 F.2.2.2 ⟨hR.2.2.1, hR.2.2.2⟩) ⟨xf_blind, xf_pre C hP hS⟩ rfl hn hL.1 rfl (lv_room hst) hd hcs) hS (fun q _ h => h) (fun q h => h) (fun u t H1 locs1 ht hvm hw hB hz hk1 hS1 => ?_)
  exact k H1 locs1 ls (by rw [← ht]; exact hB.2.1) hS1 hL
/-- a private static method of a nest mate -/
theorem xw_callNi {host : String} (C : xw_C G cc nL own N ad) (hM : xk_i (xgl G) y cc' nL' ret' rm' (xgD G) (xgt G) (xgB G) N ad As ce ce' r) (F : xf_S y cc' nL' ret' n) (hl : va_Nw (.methodLinkNest own index y host) (xgs G)) (hR : xf_R rm' nL' (xgR G) 0 0) (hcs : cells ≤ (xgR G).cells ∧ slots ≤ (xgR G).slots) (hn : As.length = n) (hst : (st.map fun v => v.category).sum ≤ 8) (hd : decode cc pc = .ok (.invokestatic index, 3))
    (k : XW G Q nL cells slots N ad ce' (pc + 3) lv (.int r :: st)) : XW G Q nL cells slots N ad ce pc lv (As.reverse ++ st) := by
  intro H locs ls hP hS hL
  refine va_calli (va_runSN (As := As) (rest := st) (host := host) ⟨C.1, C.2.1, C.2.2.1, C.2.2.2.1, C.2.2.2.2.1⟩ hM ⟨va_cnB n C.2.2.2.2.1 (xw_gs (xw_gcode F.2.2.1)) rfl hR.1 hR.2.1 hl (C.2.2.2.2.1 _ F.2.1) F.2.2.2 ⟨hR.2.2.1, hR.2.2.2⟩, C.2.2.2.2.1 _ F.1, trivial⟩ ⟨xf_blind, xf_pre C hP hS⟩ rfl hn hL.1 rfl (lv_room hst) hd hcs) hS (fun q _ h => h) (fun q h => h) (fun r' u t H1 locs1 ht hvm hw hB hz hk1 hS1 => ?_)
  subst hw
  exact k H1 locs1 ls (by rw [← ht]; exact hB.2.1) hS1 hL
/-! calls of methods that may throw: it returned; it threw, and so do we -/
theorem xw_callSxv (C : xw_C G cc nL own N ad) (hM : xk_xv (xgl G) y cc' nL' ret' rm' (xgD G) (xgt G) (xgB G) N ad As ce ce' (.inl r) mc ms) (F : xf_S y cc' nL' ret' n) (hl : Cond.methodLink own index y ∈ xw_big) (hR : xf_R rm' nL' (xgR G) mc ms) (hcs : cells + mc ≤ (xgR G).cells ∧ slots + ms ≤ (xgR G).slots) (hn : As.length = n) (hst : (st.map fun v => v.category).sum ≤ 8) (hd : decode cc pc = .ok (.invokestatic index, 3))
    (k : XW G Q nL (cells + mc) (slots + ms) N ad ce' (pc + 3) lv st) : XW G Q nL cells slots N ad ce pc lv (As.reverse ++ st) := by
  intro H locs ls hP hS hL
  refine vx_callv (vx_runS (As := As) (rest := st) ⟨C.1, C.2.1, C.2.2.1, C.2.2.2.1, C.2.2.2.2.1⟩ hM (va_cwS n C.2.2.2.2.1 (xf_gS F hl) rfl hR.1 hR.2.1 F.2.2.2 ⟨hR.2.2.1, hR.2.2.2⟩) ⟨xf_blind, xf_pre C hP hS⟩ rfl hn hL.1 rfl (lv_room hst) hd hcs) hS (fun q _ h => h) (fun q h => h) (fun q _ h => h) (fun E ce9 q9 u t H1 locs1 ht hvm hp hB => by cases hB.1) (fun u t H1 locs1 ht hvm hw hB hz hk1 hS1 => ?_)
  exact k H1 locs1 ls (by rw [← ht]; exact hB.2.1) hS1 hL
theorem xw_callVxv (C : xw_C G cc nL own N ad) (hM : xk_xv (xgl G) y cc' nL' ret' rm' (xgD G) (xgt G) (xgB G) N ad (.ref (ad k9) :: As) ce ce' (.inl r) mc ms) (F : xf_V y cc' nL' ret' Cn n) (hl : Cond.methodLink own index y ∈ xw_big) (hk : k9 < N) (he : ce k9 = .inr (ci, fs)) (hc : vwCl[ci]? = some (Cn, T, NF)) (hR : xf_R rm' nL' (xgR G) mc ms) (hcs : cells + mc ≤ (xgR G).cells ∧ slots + ms ≤ (xgR G).slots) (hn : As.length = n) (hst : (st.map fun v => v.category).sum ≤ 8) (hd : decode cc pc = .ok (.invokevirtual index, 3))
    (k : XW G Q nL (cells + mc) (slots + ms) N ad ce' (pc + 3) lv st) : XW G Q nL cells slots N ad ce pc lv (As.reverse ++ .ref (ad k9) :: st) := by
  intro H locs ls hP hS hL
  refine vx_callv (vx_runV (As := As) (rest := st) ⟨C.1, C.2.1, C.2.2.1, C.2.2.2.1, C.2.2.2.2.1⟩ hM (cwV n C.2.2.2.2.1 (xf_gV F hl) rfl hR.1 hR.2.1 F.2.2.2.2 ⟨hR.2.2.1, hR.2.2.2⟩) ⟨xf_blind, va_recv C.2.2.2.2.2.1 hP hc (by rw [xw_at hk, he]), xf_pre C hP hS⟩ rfl hn hL.1 rfl (lv_room hst) hd hcs) hS (fun q _ h => h) (fun q h => h) (fun q _ h => h) (fun E ce9 q9 u t H1 locs1 ht hvm hp hB => by cases hB.1) (fun u t H1 locs1 ht hvm hw hB hz hk1 hS1 => ?_)
  exact k H1 locs1 ls (by rw [← ht]; exact hB.2.1) hS1 hL
theorem xw_outS {E0 : String} {mc1 ms1 : Nat} {Qc : Array Value → State → Outcome → State → Prop} (C : xw_C G cc nL own N ad) (hE : ∀ x ∈ (xgc G).exceptionTable.toList, False) (hM : xk_xv (xgl G) y cc' nL' ret' rm' (xgD G) (xgt G) (xgB G) N ad As ce ce' (.inr E0) mc ms) (F : xf_S y cc' nL' ret' n) (hl : Cond.methodLink own index y ∈ xw_big) (hR : xf_R rm' nL' (xgR G) mc ms) (hcs : cells + mc ≤ (xgR G).cells ∧ slots + ms ≤ (xgR G).slots) (hcm : cells + mc ≤ mc1 ∧ slots + ms ≤ ms1) (hn : As.length = n) (hst : (st.map fun v => v.category).sum ≤ 8) (hd : decode cc pc = .ok (.invokestatic index, 3)) :
    XW G (vx_MQ (xgb G) Qc (xk_XC (xgD G) (xgt G) (xgB G) N ad ce' (.inr E0)) (xga G) (xgs G) mc1 ms1 (fun q => xgB G ≤ q)) nL cells slots N ad ce pc lv (As.reverse ++ st) := by
  intro H locs ls hP hS hL
  refine vx_callv (vx_runS (As := As) (rest := st) ⟨C.1, C.2.1, C.2.2.1, C.2.2.2.1, C.2.2.2.2.1⟩ hM (va_cwS n C.2.2.2.2.1 (xf_gS F hl) rfl hR.1 hR.2.1 F.2.2.2 ⟨hR.2.2.1, hR.2.2.2⟩) ⟨xf_blind, xf_pre C hP hS⟩ rfl hn hL.1 rfl (lv_room hst) hd hcs) hS (fun q _ h => h) (fun q h => h) (fun q _ h => h) (fun E ce9 q9 u t H1 locs1 ht hvm hp hB hz hk1 hS1 hce hcv hcl => ?_) (fun u t H1 locs1 ht hvm hw hB hz hk1 hS1 => by cases hw)
  obtain ⟨hE0, hB⟩ := hB
  cases hE0
  refine vx_out (fun x hx => (hE x hx).elim) C.2.2.2.2.2.2.2.1 hce hcv hcl (fun t2 ht2 hal => ⟨(), trivial, ⟨rfl, ?_⟩, hS1.F ht2⟩) hS1.2.2 hcm.1 hcm.2
  exact xw_Bof C (by rw [← ht]; exact hB.2.1) hS1 ht2 hal
theorem xw_outV {E0 : String} {mc1 ms1 : Nat} {Qc : Array Value → State → Outcome → State → Prop} (C : xw_C G cc nL own N ad) (hE : ∀ x ∈ (xgc G).exceptionTable.toList, False) (hM : xk_xv (xgl G) y cc' nL' ret' rm' (xgD G) (xgt G) (xgB G) N ad (.ref (ad k9) :: As) ce ce' (.inr E0) mc ms) (F : xf_V y cc' nL' ret' Cn n) (hl : Cond.methodLink own index y ∈ xw_big) (hk : k9 < N) (he : ce k9 = .inr (ci, fs)) (hc : vwCl[ci]? = some (Cn, T, NF)) (hR : xf_R rm' nL' (xgR G) mc ms) (hcs : cells + mc ≤ (xgR G).cells ∧ slots + ms ≤ (xgR G).slots) (hcm : cells + mc ≤ mc1 ∧ slots + ms ≤ ms1) (hn : As.length = n) (hst : (st.map fun v => v.category).sum ≤ 8) (hd : decode cc pc = .ok (.invokevirtual index, 3)) :
    XW G (vx_MQ (xgb G) Qc (xk_XC (xgD G) (xgt G) (xgB G) N ad ce' (.inr E0)) (xga G) (xgs G) mc1 ms1 (fun q => xgB G ≤ q)) nL cells slots N ad ce pc lv (As.reverse ++ .ref (ad k9) :: st) := by
  intro H locs ls hP hS hL
  refine vx_callv (vx_runV (As := As) (rest := st) ⟨C.1, C.2.1, C.2.2.1, C.2.2.2.1, C.2.2.2.2.1⟩ hM (cwV n C.2.2.2.2.1 (xf_gV F hl) rfl hR.1 hR.2.1 F.2.2.2.2 ⟨hR.2.2.1, hR.2.2.2⟩) ⟨xf_blind, va_recv C.2.2.2.2.2.1 hP hc (by rw [xw_at hk, he]), xf_pre C hP hS⟩ rfl hn hL.1 rfl (lv_room hst) hd hcs) hS (fun q _ h => h) (fun q h => h) (fun q _ h => h) (fun E ce9 q9 u t H1 locs1 ht hvm hp hB hz hk1 hS1 hce hcv hcl => ?_) (fun u t H1 locs1 ht hvm hw hB hz hk1 hS1 => by cases hw)
  obtain ⟨hE0, hB⟩ := hB
  cases hE0
  refine vx_out (fun x hx => (hE x hx).elim) C.2.2.2.2.2.2.2.1 hce hcv hcl (fun t2 ht2 hal => ⟨(), trivial, ⟨rfl, ?_⟩, hS1.F ht2⟩) hS1.2.2 hcm.1 hcm.2
  exact xw_Bof C (by rw [← ht]; exact hB.2.1) hS1 ht2 hal
/-- 'throw new E("text")' -/
theorem xw_throw {E text : String} {ik is ic mc1 ms1 : Nat} {Qc : Array Value → State → Outcome → State → Prop} (C : xw_C G cc nL own N ad) (hl : (xgl G).stackTraces = false) (hE : ∀ x ∈ (xgc G).exceptionTable.toList, False) (hfit : Bundle.fit E = true)
    (hk : Cond.classLink own ik E ∈ xw_big) (hini : Cond.initialized E ∈ xw_big) (hstr : ∃ a, vk_R own is text a (xgs G)) (hcast : va_Nw (.castable E E) (xgs G))
    (hat : ∀ w ∈ (vx_atS own ic E ["java/lang/RuntimeException", "java/lang/Exception"]).filter goodWord, w ∈ xw_big) (hbad : ∀ w ∈ (vx_atS own ic E ["java/lang/RuntimeException", "java/lang/Exception"]).filter (fun w => !goodWord w), w ∈ [Cond.castable E E, .declares (Bundle.initS "java/lang/RuntimeException"), .declares (Bundle.initS "java/lang/Exception"), .declares (Bundle.initS "java/lang/Throwable")])
    (hgood : ∀ w ∈ Cond.classLink own ik E :: Cond.initialized E :: vx_atS own ic E ["java/lang/RuntimeException", "java/lang/Exception"], vx_ot w = true)
    (d0 : decode cc pc = .ok (.new ik, 3)) (d3 : decode cc (pc + 3) = .ok (.dup, 1)) (d4 : decode cc (pc + 4) = .ok (.ldc is, 2)) (d6 : decode cc (pc + 6) = .ok (.invokespecial ic, 3)) (d9 : decode cc (pc + 9) = .ok (.athrow, 1))
    (hR : 5 < (xgR G).frames ∧ (st.map fun v => v.category).sum + 82 ≤ (xgR G).locals ∧ cells + 1 ≤ (xgR G).cells ∧ slots + 6 ≤ (xgR G).slots) (hcm : cells + 1 ≤ mc1 ∧ slots + 6 ≤ ms1) :
    XW G (vx_MQ (xgb G) Qc (xk_XC (xgD G) (xgt G) (xgB G) N ad ce (.inr E)) (xga G) (xgs G) mc1 ms1 (fun q => xgB G ≤ q)) nL cells slots N ad ce pc lv st := by
  intro H locs ls hP hS hL
  obtain ⟨sa, hstr⟩ := hstr
  refine vx_throwS C.1 C.2.1 hl C.2.2.2.1 hfit (by decide +kernel) (C.2.2.2.2.1 _ hk) (C.2.2.2.2.1 _ hini) hstr (vx_hat (fun w hw => C.2.2.2.2.1 _ (hat w hw)) hbad (vx_c (va_Nw.use rfl hcast) (vx_c (va_Nw.use rfl C.2.2.2.2.2.2.2.2.2.1.2.2.2.2.2.1) (vx_c (va_Nw.use rfl C.2.2.2.2.2.2.2.2.2.1.2.2.2.2.2.2.1) (vx_c (va_Nw.use rfl C.2.2.2.2.2.2.2.2.2.1.2.2.2.2.2.2.2) vx_n))))) hgood C.2.2.2.2.2.2.2.2.2.2.1.1 C.2.2.2.2.2.2.2.2.2.2.1.2 hS (by rw [hL.1, C.2.2.1]) d0 d3 d4 d6 d9 (fun x hx => (hE x hx).elim) hR.1 hR.2.1 hR.2.2.1 hR.2.2.2 C.2.2.2.2.2.2.2.1 (fun t hal hz hk => ⟨(), trivial, ⟨rfl, ?_⟩, ?_⟩) hS.2.2 hcm.1 hcm.2
  · exact ⟨Nat.le_trans (Nat.le_trans C.2.2.2.2.2.2.1 hS.1) hz, hP.kept (fun k q h => hk q.1 ((hP k q h).lt)), va_K.moved hal C.2.2.2.2.2.1⟩
  · exact ⟨Nat.le_trans hS.1 hz, fun q h1 h2 => by rw [hk q (Nat.lt_of_lt_of_le h1 hS.1)]; exact hS.2.1 q h1 h2⟩
end XF
