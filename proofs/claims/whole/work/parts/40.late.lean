section Rows
variable {p : Program} {l : Launch} {e : Env} {R : Room} {s : State} {m : MethodId} {args : Array Value} {below : List Frame} {meth : Method} {c : Code} {H : Heap} {locs : List Loc} {cells slots : Nat} {Q : State → Prop}
variable {mc ms : Nat} {free : Addr → Prop} {A0 A1 : Nat → Prop} {H0 : Heap} {a : Array Value} {pc : Nat} {ls : Array Slot} {st0 rest : List Value}
/-- caught by the row x of this method's table; the rows ahead don't take it -/
theorem vx_catch {own name : String} {E : String} {ce : Cell} {q : Addr} (hown : s.vm.findClass own = some m.cls) (pre : List ExceptionTableEntry) (x : ExceptionTableEntry) (suf : List ExceptionTableEntry) (hsplit : c.exceptionTable.toList = pre ++ x :: suf)
    (hpass : ∀ z ∈ pre, covers z pc = false ∨ (z.catchType ≠ 0 ∧ ∃ nm : String, (Cond.classLink own z.catchType nm).before args s = true ∧ va_Nc E nm s)) (hx : covers x pc = true) (h0 : x.catchType ≠ 0)
    (hlink : (Cond.classLink own x.catchType name).before args s = true) (hcast : (Cond.castable E name).before args s = true) (hcell : H[q]? = some ce) (hv : ce.vm = .none) (hcl : s.vm.findClass E = some ce.cls)
    (kk : W p l e R s m args below meth c H locs cells slots Q (F0 m x.handlerPc ls [.ref q])) : vx_W p l e R s m args below meth c H locs cells slots Q (F0 m pc ls rest) q := by
  intro T hT X
  have hpl : e.platform.magicAccessors = ({} : Platform).magicAccessors := by rw [X.admits.platform]
  obtain ⟨c3, c4, hc3, hc4, hasg⟩ := Cond.castable_spec hcast
  cases Option.some.inj (hc3.symm.trans hcl)
  obtain ⟨c5, hc5, hcl5⟩ := Cond.classLink_spec hown hlink e.platform hpl
  cases Option.some.inj (hc4.symm.trans hc5)
  obtain ⟨vm', X', st⟩ := Jvm.Stand.thenCaughtThrough X q (g := F0 m pc ls rest) rfl (Steps.refl _) (by rw [hT]; exact hcell) (by rw [hv]; rfl) (by obtain ⟨k9, h9, -⟩ := Vm.findClass_spec hcl; exact ⟨k9, h9⟩) pre x suf hsplit
    (fun z hz => by
      rcases hpass z hz with h | ⟨hz0, nm, hl1, hn1⟩
      · exact Or.inl h
      · obtain ⟨c6, hc6, hcl6⟩ := Cond.classLink_spec hown hl1 e.platform hpl
        obtain ⟨a8, b8, h1, h2, h3⟩ := hn1
        cases Option.some.inj (h1.symm.trans hcl)
        cases Option.some.inj (h2.symm.trans hc6)
        exact Or.inr ⟨hz0, _, hcl6, h3⟩) hx (Or.inr ⟨h0, c4, hcl5, hasg⟩)
  obtain ⟨t, a1, b1⟩ := kk (T.setVm vm') hT X'
  exact ⟨t, st.trans a1, b1⟩
end Rows

/-! ===== the law's helpers: methods with an exception table ===== -/
def xk_h (l : Launch) (y : MethodName) (cc : ByteArray) (nL : Nat) (hh : List (Nat × Nat × Nat × Nat)) (rm : Room) (D : va_G) (tys : List (ClassId × FieldType)) (base N : Nat) (ad : Nat → Nat) (av : List Value) (ce ce' : Nat → va_E) (r : Int32) (mc ms : Nat) : Prop :=
  Met l y (Cond.codeWith y cc nL (some .int) hh :: xw_big) rm (va_Pc av (fun U => (xw_B D tys base N ad ce U ∧ xw_Z base U) ∧ va_Nc xISE xIAE U)) (xk_Qi D tys base N ad ce' r) mc ms (fun q => base ≤ q)
abbrev xw_qh (G : xwG) (N : Nat) (ad : Nat → Nat) (ce' : Nat → va_E) (r : Int32) (mc ms : Nat) : State → Prop := MQ (xgb G) (xk_Qi (xgD G) (xgt G) (xgB G) N ad ce' r) (xga G) (xgs G) mc ms (fun q => xgB G ≤ q)
theorem xk_ofh {l : Launch} {y : MethodName} {cc : ByteArray} {nL : Nat} {hh : List (Nat × Nat × Nat × Nat)} {rm : Room} {D : va_G} {tys : List (ClassId × FieldType)} {base N : Nat} {ad : Nat → Nat} {av : List Value} {ce ce' : Nat → va_E} {r : Int32} {mc ms : Nat} (q : Nat) (hy : plainName y.cls = true) (hJ : xw_J N ad base) (hc : ∀ v ∈ av, v.category = 1) (hlen : (lg_sl av).length ≤ nL)
    (body : ∀ G : xwG, xgl G = l → xgR G = rm → xgD G = D → xgt G = tys → xgB G = base → (xgM G).sig.returnType = some .int → (xgc G).exceptionTable.toList = tableOf hh → va_Nc xISE xIAE (xgs G) → xw_C G cc nL y.cls N ad → XW G (xw_qh G N ad ce' r mc ms) nL 0 0 N ad ce 0 (av.map some ++ List.replicate q none) []) : xk_h l y cc nL hh rm D tys base N ad av ce ce' r mc ms := by
  refine va_MetW (cc := cc) (maxL := nL) (ret := some .int) (hh := hh) hy rfl ?_
  intro p e s m args below meth c s₁ B hml hv
  obtain ⟨rfl, ⟨⟨hb0, hP, hK⟩, hZ⟩, hN⟩ := hv
  have h := body (p, l, e, rm, s, m, av.toArray, below, meth, c, D, tys, base) rfl rfl rfl rfl rfl B.returns (vx_table (x := y) B (atoms_spec B.pre _ List.mem_cons_self)) hN ⟨B.exec, B.bytes, hml, findClass_of_methodNamed B.named, fun w hw => atoms_spec B.pre w (List.mem_cons_of_mem _ hw), hK, hb0, B.notSynchronized, hJ, hZ⟩
  rw [lg_entry_eq]
  exact h s.heap [] _ hP va_S.rf (xw_entry av q hlen hc)
def xf_H (y : MethodName) (cc' : ByteArray) (nL' : Nat) (hh : List (Nat × Nat × Nat × Nat)) (n : Nat) : Prop :=
  Cond.static y ∈ xw_big ∧ Cond.initialized y.cls ∈ xw_big ∧ Cond.codeWith y cc' nL' (some .int) hh ∈ xw_big ∧ y.cls ≠ "java/lang/invoke/MethodHandle" ∧ y.cls ≠ "java/lang/invoke/VarHandle" ∧ (parseMethodDescriptor y.desc).map (fun d => d.parameters.length) = some n
def hL1 (q : Option xwX) : Option (Int32 × xwM) := match q with
  | none => none
  | some (.inl r, M) => some (0, ms M 430 0 r)
  | some (.inr E, M) => if E = xIAE then some (1, M) else none
def hL2 (q : Option xwX) : Option (Int32 × xwM) := match q with
  | none => none
  | some (.inl r, M) => some (0, ms M 430 0 r)
  | some (.inr E, M) => if E = xIAE then some (1, M) else if E = xISE then some (2, M) else none
def hL3 (q : Option xwX) : Option (Int32 × xwM) := match q with
  | none => none
  | some (.inl r, M) => some (0, ms M 430 0 (if r = 0 then 0 else 1))
  | some (.inr E, M) => if E = xIAE then some (1, M) else none
theorem hL1_x {E : String} {M1 : xwM} {z : Int32 × xwM} (h : (if E = xIAE then some ((1 : Int32), M1) else none) = some z) : E = xIAE ∧ some ((1 : Int32), M1) = some z := by
  by_cases c : E = xIAE
  · rw [if_pos c] at h; exact ⟨c, h⟩
  · rw [if_neg c] at h; cases h
theorem hL2_x {E : String} {M1 : xwM} {z : Int32 × xwM} (h : (if E = xIAE then some ((1 : Int32), M1) else if E = xISE then some ((2 : Int32), M1) else none) = some z) : (E = xIAE ∧ some ((1 : Int32), M1) = some z) ∨ (E = xISE ∧ some ((2 : Int32), M1) = some z) := by
  by_cases c : E = xIAE
  · rw [if_pos c] at h; exact Or.inl ⟨c, h⟩
  · rw [if_neg c] at h
    by_cases c2 : E = xISE
    · rw [if_pos c2] at h; exact Or.inr ⟨c2, h⟩
    · rw [if_neg c2] at h; cases h
theorem xh_cmp {x y : Int64} (h : x = y) : lg_cmp x y = 0 := by
  subst h
  unfold lg_cmp
  rw [if_neg (by simp), if_pos rfl]
theorem xh_room {G : xwG} {cells slots mc ms : Nat} (hR : xgR G = room_1) (hcs : cells + 9 ≤ 601024 ∧ slots + 54 ≤ 7293034) (h : mc ≤ 9 ∧ ms ≤ 54) : cells + mc ≤ (xgR G).cells ∧ slots + ms ≤ (xgR G).slots := by
  rw [hR]
  show cells + mc ≤ 601024 ∧ slots + ms ≤ 7293034
  omega
theorem xh_room0 {G : xwG} {cells slots mc ms : Nat} (hR : xgR G = room_1) (hcs : cells + 9 ≤ 601024 ∧ slots + 54 ≤ 7293034) (h : mc ≤ 9 ∧ ms ≤ 54) : cells + mc ≤ (xgR G).cells ∧ slots + ms ≤ (xgR G).slots := xh_room hR hcs h
section LH
variable {G : xwG} {Q : State → Prop} {cc : ByteArray} {own : String} {nL cells slots N : Nat} {ad : Nat → Nat} {ce : Nat → va_E} {pc : Nat} {lv : List (Option Value)} {st st0 : List Value}
variable {y : MethodName} {cc' : ByteArray} {nL' : Nat} {ret' : Option FieldType} {rm' : Room} {As : List Value} {ce' : Nat → va_E} {r : Int32} {k9 ci NF index n mc ms : Nat} {Cn : String} {T : u_T} {fs : List Value} {o : Int32 ⊕ String} {hh : List (Nat × Nat × Nat × Nat)}
theorem xw_reth (C : xw_C G cc nL own N ad) (hr : (xgM G).sig.returnType = some .int) {v : Int32} {mc ms : Nat} (hc : cells ≤ mc) (hs : slots ≤ ms) (hd : decode cc pc = .ok (.ireturn, 1)) : XW G (xw_qh G N ad ce v mc ms) nL cells slots N ad ce pc lv [.int v] :=
  fun H locs ls hP hS hL => W.widen hc hs (W.iret C.1 C.2.1 hr (fun t ht hW => ⟨⟨v, (), rfl, rfl, xw_Bof C hP hS ht hW.alike⟩, hS.F ht⟩) hS.2.2 hd C.2.2.2.2.2.2.2.1)
theorem xh_call (C : xw_C G cc nL own N ad) (hM : xk_xi (xgl G) y cc' nL' ret' rm' (xgD G) (xgt G) (xgB G) N ad (.ref (ad k9) :: As) ce ce' o mc ms) (F : xf_V y cc' nL' ret' Cn n) (hl : Cond.methodLink own index y ∈ xw_big) (hk : k9 < N) (he : ce k9 = .inr (ci, fs)) (hc : vwCl[ci]? = some (Cn, T, NF)) (hR : xf_R rm' nL' (xgR G) mc ms) (hcs : cells + mc ≤ (xgR G).cells ∧ slots + ms ≤ (xgR G).slots) (hn : As.length = n) (hst : (st.map fun v => v.category).sum ≤ 8) (hd : decode cc pc = .ok (.invokevirtual index, 3)) (hs : st0 = As.reverse ++ .ref (ad k9) :: st)
    (kx : ∀ E : String, o = .inr E → ∃ (pre : List ExceptionTableEntry) (x : ExceptionTableEntry) (suf : List ExceptionTableEntry) (name : String), (xgc G).exceptionTable.toList = pre ++ x :: suf ∧ (∀ z ∈ pre, covers z pc = false ∨ (z.catchType ≠ 0 ∧ ∃ nm : String, (Cond.classLink own z.catchType nm).before (xga G) (xgs G) = true ∧ va_Nc E nm (xgs G))) ∧ covers x pc = true ∧ x.catchType ≠ 0 ∧ (Cond.classLink own x.catchType name).before (xga G) (xgs G) = true ∧ (Cond.castable E name).before (xga G) (xgs G) = true ∧ ∀ q : Nat, XW G Q nL (cells + mc) (slots + ms) N ad ce' x.handlerPc lv [.ref q])
    (kn : ∀ r : Int32, o = .inl r → XW G Q nL (cells + mc) (slots + ms) N ad ce' (pc + 3) lv (.int r :: st)) : XW G Q nL cells slots N ad ce pc lv st0 := by
  subst hs
  intro H locs ls hP hS hL
  refine vx_calli (vx_runV (As := As) (rest := st) ⟨C.1, C.2.1, C.2.2.1, C.2.2.2.1, C.2.2.2.2.1⟩ hM (cwV n C.2.2.2.2.1 (xf_gV F hl) rfl hR.1 hR.2.1 F.2.2.2.2 ⟨hR.2.2.1, hR.2.2.2⟩) ⟨xf_blind, va_recv C.2.2.2.2.2.1 hP hc (by rw [xw_at hk, he]), xf_pre C hP hS⟩ rfl hn hL.1 rfl (lv_room hst) hd hcs) hS (fun q _ h => h) (fun q h => h) (fun q _ h => h) (fun E ce9 q9 u t H1 locs1 ht hvm hp hB hz hk1 hS1 hce hcv hcl => ?_) (fun r' u t H1 locs1 ht hvm hw hB hz hk1 hS1 => ?_)
  · obtain ⟨pre, x, suf, name, h1, h2, h3, h4, h5, h6, h7⟩ := kx E hB.1
    exact vx_catch C.2.2.2.1 pre x suf h1 h2 h3 h4 h5 h6 hce hcv hcl (h7 q9 H1 locs1 ls (by rw [← ht]; exact hB.2.2.1) hS1 hL)
  · exact kn r' hw H1 locs1 ls (by rw [← ht]; exact hB.2.1) hS1 hL
theorem xh_S (C : xw_C G cc nL own N ad) (hN : va_Nc xISE xIAE (xgs G)) (hM : xk_h (xgl G) y cc' nL' hh rm' (xgD G) (xgt G) (xgB G) N ad As ce ce' r mc ms) (F : xf_H y cc' nL' hh n) (hl : Cond.methodLink own index y ∈ xw_big) (hR : xf_R rm' nL' (xgR G) mc ms) (hcs : cells + mc ≤ (xgR G).cells ∧ slots + ms ≤ (xgR G).slots) (hn : As.length = n) (hst : (st.map fun v => v.category).sum ≤ 8) (hd : decode cc pc = .ok (.invokestatic index, 3)) (hs : st0 = As.reverse ++ st)
    (k : XW G Q nL (cells + mc) (slots + ms) N ad ce' (pc + 3) lv (.int r :: st)) : XW G Q nL cells slots N ad ce pc lv st0 := by
  subst hs
  intro H locs ls hP hS hL
  have hg : GoodIn xw_big (va_wsS own index y (Cond.codeWith y cc' nL' (some .int) hh :: xw_big)) := xw_gs (fun w hw => by
    unfold va_wsS at hw
    rcases List.mem_append.mp hw with h | h
    · simp only [List.mem_cons, List.not_mem_nil, or_false] at h
      rcases h with rfl | rfl | rfl
      · exact hl
      · exact F.1
      · exact F.2.1
    · rcases List.mem_cons.mp h with h | h
      · rw [h]; exact F.2.2.1
      · exact h)
  refine va_calli (vx_runSW (As := As) (rest := st) ⟨C.1, C.2.1, C.2.2.1, C.2.2.2.1, C.2.2.2.2.1⟩ hM (vx_cwSW n C.2.2.2.2.1 hg rfl hR.1 hR.2.1 F.2.2.2 ⟨hR.2.2.1, hR.2.2.2⟩) ⟨fun a U g mk q => ?_, fun U hU hW => ?_⟩ rfl hn hL.1 rfl (lv_room hst) hd hcs) hS (fun q _ h => h) (fun q h => h) (fun r' u t H1 locs1 ht hvm hw hB hz hk1 hS1 => ?_)
  · obtain ⟨q0, ⟨q1, q4⟩, q5⟩ := q
    obtain ⟨z0, z1⟩ := xf_blind (ce := ce) a U g mk ⟨q0, q1, q4⟩
    exact ⟨z0, z1, va_Nc.moved (u := U) (U := U.calling g mk a) (Vm.Alike.refl U.vm) q5⟩
  · obtain ⟨z0, z1⟩ := xf_pre (av := As) C hP hS U hU hW
    exact ⟨z0, z1, va_Nc.moved hW.alike hN⟩
  · subst hw
    exact k H1 locs1 ls (by rw [← ht]; exact hB.2.1) hS1 hL
theorem xw_i2l (C : xw_C G cc nL own N ad) {x : Int32} (hd : decode cc pc = .ok (.i2l, 1)) (k : XW G Q nL cells slots N ad ce (pc + 1) lv (.long x.toInt64 :: st)) : XW G Q nL cells slots N ad ce pc lv (.int x :: st) :=
  fun H locs ls hP hS hL => lv_i2l C.1 C.2.1 hd rfl (k H locs ls hP hS hL)
theorem xw_lconst (C : xw_C G cc nL own N ad) {n : Fin 2} {v : Int64} (hd : decode cc pc = .ok (.lconst n, 1)) (hv : Int64.ofNat (n : Nat) = v) (k : XW G Q nL cells slots N ad ce (pc + 1) lv (.long v :: st)) : XW G Q nL cells slots N ad ce pc lv st :=
  fun H locs ls hP hS hL => lv_lconst C.1 C.2.1 hd hv (k H locs ls hP hS hL)
theorem xw_lcmp (C : xw_C G cc nL own N ad) {x y : Int64} (hd : decode cc pc = .ok (.lcmp, 1)) (k : XW G Q nL cells slots N ad ce (pc + 1) lv (.int (lg_cmp x y) :: st)) : XW G Q nL cells slots N ad ce pc lv (.long y :: .long x :: st) :=
  fun H locs ls hP hS hL => W.lcmp C.1 C.2.1 hd (k H locs ls hP hS hL)
theorem xw_sld (C : xw_C G cc nL own N ad) {b L : Nat} {xs : Nat → Int32} (hX : va_X b L xs (xgs G) (xgs G).heap) (hbl : b < (xgs G).heap.size) (hbB : ¬ xgB G ≤ b) {i : Int32} (hi : vp_in i L) (hd : decode cc pc = .ok (.iaload, 1)) (k : XW G Q nL cells slots N ad ce (pc + 1) lv (.int (xs i.toNatClampNeg) :: st)) : XW G Q nL cells slots N ad ce pc lv (.int i :: .ref b :: st) :=
  fun H locs ls hP hS hL => va_sld C.1 C.2.1 hX hbl hbB hS hi hd (k H locs ls hP hS hL)
theorem xw_slen (C : xw_C G cc nL own N ad) {b L : Nat} {xs : Nat → Int32} (hX : va_X b L xs (xgs G) (xgs G).heap) (hbl : b < (xgs G).heap.size) (hbB : ¬ xgB G ≤ b) (hd : decode cc pc = .ok (.arraylength, 1)) (k : XW G Q nL cells slots N ad ce (pc + 1) lv (.int (nI L) :: st)) : XW G Q nL cells slots N ad ce pc lv (.ref b :: st) :=
  fun H locs ls hP hS hL => va_slen C.1 C.2.1 hX hbl hbB hS hd (k H locs ls hP hS hL)
end LH
section LV
variable {G : xwG} {Q : State → Prop} {cc : ByteArray} {own : String} {nL cells slots : Nat} {ad : Nat → Nat} {cs : xmC} {M : xwM} {pc : Nat} {lv : List (Option Value)} {st : List Value}
theorem xv_last (C : xw_C G cc nL own 431 ad) (ht : xgt G = xm_tys cs) {x : Int32} (hd : decode cc pc = .ok (.lastore, 1)) (k : XV G Q nL cells slots ad cs (ms M 430 0 x) (pc + 1) lv st) : XV G Q nL cells slots ad cs M pc lv (.long x.toInt64 :: .int 0 :: .ref (ad 430) :: st) := by
  intro H locs ls hP hS hL
  refine va_last C.1 C.2.1 C.2.2.2.2.2.1 hP (xw_D C.2.2.2.2.2.2.2.2.1 _) hS 430 3 (f := fun j => (M 430 j).toInt64) (cA := cs.2.2.2) (n := 1) (by rw [xw_at (by decide)]; exact congrArg (fun z => some (ad 430, z)) xs_430) (by rw [ht]; rfl) (by unfold vp_in; decide) hd (fun H1 locs1 hP1 hD1 hS1 => ?_)
  rw [xw_set] at hP1
  refine k H1 locs1 ls ?_ hS1 hL
  have e : (Sum.inl (cs.2.2.2, 1, Sum.inr (Sum.inl (vp_updL (fun j => (M 430 j).toInt64) (0 : Int32).toNatClampNeg x.toInt64))) : va_E) = xm_sh ad cs 430 (upd (M 430) 0 x) := by
    rw [xs_430]
    congr 5
    funext j
    show (if j = 0 then x.toInt64 else (M 430 j).toInt64) = (if j = 0 then x else M 430 j).toInt64
    by_cases h : j = 0
    · rw [if_pos h, if_pos h]
    · rw [if_neg h, if_neg h]
  rw [e, xm_up rfl] at hP1
  exact hP1
theorem xv_lald (C : xw_C G cc nL own 431 ad) (ht : xgt G = xm_tys cs) (hd : decode cc pc = .ok (.laload, 1)) (k : XV G Q nL cells slots ad cs M (pc + 1) lv (.long (M 430 0).toInt64 :: st)) : XV G Q nL cells slots ad cs M pc lv (.int 0 :: .ref (ad 430) :: st) :=
  fun H locs ls hP hS hL => va_lald C.1 C.2.1 C.2.2.2.2.2.1 hP 430 3 (f := fun j => (M 430 j).toInt64) (cA := cs.2.2.2) (n := 1) (by rw [xw_at (by decide)]; exact congrArg (fun z => some (ad 430, z)) xs_430) (by rw [ht]; rfl) (by unfold vp_in; decide) hd (k H locs ls hP hS hL)
end LV
