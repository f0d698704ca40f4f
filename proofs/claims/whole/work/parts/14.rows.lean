/-! ===== rows for the printed walks ===== -/
def xlet {α : Type} (M : xwM) (f : xwM → Option α) : Option α := f M
theorem xlet_s {α : Type} {M : xwM} {f : xwM → Option α} {o : α} (h : xlet M f = some o) : f M = some o := h
theorem xl_z {α : Type} {v : Int32} {A : Option α} {o : α} (h : (if v = 0 ∨ v = 1 then A else none) = some o) : (v = 0 ∨ v = 1) ∧ A = some o := by
  by_cases c : v = 0 ∨ v = 1
  · rw [if_pos c] at h; exact ⟨c, h⟩
  · rw [if_neg c] at h; cases h
def xl_le : List (Option Value) → List (Option Value) → Prop
  | [], _ => True
  | _ :: _, [] => False
  | none :: a, _ :: b => xl_le a b
  | some v :: a, w :: b => w = some v ∧ xl_le a b
theorem xl_e {b : List (Option Value)} : xl_le [] b := trivial
theorem xl_n {a b : List (Option Value)} {w : Option Value} (h : xl_le a b) : xl_le (none :: a) (w :: b) := h
theorem xl_c {a b : List (Option Value)} {v : Value} {w : Option Value} (e : w = some v) (h : xl_le a b) : xl_le (some v :: a) (w :: b) := ⟨e, h⟩
theorem xl_go : ∀ (a b : List (Option Value)), xl_le a b → ∀ (i : Nat) (v : Value), a[i]? = some (some v) → b[i]? = some (some v)
  | [], _, _, i, v, h => by simp at h
  | _ :: _, [], h, _, _, _ => h.elim
  | none :: a, w :: b, h, 0, v, hv => by simp at hv
  | none :: a, w :: b, h, i + 1, v, hv => by
    have := xl_go a b h i v (by simpa using hv)
    simpa using this
  | some x :: a, w :: b, h, 0, v, hv => by
    simp at hv
    subst hv
    simp [h.1]
  | some x :: a, w :: b, h, i + 1, v, hv => by
    have := xl_go a b h.2 i v (by simpa using hv)
    simpa using this
abbrev xl_X0 (ad : Nat → Nat) (r : Nat → Int32) : List Value := [.ref (ad 411), .int (r 1), .int (r 2), .int (r 3), .int (r 4), .int (r 5)]
abbrev xl_X3 (ad : Nat → Nat) (r : Nat → Int32) : List Value := [.int (r 0), .ref (ad 419), .int (r 2), .ref (ad 420), .ref (ad 421), .ref (ad 422), .ref (ad 423), .ref (ad 424), .ref (ad 425), .ref (ad 426), .ref (ad 427), .ref (ad 428), .ref (ad 429), .int (r 13), .int (r 14), .int (r 15), .int (r 16)]
theorem xl_ne {x : Int32} (k : Nat) (hk : k < 2 ^ 31) (h : ¬ x = nI k) : x.toInt ≠ (k : Int) := fun e => h (Int32.toInt_inj.mp (by rw [e, nI_toInt hk]))
theorem xl_tab4 {x : Int32} (h0 : ¬ x = 0) (h1 : ¬ x = 1) (h2 : ¬ x = 2) (h3 : ¬ x = 3) : x.toInt < 0 ∨ 3 < x.toInt := by
  have e0 := xl_ne 0 (by decide) h0
  have e1 := xl_ne 1 (by decide) h1
  have e2 := xl_ne 2 (by decide) h2
  have e3 := xl_ne 3 (by decide) h3
  omega
section XC
variable {G : xwG} {Q : State → Prop} {cc : ByteArray} {own : String} {nL cells slots N : Nat} {ad : Nat → Nat} {ce : Nat → va_E} {pc : Nat} {lv lv' : List (Option Value)} {st st0 : List Value}
variable {y : MethodName} {cc' : ByteArray} {nL' : Nat} {ret' : Option FieldType} {rm' : Room} {As : List Value} {ce' : Nat → va_E} {r : Int32} {k9 ci NF index n mc ms : Nat} {Cn : String} {T : u_T} {fs : List Value}
theorem xl_sub (h : xl_le lv lv') (k : XW G Q nL cells slots N ad ce pc lv st) : XW G Q nL cells slots N ad ce pc lv' st := xw_sub (xl_go lv lv' h) k
theorem xc_Vi (C : xw_C G cc nL own N ad) (hM : xk_i (xgl G) y cc' nL' ret' rm' (xgD G) (xgt G) (xgB G) N ad (.ref (ad k9) :: As) ce ce' r) (F : xf_V y cc' nL' ret' Cn n) (hl : Cond.methodLink own index y ∈ xw_big) (hk : k9 < N) (he : ce k9 = .inr (ci, fs)) (hc : vwCl[ci]? = some (Cn, T, NF)) (hR : xf_R rm' nL' (xgR G) 0 0) (hcs : cells ≤ (xgR G).cells ∧ slots ≤ (xgR G).slots) (hn : As.length = n) (hst : (st.map fun v => v.category).sum ≤ 8) (hd : decode cc pc = .ok (.invokevirtual index, 3)) (hs : st0 = As.reverse ++ .ref (ad k9) :: st)
    (k : XW G Q nL cells slots N ad ce' (pc + 3) lv (.int r :: st)) : XW G Q nL cells slots N ad ce pc lv st0 := by
  subst hs; exact xw_callVi C hM F hl hk he hc hR hcs hn hst hd k
theorem xc_Vv (C : xw_C G cc nL own N ad) (hM : xk_v (xgl G) y cc' nL' ret' rm' (xgD G) (xgt G) (xgB G) N ad (.ref (ad k9) :: As) ce ce') (F : xf_V y cc' nL' ret' Cn n) (hl : Cond.methodLink own index y ∈ xw_big) (hk : k9 < N) (he : ce k9 = .inr (ci, fs)) (hc : vwCl[ci]? = some (Cn, T, NF)) (hR : xf_R rm' nL' (xgR G) 0 0) (hcs : cells ≤ (xgR G).cells ∧ slots ≤ (xgR G).slots) (hn : As.length = n) (hst : (st.map fun v => v.category).sum ≤ 8) (hd : decode cc pc = .ok (.invokevirtual index, 3)) (hs : st0 = As.reverse ++ .ref (ad k9) :: st)
    (k : XW G Q nL cells slots N ad ce' (pc + 3) lv st) : XW G Q nL cells slots N ad ce pc lv st0 := by
  subst hs; exact xw_callVv C hM F hl hk he hc hR hcs hn hst hd k
theorem xc_Si (C : xw_C G cc nL own N ad) (hM : xk_i (xgl G) y cc' nL' ret' rm' (xgD G) (xgt G) (xgB G) N ad As ce ce' r) (F : xf_S y cc' nL' ret' n) (hl : Cond.methodLink own index y ∈ xw_big) (hR : xf_R rm' nL' (xgR G) 0 0) (hcs : cells ≤ (xgR G).cells ∧ slots ≤ (xgR G).slots) (hn : As.length = n) (hst : (st.map fun v => v.category).sum ≤ 8) (hd : decode cc pc = .ok (.invokestatic index, 3)) (hs : st0 = As.reverse ++ st)
    (k : XW G Q nL cells slots N ad ce' (pc + 3) lv (.int r :: st)) : XW G Q nL cells slots N ad ce pc lv st0 := by
  subst hs; exact xw_callSi C hM F hl hR hcs hn hst hd k
theorem xc_Sv (C : xw_C G cc nL own N ad) (hM : xk_v (xgl G) y cc' nL' ret' rm' (xgD G) (xgt G) (xgB G) N ad As ce ce') (F : xf_S y cc' nL' ret' n) (hl : Cond.methodLink own index y ∈ xw_big) (hR : xf_R rm' nL' (xgR G) 0 0) (hcs : cells ≤ (xgR G).cells ∧ slots ≤ (xgR G).slots) (hn : As.length = n) (hst : (st.map fun v => v.category).sum ≤ 8) (hd : decode cc pc = .ok (.invokestatic index, 3)) (hs : st0 = As.reverse ++ st)
    (k : XW G Q nL cells slots N ad ce' (pc + 3) lv st) : XW G Q nL cells slots N ad ce pc lv st0 := by
  subst hs; exact xw_callSv C hM F hl hR hcs hn hst hd k
theorem xc_Ni {host : String} (C : xw_C G cc nL own N ad) (hM : xk_i (xgl G) y cc' nL' ret' rm' (xgD G) (xgt G) (xgB G) N ad As ce ce' r) (F : xf_S y cc' nL' ret' n) (hl : va_Nw (.methodLinkNest own index y host) (xgs G)) (hR : xf_R rm' nL' (xgR G) 0 0) (hcs : cells ≤ (xgR G).cells ∧ slots ≤ (xgR G).slots) (hn : As.length = n) (hst : (st.map fun v => v.category).sum ≤ 8) (hd : decode cc pc = .ok (.invokestatic index, 3)) (hs : st0 = As.reverse ++ st)
    (k : XW G Q nL cells slots N ad ce' (pc + 3) lv (.int r :: st)) : XW G Q nL cells slots N ad ce pc lv st0 := by
  subst hs; exact xw_callNi C hM F hl hR hcs hn hst hd k
theorem xc_Sxv (C : xw_C G cc nL own N ad) (hM : xk_xv (xgl G) y cc' nL' ret' rm' (xgD G) (xgt G) (xgB G) N ad As ce ce' (.inl r) mc ms) (F : xf_S y cc' nL' ret' n) (hl : Cond.methodLink own index y ∈ xw_big) (hR : xf_R rm' nL' (xgR G) mc ms) (hcs : cells + mc ≤ (xgR G).cells ∧ slots + ms ≤ (xgR G).slots) (hn : As.length = n) (hst : (st.map fun v => v.category).sum ≤ 8) (hd : decode cc pc = .ok (.invokestatic index, 3)) (hs : st0 = As.reverse ++ st)
    (k : XW G Q nL (cells + mc) (slots + ms) N ad ce' (pc + 3) lv st) : XW G Q nL cells slots N ad ce pc lv st0 := by
  subst hs; exact xw_callSxv C hM F hl hR hcs hn hst hd k
theorem xc_Vxv (C : xw_C G cc nL own N ad) (hM : xk_xv (xgl G) y cc' nL' ret' rm' (xgD G) (xgt G) (xgB G) N ad (.ref (ad k9) :: As) ce ce' (.inl r) mc ms) (F : xf_V y cc' nL' ret' Cn n) (hl : Cond.methodLink own index y ∈ xw_big) (hk : k9 < N) (he : ce k9 = .inr (ci, fs)) (hc : vwCl[ci]? = some (Cn, T, NF)) (hR : xf_R rm' nL' (xgR G) mc ms) (hcs : cells + mc ≤ (xgR G).cells ∧ slots + ms ≤ (xgR G).slots) (hn : As.length = n) (hst : (st.map fun v => v.category).sum ≤ 8) (hd : decode cc pc = .ok (.invokevirtual index, 3)) (hs : st0 = As.reverse ++ .ref (ad k9) :: st)
    (k : XW G Q nL (cells + mc) (slots + ms) N ad ce' (pc + 3) lv st) : XW G Q nL cells slots N ad ce pc lv st0 := by
  subst hs; exact xw_callVxv C hM F hl hk he hc hR hcs hn hst hd k
theorem xc_outS {E0 : String} {mc1 ms1 : Nat} {Qc : Array Value → State → Outcome → State → Prop} (C : xw_C G cc nL own N ad) (hE : ∀ x ∈ (xgc G).exceptionTable.toList, False) (hM : xk_xv (xgl G) y cc' nL' ret' rm' (xgD G) (xgt G) (xgB G) N ad As ce ce' (.inr E0) mc ms) (F : xf_S y cc' nL' ret' n) (hl : Cond.methodLink own index y ∈ xw_big) (hR : xf_R rm' nL' (xgR G) mc ms) (hcs : cells + mc ≤ (xgR G).cells ∧ slots + ms ≤ (xgR G).slots) (hcm : cells + mc ≤ mc1 ∧ slots + ms ≤ ms1) (hn : As.length = n) (hst : (st.map fun v => v.category).sum ≤ 8) (hd : decode cc pc = .ok (.invokestatic index, 3)) (hs : st0 = As.reverse ++ st) :
    XW G (vx_MQ (xgb G) Qc (xk_XC (xgD G) (xgt G) (xgB G) N ad ce' (.inr E0)) (xga G) (xgs G) mc1 ms1 (fun q => xgB G ≤ q)) nL cells slots N ad ce pc lv st0 := by
  subst hs; exact xw_outS C hE hM F hl hR hcs hcm hn hst hd
theorem xc_outV {E0 : String} {mc1 ms1 : Nat} {Qc : Array Value → State → Outcome → State → Prop} (C : xw_C G cc nL own N ad) (hE : ∀ x ∈ (xgc G).exceptionTable.toList, False) (hM : xk_xv (xgl G) y cc' nL' ret' rm' (xgD G) (xgt G) (xgB G) N ad (.ref (ad k9) :: As) ce ce' (.inr E0) mc ms) (F : xf_V y cc' nL' ret' Cn n) (hl : Cond.methodLink own index y ∈ xw_big) (hk : k9 < N) (he : ce k9 = .inr (ci, fs)) (hc : vwCl[ci]? = some (Cn, T, NF)) (hR : xf_R rm' nL' (xgR G) mc ms) (hcs : cells + mc ≤ (xgR G).cells ∧ slots + ms ≤ (xgR G).slots) (hcm : cells + mc ≤ mc1 ∧ slots + ms ≤ ms1) (hn : As.length = n) (hst : (st.map fun v => v.category).sum ≤ 8) (hd : decode cc pc = .ok (.invokevirtual index, 3)) (hs : st0 = As.reverse ++ .ref (ad k9) :: st) :
    XW G (vx_MQ (xgb G) Qc (xk_XC (xgD G) (xgt G) (xgB G) N ad ce' (.inr E0)) (xga G) (xgs G) mc1 ms1 (fun q => xgB G ≤ q)) nL cells slots N ad ce pc lv st0 := by
  subst hs; exact xw_outV C hE hM F hl hk he hc hR hcs hcm hn hst hd
theorem xw_alen {t0 : Nat} {cA : ClassId} {x : vp_A} {ty : FieldType} (C : xw_C G cc nL own N ad) (hk : k9 < N) (he : ce k9 = .inl (cA, x)) (ht : (xgt G)[t0]? = some (cA, ty)) (hd : decode cc pc = .ok (.arraylength, 1))
    (k : XW G Q nL cells slots N ad ce (pc + 1) lv (.int (nI x.1) :: st)) : XW G Q nL cells slots N ad ce pc lv (.ref (ad k9) :: st) :=
  fun H locs ls hP hS hL => va_alen C.1 C.2.1 C.2.2.2.2.2.1 hP k9 t0 (by rw [xw_at hk, he]) ht rfl hd (k H locs ls hP hS hL)
end XC
/-! Arrays.fill(int[], int) -/
abbrev rJ7_fill : Room := { frames := 0, cells := 0, slots := 0, locals := 0 }
theorem fill_loop {G : xwG} {N : Nat} {ad : Nat → Nat} {ce : Nat → va_E} {k9 n : Nat} {cI : ClassId} {f : Nat → Int32} {v : Int32} (C : xw_C G cJ7_fill_53178 4 RJ7 N ad) (hr : (xgM G).sig.returnType = none) (hk : k9 < N) (ht : (xgt G)[0]? = some (cI, .int)) (hn : n ≤ 2000) :
    ∀ (d i : Nat) (g : Nat → Int32), i + d = n → (∀ j, g j = if j < i then v else f j) → XW G (xw_qv G N ad (va_up ce k9 (.inl (cI, n, .inl (fun j => if j < n then v else f j))))) 4 0 0 N ad (va_up ce k9 (.inl (cI, n, .inl g))) 5 [some (.ref (ad k9)), some (.int v), some (.int (nI i)), some (.int (nI n))] [] := by
  intro d
  induction d with
  | zero =>
    intro i g hi hg
    have e : i = n := by omega
    subst e
    refine xw_iload_n C dJ7_fill_53178_5 2 rfl rfl ?_
    refine xw_iload_n C dJ7_fill_53178_6 3 rfl rfl ?_
    refine xw_icmp_ge (tgt := 20) C dJ7_fill_53178_7 (by decide) (fun _ => ?_) (fun c => absurd (nI_le (Nat.le_refl i) (by omega)) c)
    have e2 : g = (fun j => if j < i then v else f j) := funext hg
    subst e2
    exact xw_retv C hr dJ7_fill_53178_20
  | succ d ih =>
    intro i g hi hg
    refine xw_iload_n C dJ7_fill_53178_5 2 rfl rfl ?_
    refine xw_iload_n C dJ7_fill_53178_6 3 rfl rfl ?_
    refine xw_icmp_ge (tgt := 20) C dJ7_fill_53178_7 (by decide) (fun c => absurd c (nI_ge (show i < n by omega) (by omega))) (fun _ => ?_)
    refine xw_aload_n C dJ7_fill_53178_10 0 rfl rfl ?_
    refine xw_iload_n C dJ7_fill_53178_11 2 rfl rfl ?_
    refine xw_iload_n C dJ7_fill_53178_12 1 rfl rfl ?_
    refine xw_iast C (t0 := 0) hk (va_up_self _ _ _) ht (vp_in_nI (show i < n by omega) (by omega)) dJ7_fill_53178_13 ?_
    rw [bx_uu, nI_clamp (show i < 2 ^ 31 by omega)]
    refine xw_iinc (v := nI (i + 1)) C dJ7_fill_53178_14 rfl (nI_succ i).symm (by decide) ?_
    refine xw_goto (tgt := 5) C dJ7_fill_53178_17 (by decide) ?_
    refine ih (i + 1) (upd g i v) (by omega) (fun j => ?_)
    unfold upd
    by_cases h1 : j = i
    · rw [if_pos h1, if_pos (by omega)]
    · rw [if_neg h1, hg j]
      by_cases h2 : j < i
      · rw [if_pos h2, if_pos (by omega)]
      · rw [if_neg h2, if_neg (by omega)]
theorem mJ7_fill (l : Launch) {D : va_G} {tys : List (ClassId × FieldType)} {base N : Nat} {ad : Nat → Nat} {ce : Nat → va_E} {k9 n : Nat} {cI : ClassId} {f : Nat → Int32} {v : Int32} (hJ : xw_J N ad base) (hk : k9 < N) (he : ce k9 = .inl (cI, n, .inl f)) (ht : tys[0]? = some (cI, .int)) (hn : n ≤ 2000) :
    xk_v l yJ7_fill_53178 cJ7_fill_53178 4 none rJ7_fill D tys base N ad [.ref (ad k9), .int v] ce (va_up ce k9 (.inl (cI, n, .inl (fun j => if j < n then v else f j)))) := by
  refine xk_ofv 2 (by decide) hJ (List.forall_mem_cons.mpr ⟨rfl, List.forall_mem_cons.mpr ⟨rfl, List.forall_mem_nil _⟩⟩) (Nat.le_of_ble_eq_true rfl) (fun G e1 e2 e3 e4 e5 hr C => ?_)
  have ht' : (xgt G)[0]? = some (cI, .int) := by rw [e4]; exact ht
  refine xw_iconst (v := 0) C dJ7_fill_53178_0 (by decide) ?_
  refine xw_istore_n C dJ7_fill_53178_1 2 rfl (by decide) ?_
  refine xw_aload_n C dJ7_fill_53178_2 0 rfl rfl ?_
  refine xw_alen (t0 := 0) C hk he ht' dJ7_fill_53178_3 ?_
  refine xw_istore_n C dJ7_fill_53178_4 3 rfl (by decide) ?_
  have h0 : va_up ce k9 (.inl (cI, n, .inl f)) = ce := by
    funext j
    unfold va_up
    by_cases h : j = k9
    · rw [if_pos h, h, he]
    · rw [if_neg h]
  have h := fill_loop (ce := ce) (f := f) (v := v) C hr hk ht' hn n 0 f (by omega) (fun j => by simp)
  rw [h0] at h
  exact h
theorem xl_fill {G : xwG} {Q : State → Prop} {cc : ByteArray} {own : String} {nL cells slots : Nat} {ad : Nat → Nat} {cs : xmC} {M : xwM} {pc : Nat} {lv : List (Option Value)} {st : List Value} {k9 n index : Nat} {x : Int32} (C : xw_C G cc nL own 431 ad) (ht : xgt G = xm_tys cs) (hk : k9 < 431) (he : ∀ r, xm_sh ad cs k9 r = .inl (cs.1, n, .inl r)) (hn : n ≤ 2000) (hl : Cond.methodLink own index yJ7_fill_53178 ∈ xw_big) (hR : xf_R rJ7_fill 4 (xgR G) 0 0) (hcs : cells ≤ (xgR G).cells ∧ slots ≤ (xgR G).slots) (hst : (st.map fun v => v.category).sum ≤ 8) (hd : decode cc pc = .ok (.invokestatic index, 3))
    (k : XV G Q nL cells slots ad cs (fil M k9 n x) (pc + 3) lv st) : XV G Q nL cells slots ad cs M pc lv (.int x :: .ref (ad k9) :: st) := by
  refine xc_Sv (As := [.ref (ad k9), .int x]) C (mJ7_fill (xgl G) C.2.2.2.2.2.2.2.2.1 hk (he (M k9)) (by rw [ht]; rfl) hn) FJ7_fill hl hR hcs rfl hst hd rfl ?_
  rw [xm_up (he (fun j => if j < n then x else M k9 j))]
  exact k
theorem xl_atA : ∀ w ∈ (vx_atS RX2 152 xIAE ["java/lang/RuntimeException", "java/lang/Exception"]).filter goodWord, w ∈ xw_big := fun w h => xw_in ((by decide +kernel : ∀ w ∈ (vx_atS RX2 152 xIAE ["java/lang/RuntimeException", "java/lang/Exception"]).filter goodWord, w ∈ lw_tbl) w h) (List.mem_filter.mp h).2
theorem xl_badA : ∀ w ∈ (vx_atS RX2 152 xIAE ["java/lang/RuntimeException", "java/lang/Exception"]).filter (fun w => !goodWord w), w ∈ [Cond.castable xIAE xIAE, .declares (Bundle.initS "java/lang/RuntimeException"), .declares (Bundle.initS "java/lang/Exception"), .declares (Bundle.initS "java/lang/Throwable")] := by decide +kernel
theorem xl_goodA : ∀ w ∈ Cond.classLink RX2 148 xIAE :: Cond.initialized xIAE :: vx_atS RX2 152 xIAE ["java/lang/RuntimeException", "java/lang/Exception"], vx_ot w = true := by decide +kernel
theorem xl_atS : ∀ w ∈ (vx_atS RX2 85 xISE ["java/lang/RuntimeException", "java/lang/Exception"]).filter goodWord, w ∈ xw_big := fun w h => xw_in ((by decide +kernel : ∀ w ∈ (vx_atS RX2 85 xISE ["java/lang/RuntimeException", "java/lang/Exception"]).filter goodWord, w ∈ lw_tbl) w h) (List.mem_filter.mp h).2
theorem xl_badS : ∀ w ∈ (vx_atS RX2 85 xISE ["java/lang/RuntimeException", "java/lang/Exception"]).filter (fun w => !goodWord w), w ∈ [Cond.castable xISE xISE, .declares (Bundle.initS "java/lang/RuntimeException"), .declares (Bundle.initS "java/lang/Exception"), .declares (Bundle.initS "java/lang/Throwable")] := by decide +kernel
theorem xl_goodS : ∀ w ∈ Cond.classLink RX2 81 xISE :: Cond.initialized xISE :: vx_atS RX2 85 xISE ["java/lang/RuntimeException", "java/lang/Exception"], vx_ot w = true := by decide +kernel
