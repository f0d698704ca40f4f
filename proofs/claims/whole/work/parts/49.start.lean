def R_law : String := "BabelMeshLaw"
def lw_P (b : Addr) (xs : List Int32) (args : Array Value) (s : State) : Prop := args = #[.ref b] ∧ s.IntsAt b xs ∧ xs.length ≤ 2560 ∧ (Jvm.Cond.and given_1 narrow_1).before args s = true
def lw_Q (_ : Array Value) (s : State) (o : Outcome) (t : State) : Prop := o = .returned (some (.int 1)) ∧ Framed s o t [] 601024 7293034
def lw_Z (below : List Frame) (a : Array Value) (s : State) : State → Prop := fun t => ∃ o, t.status = .running ∧ Ended t below o ∧ lw_Q a s o t
/-- the law's own end, with 1 on the stack, nothing written that was there before, its room as the claim has it -/
theorem lw_ret {p : Program} {l : Launch} {e : Env} {s : State} {m : MethodId} {below : List Frame} {meth : Method} {c : Code} {b : Nat} (hx : p.tables.exec = Jvm.exec) (hb : c.code = code) (hr : meth.sig.returnType = ret) (hlocks : meth.locks = false) {pc : Nat} {H : Heap} {ls : Array Slot} (hdg : decode code pc = .ok (.ireturn, 1)) : W p l e room_1 s m #[Value.ref b] below meth c H [] 601024 7293034 (lw_Z below #[Value.ref b] s) (F0 m pc ls [.int 1]) := by
  intro T hT X
  obtain ⟨fs, hret, hrun, hended, hW, hframe⟩ := X.leave (v := some (.int 1)) (hlocks := hlocks) (fun h => by rw [hr] at h; cases h)
  have hmeth' : T.vm.method? m = some meth := X.method'
  refine ⟨T.setFrames fs, ?_, .returned (some (.int 1)), hrun, hended, rfl, ⟨_, rfl⟩, hW, hframe⟩
  jvm_step X.here [X.here.top, hx, hb, hdg, hmeth', hr, ret, narrow_b1]
  (try refine ⟨rfl, ?_⟩); (try refine ⟨rfl, ?_⟩)
  first | (intro acts; rw [hret _ acts rfl rfl rfl]) | rw [hret _ _ rfl rfl rfl]
  exact Steps.refl _
/-- what holds at the law's entry: the machine, the code, the tables' words (any of lw_tbl by 'hts w (by decide +kernel)'), the script of L ints xs at the cell b, what the Statement gives of the start (any of its parts by flat_of_before) -/
def lw_At (p : Program) (s : State) (m : MethodId) (meth : Method) (c : Code) (b L : Nat) (xs : Nat → Int32) : Prop :=
  p.tables.exec = Jvm.exec ∧ c.code = code ∧ meth.sig.returnType = ret ∧ c.maxLocals = 7 ∧ s.vm.findClass R_law = some m.cls ∧ (∀ w ∈ lw_tbl, w.before #[Value.ref b] s = true) ∧ va_X b L xs s s.heap ∧ b < s.heap.size ∧ meth.locks = false ∧ (Jvm.Cond.and given_1 narrow_1).before #[Value.ref b] s = true

theorem hw_42 : Cond.classLink RL 8 RX2 ∈ xw_big := xw_in (List.mem_of_getElem? (i := 42) (by decide +kernel)) (by decide +kernel)
theorem hw_477 : Cond.classLink RL 64 RX3 ∈ xw_big := xw_in (List.mem_of_getElem? (i := 477) (by decide +kernel)) (by decide +kernel)
theorem hw_43 : Cond.instantiable RX2 2 ∈ xw_big := xw_in (List.mem_of_getElem? (i := 43) (by decide +kernel)) (by decide +kernel)
theorem hw_478 : Cond.instantiable RX3 17 ∈ xw_big := xw_in (List.mem_of_getElem? (i := 478) (by decide +kernel)) (by decide +kernel)
theorem hw_44 : Cond.methodLink RL 63 yX2_init ∈ xw_big := xw_in (List.mem_of_getElem? (i := 44) (by decide +kernel)) (by decide +kernel)
theorem hw_479 : Cond.methodLink RL 66 yX3_init ∈ xw_big := xw_in (List.mem_of_getElem? (i := 479) (by decide +kernel)) (by decide +kernel)
theorem mAl_hi : ∀ (d i : Nat) (M : xwM) (k : Nat), 2 + 34 * (i + d) ≤ k → mAl i d M k = M k
  | 0, _, _, _, _ => rfl
  | d + 1, i, M, k, h => by
    show mAl (i + 1) d (mR i M) k = M k
    rw [mAl_hi d (i + 1) (mR i M) k (by omega), mR_hi (by omega)]
theorem mL1_o : ∀ (d i : Nat) (M : xwM) (k : Nat), k < 421 ∨ 426 < k → mL1 i d M k = M k
  | 0, _, _, _, _ => rfl
  | d + 1, i, M, k, h => by
    show mL1 (i + 1) d _ k = M k
    rw [mL1_o d (i + 1) _ k h]
    funext j
    rw [ms_at, if_neg (by omega), ms_at, if_neg (by omega), ms_at, if_neg (by omega), ms_at, if_neg (by omega), ms_at, if_neg (by omega), ms_at, if_neg (by omega)]
theorem mL2_o : ∀ (d i : Nat) (M : xwM) (k : Nat), k < 427 ∨ 428 < k → mL2 i d M k = M k
  | 0, _, _, _, _ => rfl
  | d + 1, i, M, k, h => by
    show mL2 (i + 1) d _ k = M k
    rw [mL2_o d (i + 1) _ k h]
    funext j
    rw [ms_at, if_neg (by omega), ms_at, if_neg (by omega)]
/-- the memory with which the law's loop begins -/
def M00 : xwM := fun _ _ => 0
def M0 : xwM := mL2 0 1728 (mL1 0 144 (mAl 0 12 M00))
theorem st_str {args : Array Value} {s : State} {k : Nat} {tx : String} (h1 : (Cond.stringRef RX2 k tx).before args s = true) (h2 : (Cond.exactly (.string RX2 k) "java/lang/String").before args s = true) : ∃ a, vk_R RX2 k tx a s := by
  obtain ⟨a, c, cell, kk, e, -⟩ := Cond.exactly_spec h2
  exact ⟨a, vk_R.of h1 e⟩
set_option maxHeartbeats 4000000 in
set_option maxRecDepth 100000 in
theorem st_Z {s : State} {b : Nat} (hts : ∀ w ∈ lw_tbl, w.before #[Value.ref b] s = true) (hgv : (Jvm.Cond.and given_1 narrow_1).before #[Value.ref b] s = true) : xw_Z s.heap.size s := by
  have hs := flat_of_before _ hgv
  have hA : ∀ a : Nat, a < s.heap.size → ¬ (fun q => s.heap.size ≤ q) a := fun a h => Nat.not_le.mpr h
  refine ⟨⟨va_Nw.of rfl (hts _ (List.mem_of_getElem? (i := 262) (by decide +kernel))), va_Nw.of rfl (hts _ (List.mem_of_getElem? (i := 320) (by decide +kernel))), va_Nw.of rfl (hts _ (List.mem_of_getElem? (i := 105) (by decide +kernel))), va_Nw.of rfl (hts _ (List.mem_of_getElem? (i := 156) (by decide +kernel))), va_Nw.of rfl (hts _ (List.mem_of_getElem? (i := 342) (by decide +kernel))), va_Nw.of rfl (hts _ (List.mem_of_getElem? (i := 158) (by decide +kernel))), va_Nw.of rfl (hts _ (List.mem_of_getElem? (i := 160) (by decide +kernel))), va_Nw.of rfl (hts _ (List.mem_of_getElem? (i := 162) (by decide +kernel)))⟩, ⟨vx_Zqof (hts _ (List.mem_of_getElem? (i := 181) (by decide +kernel))) (hts _ (List.mem_of_getElem? (i := 36) (by decide +kernel))) (hs _ (by decide +kernel)) hA, vx_Zqof (hts _ (List.mem_of_getElem? (i := 183) (by decide +kernel))) (hts _ (List.mem_of_getElem? (i := 36) (by decide +kernel))) (hs _ (by decide +kernel)) hA⟩, st_str (hts _ (List.mem_of_getElem? (i := 194) (by decide +kernel))) (hs _ (by decide +kernel)), st_str (hts _ (List.mem_of_getElem? (i := 221) (by decide +kernel))) (hs _ (by decide +kernel)), st_str (hts _ (List.mem_of_getElem? (i := 225) (by decide +kernel))) (hs _ (by decide +kernel)), st_str (hts _ (List.mem_of_getElem? (i := 383) (by decide +kernel))) (hs _ (by decide +kernel)), st_str (hts _ (List.mem_of_getElem? (i := 349) (by decide +kernel))) (hs _ (by decide +kernel))⟩
theorem st_arr {args : Array Value} {s : State} {ty : FieldType} (hp : ∀ cA : ClassId, s.vm.findClass ("[" ++ ty.toString) = some cA → va_RA s cA ty) (h : (Cond.arrayClass ty).before args s = true) : ∃ cA : ClassId, ArrOfT s cA ty ∧ va_RA s cA ty := by
  obtain ⟨c, k, comp, h1, h2, h3⟩ := Cond.arrayClass_spec h
  exact ⟨c, fun n z => ⟨fun q h => (by cases h), k, h2, comp, h3⟩, hp c h1⟩
set_option maxHeartbeats 4000000 in
set_option maxRecDepth 100000 in
theorem whole_open {p : Program} {e : Env} {s : State} {m : MethodId} {below : List Frame} {meth : Method} {c : Code} (l : Launch) (hl : l.stackTraces = false) {b L : Nat} {xs : Nat → Int32} (LI : Nat → xwM → Prop) (hini : LI 0 M0) (hstep : ∀ (n : Nat) (M : xwM), n < 512 → LI n M → ∀ (op : Nat) (a1 a2 a3 a4 : Int32), op < 15 → ∃ M3 : xwM, lwStep op a1 a2 a3 a4 M M3 ∧ LI (n + 1) M3) (hskip : ∀ (n : Nat) (M : xwM), LI n M → LI (n + 1) M) (hL : L ≤ 2560) (C0 : lw_At p s m meth c b L xs) : W p l e room_1 s m #[Value.ref b] below meth c s.heap [] 0 0 (lw_Z below #[Value.ref b] s) (entryFrame m ([Value.ref b] : List Value).toArray 7) := by
  obtain ⟨hx, hb, hr, hml, hown, hts, hX, hbl, hlocks, hgv⟩ := C0
  have hs := flat_of_before _ hgv
  obtain ⟨c0, iS0, hKn0⟩ := u_known (C := RX0) (T := TX0) (N := 6) (n := 6) hts inX0 (hts _ (List.mem_filter.mp hw_104).1)
  obtain ⟨c1, iS1, hKn1⟩ := u_known (C := RX1) (T := TX1) (N := 10) (n := 10) hts inX1 (hts _ (List.mem_filter.mp hw_52).1)
  obtain ⟨c2, iS2, hKn2⟩ := u_known (C := RX2) (T := TX2) (N := 2) (n := 2) hts inX2 (hts _ (List.mem_filter.mp hw_43).1)
  obtain ⟨c3, iS3, hKn3⟩ := u_known (C := RX3) (T := TX3) (N := 17) (n := 17) hts inX3 (hts _ (List.mem_filter.mp hw_478).1)
  obtain ⟨dC, dI, hKc⟩ : ∃ (dC : Nat → ClassId) (dI : Nat → Nat → Nat), ∀ (k : Nat) (q : vw_C), vwCl[k]? = some q → u_Kn s q.1 q.2.1 q.2.2 (dC k) (dI k) := by
    refine ⟨fun k => if k = 0 then c0 else if k = 1 then c1 else if k = 2 then c2 else c3, fun k => if k = 0 then iS0 else if k = 1 then iS1 else if k = 2 then iS2 else iS3, ?_⟩
    intro k q hq
    match k, hq with
    | 0, hq => cases hq; exact hKn0
    | 1, hq => cases hq; exact hKn1
    | 2, hq => cases hq; exact hKn2
    | 3, hq => cases hq; exact hKn3
    | k + 4, hq => simp [vwCl] at hq
  obtain ⟨cI, hI1, hI2⟩ := st_arr (ty := .int) (fun _ h => h) (hts _ (List.mem_filter.mp hw_102).1)
  obtain ⟨cJ, hJ1, hJ2⟩ := st_arr (ty := .long) (fun _ h => h) (hts _ (List.mem_filter.mp hw_663).1)
  obtain ⟨cR, cA, kA, r1, -, r2, r3, r4⟩ := Cond.arrayOver_spec (n := RX1) (hts (.arrayOver (.object RX1)) (List.mem_of_getElem? (i := 51) (by decide +kernel)))
  obtain ⟨cQ, cII, kII, q1, q2, q3, q4⟩ := Cond.arrayOver_specA (t := .int) (hts (.arrayOver (.array .int)) (List.mem_of_getElem? (i := 58) (by decide +kernel)))
  have hK : va_K (dC, dI) vwCl (xm_tys (cI, cA, cII, cJ)) s := by
    refine ⟨hKc, fun k q hq => ?_⟩
    match k, hq with
    | 0, hq => cases hq; exact ⟨hI1, hI2⟩
    | 1, hq => cases hq; exact ⟨fun n z => ⟨fun q h => (by cases h), kA, r2, cR, r3⟩, kA, cR, r2, r3, r1, r4⟩
    | 2, hq => cases hq; exact ⟨fun n z => ⟨fun q h => (by cases h), kII, q2, cQ, q3⟩, q4⟩
    | 3, hq => cases hq; exact ⟨hJ1, hJ2⟩
    | k + 4, hq => simp [xm_tys] at hq
  have hY : xw_Y s := ⟨hts (.arrayOver (.object RX1)) (List.mem_of_getElem? (i := 51) (by decide +kernel)), hts (.arrayOver (.array .int)) (List.mem_of_getElem? (i := 58) (by decide +kernel))⟩
  have hN : va_Nc xISE xIAE s := va_Nc.of (hs _ (by decide +kernel))
  have hZ := st_Z hts hgv
  obtain ⟨G, hG⟩ : ∃ G : xwG, G = (p, l, e, room_1, s, m, #[Value.ref b], below, meth, c, (dC, dI), xm_tys (cI, cA, cII, cJ), s.heap.size) := ⟨_, rfl⟩
  have C : xw_C G cL_law 7 RL 0 (xa (xgB G)) := by
    rw [hG]
    exact ⟨hx, hb, hml, hown, fun w hw => hts w (List.mem_filter.mp hw).1, hK, Nat.le_refl _, hlocks, xa_J 0 _, hZ⟩
  have ht : xgt G = xm_tys (cI, cA, cII, cJ) := by rw [hG]
  have hR : xgR G = room_1 := by rw [hG]
  have hlG : (xgl G).stackTraces = false := by rw [hG]; exact hl
  have hNG : va_Nc xISE xIAE (xgs G) := by rw [hG]; exact hN
  have hXG : va_X b L xs (xgs G) (xgs G).heap := by rw [hG]; exact hX
  have hblG : b < (xgs G).heap.size := by rw [hG]; exact hbl
  have hbBG : ¬ xgB G ≤ b := by rw [hG]; exact Nat.not_le.mpr hbl
  have hYG : xw_Y (xgs G) := by rw [hG]; exact hY
  have hszG : (xgs G).heap.size = xgB G := by rw [hG]
  have key : XW G (lw_Z below #[Value.ref b] s) 7 0 0 0 (xa (xgB G)) (fun _ => .inr (0, [])) 0 ([.ref b].map some ++ List.replicate 6 none) [] := by
    refine xn_newE (N2 := 1) (ce' := xu (xa (xgB G)) (cI, cA, cII, cJ) [.null, .null] (fun _ => none) M00) C (by omega) (fun k hk => absurd hk (Nat.not_lt_zero k)) rfl rfl inB2 tyX2 tyX2_ok hw_42 hw_43 hw_31 dvX2 (by rw [hR]; decide) rfl dL_law_0 ?_
    refine xw_dup (xa_C C) dL_law_3 rfl ?_
    refine xn_call (k9 := 0) (As := []) (xa_C C) hYG (by omega) (mX2_init (xgl G) ht (fun k hk => rfl)) FX2_init hw_44 (by rw [hR]; decide) (by rw [hR]; decide) rfl (Nat.le_of_ble_eq_true rfl) dL_law_4 rfl ?_
    refine xw_astore_n (xa_C C) dL_law_7 1 rfl (by decide) ?_
    refine xn_newE (N2 := 419) (ce' := xt 418 3 (xm_ce (xa (xgB G)) (cI, cA, cII, cJ) (mAl 0 12 M00)) (xa (xgB G)) (cI, cA, cII, cJ) [.int 0, .null, .int 0, .null, .null, .null, .null, .null, .null, .null, .null, .null, .null, .int 0, .int 0, .int 0, .int 0] (mAl 0 12 M00)) (xa_C C) (by omega) (fun k hk => xt_l hk) xt_0 rfl inB3 tyX3 tyX3_ok hw_477 hw_478 hw_35 dvX3 (by rw [hR]; decide) rfl dL_law_8 ?_
    refine xw_dup (xa_C C) dL_law_11 rfl ?_
    refine xn_call (k9 := 418) (As := []) (xa_C C) hYG (by omega) (mX3_init (xgl G) ht (fun k hk => by rw [mAl_hi 12 0 M00 k (by omega)]; rfl)) FX3_init hw_479 (by rw [hR]; decide) (by rw [hR]; decide) rfl (Nat.le_of_ble_eq_true rfl) dL_law_12 rfl ?_
    refine xw_astore_n (xa_C C) dL_law_15 2 rfl (by decide) ?_
    refine xw_iconst (v := 1) (xa_C C) dL_law_16 (by decide) ?_
    refine xn_arrJ (cs := (cI, cA, cII, cJ)) (len := 1) (ce' := xm_ce (xa (xgB G)) (cI, cA, cII, cJ) M0) (xa_C C) ht (by omega) (by decide) (by decide) (by decide) (fun k hk => ?_) ?_ hw_663 (by rw [hR]; decide) dL_law_17 ?_
    · by_cases h1 : k < 418
      · rw [if_pos h1]
        show xm_sh _ _ k (M0 k) = xm_sh _ _ k (mAl 0 12 M00 k)
        unfold M0
        rw [mL2_o _ _ _ k (by omega), mL1_o _ _ _ k (by omega)]
      · rw [if_neg h1]
        rfl
    · show xm_sh _ _ 430 (M0 430) = _
      unfold M0
      rw [mL2_o _ _ _ 430 (by omega), mL1_o _ _ _ 430 (by omega), mAl_hi 12 0 M00 430 (by omega)]
      rfl
    refine xw_astore_n (xa_C C) dL_law_19 3 rfl (by decide) ?_
    refine xw_iconst (v := 0) (xa_C C) dL_law_20 (by decide) ?_
    refine xw_istore (xa_C C) dL_law_21 (by decide) ?_
    refine law_loop LI hstep hskip (xa_C C) hR ht hlG hNG hXG hblG hbBG hL (fun cells slots M i h1 h2 => ?_) 513 0 M0 _ _ (by decide) hini (by decide) (by decide)
    refine xw_iconst (v := 1) (xa_C C) dL_law_1097 (by decide) ?_
    intro H locs ls hP hS hL9
    have hS2 := hS.2.2
    rw [hG] at hS2 ⊢
    refine va_forget (fun q hq => hS2 q hq) ?_
    refine W.widen (k := 601024) (n := 7293034) h1 h2 ?_
    exact lw_ret hx hb hr hlocks dL_law_1098
  rw [lg_entry_eq]
  have key2 := key s.heap [] _ (fun k q hk => by have := (xw_of hk).1; omega) (by rw [hG]; exact va_S.rf) (xw_entry [.ref b] 6 (Nat.le_of_ble_eq_true rfl) (List.forall_mem_cons.mpr ⟨rfl, List.forall_mem_nil _⟩))
  rw [hG] at key2
  exact key2
