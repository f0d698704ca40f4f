section
/-- a private method of a class that the tables say can be made, by its rows of tables_1 -/
def lw_okq (q : MethodName × Nat) : Prop := (q.1.cls ≠ "java/lang/invoke/MethodHandle" ∧ q.1.cls ≠ "java/lang/invoke/VarHandle") ∧ Cond.instantiable q.1.cls q.2 ∈ tables_1 ∧ Cond.privateMethod q.1 ∈ tables_1 ∧ Cond.instanceMethod q.1 ∈ tables_1
theorem lw_p0 : lw_okq (⟨"java/lang/Throwable", "fillInStackTrace", "(I)Ljava/lang/Throwable;"⟩, 6) := ⟨⟨by decide +kernel, by decide +kernel⟩, List.mem_of_getElem? (i := 162) (by decide +kernel), List.mem_of_getElem? (i := 160) (by decide +kernel), List.mem_of_getElem? (i := 161) (by decide +kernel)⟩
theorem lw_p1 : lw_okq (⟨"BabelMesh", "tellEveryWay", "(II)V"⟩, 2) := ⟨⟨by decide +kernel, by decide +kernel⟩, List.mem_of_getElem? (i := 13) (by decide +kernel), List.mem_of_getElem? (i := 203) (by decide +kernel), List.mem_of_getElem? (i := 204) (by decide +kernel)⟩
theorem lw_p2 : lw_okq (⟨"BabelMesh", "tell", "(III)V"⟩, 2) := ⟨⟨by decide +kernel, by decide +kernel⟩, List.mem_of_getElem? (i := 13) (by decide +kernel), List.mem_of_getElem? (i := 211) (by decide +kernel), List.mem_of_getElem? (i := 212) (by decide +kernel)⟩
theorem lw_p3 : lw_okq (⟨"BabelMesh$LetterRow", "placeOf", "(I)I"⟩, 6) := ⟨⟨by decide +kernel, by decide +kernel⟩, List.mem_of_getElem? (i := 74) (by decide +kernel), List.mem_of_getElem? (i := 224) (by decide +kernel), List.mem_of_getElem? (i := 225) (by decide +kernel)⟩
theorem lw_p4 : lw_okq (⟨"BabelMesh", "chooseEverywhere", "(I)V"⟩, 2) := ⟨⟨by decide +kernel, by decide +kernel⟩, List.mem_of_getElem? (i := 13) (by decide +kernel), List.mem_of_getElem? (i := 240) (by decide +kernel), List.mem_of_getElem? (i := 241) (by decide +kernel)⟩
theorem lw_p5 : lw_okq (⟨"BabelMesh", "chooseAnew", "(II)V"⟩, 2) := ⟨⟨by decide +kernel, by decide +kernel⟩, List.mem_of_getElem? (i := 13) (by decide +kernel), List.mem_of_getElem? (i := 244) (by decide +kernel), List.mem_of_getElem? (i := 245) (by decide +kernel)⟩
theorem lw_p6 : lw_okq (⟨"BabelMesh$Radio", "findBestNeighbour", "(I)I"⟩, 10) := ⟨⟨by decide +kernel, by decide +kernel⟩, List.mem_of_getElem? (i := 22) (by decide +kernel), List.mem_of_getElem? (i := 252) (by decide +kernel), List.mem_of_getElem? (i := 253) (by decide +kernel)⟩
theorem lw_p7 : lw_okq (⟨"BabelMesh", "tellAll", "(II)V"⟩, 2) := ⟨⟨by decide +kernel, by decide +kernel⟩, List.mem_of_getElem? (i := 13) (by decide +kernel), List.mem_of_getElem? (i := 258) (by decide +kernel), List.mem_of_getElem? (i := 259) (by decide +kernel)⟩
theorem lw_p8 : lw_okq (⟨"BabelMesh", "askAll", "(II)V"⟩, 2) := ⟨⟨by decide +kernel, by decide +kernel⟩, List.mem_of_getElem? (i := 13) (by decide +kernel), List.mem_of_getElem? (i := 262) (by decide +kernel), List.mem_of_getElem? (i := 263) (by decide +kernel)⟩
theorem lw_p9 : lw_okq (⟨"BabelMesh", "requestAll", "(IIIII)V"⟩, 2) := ⟨⟨by decide +kernel, by decide +kernel⟩, List.mem_of_getElem? (i := 13) (by decide +kernel), List.mem_of_getElem? (i := 269) (by decide +kernel), List.mem_of_getElem? (i := 270) (by decide +kernel)⟩
theorem lw_p10 : lw_okq (⟨"BabelMesh$LetterRow", "put", "(II)V"⟩, 6) := ⟨⟨by decide +kernel, by decide +kernel⟩, List.mem_of_getElem? (i := 74) (by decide +kernel), List.mem_of_getElem? (i := 339) (by decide +kernel), List.mem_of_getElem? (i := 340) (by decide +kernel)⟩
theorem lw_p11 : lw_okq (⟨"BabelMesh", "requireLetter", "(I)V"⟩, 2) := ⟨⟨by decide +kernel, by decide +kernel⟩, List.mem_of_getElem? (i := 13) (by decide +kernel), List.mem_of_getElem? (i := 350) (by decide +kernel), List.mem_of_getElem? (i := 351) (by decide +kernel)⟩
theorem lw_p12 : lw_okq (⟨"BabelMesh", "handOver", "(I)V"⟩, 2) := ⟨⟨by decide +kernel, by decide +kernel⟩, List.mem_of_getElem? (i := 13) (by decide +kernel), List.mem_of_getElem? (i := 355) (by decide +kernel), List.mem_of_getElem? (i := 356) (by decide +kernel)⟩
theorem lw_p13 : lw_okq (⟨"BabelMesh", "hearTelling", "(IIIII)V"⟩, 2) := ⟨⟨by decide +kernel, by decide +kernel⟩, List.mem_of_getElem? (i := 13) (by decide +kernel), List.mem_of_getElem? (i := 364) (by decide +kernel), List.mem_of_getElem? (i := 365) (by decide +kernel)⟩
theorem lw_p14 : lw_okq (⟨"BabelMesh", "hearRequest", "(IIIII)V"⟩, 2) := ⟨⟨by decide +kernel, by decide +kernel⟩, List.mem_of_getElem? (i := 13) (by decide +kernel), List.mem_of_getElem? (i := 368) (by decide +kernel), List.mem_of_getElem? (i := 369) (by decide +kernel)⟩
theorem lw_p15 : lw_okq (⟨"BabelMesh", "countAllLinks", "()I"⟩, 2) := ⟨⟨by decide +kernel, by decide +kernel⟩, List.mem_of_getElem? (i := 13) (by decide +kernel), List.mem_of_getElem? (i := 444) (by decide +kernel), List.mem_of_getElem? (i := 445) (by decide +kernel)⟩
def lw_privs_1 : List (MethodName × Nat) := [(⟨"java/lang/Throwable", "fillInStackTrace", "(I)Ljava/lang/Throwable;"⟩, 6), (⟨"BabelMesh", "tellEveryWay", "(II)V"⟩, 2), (⟨"BabelMesh", "tell", "(III)V"⟩, 2), (⟨"BabelMesh$LetterRow", "placeOf", "(I)I"⟩, 6), (⟨"BabelMesh", "chooseEverywhere", "(I)V"⟩, 2), (⟨"BabelMesh", "chooseAnew", "(II)V"⟩, 2), (⟨"BabelMesh$Radio", "findBestNeighbour", "(I)I"⟩, 10), (⟨"BabelMesh", "tellAll", "(II)V"⟩, 2), (⟨"BabelMesh", "askAll", "(II)V"⟩, 2), (⟨"BabelMesh", "requestAll", "(IIIII)V"⟩, 2), (⟨"BabelMesh$LetterRow", "put", "(II)V"⟩, 6), (⟨"BabelMesh", "requireLetter", "(I)V"⟩, 2), (⟨"BabelMesh", "handOver", "(I)V"⟩, 2), (⟨"BabelMesh", "hearTelling", "(IIIII)V"⟩, 2), (⟨"BabelMesh", "hearRequest", "(IIIII)V"⟩, 2), (⟨"BabelMesh", "countAllLinks", "()I"⟩, 2)]
theorem lw_r1 : ∀ q ∈ lw_privs_1, lw_okq q := List.forall_mem_cons.mpr ⟨lw_p0, List.forall_mem_cons.mpr ⟨lw_p1, List.forall_mem_cons.mpr ⟨lw_p2, List.forall_mem_cons.mpr ⟨lw_p3, List.forall_mem_cons.mpr ⟨lw_p4, List.forall_mem_cons.mpr ⟨lw_p5, List.forall_mem_cons.mpr ⟨lw_p6, List.forall_mem_cons.mpr ⟨lw_p7, List.forall_mem_cons.mpr ⟨lw_p8, List.forall_mem_cons.mpr ⟨lw_p9, List.forall_mem_cons.mpr ⟨lw_p10, List.forall_mem_cons.mpr ⟨lw_p11, List.forall_mem_cons.mpr ⟨lw_p12, List.forall_mem_cons.mpr ⟨lw_p13, List.forall_mem_cons.mpr ⟨lw_p14, List.forall_mem_cons.mpr ⟨lw_p15, fun _ h => absurd h List.not_mem_nil⟩⟩⟩⟩⟩⟩⟩⟩⟩⟩⟩⟩⟩⟩⟩⟩
theorem lw_p16 : lw_okq (⟨"BabelMeshModel", "refuses", "(I)Z"⟩, 17) := ⟨⟨by decide +kernel, by decide +kernel⟩, List.mem_of_getElem? (i := 448) (by decide +kernel), List.mem_of_getElem? (i := 517) (by decide +kernel), List.mem_of_getElem? (i := 518) (by decide +kernel)⟩
theorem lw_p17 : lw_okq (⟨"BabelMeshModel", "introduces", "(II)V"⟩, 17) := ⟨⟨by decide +kernel, by decide +kernel⟩, List.mem_of_getElem? (i := 448) (by decide +kernel), List.mem_of_getElem? (i := 521) (by decide +kernel), List.mem_of_getElem? (i := 522) (by decide +kernel)⟩
theorem lw_p18 : lw_okq (⟨"BabelMeshModel", "tells", "(III)V"⟩, 17) := ⟨⟨by decide +kernel, by decide +kernel⟩, List.mem_of_getElem? (i := 448) (by decide +kernel), List.mem_of_getElem? (i := 525) (by decide +kernel), List.mem_of_getElem? (i := 526) (by decide +kernel)⟩
theorem lw_p19 : lw_okq (⟨"BabelMeshModel", "send", "(IIIIII)V"⟩, 17) := ⟨⟨by decide +kernel, by decide +kernel⟩, List.mem_of_getElem? (i := 448) (by decide +kernel), List.mem_of_getElem? (i := 529) (by decide +kernel), List.mem_of_getElem? (i := 530) (by decide +kernel)⟩
theorem lw_p20 : lw_okq (⟨"BabelMeshModel", "choosesAll", "(I)V"⟩, 17) := ⟨⟨by decide +kernel, by decide +kernel⟩, List.mem_of_getElem? (i := 448) (by decide +kernel), List.mem_of_getElem? (i := 537) (by decide +kernel), List.mem_of_getElem? (i := 538) (by decide +kernel)⟩
theorem lw_p21 : lw_okq (⟨"BabelMeshModel", "chooses", "(II)V"⟩, 17) := ⟨⟨by decide +kernel, by decide +kernel⟩, List.mem_of_getElem? (i := 448) (by decide +kernel), List.mem_of_getElem? (i := 541) (by decide +kernel), List.mem_of_getElem? (i := 542) (by decide +kernel)⟩
theorem lw_p22 : lw_okq (⟨"BabelMeshModel", "by", "(III)I"⟩, 17) := ⟨⟨by decide +kernel, by decide +kernel⟩, List.mem_of_getElem? (i := 448) (by decide +kernel), List.mem_of_getElem? (i := 545) (by decide +kernel), List.mem_of_getElem? (i := 546) (by decide +kernel)⟩
theorem lw_p23 : lw_okq (⟨"BabelMeshModel", "isGood", "(IIII)Z"⟩, 17) := ⟨⟨by decide +kernel, by decide +kernel⟩, List.mem_of_getElem? (i := 448) (by decide +kernel), List.mem_of_getElem? (i := 549) (by decide +kernel), List.mem_of_getElem? (i := 550) (by decide +kernel)⟩
theorem lw_p24 : lw_okq (⟨"BabelMeshModel", "tellsAll", "(II)V"⟩, 17) := ⟨⟨by decide +kernel, by decide +kernel⟩, List.mem_of_getElem? (i := 448) (by decide +kernel), List.mem_of_getElem? (i := 554) (by decide +kernel), List.mem_of_getElem? (i := 555) (by decide +kernel)⟩
theorem lw_p25 : lw_okq (⟨"BabelMeshModel", "wanted", "(II)I"⟩, 17) := ⟨⟨by decide +kernel, by decide +kernel⟩, List.mem_of_getElem? (i := 448) (by decide +kernel), List.mem_of_getElem? (i := 558) (by decide +kernel), List.mem_of_getElem? (i := 559) (by decide +kernel)⟩
theorem lw_p26 : lw_okq (⟨"BabelMeshModel", "asks", "(IIIII)V"⟩, 17) := ⟨⟨by decide +kernel, by decide +kernel⟩, List.mem_of_getElem? (i := 448) (by decide +kernel), List.mem_of_getElem? (i := 562) (by decide +kernel), List.mem_of_getElem? (i := 563) (by decide +kernel)⟩
theorem lw_p27 : lw_okq (⟨"BabelMeshModel", "takes", "(I)V"⟩, 17) := ⟨⟨by decide +kernel, by decide +kernel⟩, List.mem_of_getElem? (i := 448) (by decide +kernel), List.mem_of_getElem? (i := 582) (by decide +kernel), List.mem_of_getElem? (i := 583) (by decide +kernel)⟩
theorem lw_p28 : lw_okq (⟨"BabelMeshModel", "hands", "(I)I"⟩, 17) := ⟨⟨by decide +kernel, by decide +kernel⟩, List.mem_of_getElem? (i := 448) (by decide +kernel), List.mem_of_getElem? (i := 590) (by decide +kernel), List.mem_of_getElem? (i := 591) (by decide +kernel)⟩
theorem lw_p29 : lw_okq (⟨"BabelMeshModel", "requested", "(IIIII)V"⟩, 17) := ⟨⟨by decide +kernel, by decide +kernel⟩, List.mem_of_getElem? (i := 448) (by decide +kernel), List.mem_of_getElem? (i := 594) (by decide +kernel), List.mem_of_getElem? (i := 595) (by decide +kernel)⟩
def lw_privs_2 : List (MethodName × Nat) := [(⟨"BabelMeshModel", "refuses", "(I)Z"⟩, 17), (⟨"BabelMeshModel", "introduces", "(II)V"⟩, 17), (⟨"BabelMeshModel", "tells", "(III)V"⟩, 17), (⟨"BabelMeshModel", "send", "(IIIIII)V"⟩, 17), (⟨"BabelMeshModel", "choosesAll", "(I)V"⟩, 17), (⟨"BabelMeshModel", "chooses", "(II)V"⟩, 17), (⟨"BabelMeshModel", "by", "(III)I"⟩, 17), (⟨"BabelMeshModel", "isGood", "(IIII)Z"⟩, 17), (⟨"BabelMeshModel", "tellsAll", "(II)V"⟩, 17), (⟨"BabelMeshModel", "wanted", "(II)I"⟩, 17), (⟨"BabelMeshModel", "asks", "(IIIII)V"⟩, 17), (⟨"BabelMeshModel", "takes", "(I)V"⟩, 17), (⟨"BabelMeshModel", "hands", "(I)I"⟩, 17), (⟨"BabelMeshModel", "requested", "(IIIII)V"⟩, 17)]
theorem lw_r2 : ∀ q ∈ lw_privs_2, lw_okq q := List.forall_mem_cons.mpr ⟨lw_p16, List.forall_mem_cons.mpr ⟨lw_p17, List.forall_mem_cons.mpr ⟨lw_p18, List.forall_mem_cons.mpr ⟨lw_p19, List.forall_mem_cons.mpr ⟨lw_p20, List.forall_mem_cons.mpr ⟨lw_p21, List.forall_mem_cons.mpr ⟨lw_p22, List.forall_mem_cons.mpr ⟨lw_p23, List.forall_mem_cons.mpr ⟨lw_p24, List.forall_mem_cons.mpr ⟨lw_p25, List.forall_mem_cons.mpr ⟨lw_p26, List.forall_mem_cons.mpr ⟨lw_p27, List.forall_mem_cons.mpr ⟨lw_p28, List.forall_mem_cons.mpr ⟨lw_p29, fun _ h => absurd h List.not_mem_nil⟩⟩⟩⟩⟩⟩⟩⟩⟩⟩⟩⟩⟩⟩
def lw_privs : List (MethodName × Nat) := lw_privs_1 ++ (lw_privs_2)
def lw_tbl : List Cond := k2_sels lw_privs ++ tables_1
theorem lw_privs_ok : ∀ q ∈ lw_privs, lw_okq q := by
  show ∀ q ∈ lw_privs_1 ++ (lw_privs_2), lw_okq q
  exact List.forall_mem_append.mpr ⟨lw_r1, lw_r2⟩
/-! ===== BEGIN words of one list among another's, by their places ===== -/
theorem goodIn_r {big : List Cond} (ws : List Cond) (ps : List Nat) (hp : ws = ps.filterMap (fun i => big[i]?)) (h : ws.all goodWord = true) : GoodIn big ws := by
  intro w hw
  have h1 := List.all_eq_true.mp h w hw
  rw [hp] at hw
  obtain ⟨i, -, hi⟩ := List.mem_filterMap.mp hw
  have hm : w ∈ big := by first | exact List.mem_of_getElem? hi | exact List.getElem?_mem hi
  exact ⟨hm, good_of_word h1⟩
theorem goodIn_app {big a b : List Cond} (ha : GoodIn big a) (hb : GoodIn big b) : GoodIn big (a ++ b) := fun w h => (List.mem_append.mp h).elim (ha w) (hb w)
theorem goodIn_ca {big a b : List Cond} {c : Cond} (ha : GoodIn big (c :: a)) (hb : GoodIn big b) : GoodIn big (c :: (a ++ b)) := fun w h => (List.mem_cons.mp h).elim (fun e => ha w (List.mem_cons.mpr (Or.inl e))) (fun h => (List.mem_append.mp h).elim (fun h => ha w (List.mem_cons.mpr (Or.inr h))) (hb w))
theorem goodIn_sub {big ws : List Cond} (hm : ∀ w ∈ ws, w ∈ big) (h : ws.all goodWord = true) : GoodIn big ws := fun w hw => ⟨hm w hw, good_of_word (List.all_eq_true.mp h w hw)⟩
/-! ===== END ===== -/

/-! ===== BEGIN exceptions that leave a method, and their catching by the caller (launches without stack traces) ===== -/
section VXA
/-! The laws vx_back, vx_callV, vx_callS, vx_callSW, vx_throw0, vx_throwS follow proofs of the library, with one case more: JvmDerived/Free/Laws.lean (Back.of_free), Shelf42/LK1.lean (callV, callS), Shelf/KitTraced.lean (throwNew0V, throwNewS). -/
/-- where a method has thrown q: the class by its name, the cell, what was written, the world -/
def vx_T (XC : String → State → State → Prop) (st : State) (q : Addr) (t : State) (mc ms : Nat) (free : Addr → Prop) : Prop :=
  ∃ (E : String) (ce : Cell) (L : List Loc), XC E st t ∧ t.heap[q]? = some ce ∧ ce.vm = .none ∧ st.vm.findClass E = some ce.cls ∧ st.WarmedH t.vm ∧ st.sameButNew ({ t with vm := st.vm } : State) L mc ms ∧ ∀ z ∈ L, free z.base
def vx_Q (Qc : Array Value → State → Outcome → State → Prop) (XC : String → State → State → Prop) (mc ms : Nat) (free : Addr → Prop) : Array Value → State → Outcome → State → Prop := fun a st o t =>
  (Qc a st o t ∧ ∃ L, FrameEnd st o t L mc ms ∧ ∀ q ∈ L, free q.base) ∨ ∃ q, o = .threw q ∧ vx_T XC st q t mc ms free
/-- a callee that returns or throws -/
def vx_Met (l : Launch) (y : MethodName) (ws : List Cond) (rm : Room) (Pc : Array Value → State → Prop) (Qc : Array Value → State → Outcome → State → Prop) (XC : String → State → State → Prop) (mc ms : Nat) (free : Addr → Prop) : Prop :=
  MetFree l y (headSpec ws rm) Pc (fun _ _ _ _ _ => True) (vx_Q Qc XC mc ms free)
def vx_Post (XC : String → State → State → Prop) (mc ms : Nat) (free : Addr → Prop) : Pt → Array Value → Addr → Pt → Prop := fun A a q B =>
  ∃ (g : JFrame) (mk : MethodId) (t : State) (L : List Loc) (E : String) (ce : Cell), B.U.heap = t.heap ∧ B.U.vm = t.vm ∧ XC E (A.U.calling g mk a) t ∧ t.heap[q]? = some ce ∧ ce.vm = .none ∧ A.U.vm.findClass E = some ce.cls ∧ B.locs = A.locs ++ L ∧ (∀ z ∈ L, free z.base) ∧ B.cells = A.cells + mc ∧ B.slots = A.slots + ms
def vx_Back (l : Launch) (R : Room) (p : Program) (e : Env) (below : List Frame) (s : State) (sargs : Array Value) (y : MethodName) (len W9 : Nat)
    (Pre : Pt → Array Value → Prop) (Post : Pt → Array Value → Option Value → Pt → Prop) (PostX : Pt → Array Value → Addr → Pt → Prop) : Prop :=
  ∀ (m : MethodId) (meth : Method) (c : Code) (A : Pt) (g : JFrame) (ig : Instr) (mk : MethodId) (a : Array Value),
    Stand p l e R s m sargs below meth c A.U A.locs A.cells A.slots → g.method = m → g.locals.size = c.maxLocals → decode c.code g.pc = .ok (ig, len) →
    2 * g.monitorRoom + (g.stack.map fun v => v.category).sum ≤ W9 → A.U.methodNamed? y = some mk → Pre A a →
    (∃ (v : Option Value) (B : Pt), Stand p l e R s m sargs below meth c B.U B.locs B.cells B.slots ∧ Post A a v B ∧
      Steps p.tables e below (doInvoke e (A.U.setTop g) [] mk a).1 (B.U.setTop { g with pc := g.pc + len, stack := v.toList ++ g.stack })) ∨
    (∃ (q : Addr) (B : Pt), Stand p l e R s m sargs below meth c B.U B.locs B.cells B.slots ∧ PostX A a q B ∧
      Steps p.tables e below (doInvoke e (A.U.setTop g) [] mk a).1 ((B.U.setTop g).pushFrame (.throwing q)))
section Payer
variable {l : Launch} {R : Room} {p : Program} {e : Env} {below : List Frame} {s : State} {sargs : Array Value} {y : MethodName} {len W9 : Nat}
theorem vx_back {ws : List Cond} {rm : Room} {Pc : Array Value → State → Prop} {Qc : Array Value → State → Outcome → State → Prop} {XC : String → State → State → Prop} {mc ms : Nat} {free : Addr → Prop} {bytes : ByteArray} {maxL : Nat} {ret : Option FieldType}
    (hM : vx_Met l y ws rm Pc Qc XC mc ms free) (hblind : FrameBlind Pc) (hrc : rm.cells = mc) (hrs : rm.slots = ms)
    (hframes : rm.frames + 1 ≤ R.frames) (hlocals : W9 + (maxL + 11) + rm.locals ≤ R.locals)
    (hws : ∀ w ∈ ws, ∀ a' U, s.WarmedH U.vm → w.before a' U = true) (hcode : Cond.code y bytes maxL ret ∈ ws) (hinit : ∀ a' U, s.WarmedH U.vm → (Cond.initialized y.cls).before a' U = true) :
    vx_Back l R p e below s sargs y len W9 (PreOf R mc ms Pc) (PostOf Qc mc ms free) (vx_Post XC mc ms free) := by
  intro m meth c A g ig mk a X hg hsize hdg hW hn hp
  have h1 : (headSpec ws rm).pre.before a A.U = true := atoms_intro fun w hw => hws w hw _ _ X.warmed
  have h2 : (Cond.code y bytes maxL ret).before a A.U = true := hws _ hcode _ _ X.warmed
  have h3 : (Cond.initialized y.cls).before a A.U = true := hinit _ _ X.warmed
  have h4 : A.cells + (headSpec ws rm).room.cells ≤ R.cells := by rw [show (headSpec ws rm).room.cells = mc from hrc]; exact hp.1
  have h5 : A.slots + (headSpec ws rm).room.slots ≤ R.slots := by rw [show (headSpec ws rm).room.slots = ms from hrs]; exact hp.2.1
  have hPc : Pc a (A.U.calling g mk a) := hblind _ _ _ _ hp.2.2
  obtain ⟨U, Ls, c0, s0⟩ := A
  dsimp only [Pt.U, Pt.locs, Pt.cells, Pt.slots] at h1 h2 h3 h4 h5 X hn hPc ⊢
  obtain ⟨methY, cY, hmY, hcY, -, hlY, -, -, -, -⟩ := Cond.code_spec hn h2
  obtain ⟨kY, hkY, -⟩ := className_of_methodNamed hn
  have hinitY : kY.init = .initialized := Cond.initialized_spec (findClass_of_methodNamed hn) hkY h3
  have h : At U g.method c below := by rw [hg]; exact X.here
  have hlocals9 : W9 + (maxL + 11) + (headSpec ws rm).room.locals ≤ R.locals := hlocals
  have happ : (headSpec ws rm).appliesLoose y e.platform (U.calling g mk a) = true :=
    Spec.appliesLoose_calling (g := g) h hdg hn hkY hinitY
      (X.room_calling (g := g) (R' := (headSpec ws rm).room) hsize hmY hcY hframes (by rw [hlY]; omega) h4 h5) h1
  obtain ⟨mid, hmid⟩ := h.above
  have hfr : (U.setTop g).frames = (.java g :: mid) ++ below := by rw [State.frames_setTop' g h.top, hmid]; rfl
  obtain ⟨o, s₂, hsteps, -, hend, hq⟩ := Steps.callFree hM p X.admits X.cas X.clock (acts := []) hfr happ hPc trivial
  have hq' : vx_Q Qc XC mc ms free a (U.calling g mk a) o s₂ := hq
  rw [State.frames_setTop' g h.top] at hend
  obtain ⟨g₀, hg0⟩ := Option.isSome_iff_exists.mp h.top
  obtain ⟨r, hr⟩ := State.topJava?_eq_some.mp hg0
  have hr' : (({ U with heap := s₂.heap, slotsUsed := s₂.slotsUsed } : State).setVm s₂.vm).frames = .java g₀ :: r := hr
  rcases hq' with ⟨hqc, L, hfe, hL⟩ | ⟨q, rfl, E, ce, L, hx, hce, hcv, hcl, hW₂, hsm, hL⟩
  · obtain ⟨⟨v, rfl⟩, hW₂, e2, q2, q3, q4, q5, q6⟩ := id hfe
    have e3 : s₂ = ({ (U.calling g mk a).setFrames s₂.frames with heap := s₂.heap, slotsUsed := s₂.slotsUsed } : State).setVm s₂.vm := by
      have : s₂ = ({ s₂ with vm := (U.calling g mk a).vm } : State).setVm s₂.vm := rfl
      rw [e2] at this
      exact this
    obtain ⟨c₂, i₂, len₂, hc₂, hd₂, hf₂⟩ := hend
    have hW' : U.WarmedH s₂.vm := hW₂
    have hcc : c₂ = c := by
      have h1 : s₂.code? g.method = U.code? g.method := by
        rw [State.code?_eq, State.code?_eq, hW'.alike.method?]
      exact Option.some.inj (hc₂.symm.trans (h1.trans h.code))
    subst hcc
    have hlen : len₂ = len := by rw [hdg] at hd₂; cases hd₂; rfl
    subst hlen
    have hs₂ : s₂ = (({ U with heap := s₂.heap, slotsUsed := s₂.slotsUsed } : State).setVm s₂.vm).setTop { g with pc := g.pc + len₂, stack := v.toList ++ g.stack } := by
      refine e3.trans ?_
      rw [hf₂, State.calling_eq h.top, State.setFrames_setFrames, State.setTop_of_frames _ hr', hr]
      rfl
    have hsame : U.sameButNew ({ U with heap := s₂.heap, slotsUsed := s₂.slotsUsed } : State) L mc ms := by
      refine ⟨?_, q2, q3, q4, q5, q6⟩
      obtain ⟨t, ht, -⟩ := State.frames_cons hr
      show ({ U with heap := s₂.heap, slotsUsed := s₂.slotsUsed } : State) = { U.setFrames U.frames with heap := s₂.heap, slotsUsed := s₂.slotsUsed }
      rw [State.setFrames_self ht]
    subst hg
    refine Or.inl ⟨v, ⟨(({ U with heap := s₂.heap, slotsUsed := s₂.slotsUsed } : State).setVm s₂.vm), Ls ++ L, c0 + mc, s0 + ms⟩,
      ⟨X.admits, X.cas, X.clock, X.frames, X.room, X.hears, X.method, X.code, (X.here.setHeapUsed s₂.heap s₂.slotsUsed).setVm hW'.alike, X.tail, State.WarmedH.trans X.warmed hW', X.limits, X.bytes, X.same.trans (hsame.setVm s.vm)⟩,
      ⟨g, mk, s₂, L, rfl, rfl, hqc, rfl, hL, rfl, rfl⟩, ?_⟩
    show Steps p.tables e below _ ((({ U with heap := s₂.heap, slotsUsed := s₂.slotsUsed } : State).setVm s₂.vm).setTop { g with pc := g.pc + len₂, stack := v.toList ++ g.stack })
    rw [← hs₂]
    exact hsteps
  · obtain ⟨e2, q2, q3, q4, q5, q6⟩ := id hsm
    have e3 : s₂ = ({ (U.calling g mk a).setFrames s₂.frames with heap := s₂.heap, slotsUsed := s₂.slotsUsed } : State).setVm s₂.vm := by
      have : s₂ = ({ s₂ with vm := (U.calling g mk a).vm } : State).setVm s₂.vm := rfl
      rw [e2] at this
      exact this
    have hf₂ : s₂.frames = .throwing q :: .java g :: U.frames.tail := hend
    have hW' : U.WarmedH s₂.vm := hW₂
    have hs₂ : s₂ = ((({ U with heap := s₂.heap, slotsUsed := s₂.slotsUsed } : State).setVm s₂.vm).setTop g).pushFrame (.throwing q) := by
      refine e3.trans ?_
      rw [hf₂, State.calling_eq h.top, State.setFrames_setFrames, State.pushFrame, State.frames_setTop _ hr', State.setTop_of_frames _ hr', State.setFrames_setFrames, hr]
      rfl
    have hsame : U.sameButNew ({ U with heap := s₂.heap, slotsUsed := s₂.slotsUsed } : State) L mc ms := by
      refine ⟨?_, q2, q3, q4, q5, q6⟩
      obtain ⟨t, ht, -⟩ := State.frames_cons hr
      show ({ U with heap := s₂.heap, slotsUsed := s₂.slotsUsed } : State) = { U.setFrames U.frames with heap := s₂.heap, slotsUsed := s₂.slotsUsed }
      rw [State.setFrames_self ht]
    subst hg
    refine Or.inr ⟨q, ⟨(({ U with heap := s₂.heap, slotsUsed := s₂.slotsUsed } : State).setVm s₂.vm), Ls ++ L, c0 + mc, s0 + ms⟩,
      ⟨X.admits, X.cas, X.clock, X.frames, X.room, X.hears, X.method, X.code, (X.here.setHeapUsed s₂.heap s₂.slotsUsed).setVm hW'.alike, X.tail, State.WarmedH.trans X.warmed hW', X.limits, X.bytes, X.same.trans (hsame.setVm s.vm)⟩,
      ⟨g, mk, s₂, L, E, ce, rfl, rfl, hx, hce, hcv, hcl, rfl, hL, rfl, rfl⟩, ?_⟩
    show Steps p.tables e below _ (((({ U with heap := s₂.heap, slotsUsed := s₂.slotsUsed } : State).setVm s₂.vm).setTop g).pushFrame (.throwing q))
    rw [← hs₂]
    exact hsteps
end Payer
section Calls
variable {p : Program} {l : Launch} {e : Env} {R : Room} {s : State} {m : MethodId} {args : Array Value} {below : List Frame} {meth : Method} {c : Code} {T : State} {locs : List Loc} {cells slots : Nat}
theorem vx_callV (X : Stand p l e R s m args below meth c T locs cells slots) (hexec : p.tables.exec = Jvm.exec) {own C : String} {index : Nat} {y : MethodName} {bytes : ByteArray} {maxL : Nat} {ret : Option FieldType}
    (hown : s.vm.findClass own = some m.cls) (hlink : (Cond.methodLink own index y).before args s = true) (hinst : (Cond.instanceMethod y).before args s = true) (hsel : (Cond.selects C y y).before args s = true)
    (hcode : (Cond.code y bytes maxL ret).before args s = true) (hy : y.cls ≠ "java/lang/invoke/MethodHandle" ∧ y.cls ≠ "java/lang/invoke/VarHandle")
    {W9 : Nat} {Pre : Pt → Array Value → Prop} {Post : Pt → Array Value → Option Value → Pt → Prop} {PostX : Pt → Array Value → Addr → Pt → Prop} (hK : vx_Back l R p e below s args y 3 W9 Pre Post PostX)
    {b : Addr} {cellB : Cell} (hcell : T.heap[b]? = some cellB) (hobj : cellB.vm.isStatics = false) (hcls : s.vm.findClass C = some cellB.cls)
    {g : JFrame} (hg : g.method = m) (hsize : g.locals.size = c.maxLocals) {argsL rest : List Value} (hlen : ∀ sig, parseMethodDescriptor y.desc = some sig → argsL.length = sig.parameters.length)
    (hstack : g.stack = argsL.reverse ++ .ref b :: rest) (hW : 2 * g.monitorRoom + (rest.map fun v => v.category).sum ≤ W9) (hdg : decode c.code g.pc = .ok (.invokevirtual index, 3))
    (hpre : ∀ vm₁, s.WarmedH vm₁ → Pre ⟨T.setVm vm₁, locs, cells, slots⟩ (Value.ref b :: argsL).toArray) :
    (∃ (v : Option Value) (vm₁ : Vm) (B : Pt), s.WarmedH vm₁ ∧ Stand p l e R s m args below meth c B.U B.locs B.cells B.slots ∧ Post ⟨T.setVm vm₁, locs, cells, slots⟩ (Value.ref b :: argsL).toArray v B ∧
      ∀ target, Steps p.tables e below (B.U.setTop { g with pc := g.pc + 3, stack := v.toList ++ rest }) target → Steps p.tables e below (T.setTop g) target) ∨
    (∃ (q : Addr) (vm₁ : Vm) (B : Pt), s.WarmedH vm₁ ∧ Stand p l e R s m args below meth c B.U B.locs B.cells B.slots ∧ PostX ⟨T.setVm vm₁, locs, cells, slots⟩ (Value.ref b :: argsL).toArray q B ∧
      Steps p.tables e below (T.setTop g) ((B.U.setTop { g with stack := rest }).pushFrame (.throwing q))) := by
  obtain ⟨mk, methM, hnamed, hmethM, hstM, habM⟩ := Cond.instanceMethod_spec hinst
  obtain ⟨methM', cM, hmethM', -, -, -, -, -, -, hsigM⟩ := Cond.code_spec hnamed hcode
  cases hmethM.symm.trans hmethM'
  obtain ⟨c2, r2, m2, q1, q2, q3, q4, kP, hkP, hkPi⟩ := Cond.selects_spec hsel
  cases hcls.symm.trans q1
  cases (State.methodFound?_of_named hnamed hy).symm.trans q2
  cases hnamed.symm.trans q3
  have hselP : selectMethod e.platform s.vm cellB.cls mk = .method mk := by rw [Launch.admits_selectMethod X.admits]; exact q4
  obtain ⟨vm₁, X₁, hstep₁⟩ := X.invokevirtual hexec hown hlink hnamed hmethM hstM hkP hkPi hy (a := b) (cell := cellB) hcell
    (fun z h => by rw [h] at hobj; cases hobj) hselP hmethM habM hkP hkPi (g := g) hg (argsL := argsL) (rest := rest) (hlen _ hsigM) hstack hdg
  rcases hK m meth c ⟨T.setVm vm₁, locs, cells, slots⟩ { g with stack := rest } (.invokevirtual index) mk (Value.ref b :: argsL).toArray X₁ hg hsize hdg hW (X₁.named hnamed) (hpre vm₁ X₁.warmed) with ⟨v, B, X', hpost, hsteps⟩ | ⟨q, B, X', hpost, hsteps⟩
  · exact Or.inl ⟨v, vm₁, B, X₁.warmed, X', hpost, fun target h => hstep₁ _ fun acts => by rw [doInvoke_state]; exact hsteps.trans h⟩
  · exact Or.inr ⟨q, vm₁, B, X₁.warmed, X', hpost, hstep₁ _ fun acts => by rw [doInvoke_state]; exact hsteps⟩
theorem vx_callS (X : Stand p l e R s m args below meth c T locs cells slots) (hexec : p.tables.exec = Jvm.exec) {own : String} {index : Nat} {y : MethodName} {bytes : ByteArray} {maxL : Nat} {ret : Option FieldType}
    (hown : s.vm.findClass own = some m.cls) (hlink : (Cond.methodLink own index y).before args s = true) (hstat : (Cond.static y).before args s = true) (hinit : (Cond.initialized y.cls).before args s = true)
    (hcode : (Cond.code y bytes maxL ret).before args s = true) (hy : y.cls ≠ "java/lang/invoke/MethodHandle" ∧ y.cls ≠ "java/lang/invoke/VarHandle")
    {W9 : Nat} {Pre : Pt → Array Value → Prop} {Post : Pt → Array Value → Option Value → Pt → Prop} {PostX : Pt → Array Value → Addr → Pt → Prop} (hK : vx_Back l R p e below s args y 3 W9 Pre Post PostX)
    {g : JFrame} (hg : g.method = m) (hsize : g.locals.size = c.maxLocals) {argsL rest : List Value} (hlen : ∀ sig, parseMethodDescriptor y.desc = some sig → argsL.length = sig.parameters.length)
    (hstack : g.stack = argsL.reverse ++ rest) (hW : 2 * g.monitorRoom + (rest.map fun v => v.category).sum ≤ W9) (hdg : decode c.code g.pc = .ok (.invokestatic index, 3))
    (hpre : ∀ vm₁, s.WarmedH vm₁ → Pre ⟨T.setVm vm₁, locs, cells, slots⟩ argsL.toArray) :
    (∃ (v : Option Value) (vm₁ : Vm) (B : Pt), s.WarmedH vm₁ ∧ Stand p l e R s m args below meth c B.U B.locs B.cells B.slots ∧ Post ⟨T.setVm vm₁, locs, cells, slots⟩ argsL.toArray v B ∧
      ∀ target, Steps p.tables e below (B.U.setTop { g with pc := g.pc + 3, stack := v.toList ++ rest }) target → Steps p.tables e below (T.setTop g) target) ∨
    (∃ (q : Addr) (vm₁ : Vm) (B : Pt), s.WarmedH vm₁ ∧ Stand p l e R s m args below meth c B.U B.locs B.cells B.slots ∧ PostX ⟨T.setVm vm₁, locs, cells, slots⟩ argsL.toArray q B ∧
      Steps p.tables e below (T.setTop g) ((B.U.setTop { g with stack := rest }).pushFrame (.throwing q))) := by
  obtain ⟨mk, hnamed⟩ := Cond.code_named hcode
  obtain ⟨methM, cM, hmethM, -, -, -, -, -, -, hsigM⟩ := Cond.code_spec hnamed hcode
  have hstatic : methM.isStatic = true := Cond.static_spec hnamed hmethM hstat
  obtain ⟨kP, hkP, -⟩ := className_of_methodNamed hnamed
  have hinitP : kP.init = .initialized := Cond.initialized_spec (findClass_of_methodNamed hnamed) hkP hinit
  obtain ⟨vm₁, X₁, hstep₁⟩ := X.invokestatic hexec hown hlink hnamed hmethM hstatic hkP hinitP hy (g := g) hg (argsL := argsL) (rest := rest) (hlen _ hsigM) hstack hdg
  rcases hK m meth c ⟨T.setVm vm₁, locs, cells, slots⟩ { g with stack := rest } (.invokestatic index) mk argsL.toArray X₁ hg hsize hdg hW (X₁.named hnamed) (hpre vm₁ X₁.warmed) with ⟨v, B, X', hpost, hsteps⟩ | ⟨q, B, X', hpost, hsteps⟩
  · exact Or.inl ⟨v, vm₁, B, X₁.warmed, X', hpost, fun target h => hstep₁ _ fun acts => by rw [doInvoke_state]; exact hsteps.trans h⟩
  · exact Or.inr ⟨q, vm₁, B, X₁.warmed, X', hpost, hstep₁ _ fun acts => by rw [doInvoke_state]; exact hsteps⟩
end Calls
theorem vx_cls {s : State} {T : State} {vm₁ : Vm} {E : String} {k : ClassId} (hW : s.WarmedH vm₁) (h : (T.setVm vm₁).vm.findClass E = some k) : s.vm.findClass E = some k := by
  have h1 : vm₁.findClass E = some k := h
  rw [hW.alike.findClass] at h1
  exact h1
/-- the method's frame g, with q thrown over it -/
def vx_W (p : Program) (l : Launch) (e : Env) (R : Room) (s : State) (m : MethodId) (args : Array Value) (below : List Frame) (meth : Method) (c : Code) (H : Heap) (locs : List Loc) (cells slots : Nat) (Q : State → Prop) (g : JFrame) (q : Addr) : Prop :=
  ∀ T : State, T.heap = H → Stand p l e R s m args below meth c T locs cells slots → ∃ t, Steps p.tables e below ((T.setTop g).pushFrame (.throwing q)) t ∧ Q t
def vx_Run (p : Program) (l : Launch) (e : Env) (R : Room) (s : State) (m : MethodId) (args : Array Value) (below : List Frame) (meth : Method) (c : Code) (H : Heap) (locs : List Loc) (cells slots mc ms : Nat) (g : JFrame) (rest : List Value) (Qa : State → Outcome → State → Prop) (XC : String → State → State → Prop) (free : Addr → Prop) : Prop :=
  ∀ T : State, T.heap = H → Stand p l e R s m args below meth c T locs cells slots →
    (∃ (v : Option Value) (st₀ t T' : State) (L : List Loc), st₀.heap = H ∧ Stand p l e R s m args below meth c T' (locs ++ L) (cells + mc) (slots + ms) ∧ (∀ q ∈ L, free q.base) ∧ T'.heap = t.heap ∧ T'.vm = t.vm ∧ Qa st₀ (.returned v) t ∧
      Goes p e below T g T' { g with pc := g.pc + 3, stack := v.toList ++ rest }) ∨
    (∃ (q : Addr) (st₀ t T' : State) (L : List Loc) (E : String) (ce : Cell), st₀.heap = H ∧ Stand p l e R s m args below meth c T' (locs ++ L) (cells + mc) (slots + ms) ∧ (∀ z ∈ L, free z.base) ∧ T'.heap = t.heap ∧ T'.vm = t.vm ∧ XC E st₀ t ∧ t.heap[q]? = some ce ∧ ce.vm = .none ∧ s.vm.findClass E = some ce.cls ∧
      Steps p.tables e below (T.setTop g) ((T'.setTop { g with stack := rest }).pushFrame (.throwing q)))
def vx_X {S : Type} (px : S → Prop) (B : String → S → State → Prop) (A : Nat → Prop) : String → State → State → Prop := fun E st t => ∃ u : S, px u ∧ B E u t ∧ va_F A st t
section Runs
variable {p : Program} {l : Launch} {e : Env} {R : Room} {s : State} {m : MethodId} {args : Array Value} {below : List Frame} {meth : Method} {c : Code} {H : Heap} {locs : List Loc} {cells slots : Nat}
variable {y : MethodName} {bytes cc : ByteArray} {maxL nL mc ms n index : Nat} {ret : Option FieldType} {ws : List Cond} {rm : Room} {Pc : Array Value → State → Prop} {Qc : Array Value → State → Outcome → State → Prop} {XC : String → State → State → Prop} {free : Addr → Prop} {Ts : List Cond} {own C : String} {b : Addr} {As rest : List Value} {g : JFrame}
theorem vx_callBack (cb : CallB R s args own index y bytes maxL ret ws rm mc ms n) (hM : vx_Met l y ws rm Pc Qc XC mc ms free) (hbl : FrameBlind Pc) : vx_Back l R p e below s args y 3 8 (PreOf R mc ms Pc) (PostOf Qc mc ms free) (vx_Post XC mc ms free) := by
  obtain ⟨hrc, hrs, hfr, hlo, hws, hcw, -, hini, -⟩ := cb
  exact vx_back (bytes := bytes) (maxL := maxL) (ret := ret) hM hbl hrc hrs hfr hlo hws hcw (fun a' U hW => word_at hW (Or.inl (by first | rfl | simp [Cond.onTables, Cond.keeps, Cond.steady])) hini)
theorem vx_runV (S : CallFix p m c cc nL s args Ts own) (hM : vx_Met l y ws rm Pc Qc XC mc ms free) (cw : CallW R s args own C index y bytes maxL ret ws rm mc ms n) (hp : PreV s H C b Pc As)
    (hg : g.method = m) (hn : As.length = n) (hsize : g.locals.size = nL) (hstack : g.stack = As.reverse ++ .ref b :: rest) (hW : 2 * g.monitorRoom + (rest.map fun v => v.category).sum ≤ 8) (hdg : decode cc g.pc = .ok (.invokevirtual index, 3)) (hf : cells + mc ≤ R.cells ∧ slots + ms ≤ R.slots) :
    vx_Run p l e R s m args below meth c H locs cells slots mc ms g rest (Qc (Value.ref b :: As).toArray) XC free := by
  have hK : vx_Back l R p e below s args y 3 8 (PreOf R mc ms Pc) (PostOf Qc mc ms free) (vx_Post XC mc ms free) := vx_callBack cw.1 hM hp.1
  obtain ⟨⟨-, -, -, -, -, -, hcode, -, hy, hlen, hl⟩, hin, hse⟩ := cw
  obtain ⟨hx, hb, hml, ho, -⟩ := S
  obtain ⟨-, ⟨cellB, hcB, hoB, hclB⟩, hPc⟩ := hp
  intro T hT X
  rcases vx_callV X hx (C := C) (bytes := bytes) (maxL := maxL) (ret := ret) ho hl hin hse hcode hy hK (by rw [hT]; exact hcB) hoB hclB hg (hsize.trans hml.symm) (argsL := As) (rest := rest) (fun sig h => hn.trans (hlen sig h)) hstack hW (by rw [hb]; exact hdg)
    (fun vm₁ hW₁ => ⟨hf.1, hf.2, hPc (T.setVm vm₁) hT hW₁⟩) with ⟨v, vm₁, ⟨U', l2, c2, s2⟩, hW₁, X', ⟨g', mk, t, L, e1, e2, hq, h1, hL, h2, h3⟩, st⟩ | ⟨q, vm₁, ⟨U', l2, c2, s2⟩, hW₁, X', ⟨g', mk, t, L, E, ce, e1, e2, hq, hce, hcv, hcl, h1, hL, h2, h3⟩, st⟩
  · dsimp only [Pt.U, Pt.locs, Pt.cells, Pt.slots] at X' e1 e2 h1 h2 h3 st
    subst h1; subst h2; subst h3
    exact Or.inl ⟨v, (T.setVm vm₁).calling g' mk (Value.ref b :: As).toArray, t, U', L, hT, X', hL, e1, e2, hq, st⟩
  · dsimp only [Pt.U, Pt.locs, Pt.cells, Pt.slots] at X' e1 e2 h1 h2 h3 st hcl
    subst h1; subst h2; subst h3
    exact Or.inr ⟨q, (T.setVm vm₁).calling g' mk (Value.ref b :: As).toArray, t, U', L, E, ce, hT, X', hL, e1, e2, hq, hce, hcv, vx_cls hW₁ hcl, st⟩
theorem vx_runS (S : CallFix p m c cc nL s args Ts own) (hM : vx_Met l y ws rm Pc Qc XC mc ms free) (cw : CallB R s args own index y bytes maxL ret ws rm mc ms n ∧ (Cond.static y).before args s = true) (hp : PreS s H Pc As)
    (hg : g.method = m) (hn : As.length = n) (hsize : g.locals.size = nL) (hstack : g.stack = As.reverse ++ rest) (hW : 2 * g.monitorRoom + (rest.map fun v => v.category).sum ≤ 8) (hdg : decode cc g.pc = .ok (.invokestatic index, 3)) (hf : cells + mc ≤ R.cells ∧ slots + ms ≤ R.slots) :
    vx_Run p l e R s m args below meth c H locs cells slots mc ms g rest (Qc As.toArray) XC free := by
  have hK : vx_Back l R p e below s args y 3 8 (PreOf R mc ms Pc) (PostOf Qc mc ms free) (vx_Post XC mc ms free) := vx_callBack cw.1 hM hp.1
  obtain ⟨⟨-, -, -, -, -, -, hcode, hini, hy, hlen, hl⟩, hstt⟩ := cw
  obtain ⟨hx, hb, hml, ho, -⟩ := S
  intro T hT X
  rcases vx_callS X hx (bytes := bytes) (maxL := maxL) (ret := ret) ho hl hstt hini hcode hy hK hg (hsize.trans hml.symm) (argsL := As) (rest := rest) (fun sig h => hn.trans (hlen sig h)) hstack hW (by rw [hb]; exact hdg)
    (fun vm₁ hW₁ => ⟨hf.1, hf.2, hp.2 (T.setVm vm₁) hT hW₁⟩) with ⟨v, vm₁, ⟨U', l2, c2, s2⟩, hW₁, X', ⟨g', mk, t, L, e1, e2, hq, h1, hL, h2, h3⟩, st⟩ | ⟨q, vm₁, ⟨U', l2, c2, s2⟩, hW₁, X', ⟨g', mk, t, L, E, ce, e1, e2, hq, hce, hcv, hcl, h1, hL, h2, h3⟩, st⟩
  · dsimp only [Pt.U, Pt.locs, Pt.cells, Pt.slots] at X' e1 e2 h1 h2 h3 st
    subst h1; subst h2; subst h3
    exact Or.inl ⟨v, (T.setVm vm₁).calling g' mk As.toArray, t, U', L, hT, X', hL, e1, e2, hq, st⟩
  · dsimp only [Pt.U, Pt.locs, Pt.cells, Pt.slots] at X' e1 e2 h1 h2 h3 st hcl
    subst h1; subst h2; subst h3
    exact Or.inr ⟨q, (T.setVm vm₁).calling g' mk As.toArray, t, U', L, E, ce, hT, X', hL, e1, e2, hq, hce, hcv, vx_cls hW₁ hcl, st⟩
end Runs
section Rows
variable {p : Program} {l : Launch} {e : Env} {R : Room} {s : State} {m : MethodId} {args : Array Value} {below : List Frame} {meth : Method} {c : Code} {H : Heap} {locs : List Loc} {cells slots : Nat} {Q : State → Prop}
variable {mc ms : Nat} {free : Addr → Prop} {A0 A1 : Nat → Prop} {H0 : Heap} {a : Array Value} {pc : Nat} {ls : Array Slot} {st0 rest : List Value}
theorem vx_keep {st₀ t T' : State} {L : List Loc} (h0 : st₀.heap = H) (e1 : T'.heap = t.heap) (hS : va_S A0 H0 H locs) (hA : ∀ q, q < H.size → A1 q → A0 q) (hf : ∀ q, free q → A0 q) (hL : ∀ q ∈ L, free q.base) (hF : va_F A1 st₀ t) :
    H.size ≤ T'.heap.size ∧ (∀ q : Nat, q < H.size → ¬ A1 q → T'.heap[q]? = H[q]?) ∧ va_S A0 H0 T'.heap (locs ++ L) := by
  obtain ⟨hz, hk⟩ := hF
  rw [h0] at hz hk
  exact ⟨by rw [e1]; exact hz, fun q h1 h2 => by rw [e1]; exact hk q h1 h2,
    ⟨Nat.le_trans hS.1 (by rw [e1]; exact hz), fun q h1 h2 => by rw [e1, hk q (Nat.lt_of_lt_of_le h1 hS.1) (fun z => h2 (hA q (Nat.lt_of_lt_of_le h1 hS.1) z))]; exact hS.2.1 q h1 h2, fun q hq => by
      rcases List.mem_append.mp hq with h | h
      · exact hS.2.2 q h
      · exact hf _ (hL q h)⟩⟩
theorem vx_calli {S SX : Type} {post : Int32 → S → Prop} {px : SX → Prop} {B : S → State → Prop} {BX : String → SX → State → Prop} {AX : Nat → Prop} (hr : vx_Run p l e R s m args below meth c H locs cells slots mc ms (F0 m pc ls st0) rest (va_Qi post B A1 a) (vx_X px BX AX) free) (hS : va_S A0 H0 H locs) (hA : ∀ q, q < H.size → A1 q → A0 q) (hf : ∀ q, free q → A0 q) (hAX : ∀ q, q < H.size → AX q → A0 q)
    (kx : ∀ (E : String) (ce : Cell) (q9 : Addr) (u : SX) (t : State) (H1 : Heap) (locs1 : List Loc), t.heap = H1 → s.vm.Alike t.vm → px u → BX E u t → H.size ≤ H1.size → (∀ q : Nat, q < H.size → ¬ AX q → H1[q]? = H[q]?) → va_S A0 H0 H1 locs1 → H1[q9]? = some ce → ce.vm = .none → s.vm.findClass E = some ce.cls → vx_W p l e R s m args below meth c H1 locs1 (cells + mc) (slots + ms) Q (F0 m pc ls rest) q9)
    (kk : ∀ (r : Int32) (u : S) (t : State) (H1 : Heap) (locs1 : List Loc), t.heap = H1 → s.vm.Alike t.vm → post r u → B u t → H.size ≤ H1.size → (∀ q : Nat, q < H.size → ¬ A1 q → H1[q]? = H[q]?) → va_S A0 H0 H1 locs1 → W p l e R s m args below meth c H1 locs1 (cells + mc) (slots + ms) Q (F0 m (pc + 3) ls (.int r :: rest))) : W p l e R s m args below meth c H locs cells slots Q (F0 m pc ls st0) := by
  intro T hT X
  rcases hr T hT X with ⟨v, st₀, t, T', L, h0, X', hL, e1, e2, ⟨⟨r, u, hv, hp, hb⟩, hF⟩, st⟩ | ⟨q, st₀, t, T', L, E, ce, h0, X', hL, e1, e2, ⟨u, hp, hb, hF⟩, hce, hcv, hcl, st⟩
  · cases hv
    obtain ⟨k1, k2, k3⟩ := vx_keep h0 e1 hS hA hf hL hF
    obtain ⟨t2, a1, b1⟩ := kk r u t T'.heap (locs ++ L) e1.symm (by rw [← e2]; exact X'.warmed.alike) hp hb k1 k2 k3 T' rfl X'
    exact ⟨t2, st t2 a1, b1⟩
  · obtain ⟨k1, k2, k3⟩ := vx_keep h0 e1 hS hAX hf hL hF
    obtain ⟨t2, a1, b1⟩ := kx E ce q u t T'.heap (locs ++ L) e1.symm (by rw [← e2]; exact X'.warmed.alike) hp hb k1 k2 k3 (by rw [e1]; exact hce) hcv hcl T' rfl X'
    exact ⟨t2, st.trans a1, b1⟩
theorem vx_calll {S SX : Type} {post : Int64 → S → Prop} {px : SX → Prop} {B : S → State → Prop} {BX : String → SX → State → Prop} {AX : Nat → Prop} (hr : vx_Run p l e R s m args below meth c H locs cells slots mc ms (F0 m pc ls st0) rest (va_Ql post B A1 a) (vx_X px BX AX) free) (hS : va_S A0 H0 H locs) (hA : ∀ q, q < H.size → A1 q → A0 q) (hf : ∀ q, free q → A0 q) (hAX : ∀ q, q < H.size → AX q → A0 q)
    (kx : ∀ (E : String) (ce : Cell) (q9 : Addr) (u : SX) (t : State) (H1 : Heap) (locs1 : List Loc), t.heap = H1 → s.vm.Alike t.vm → px u → BX E u t → H.size ≤ H1.size → (∀ q : Nat, q < H.size → ¬ AX q → H1[q]? = H[q]?) → va_S A0 H0 H1 locs1 → H1[q9]? = some ce → ce.vm = .none → s.vm.findClass E = some ce.cls → vx_W p l e R s m args below meth c H1 locs1 (cells + mc) (slots + ms) Q (F0 m pc ls rest) q9)
    (kk : ∀ (r : Int64) (u : S) (t : State) (H1 : Heap) (locs1 : List Loc), t.heap = H1 → s.vm.Alike t.vm → post r u → B u t → H.size ≤ H1.size → (∀ q : Nat, q < H.size → ¬ A1 q → H1[q]? = H[q]?) → va_S A0 H0 H1 locs1 → W p l e R s m args below meth c H1 locs1 (cells + mc) (slots + ms) Q (F0 m (pc + 3) ls (.long r :: rest))) : W p l e R s m args below meth c H locs cells slots Q (F0 m pc ls st0) := by
  intro T hT X
  rcases hr T hT X with ⟨v, st₀, t, T', L, h0, X', hL, e1, e2, ⟨⟨r, u, hv, hp, hb⟩, hF⟩, st⟩ | ⟨q, st₀, t, T', L, E, ce, h0, X', hL, e1, e2, ⟨u, hp, hb, hF⟩, hce, hcv, hcl, st⟩
  · cases hv
    obtain ⟨k1, k2, k3⟩ := vx_keep h0 e1 hS hA hf hL hF
    obtain ⟨t2, a1, b1⟩ := kk r u t T'.heap (locs ++ L) e1.symm (by rw [← e2]; exact X'.warmed.alike) hp hb k1 k2 k3 T' rfl X'
    exact ⟨t2, st t2 a1, b1⟩
  · obtain ⟨k1, k2, k3⟩ := vx_keep h0 e1 hS hAX hf hL hF
    obtain ⟨t2, a1, b1⟩ := kx E ce q u t T'.heap (locs ++ L) e1.symm (by rw [← e2]; exact X'.warmed.alike) hp hb k1 k2 k3 (by rw [e1]; exact hce) hcv hcl T' rfl X'
    exact ⟨t2, st.trans a1, b1⟩
theorem vx_callf {S SX : Type} {post : UInt32 → S → Prop} {px : SX → Prop} {B : S → State → Prop} {BX : String → SX → State → Prop} {AX : Nat → Prop} (hr : vx_Run p l e R s m args below meth c H locs cells slots mc ms (F0 m pc ls st0) rest (va_Qf post B A1 a) (vx_X px BX AX) free) (hS : va_S A0 H0 H locs) (hA : ∀ q, q < H.size → A1 q → A0 q) (hf : ∀ q, free q → A0 q) (hAX : ∀ q, q < H.size → AX q → A0 q)
    (kx : ∀ (E : String) (ce : Cell) (q9 : Addr) (u : SX) (t : State) (H1 : Heap) (locs1 : List Loc), t.heap = H1 → s.vm.Alike t.vm → px u → BX E u t → H.size ≤ H1.size → (∀ q : Nat, q < H.size → ¬ AX q → H1[q]? = H[q]?) → va_S A0 H0 H1 locs1 → H1[q9]? = some ce → ce.vm = .none → s.vm.findClass E = some ce.cls → vx_W p l e R s m args below meth c H1 locs1 (cells + mc) (slots + ms) Q (F0 m pc ls rest) q9)
    (kk : ∀ (r : UInt32) (u : S) (t : State) (H1 : Heap) (locs1 : List Loc), t.heap = H1 → s.vm.Alike t.vm → post r u → B u t → H.size ≤ H1.size → (∀ q : Nat, q < H.size → ¬ A1 q → H1[q]? = H[q]?) → va_S A0 H0 H1 locs1 → W p l e R s m args below meth c H1 locs1 (cells + mc) (slots + ms) Q (F0 m (pc + 3) ls (.float r :: rest))) : W p l e R s m args below meth c H locs cells slots Q (F0 m pc ls st0) := by
  intro T hT X
  rcases hr T hT X with ⟨v, st₀, t, T', L, h0, X', hL, e1, e2, ⟨⟨r, u, hv, hp, hb⟩, hF⟩, st⟩ | ⟨q, st₀, t, T', L, E, ce, h0, X', hL, e1, e2, ⟨u, hp, hb, hF⟩, hce, hcv, hcl, st⟩
  · cases hv
    obtain ⟨k1, k2, k3⟩ := vx_keep h0 e1 hS hA hf hL hF
    obtain ⟨t2, a1, b1⟩ := kk r u t T'.heap (locs ++ L) e1.symm (by rw [← e2]; exact X'.warmed.alike) hp hb k1 k2 k3 T' rfl X'
    exact ⟨t2, st t2 a1, b1⟩
  · obtain ⟨k1, k2, k3⟩ := vx_keep h0 e1 hS hAX hf hL hF
    obtain ⟨t2, a1, b1⟩ := kx E ce q u t T'.heap (locs ++ L) e1.symm (by rw [← e2]; exact X'.warmed.alike) hp hb k1 k2 k3 (by rw [e1]; exact hce) hcv hcl T' rfl X'
    exact ⟨t2, st.trans a1, b1⟩
theorem vx_calld {S SX : Type} {post : UInt64 → S → Prop} {px : SX → Prop} {B : S → State → Prop} {BX : String → SX → State → Prop} {AX : Nat → Prop} (hr : vx_Run p l e R s m args below meth c H locs cells slots mc ms (F0 m pc ls st0) rest (va_Qd post B A1 a) (vx_X px BX AX) free) (hS : va_S A0 H0 H locs) (hA : ∀ q, q < H.size → A1 q → A0 q) (hf : ∀ q, free q → A0 q) (hAX : ∀ q, q < H.size → AX q → A0 q)
    (kx : ∀ (E : String) (ce : Cell) (q9 : Addr) (u : SX) (t : State) (H1 : Heap) (locs1 : List Loc), t.heap = H1 → s.vm.Alike t.vm → px u → BX E u t → H.size ≤ H1.size → (∀ q : Nat, q < H.size → ¬ AX q → H1[q]? = H[q]?) → va_S A0 H0 H1 locs1 → H1[q9]? = some ce → ce.vm = .none → s.vm.findClass E = some ce.cls → vx_W p l e R s m args below meth c H1 locs1 (cells + mc) (slots + ms) Q (F0 m pc ls rest) q9)
    (kk : ∀ (r : UInt64) (u : S) (t : State) (H1 : Heap) (locs1 : List Loc), t.heap = H1 → s.vm.Alike t.vm → post r u → B u t → H.size ≤ H1.size → (∀ q : Nat, q < H.size → ¬ A1 q → H1[q]? = H[q]?) → va_S A0 H0 H1 locs1 → W p l e R s m args below meth c H1 locs1 (cells + mc) (slots + ms) Q (F0 m (pc + 3) ls (.double r :: rest))) : W p l e R s m args below meth c H locs cells slots Q (F0 m pc ls st0) := by
  intro T hT X
  rcases hr T hT X with ⟨v, st₀, t, T', L, h0, X', hL, e1, e2, ⟨⟨r, u, hv, hp, hb⟩, hF⟩, st⟩ | ⟨q, st₀, t, T', L, E, ce, h0, X', hL, e1, e2, ⟨u, hp, hb, hF⟩, hce, hcv, hcl, st⟩
  · cases hv
    obtain ⟨k1, k2, k3⟩ := vx_keep h0 e1 hS hA hf hL hF
    obtain ⟨t2, a1, b1⟩ := kk r u t T'.heap (locs ++ L) e1.symm (by rw [← e2]; exact X'.warmed.alike) hp hb k1 k2 k3 T' rfl X'
    exact ⟨t2, st t2 a1, b1⟩
  · obtain ⟨k1, k2, k3⟩ := vx_keep h0 e1 hS hAX hf hL hF
    obtain ⟨t2, a1, b1⟩ := kx E ce q u t T'.heap (locs ++ L) e1.symm (by rw [← e2]; exact X'.warmed.alike) hp hb k1 k2 k3 (by rw [e1]; exact hce) hcv hcl T' rfl X'
    exact ⟨t2, st.trans a1, b1⟩
theorem vx_callv {S SX : Type} {post : S → Prop} {px : SX → Prop} {B : S → State → Prop} {BX : String → SX → State → Prop} {AX : Nat → Prop} (hr : vx_Run p l e R s m args below meth c H locs cells slots mc ms (F0 m pc ls st0) rest (va_Qv post B A1 a) (vx_X px BX AX) free) (hS : va_S A0 H0 H locs) (hA : ∀ q, q < H.size → A1 q → A0 q) (hf : ∀ q, free q → A0 q) (hAX : ∀ q, q < H.size → AX q → A0 q)
    (kx : ∀ (E : String) (ce : Cell) (q9 : Addr) (u : SX) (t : State) (H1 : Heap) (locs1 : List Loc), t.heap = H1 → s.vm.Alike t.vm → px u → BX E u t → H.size ≤ H1.size → (∀ q : Nat, q < H.size → ¬ AX q → H1[q]? = H[q]?) → va_S A0 H0 H1 locs1 → H1[q9]? = some ce → ce.vm = .none → s.vm.findClass E = some ce.cls → vx_W p l e R s m args below meth c H1 locs1 (cells + mc) (slots + ms) Q (F0 m pc ls rest) q9)
    (kk : ∀ (u : S) (t : State) (H1 : Heap) (locs1 : List Loc), t.heap = H1 → s.vm.Alike t.vm → post u → B u t → H.size ≤ H1.size → (∀ q : Nat, q < H.size → ¬ A1 q → H1[q]? = H[q]?) → va_S A0 H0 H1 locs1 → W p l e R s m args below meth c H1 locs1 (cells + mc) (slots + ms) Q (F0 m (pc + 3) ls (rest))) : W p l e R s m args below meth c H locs cells slots Q (F0 m pc ls st0) := by
  intro T hT X
  rcases hr T hT X with ⟨v, st₀, t, T', L, h0, X', hL, e1, e2, ⟨⟨u, hv, hp, hb⟩, hF⟩, st⟩ | ⟨q, st₀, t, T', L, E, ce, h0, X', hL, e1, e2, ⟨u, hp, hb, hF⟩, hce, hcv, hcl, st⟩
  · cases hv
    obtain ⟨k1, k2, k3⟩ := vx_keep h0 e1 hS hA hf hL hF
    obtain ⟨t2, a1, b1⟩ := kk u t T'.heap (locs ++ L) e1.symm (by rw [← e2]; exact X'.warmed.alike) hp hb k1 k2 k3 T' rfl X'
    exact ⟨t2, st t2 a1, b1⟩
  · obtain ⟨k1, k2, k3⟩ := vx_keep h0 e1 hS hAX hf hL hF
    obtain ⟨t2, a1, b1⟩ := kx E ce q u t T'.heap (locs ++ L) e1.symm (by rw [← e2]; exact X'.warmed.alike) hp hb k1 k2 k3 (by rw [e1]; exact hce) hcv hcl T' rfl X'
    exact ⟨t2, st.trans a1, b1⟩
end Rows
section Ends
variable {p : Program} {l : Launch} {e : Env} {R : Room} {s : State} {m : MethodId} {args : Array Value} {below : List Frame} {meth : Method} {c : Code} {H : Heap} {locs : List Loc} {cells slots : Nat} {Q : State → Prop}
variable {mc ms : Nat} {free : Addr → Prop} {A0 A1 : Nat → Prop} {H0 : Heap} {a : Array Value} {ls : Array Slot} {st0 rest : List Value}
variable {Qc : Array Value → State → Outcome → State → Prop} {XC : String → State → State → Prop}
/-- what a body that may throw owes at its end -/
def vx_MQ (below : List Frame) (Qc : Array Value → State → Outcome → State → Prop) (XC : String → State → State → Prop) (a : Array Value) (s : State) (mc ms : Nat) (free : Addr → Prop) : State → Prop := fun t =>
  ∃ o, t.status = .running ∧ Ended t below o ∧ vx_Q Qc XC mc ms free a s o t
theorem vx_ret {g : JFrame} {mc ms : Nat} (k : W p l e R s m args below meth c H locs cells slots (MQ below Qc args s mc ms free) g) : W p l e R s m args below meth c H locs cells slots (vx_MQ below Qc XC args s mc ms free) g := by
  intro T hT X
  obtain ⟨t, a1, o, b1, b2, b3, b4⟩ := k T hT X
  exact ⟨t, a1, o, b1, b2, Or.inl ⟨b3, b4⟩⟩
/-- not caught here: it goes on to the caller -/
theorem vx_widen {g : JFrame} {q : Addr} {k n : Nat} (h1 : cells ≤ k) (h2 : slots ≤ n) (kk : vx_W p l e R s m args below meth c H locs k n Q g q) : vx_W p l e R s m args below meth c H locs cells slots Q g q := fun T hT X => kk T hT (stand_widen X h1 h2)
theorem vx_out {pc : Nat} {E : String} {ce : Cell} {q : Addr} {mc ms : Nat} (hout : ∀ x ∈ c.exceptionTable.toList, covers x pc = false) (hlocks : meth.locks = false) (hcell : H[q]? = some ce) (hv : ce.vm = .none) (hcl : s.vm.findClass E = some ce.cls)
    (hx : ∀ t : State, t.heap = H → s.vm.Alike t.vm → XC E s t) (hf : ∀ z ∈ locs, free z.base) (hc : cells ≤ mc) (hs : slots ≤ ms) :
    vx_W p l e R s m args below meth c H locs cells slots (vx_MQ below Qc XC args s mc ms free) (F0 m pc ls rest) q := by
  intro T hT X
  obtain ⟨st1, hrun, hend, hW, hsm⟩ := X.leaveThrown q (g := F0 m pc ls rest) rfl rfl rfl hout hlocks
  have hcell9 : (T.setFrames (.throwing q :: below)).heap[q]? = some ce := by
    show T.heap[q]? = some ce
    rw [hT]; exact hcell
  exact ⟨_, st1, .threw q, hrun, hend, Or.inr ⟨q, rfl, E, ce, locs, hx _ hT hW.alike, hcell9, hv, hcl, hW, hsm.mono hc hs, hf⟩⟩
theorem vx_frame {U : State} {k n : Nat} (h : s.sameButNew ({ U with vm := s.vm } : State) locs k n) : s.heap.size ≤ U.heap.size ∧ ∀ q : Nat, q < s.heap.size → (∀ z ∈ locs, z.base ≠ q) → U.heap[q]? = s.heap[q]? := by
  obtain ⟨-, h2, -, -, -, h6⟩ := h
  refine ⟨h2, fun q hq hz => ?_⟩
  obtain ⟨c9, e1, e2, e3, e4⟩ := h6 q _ (Array.getElem?_eq_getElem hq)
  have hs : c9.slots = (s.heap[q]).slots := Array.ext_getElem? fun i => e4 i fun hm => hz _ hm rfl
  have h9 : c9 = s.heap[q] := by
    rw [hs] at e2
    exact e2
  have e5 : U.heap[q]? = some c9 := e1
  rw [e5, h9, Array.getElem?_eq_getElem hq]
/-- the words of a throw but the four that speak of the heap -/
def vx_no (w : Cond) : Bool := decide (w ≠ .isRef (.static Bundle.tN "UNASSIGNED_STACK" Bundle.steD)) && decide (w ≠ .isRef (.static Bundle.tN "SUPPRESSED_SENTINEL" Bundle.listD)) && decide (w ≠ .laysStatic Bundle.tN "UNASSIGNED_STACK" Bundle.steD) && decide (w ≠ .laysStatic Bundle.tN "SUPPRESSED_SENTINEL" Bundle.listD)
def vx_at0 (own : String) (ic : Nat) (X : String) (names : List String) : List Cond := (Bundle.ownAtoms0 own ic X names).filter vx_no
def vx_atS (own : String) (ic : Nat) (X : String) (names : List String) : List Cond := (Bundle.ownAtoms own ic X names).filter vx_no
/-- a word that the tables alone decide, or a good one -/
def vx_ot (w : Cond) : Bool := w.onTables || goodWord w
theorem vx_ot_at {args a' : Array Value} {s U : State} {w : Cond} (hW : s.WarmedH U.vm) (hvm : s.vm = U.vm) (hg : vx_ot w = true) (h : w.before args s = true) : w.before a' U = true := by
  simp only [vx_ot, Bool.or_eq_true] at hg
  rcases hg with hg | hg
  · exact va_tabs hg hvm h
  · exact word_at hW (good_of_word hg) h
/-- a list's words: the good ones out of the method's own list, the others by premises of their own -/
theorem vx_hat {args : Array Value} {s : State} {L B : List Cond} (h1 : ∀ w ∈ L.filter goodWord, w.before args s = true) (h2 : ∀ w ∈ L.filter (fun w => !goodWord w), w ∈ B) (h3 : ∀ w ∈ B, w.before args s = true) : ∀ w ∈ L, w.before args s = true := by
  intro w hw
  by_cases g : goodWord w = true
  · exact h1 w (List.mem_filter.mpr ⟨hw, g⟩)
  · refine h3 w (h2 w (List.mem_filter.mpr ⟨hw, ?_⟩))
    show (!goodWord w) = true
    cases hgw : goodWord w
    · rfl
    · exact absurd hgw g
theorem vx_c {args : Array Value} {s : State} {w : Cond} {B : List Cond} (h : w.before args s = true) (t : ∀ w ∈ B, w.before args s = true) : ∀ w' ∈ w :: B, w'.before args s = true := fun w' h' => (List.mem_cons.mp h').elim (fun e => by rw [e]; exact h) (t w')
theorem vx_n {args : Array Value} {s : State} : ∀ w ∈ ([] : List Cond), w.before args s = true := fun _ h => nomatch h
theorem vx_own {args : Array Value} {s : State} {L : List Cond} (h1 : ∀ w ∈ L.filter vx_no, w.before args s = true)
    (hU : (Cond.isRef (.static Bundle.tN "UNASSIGNED_STACK" Bundle.steD)).before args s = true) (hN : (Cond.isRef (.static Bundle.tN "SUPPRESSED_SENTINEL" Bundle.listD)).before args s = true)
    (lU : (Cond.laysStatic Bundle.tN "UNASSIGNED_STACK" Bundle.steD).before args s = true) (lN : (Cond.laysStatic Bundle.tN "SUPPRESSED_SENTINEL" Bundle.listD).before args s = true) : ∀ w ∈ L, w.before args s = true := by
  intro w hw
  by_cases e1 : w = .isRef (.static Bundle.tN "UNASSIGNED_STACK" Bundle.steD)
  · rw [e1]; exact hU
  · by_cases e2 : w = .isRef (.static Bundle.tN "SUPPRESSED_SENTINEL" Bundle.listD)
    · rw [e2]; exact hN
    · by_cases e3 : w = .laysStatic Bundle.tN "UNASSIGNED_STACK" Bundle.steD
      · rw [e3]; exact lU
      · by_cases e4 : w = .laysStatic Bundle.tN "SUPPRESSED_SENTINEL" Bundle.listD
        · rw [e4]; exact lN
        · exact h1 w (List.mem_filter.mpr ⟨hw, by unfold vx_no; rw [decide_eq_true e1, decide_eq_true e2, decide_eq_true e3, decide_eq_true e4]; rfl⟩)
/-- where a static field lies, its class's statics cell in H -/
def vx_L (C n d : String) (A : Nat → Prop) (U : State) (H : Heap) : Prop := ∃ (c : ClassId) (k : Class) (i : Nat) (f : Field) (a : Nat) (cell : Cell), U.vm.findClass C = some c ∧ U.fieldFound? C n d = some (c, k, i, f) ∧ f.isStatic = true ∧ k.statics = some a ∧ H[a]? = some cell ∧ cell.vm.isStatics = true ∧ cell.cls = c ∧ f.slot < cell.slots.size ∧ k.staticTypes[f.slot]? = some f.type ∧ ¬ A a
theorem vx_L.moved {C n d : String} {A : Nat → Prop} {u U : State} {H : Heap} (hvm : u.vm.Alike U.vm) (h : vx_L C n d A u H) : vx_L C n d A U H := by
  obtain ⟨c, k, i, f, a, cell, h1, h2, h3, h4, h5, h6, h7, h8, h9, h10⟩ := h
  obtain ⟨k', hi', he⟩ := State.fieldFound?_setVm hvm h2
  exact ⟨c, k', i, f, a, cell, by rw [hvm.findClass]; exact h1, hi', h3, by rw [he]; exact h4, h5, h6, h7, h8, by rw [he]; exact h9, h10⟩
theorem vx_L.kept {C n d : String} {A : Nat → Prop} {U : State} {H H1 : Heap} (h : vx_L C n d A U H) (hq : ∀ a : Nat, a < H.size → ¬ A a → H1[a]? = H[a]?) : vx_L C n d A U H1 := by
  obtain ⟨c, k, i, f, a, cell, h1, h2, h3, h4, h5, h6, h7, h8, h9, h10⟩ := h
  exact ⟨c, k, i, f, a, cell, h1, h2, h3, h4, by rw [hq a (Array.getElem?_eq_some_iff.mp h5).1 h10]; exact h5, h6, h7, h8, h9, h10⟩
theorem vx_L.narrow {C n d : String} {A B : Nat → Prop} {U : State} {H : Heap} (h : vx_L C n d A U H) (hAB : ∀ q, B q → A q) : vx_L C n d B U H := by
  obtain ⟨c, k, i, f, a, cell, h1, h2, h3, h4, h5, h6, h7, h8, h9, h10⟩ := h
  exact ⟨c, k, i, f, a, cell, h1, h2, h3, h4, h5, h6, h7, h8, h9, fun z => h10 (hAB _ z)⟩
theorem vx_L.word {C n d : String} {A : Nat → Prop} {s : State} {args : Array Value} (h : vx_L C n d A s s.heap) : (Cond.laysStatic C n d).before args s = true := by
  obtain ⟨c, k, i, f, a, cell, h1, h2, h3, h4, h5, h6, h7, h8, h9, -⟩ := h
  show (Cond.laysStatic C n d).holds args s none s [] = true
  exact Cond.laysStatic_of h1 h2 h3 h4 h5 h6 h7 h8 h9
/-- .. and what it holds: null or some reference -/
def vx_Zq (C n d : String) (A : Nat → Prop) (U : State) (H : Heap) : Prop := va_Zq C n d A U H ∧ vx_L C n d A U H
theorem vx_Zq.moved {C n d : String} {A : Nat → Prop} {u U : State} {H : Heap} (hvm : u.vm.Alike U.vm) (h : vx_Zq C n d A u H) : vx_Zq C n d A U H := ⟨va_Zq.moved hvm h.1, vx_L.moved hvm h.2⟩
theorem vx_Zq.kept {C n d : String} {A : Nat → Prop} {U : State} {H H1 : Heap} (h : vx_Zq C n d A U H) (hq : ∀ a : Nat, a < H.size → ¬ A a → H1[a]? = H[a]?) : vx_Zq C n d A U H1 := ⟨va_Zq.kept h.1 hq, vx_L.kept h.2 hq⟩
theorem vx_Zq.narrow {C n d : String} {A B : Nat → Prop} {U : State} {H : Heap} (h : vx_Zq C n d A U H) (hAB : ∀ q, B q → A q) : vx_Zq C n d B U H := ⟨va_Zq.narrow h.1 hAB, vx_L.narrow h.2 hAB⟩
theorem vx_Zqof {args : Array Value} {s : State} {C n d : String} {A : Nat → Prop} (hl : (Cond.laysStatic C n d).before args s = true) (hini : (Cond.initialized C).before args s = true) (h : (Cond.isRef (.static C n d)).before args s = true) (hA : ∀ a : Nat, a < s.heap.size → ¬ A a) : vx_Zq C n d A s s.heap := by
  refine ⟨va_Zqof hl hini h hA, ?_⟩
  obtain ⟨c, k, i, f, a, cell, h1, h2, h3, h4, h5, h6, h7, h8, h9⟩ := Cond.laysStatic_spec hl
  exact ⟨c, k, i, f, a, cell, h1, h2, h3, h4, h5, h6, h7, h8, h9, hA a (Array.getElem?_eq_some_iff.mp h5).1⟩
theorem vx_isRef {C n d : String} {v : Value} {A : Nat → Prop} {s : State} {args : Array Value} (h : va_Z C n d v A s s.heap) (hv : v.isRef = true) : (Cond.isRef (.static C n d)).before args s = true := by
  obtain ⟨cf, kf, fi, f, a, cell, h1, h2, h3, h4, h5, h6, h7, -⟩ := h
  have he : (Term.static C n d).eval args s none [] s = some v := by
    simp [Term.eval, State.fieldNamed?, h1, h2, h4, h5, h6, h7]
  simp only [Cond.before, Cond.holds, Cond.value, he]
  cases v <;> simp_all [Value.isRef]
theorem vx_isRefq {C n d : String} {A : Nat → Prop} {s : State} {args : Array Value} (h : va_Zq C n d A s s.heap) : (Cond.isRef (.static C n d)).before args s = true := by
  rcases h with h | ⟨t, h⟩
  · exact vx_isRef h rfl
  · exact vx_isRef h rfl
/-- the same frame, seen from here: as if the method were called anew in this heap -/
theorem vx_rebase {T : State} (X : Stand p l e R s m args below meth c T locs cells slots) {R' : Room} (hf : R'.frames ≤ R.frames) (hl : R'.locals ≤ R.locals) (hc : cells + R'.cells ≤ R.cells) (hs : slots + R'.slots ≤ R.slots) :
    Stand p l e R' ((T.setVm s.vm).setFrames (.invoking m args :: below)) m args below meth c T [] 0 0 := by
  have htop : (T.setVm s.vm).topJava?.isSome := X.here.top
  have hF : ((T.setVm s.vm).setFrames (.invoking m args :: below)).frames = .invoking m args :: below := State.frames_setFrames _ (State.cur_lt_of_top htop)
  obtain ⟨g₀, hg0⟩ := Option.isSome_iff_exists.mp htop
  obtain ⟨r, hr⟩ := State.topJava?_eq_some.mp hg0
  have hl9 : e.platform.stackLimits (T.setVm s.vm).me = e.platform.stackLimits s.me := X.limits
  have hb9 : (T.setVm s.vm).me.stackBytes = s.me.stackBytes := X.bytes
  refine ⟨X.admits, X.cas, X.clock, hF, ?_, X.hears, X.method, X.code, X.here, X.tail, X.warmed, ?_, ?_, ?_⟩
  · have h := X.room
    have hU : ((T.setVm s.vm).setFrames (.invoking m args :: below)).localsInUse = s.localsInUse := by
      rw [State.localsInUse_invoking hF (meth := meth) (c := c) X.method X.code, State.localsInUse_invoking X.frames X.method X.code]
    simp only [State.hasRoom, Bool.and_eq_true, decide_eq_true_eq] at h ⊢
    obtain ⟨⟨⟨⟨h1, h2, h3, h4, h5, h6⟩, h7⟩, h8⟩, h9⟩ := h
    rw [X.frames, List.length_cons] at h2 h3
    have q1 := X.heapSize
    have q2 := X.used
    simp only [hF, hU, List.length_cons, State.stackLimits_setFrames, State.stackBytes_setFrames, hl9, hb9]
    refine ⟨⟨⟨⟨by omega, by omega, by omega, by omega, by omega, h6⟩, ?_⟩, ?_⟩, X.book⟩
    · show T.heap.size + R'.cells ≤ e.platform.maxCells
      omega
    · show T.slotsUsed + R'.slots ≤ e.platform.maxSlots
      omega
  · rw [State.stackLimits_setFrames]; rfl
  · rw [State.stackBytes_setFrames]; rfl
  · refine ⟨?_, Nat.le_refl _, Nat.le_refl _, ?_, ?_, fun a c9 h9 => ⟨c9, h9, rfl, rfl, fun _ _ => rfl⟩⟩
    · obtain ⟨t, ht, -⟩ := State.frames_cons hr
      show T.setVm s.vm = { ((T.setVm s.vm).setFrames (.invoking m args :: below)).setFrames (T.setVm s.vm).frames with heap := T.heap, slotsUsed := T.slotsUsed }
      rw [State.setFrames_setFrames, State.setFrames_self ht]
      rfl
    · show T.slotsUsed = T.slotsUsed + ((T.heap.toList.drop T.heap.size).map (·.slots.size)).sum
      rw [List.drop_eq_nil_of_le (Nat.le_of_eq Array.length_toList)]
      rfl
    · show ((T.heap.toList.drop T.heap.size).map (·.slots.size)).sum ≤ 0
      rw [List.drop_eq_nil_of_le (Nat.le_of_eq Array.length_toList)]
      exact Nat.le_refl _
/-- 'throw new E()': new; dup; invokespecial; athrow -/
theorem vx_throw0 {cc : ByteArray} {pc : Nat} (hexec : p.tables.exec = Jvm.exec) (hb : c.code = cc) (hl : l.stackTraces = false) {own cls : String} {names : List String} {ik ic mc ms : Nat} {A : Nat → Prop}
    (hown : s.vm.findClass own = some m.cls) (hcls : Bundle.fit cls = true) (hnames : ∀ n ∈ names, Bundle.fit n = true)
    (hk : (Cond.classLink own ik cls).before args s = true) (hini : (Cond.initialized cls).before args s = true) (hat : ∀ w ∈ vx_at0 own ic cls names, w.before args s = true)
    (hgood : ∀ w ∈ Cond.classLink own ik cls :: Cond.initialized cls :: vx_at0 own ic cls names, vx_ot w = true)
    (hU : vx_Zq Bundle.tN "UNASSIGNED_STACK" Bundle.steD A s s.heap) (hN : vx_Zq Bundle.tN "SUPPRESSED_SENTINEL" Bundle.listD A s s.heap) (hS : va_S A s.heap H locs) (hsize : ls.size = c.maxLocals)
    (d0 : decode cc pc = .ok (.new ik, 3)) (d3 : decode cc (pc + 3) = .ok (.dup, 1)) (d4 : decode cc (pc + 4) = .ok (.invokespecial ic, 3)) (d7 : decode cc (pc + 7) = .ok (.athrow, 1))
    (hout : ∀ x ∈ c.exceptionTable.toList, covers x (pc + 7) = false)
    (hRframes : names.length + 3 < R.frames) (hRlocals : (rest.map fun v => v.category).sum + (13 * (names.length + 1) + 42) ≤ R.locals) (hRcells : cells + 1 ≤ R.cells) (hRslots : slots + 6 ≤ R.slots) (hlocks : meth.locks = false)
    (hx : ∀ t : State, s.vm.Alike t.vm → H.size ≤ t.heap.size → (∀ q : Nat, q < H.size → t.heap[q]? = H[q]?) → XC cls s t)
    (hf : ∀ z ∈ locs, free z.base) (hc : cells + 1 ≤ mc) (hs : slots + 6 ≤ ms) :
    W p l e R s m args below meth c H locs cells slots (vx_MQ below Qc XC args s mc ms free) (F0 m pc ls rest) := by
  intro T hT X
  have htr : e.platform.stackTraces = false := (show e.platform.stackTraces = l.stackTraces by rw [X.admits.platform]).trans hl
  have Y := vx_rebase X (R' := { frames := R.frames, locals := R.locals, cells := 1, slots := 6 }) (Nat.le_refl _) (Nat.le_refl _) hRcells hRslots
  obtain ⟨s', hA⟩ : ∃ z, z = (T.setVm s.vm).setFrames (.invoking m args :: below) := ⟨_, rfl⟩
  rw [← hA] at Y
  have hvm : s'.vm = s.vm := by rw [hA]; rfl
  have hhp : s'.heap = H := by rw [hA]; exact hT
  have hW0 : s.WarmedH s'.vm := by rw [hvm]; exact State.WarmedH.refl s
  have hat' : ∀ w ∈ vx_at0 own ic cls names, w.before args s' = true := fun w hw => vx_ot_at hW0 hvm.symm (hgood w (List.mem_cons_of_mem _ (List.mem_cons_of_mem _ hw))) (hat w hw)
  have hk' : (Cond.classLink own ik cls).before args s' = true := vx_ot_at hW0 hvm.symm (hgood _ List.mem_cons_self) hk
  have hini' : (Cond.initialized cls).before args s' = true := vx_ot_at hW0 hvm.symm (hgood _ (List.mem_cons_of_mem _ List.mem_cons_self)) hini
  have hU' : vx_Zq Bundle.tN "UNASSIGNED_STACK" Bundle.steD A s' s'.heap := by rw [hhp]; exact vx_Zq.moved hW0.alike (hU.kept hS.2.1)
  have hN' : vx_Zq Bundle.tN "SUPPRESSED_SENTINEL" Bundle.listD A s' s'.heap := by rw [hhp]; exact vx_Zq.moved hW0.alike (hN.kept hS.2.1)
  have h : ∀ w ∈ Bundle.ownAtoms0 own ic cls names, w.before args s' = true := vx_own hat' (vx_isRefq hU'.1) (vx_isRefq hN'.1) hU'.2.word hN'.2.word
  have hown' : s'.vm.findClass own = some m.cls := by rw [hvm]; exact hown
  have hins : (Cond.instantiable cls 6).before args s' = true := h _ (by simp [Bundle.ownAtoms0])
  obtain ⟨vm₁, cX, kX, hfX, hkX, -, -, X₁, st1⟩ := Y.newCold hexec (own := own) (C := cls) (index := ik) (n := 6) hown' hk' hins hini'
    (g := F0 m pc ls rest) rfl (by rw [hb]; exact d0) (Nat.le_refl _) (Nat.le_refl _)
  generalize hT1 : (T.setVm vm₁).pushCell { cls := cX, slots := kX.instanceTypes.map defaultValue, vm := .none } = T1 at X₁ st1
  have hcat : (Value.ref T.heap.size).category = 1 := rfl
  have hcellA : T1.heap[T.heap.size]? = some (freshCell cX kX) := by rw [← hT1]; exact State.heap_pushCell_size _ _
  have d3' : decode c.code (pc + 3) = .ok (.dup, 1) := by rw [hb]; exact d3
  obtain ⟨U, hsteps, hrun, hend, hW, hsame, ce, hce, hO⟩ := X₁.ctorThrow0 hexec htr (own := own) (cls := cls) (names := names) (ic := ic) hown' hcls hnames h (fun x hx => nomatch hx) hfX hkX hcellA (by rw [hhp, hT]; exact Nat.le_refl _)
    (g := { method := m, pc := pc + 4, locals := ls, stack := .ref T.heap.size :: .ref T.heap.size :: rest, locked := none }) rfl hsize rfl rfl (rest := rest) rfl
    (by rw [hb]; exact d4) (by rw [hb]; exact d7) hout hRframes (by simp only [List.map_cons, List.sum_cons, hcat]; omega) hlocks
  obtain ⟨f1, f2⟩ := vx_frame hsame
  rw [hhp] at f1 f2
  have hWs : s.WarmedH U.vm := State.WarmedH.trans hW0 hW
  have hcl : s.vm.findClass cls = some ce.cls := by
    have h9 := hO.cls
    rw [hvm] at h9
    exact h9
  have hall : s.sameButNew ({ U with vm := s.vm } : State) locs mc ms := by
    subst hA
    obtain ⟨e1, e2⟩ := hsame
    rw [State.setFrames_setFrames] at e1
    have h2 : (T.setVm s.vm).sameButNew ({ U with vm := s.vm } : State) [] (0 + 1) (0 + 6) := ⟨e1, e2⟩
    have h3 := X.same.trans h2
    rw [List.append_nil] at h3
    exact h3.mono hc hs
  refine ⟨U, ?_, .threw T.heap.size, hrun, hend, Or.inr ⟨T.heap.size, rfl, cls, ce, locs, hx U hWs.alike f1 (fun q hq => f2 q hq (fun z hz => nomatch hz)), hce, hO.vm, hcl, hWs, hall, hf⟩⟩
  refine st1 _ ?_
  show Steps p.tables e below (T1.setTop { method := m, pc := pc + 3, locals := ls, stack := .ref T.heap.size :: rest, locked := none }) _
  jvm_step X₁.here [X₁.here.top, hexec, d3', Value.category]
  exact hsteps
/-- 'throw new E("text")': new; dup; ldc; invokespecial; athrow -/
theorem vx_throwS {cc : ByteArray} {pc : Nat} (hexec : p.tables.exec = Jvm.exec) (hb : c.code = cc) (hl : l.stackTraces = false) {own cls text : String} {names : List String} {ik is ic mc ms sa : Nat} {A : Nat → Prop}
    (hown : s.vm.findClass own = some m.cls) (hcls : Bundle.fit cls = true) (hnames : ∀ n ∈ names, Bundle.fit n = true)
    (hk : (Cond.classLink own ik cls).before args s = true) (hini : (Cond.initialized cls).before args s = true) (hstr : vk_R own is text sa s) (hat : ∀ w ∈ vx_atS own ic cls names, w.before args s = true)
    (hgood : ∀ w ∈ Cond.classLink own ik cls :: Cond.initialized cls :: vx_atS own ic cls names, vx_ot w = true)
    (hU : vx_Zq Bundle.tN "UNASSIGNED_STACK" Bundle.steD A s s.heap) (hN : vx_Zq Bundle.tN "SUPPRESSED_SENTINEL" Bundle.listD A s s.heap) (hS : va_S A s.heap H locs) (hsize : ls.size = c.maxLocals)
    (d0 : decode cc pc = .ok (.new ik, 3)) (d3 : decode cc (pc + 3) = .ok (.dup, 1)) (d4 : decode cc (pc + 4) = .ok (.ldc is, 2)) (d6 : decode cc (pc + 6) = .ok (.invokespecial ic, 3)) (d9 : decode cc (pc + 9) = .ok (.athrow, 1))
    (hout : ∀ x ∈ c.exceptionTable.toList, covers x (pc + 9) = false)
    (hRframes : names.length + 3 < R.frames) (hRlocals : (rest.map fun v => v.category).sum + (13 * (names.length + 1) + 43) ≤ R.locals) (hRcells : cells + 1 ≤ R.cells) (hRslots : slots + 6 ≤ R.slots) (hlocks : meth.locks = false)
    (hx : ∀ t : State, s.vm.Alike t.vm → H.size ≤ t.heap.size → (∀ q : Nat, q < H.size → t.heap[q]? = H[q]?) → XC cls s t)
    (hf : ∀ z ∈ locs, free z.base) (hc : cells + 1 ≤ mc) (hs : slots + 6 ≤ ms) :
    W p l e R s m args below meth c H locs cells slots (vx_MQ below Qc XC args s mc ms free) (F0 m pc ls rest) := by
  intro T hT X
  have htr : e.platform.stackTraces = false := (show e.platform.stackTraces = l.stackTraces by rw [X.admits.platform]).trans hl
  have Y := vx_rebase X (R' := { frames := R.frames, locals := R.locals, cells := 1, slots := 6 }) (Nat.le_refl _) (Nat.le_refl _) hRcells hRslots
  obtain ⟨s', hA⟩ : ∃ z, z = (T.setVm s.vm).setFrames (.invoking m args :: below) := ⟨_, rfl⟩
  rw [← hA] at Y
  have hvm : s'.vm = s.vm := by rw [hA]; rfl
  have hhp : s'.heap = H := by rw [hA]; exact hT
  have hW0 : s.WarmedH s'.vm := by rw [hvm]; exact State.WarmedH.refl s
  have hat' : ∀ w ∈ vx_atS own ic cls names, w.before args s' = true := fun w hw => vx_ot_at hW0 hvm.symm (hgood w (List.mem_cons_of_mem _ (List.mem_cons_of_mem _ hw))) (hat w hw)
  have hk' : (Cond.classLink own ik cls).before args s' = true := vx_ot_at hW0 hvm.symm (hgood _ List.mem_cons_self) hk
  have hini' : (Cond.initialized cls).before args s' = true := vx_ot_at hW0 hvm.symm (hgood _ (List.mem_cons_of_mem _ List.mem_cons_self)) hini
  have hU' : vx_Zq Bundle.tN "UNASSIGNED_STACK" Bundle.steD A s' s'.heap := by rw [hhp]; exact vx_Zq.moved hW0.alike (hU.kept hS.2.1)
  have hN' : vx_Zq Bundle.tN "SUPPRESSED_SENTINEL" Bundle.listD A s' s'.heap := by rw [hhp]; exact vx_Zq.moved hW0.alike (hN.kept hS.2.1)
  have h : ∀ w ∈ Bundle.ownAtoms own ic cls names, w.before args s' = true := vx_own hat' (vx_isRefq hU'.1) (vx_isRefq hN'.1) hU'.2.word hN'.2.word
  have hown' : s'.vm.findClass own = some m.cls := by rw [hvm]; exact hown
  have hins : (Cond.instantiable cls 6).before args s' = true := h _ (by simp [Bundle.ownAtoms])
  obtain ⟨vm₁, cX, kX, hfX, hkX, -, -, X₁, st1⟩ := Y.newCold hexec (own := own) (C := cls) (index := ik) (n := 6) hown' hk' hins hini'
    (g := F0 m pc ls rest) rfl (by rw [hb]; exact d0) (Nat.le_refl _) (Nat.le_refl _)
  generalize hT1 : (T.setVm vm₁).pushCell { cls := cX, slots := kX.instanceTypes.map defaultValue, vm := .none } = T1 at X₁ st1
  have hcat : (Value.ref T.heap.size).category = 1 := rfl
  have hcellA : T1.heap[T.heap.size]? = some (freshCell cX kX) := by rw [← hT1]; exact State.heap_pushCell_size _ _
  have d3' : decode c.code (pc + 3) = .ok (.dup, 1) := by rw [hb]; exact d3
  have d4' : decode c.code (pc + 4) = .ok (.ldc is, 2) := by rw [hb]; exact d4
  have hstr' : vk_R own is text sa s' := vk_R.warm hW0 hstr
  obtain ⟨U, hsteps, hrun, hend, hW, hsame, ce, hce, hO⟩ := X₁.ctorThrowS hexec htr (own := own) (cls := cls) (names := names) (ic := ic) hown' hcls hnames h (fun x hx => nomatch hx) hfX hkX hcellA (by rw [hhp, hT]; exact Nat.le_refl _) (msg := .ref sa) rfl
    (g := { method := m, pc := pc + 6, locals := ls, stack := .ref sa :: .ref T.heap.size :: .ref T.heap.size :: rest, locked := none }) rfl hsize rfl rfl (rest := rest) rfl
    (by rw [hb]; exact d6) (by rw [hb]; exact d9) hout hRframes (by simp only [List.map_cons, List.sum_cons, hcat]; omega) hlocks
  obtain ⟨f1, f2⟩ := vx_frame hsame
  rw [hhp] at f1 f2
  have hWs : s.WarmedH U.vm := State.WarmedH.trans hW0 hW
  have hcl : s.vm.findClass cls = some ce.cls := by
    have h9 := hO.cls
    rw [hvm] at h9
    exact h9
  have hall : s.sameButNew ({ U with vm := s.vm } : State) locs mc ms := by
    subst hA
    obtain ⟨e1, e2⟩ := hsame
    rw [State.setFrames_setFrames] at e1
    have h2 : (T.setVm s.vm).sameButNew ({ U with vm := s.vm } : State) [] (0 + 1) (0 + 6) := ⟨e1, e2⟩
    have h3 := X.same.trans h2
    rw [List.append_nil] at h3
    exact h3.mono hc hs
  refine ⟨U, ?_, .threw T.heap.size, hrun, hend, Or.inr ⟨T.heap.size, rfl, cls, ce, locs, hx U hWs.alike f1 (fun q hq => f2 q hq (fun z hz => nomatch hz)), hce, hO.vm, hcl, hWs, hall, hf⟩⟩
  refine st1 _ ?_
  show Steps p.tables e below (T1.setTop { method := m, pc := pc + 3, locals := ls, stack := .ref T.heap.size :: rest, locked := none }) _
  jvm_step X₁.here [X₁.here.top, hexec, d3', Value.category]
  exact X₁.ldcString hexec (own := own) (text := text) (index := is) (a := sa) hown' hstr'.1 hstr'.2
    (g := { method := m, pc := pc + 4, locals := ls, stack := .ref T.heap.size :: .ref T.heap.size :: rest, locked := none }) rfl d4' _ hsteps
/-- 'throw new E("text")', the text by a wide index -/
theorem vx_throwSW {cc : ByteArray} {pc : Nat} (hexec : p.tables.exec = Jvm.exec) (hb : c.code = cc) (hl : l.stackTraces = false) {own cls text : String} {names : List String} {ik is ic mc ms sa : Nat} {A : Nat → Prop}
    (hown : s.vm.findClass own = some m.cls) (hcls : Bundle.fit cls = true) (hnames : ∀ n ∈ names, Bundle.fit n = true)
    (hk : (Cond.classLink own ik cls).before args s = true) (hini : (Cond.initialized cls).before args s = true) (hstr : vk_R own is text sa s) (hat : ∀ w ∈ vx_atS own ic cls names, w.before args s = true)
    (hgood : ∀ w ∈ Cond.classLink own ik cls :: Cond.initialized cls :: vx_atS own ic cls names, vx_ot w = true)
    (hU : vx_Zq Bundle.tN "UNASSIGNED_STACK" Bundle.steD A s s.heap) (hN : vx_Zq Bundle.tN "SUPPRESSED_SENTINEL" Bundle.listD A s s.heap) (hS : va_S A s.heap H locs) (hsize : ls.size = c.maxLocals)
    (d0 : decode cc pc = .ok (.new ik, 3)) (d3 : decode cc (pc + 3) = .ok (.dup, 1)) (d4 : decode cc (pc + 4) = .ok (.ldc_w is, 3)) (d7 : decode cc (pc + 7) = .ok (.invokespecial ic, 3)) (d10 : decode cc (pc + 10) = .ok (.athrow, 1))
    (hout : ∀ x ∈ c.exceptionTable.toList, covers x (pc + 10) = false)
    (hRframes : names.length + 3 < R.frames) (hRlocals : (rest.map fun v => v.category).sum + (13 * (names.length + 1) + 43) ≤ R.locals) (hRcells : cells + 1 ≤ R.cells) (hRslots : slots + 6 ≤ R.slots) (hlocks : meth.locks = false)
    (hx : ∀ t : State, s.vm.Alike t.vm → H.size ≤ t.heap.size → (∀ q : Nat, q < H.size → t.heap[q]? = H[q]?) → XC cls s t)
    (hf : ∀ z ∈ locs, free z.base) (hc : cells + 1 ≤ mc) (hs : slots + 6 ≤ ms) :
    W p l e R s m args below meth c H locs cells slots (vx_MQ below Qc XC args s mc ms free) (F0 m pc ls rest) := by
  intro T hT X
  have htr : e.platform.stackTraces = false := (show e.platform.stackTraces = l.stackTraces by rw [X.admits.platform]).trans hl
  have Y := vx_rebase X (R' := { frames := R.frames, locals := R.locals, cells := 1, slots := 6 }) (Nat.le_refl _) (Nat.le_refl _) hRcells hRslots
  obtain ⟨s', hA⟩ : ∃ z, z = (T.setVm s.vm).setFrames (.invoking m args :: below) := ⟨_, rfl⟩
  rw [← hA] at Y
  have hvm : s'.vm = s.vm := by rw [hA]; rfl
  have hhp : s'.heap = H := by rw [hA]; exact hT
  have hW0 : s.WarmedH s'.vm := by rw [hvm]; exact State.WarmedH.refl s
  have hat' : ∀ w ∈ vx_atS own ic cls names, w.before args s' = true := fun w hw => vx_ot_at hW0 hvm.symm (hgood w (List.mem_cons_of_mem _ (List.mem_cons_of_mem _ hw))) (hat w hw)
  have hk' : (Cond.classLink own ik cls).before args s' = true := vx_ot_at hW0 hvm.symm (hgood _ List.mem_cons_self) hk
  have hini' : (Cond.initialized cls).before args s' = true := vx_ot_at hW0 hvm.symm (hgood _ (List.mem_cons_of_mem _ List.mem_cons_self)) hini
  have hU' : vx_Zq Bundle.tN "UNASSIGNED_STACK" Bundle.steD A s' s'.heap := by rw [hhp]; exact vx_Zq.moved hW0.alike (hU.kept hS.2.1)
  have hN' : vx_Zq Bundle.tN "SUPPRESSED_SENTINEL" Bundle.listD A s' s'.heap := by rw [hhp]; exact vx_Zq.moved hW0.alike (hN.kept hS.2.1)
  have h : ∀ w ∈ Bundle.ownAtoms own ic cls names, w.before args s' = true := vx_own hat' (vx_isRefq hU'.1) (vx_isRefq hN'.1) hU'.2.word hN'.2.word
  have hown' : s'.vm.findClass own = some m.cls := by rw [hvm]; exact hown
  have hins : (Cond.instantiable cls 6).before args s' = true := h _ (by simp [Bundle.ownAtoms])
  obtain ⟨vm₁, cX, kX, hfX, hkX, -, -, X₁, st1⟩ := Y.newCold hexec (own := own) (C := cls) (index := ik) (n := 6) hown' hk' hins hini'
    (g := F0 m pc ls rest) rfl (by rw [hb]; exact d0) (Nat.le_refl _) (Nat.le_refl _)
  generalize hT1 : (T.setVm vm₁).pushCell { cls := cX, slots := kX.instanceTypes.map defaultValue, vm := .none } = T1 at X₁ st1
  have hcat : (Value.ref T.heap.size).category = 1 := rfl
  have hcellA : T1.heap[T.heap.size]? = some (freshCell cX kX) := by rw [← hT1]; exact State.heap_pushCell_size _ _
  have d3' : decode c.code (pc + 3) = .ok (.dup, 1) := by rw [hb]; exact d3
  have d4' : decode c.code (pc + 4) = .ok (.ldc_w is, 3) := by rw [hb]; exact d4
  have hstr' : vk_R own is text sa s' := vk_R.warm hW0 hstr
  obtain ⟨U, hsteps, hrun, hend, hW, hsame, ce, hce, hO⟩ := X₁.ctorThrowS hexec htr (own := own) (cls := cls) (names := names) (ic := ic) hown' hcls hnames h (fun x hx => nomatch hx) hfX hkX hcellA (by rw [hhp, hT]; exact Nat.le_refl _) (msg := .ref sa) rfl
    (g := { method := m, pc := pc + 7, locals := ls, stack := .ref sa :: .ref T.heap.size :: .ref T.heap.size :: rest, locked := none }) rfl hsize rfl rfl (rest := rest) rfl
    (by rw [hb]; exact d7) (by rw [hb]; exact d10) hout hRframes (by simp only [List.map_cons, List.sum_cons, hcat]; omega) hlocks
  obtain ⟨f1, f2⟩ := vx_frame hsame
  rw [hhp] at f1 f2
  have hWs : s.WarmedH U.vm := State.WarmedH.trans hW0 hW
  have hcl : s.vm.findClass cls = some ce.cls := by
    have h9 := hO.cls
    rw [hvm] at h9
    exact h9
  have hall : s.sameButNew ({ U with vm := s.vm } : State) locs mc ms := by
    subst hA
    obtain ⟨e1, e2⟩ := hsame
    rw [State.setFrames_setFrames] at e1
    have h2 : (T.setVm s.vm).sameButNew ({ U with vm := s.vm } : State) [] (0 + 1) (0 + 6) := ⟨e1, e2⟩
    have h3 := X.same.trans h2
    rw [List.append_nil] at h3
    exact h3.mono hc hs
  refine ⟨U, ?_, .threw T.heap.size, hrun, hend, Or.inr ⟨T.heap.size, rfl, cls, ce, locs, hx U hWs.alike f1 (fun q hq => f2 q hq (fun z hz => nomatch hz)), hce, hO.vm, hcl, hWs, hall, hf⟩⟩
  refine st1 _ ?_
  show Steps p.tables e below (T1.setTop { method := m, pc := pc + 3, locals := ls, stack := .ref T.heap.size :: rest, locked := none }) _
  jvm_step X₁.here [X₁.here.top, hexec, d3', Value.category]
  exact X₁.ldcStringW hexec (own := own) (text := text) (index := is) (a := sa) hown' hstr'.1 hstr'.2
    (g := { method := m, pc := pc + 4, locals := ls, stack := .ref T.heap.size :: .ref T.heap.size :: rest, locked := none }) rfl d4' _ hsteps
end Ends
section Bodies
variable {l : Launch}
theorem vx_ofW {y : MethodName} {ws ws' : List Cond} {rm : Room} {Pc : Array Value → State → Prop} {Qc : Array Value → State → Outcome → State → Prop} {XC : String → State → State → Prop} {mc ms : Nat} {free : Addr → Prop} {cc : ByteArray} {maxL : Nat} {ret : Option FieldType}
    (hy : plainName y.cls = true) (hw : ws = Cond.code y cc maxL ret :: ws')
    (body : ∀ p e s m args below meth c s₁, BodyLoose p l y (headSpec ws rm) cc maxL ret e s m args below meth c s₁ → c.maxLocals = maxL → (∀ x ∈ c.exceptionTable.toList, False) → Pc args s →
      W p l e (headSpec ws rm).room s m args below meth c s.heap [] 0 0 (vx_MQ below Qc XC args s mc ms free) (entryFrame m args maxL)) : vx_Met l y ws rm Pc Qc XC mc ms free := by
  refine MetFree.of_bodyS (code := cc) (maxLocals := maxL) (ret := ret) hy ?_ ?_
  · intro args s m h hn
    obtain ⟨meth, c, h1, h2, h3, h4, h5, h6, -, -⟩ := Cond.code_spec hn (atoms_spec (ws := ws) h _ (by rw [hw]; exact List.mem_cons_self))
    exact ⟨meth, c, h1, h2, h3, h4, h5, h6⟩
  · intro p e s m args below meth c s₁ B hml hP _
    have hh0 : s₁.heap = s.heap := by rw [B.state]; rfl
    have ht : ∀ x ∈ c.exceptionTable.toList, False := by
      obtain ⟨meth9, c9, h1, h2, -, -, -, -, h7, -⟩ := Cond.code_spec B.named (atoms_spec (ws := ws) B.pre _ (by rw [hw]; exact List.mem_cons_self))
      cases Option.some.inj (h1.symm.trans B.method)
      cases Option.some.inj (h2.symm.trans (Stand.of_body B).code)
      intro x hx
      rw [Array.isEmpty_iff.mp h7] at hx
      cases hx
    obtain ⟨t, a1, o, b1, b2, b3⟩ := body p e s m args below meth c s₁ B hml ht hP s₁ hh0 (Stand.of_body B)
    exact ⟨t, o, a1, b1, b2, b3⟩
/-- the table of a body with handlers -/
theorem vx_table {p : Program} {x y : MethodName} {S : Spec} {cc bytes : ByteArray} {maxL maxL' : Nat} {ret ret' : Option FieldType} {e : Env} {s s₁ : State} {m : MethodId} {args : Array Value} {below : List Frame} {meth : Method} {c : Code} {hh : List (Nat × Nat × Nat × Nat)}
    (B : BodyLoose p l y S cc maxL ret e s m args below meth c s₁) (h : (Cond.codeWith y bytes maxL' ret' hh).before args s = true) : c.exceptionTable.toList = tableOf hh := by
  obtain ⟨m9, meth9, c9, hn9, h1, h2, -, -, h6, -⟩ := Cond.codeWith_spec h
  cases Option.some.inj (hn9.symm.trans B.named)
  cases Option.some.inj (h1.symm.trans B.method)
  cases Option.some.inj (h2.symm.trans (Stand.of_body B).code)
  rw [← h6, table_eq]
end Bodies
end VXA
/-! ===== END ===== -/
/-! ===== BEGIN a static call of a method with an exception table ===== -/
section VXS
variable {p : Program} {l : Launch} {e : Env} {R : Room} {s : State} {m : MethodId} {args : Array Value} {below : List Frame} {meth : Method} {c : Code} {T : State} {H : Heap} {locs : List Loc} {cells slots : Nat}
abbrev vx_CSW (R : Room) (s : State) (args : Array Value) (own : String) (index : Nat) (y : MethodName) (bytes : ByteArray) (maxL : Nat) (ret : Option FieldType) (hh : List (Nat × Nat × Nat × Nat)) (ws : List Cond) (rm : Room) (mc ms n : Nat) : Prop :=
  (rm.cells = mc ∧ rm.slots = ms ∧ rm.frames + 1 ≤ R.frames ∧ 8 + (maxL + 11) + rm.locals ≤ R.locals ∧ (∀ w ∈ ws, ∀ (a' : Array Value) (U : State), s.WarmedH U.vm → w.before a' U = true) ∧ Cond.codeWith y bytes maxL ret hh ∈ ws) ∧
  (Cond.codeWith y bytes maxL ret hh).before args s = true ∧ (Cond.initialized y.cls).before args s = true ∧ (y.cls ≠ "java/lang/invoke/MethodHandle" ∧ y.cls ≠ "java/lang/invoke/VarHandle") ∧
  (∀ sig, parseMethodDescriptor y.desc = some sig → n = sig.parameters.length) ∧ (Cond.methodLink own index y).before args s = true ∧ (Cond.static y).before args s = true
theorem vx_cwSW {own : String} {index maxL mc ms : Nat} {y : MethodName} {bytes : ByteArray} {ret : Option FieldType} {hh : List (Nat × Nat × Nat × Nat)} {Ts ws ws' : List Cond} {rm : Room} (n : Nat) (ht : ∀ w ∈ Ts, w.before args s = true) (hT : GoodIn Ts (va_wsS own index y ws)) (hw : ws = Cond.codeWith y bytes maxL ret hh :: ws') (hrc : rm.cells = mc) (hrs : rm.slots = ms)
    (hd : y.cls ≠ "java/lang/invoke/MethodHandle" ∧ y.cls ≠ "java/lang/invoke/VarHandle" ∧ (parseMethodDescriptor y.desc).map (fun d => d.parameters.length) = some n) (hR : rm.frames + 1 ≤ R.frames ∧ 8 + (maxL + 11) + rm.locals ≤ R.locals) :
    vx_CSW R s args own index y bytes maxL ret hh ws rm mc ms n := by
  have ok : ∀ w ∈ va_wsS own index y ws, w.before args s = true := fun w h => ht w (hT w h).1
  have hG : GoodIn Ts ws := fun w h => hT w (by unfold va_wsS; exact List.mem_append_right _ h)
  have hc : Cond.codeWith y bytes maxL ret hh ∈ ws := by rw [hw]; exact List.mem_cons_self
  refine ⟨⟨hrc, hrs, hR.1, hR.2, pay_in ht hG, hc⟩, ht _ (hG _ hc).1, ok _ (by simp [va_wsS]), ⟨hd.1, hd.2.1⟩, fun sig h => ?_, ok _ (by simp [va_wsS]), ok _ (by simp [va_wsS])⟩
  have h2 := hd.2.2
  rw [h] at h2
  exact (Option.some.inj h2).symm
theorem vx_callSW (X : Stand p l e R s m args below meth c T locs cells slots) (hexec : p.tables.exec = Jvm.exec) {own : String} {index : Nat} {y : MethodName} {bytes : ByteArray} {maxL : Nat} {ret : Option FieldType} {hh : List (Nat × Nat × Nat × Nat)}
    (hown : s.vm.findClass own = some m.cls) (hlink : (Cond.methodLink own index y).before args s = true) (hstat : (Cond.static y).before args s = true) (hinit : (Cond.initialized y.cls).before args s = true)
    (hcode : (Cond.codeWith y bytes maxL ret hh).before args s = true) (hy : y.cls ≠ "java/lang/invoke/MethodHandle" ∧ y.cls ≠ "java/lang/invoke/VarHandle")
    {W9 : Nat} {Pre : Pt → Array Value → Prop} {Post : Pt → Array Value → Option Value → Pt → Prop} (hK : Back l R p e below s args y 3 W9 Pre Post)
    {g : JFrame} (hg : g.method = m) (hsize : g.locals.size = c.maxLocals) {argsL rest : List Value} (hlen : ∀ sig, parseMethodDescriptor y.desc = some sig → argsL.length = sig.parameters.length)
    (hstack : g.stack = argsL.reverse ++ rest) (hW : 2 * g.monitorRoom + (rest.map fun v => v.category).sum ≤ W9) (hdg : decode c.code g.pc = .ok (.invokestatic index, 3))
    (hpre : ∀ vm₁, s.WarmedH vm₁ → Pre ⟨T.setVm vm₁, locs, cells, slots⟩ argsL.toArray) :
    ∃ (v : Option Value) (vm₁ : Vm) (B : Pt), s.WarmedH vm₁ ∧ Stand p l e R s m args below meth c B.U B.locs B.cells B.slots ∧ Post ⟨T.setVm vm₁, locs, cells, slots⟩ argsL.toArray v B ∧
      ∀ target, Steps p.tables e below (B.U.setTop { g with pc := g.pc + 3, stack := v.toList ++ rest }) target → Steps p.tables e below (T.setTop g) target := by
  obtain ⟨mk, methM, cM, hnamed, hmethM, -, -, -, -, -, -, hsigM⟩ := Cond.codeWith_spec hcode
  have hstatic : methM.isStatic = true := Cond.static_spec hnamed hmethM hstat
  obtain ⟨kP, hkP, -⟩ := className_of_methodNamed hnamed
  have hinitP : kP.init = .initialized := Cond.initialized_spec (findClass_of_methodNamed hnamed) hkP hinit
  obtain ⟨vm₁, X₁, hstep₁⟩ := X.invokestatic hexec hown hlink hnamed hmethM hstatic hkP hinitP hy (g := g) hg (argsL := argsL) (rest := rest) (hlen _ hsigM) hstack hdg
  obtain ⟨v, B, X', hpost, hsteps⟩ := hK m meth c ⟨T.setVm vm₁, locs, cells, slots⟩ { g with stack := rest } (.invokestatic index) mk argsL.toArray X₁ hg hsize hdg hW (X₁.named hnamed) (hpre vm₁ X₁.warmed)
  exact ⟨v, vm₁, B, X₁.warmed, X', hpost, fun target h => hstep₁ _ fun acts => by rw [doInvoke_state]; exact hsteps.trans h⟩
theorem vx_runSW {y : MethodName} {bytes cc : ByteArray} {maxL nL mc ms n index : Nat} {ret : Option FieldType} {hh : List (Nat × Nat × Nat × Nat)} {ws : List Cond} {rm : Room} {Pc : Array Value → State → Prop} {Qc : Array Value → State → Outcome → State → Prop} {free : Addr → Prop} {Ts : List Cond} {own : String} {As rest : List Value} {g : JFrame}
    (S : CallFix p m c cc nL s args Ts own) (hM : Met l y ws rm Pc Qc mc ms free) (cw : vx_CSW R s args own index y bytes maxL ret hh ws rm mc ms n) (hp : PreS s H Pc As)
    (hg : g.method = m) (hn : As.length = n) (hsize : g.locals.size = nL) (hstack : g.stack = As.reverse ++ rest) (hW : 2 * g.monitorRoom + (rest.map fun v => v.category).sum ≤ 8) (hdg : decode cc g.pc = .ok (.invokestatic index, 3)) (hf : cells + mc ≤ R.cells ∧ slots + ms ≤ R.slots) :
    va_Run p l e R s m args below meth c H locs cells slots mc ms g rest (Qc As.toArray) (free) := by
  obtain ⟨⟨hrc, hrs, hfr, hlo, hws, hcw⟩, hcode, hini, hy, hlen, hl, hstt⟩ := cw
  have hK : Back l R p e below s args y 3 8 (PreOf R mc ms Pc) (PostOf Qc mc ms free) := va_backW (hh := hh) (bytes := bytes) (maxL := maxL) (ret := ret) hM hp.1 hrc hrs hfr hlo hws hcw (fun a' U hW => word_at hW (Or.inl (by first | rfl | simp [Cond.onTables, Cond.keeps, Cond.steady])) hini)
  obtain ⟨hx, hb, hml, ho, -⟩ := S
  intro T hT X
  obtain ⟨v, vm₁, ⟨U', l2, c2, s2⟩, hW₁, X', ⟨g', mk, t, L, e1, e2, hq, h1, hL, h2, h3⟩, st⟩ := vx_callSW X hx (hh := hh) (bytes := bytes) (maxL := maxL) (ret := ret) ho hl hstt hini hcode hy hK hg (hsize.trans hml.symm) (argsL := As) (rest := rest) (fun sig h => hn.trans (hlen sig h)) hstack hW (by rw [hb]; exact hdg)
    (fun vm₁ hW₁ => ⟨hf.1, hf.2, hp.2 (T.setVm vm₁) hT hW₁⟩)
  dsimp only [Pt.U, Pt.locs, Pt.cells, Pt.slots] at X' e1 e2 h1 h2 h3 st
  subst h1; subst h2; subst h3
  exact ⟨v, (T.setVm vm₁).calling g' mk As.toArray, t, U', L, hT, X', hL, e1, e2, hq, st⟩
/-- a thing of a world lies in the heap -/
theorem vx_lt {D : va_G} {cl : List vw_C} {ws : va_W} {H1 : Heap} (h : va_P D cl ws H1) {k : Nat} {q : Nat × va_E} (hk : ws[k]? = some q) : q.1 < H1.size := (h k q hk).lt
end VXS
/-! ===== END ===== -/
/-! ===== BEGIN methods with a table of their own: called by a name, returning or throwing ===== -/
section VXH
/-! vx_backW, vx_callVX, vx_callSX, vx_callVW, vx_runVW, vx_runVX, vx_runSX, vx_ofWH follow the same proofs as their sisters above (Free/Laws.lean, Shelf42/LK1.lean); vx_outP calls Shelf42/NT130.lean (outThrough). -/
section
variable {l : Launch} {R : Room} {p : Program} {e : Env} {below : List Frame} {s : State} {sargs : Array Value} {y : MethodName} {len W9 : Nat}
theorem vx_backW {ws : List Cond} {rm : Room} {Pc : Array Value → State → Prop} {Qc : Array Value → State → Outcome → State → Prop} {XC : String → State → State → Prop} {mc ms : Nat} {free : Addr → Prop} {bytes : ByteArray} {maxL : Nat} {ret : Option FieldType} {hh : List (Nat × Nat × Nat × Nat)}
    (hM : vx_Met l y ws rm Pc Qc XC mc ms free) (hblind : FrameBlind Pc) (hrc : rm.cells = mc) (hrs : rm.slots = ms)
    (hframes : rm.frames + 1 ≤ R.frames) (hlocals : W9 + (maxL + 11) + rm.locals ≤ R.locals)
    (hws : ∀ w ∈ ws, ∀ a' U, s.WarmedH U.vm → w.before a' U = true) (hcode : Cond.codeWith y bytes maxL ret hh ∈ ws) (hinit : ∀ a' U, s.WarmedH U.vm → (Cond.initialized y.cls).before a' U = true) :
    vx_Back l R p e below s sargs y len W9 (PreOf R mc ms Pc) (PostOf Qc mc ms free) (vx_Post XC mc ms free) := by
  intro m meth c A g ig mk a X hg hsize hdg hW hn hp
  have h1 : (headSpec ws rm).pre.before a A.U = true := atoms_intro fun w hw => hws w hw _ _ X.warmed
  have h2 : (Cond.codeWith y bytes maxL ret hh).before a A.U = true := hws _ hcode _ _ X.warmed
  have h3 : (Cond.initialized y.cls).before a A.U = true := hinit _ _ X.warmed
  have h4 : A.cells + (headSpec ws rm).room.cells ≤ R.cells := by rw [show (headSpec ws rm).room.cells = mc from hrc]; exact hp.1
  have h5 : A.slots + (headSpec ws rm).room.slots ≤ R.slots := by rw [show (headSpec ws rm).room.slots = ms from hrs]; exact hp.2.1
  have hPc : Pc a (A.U.calling g mk a) := hblind _ _ _ _ hp.2.2
  obtain ⟨U, Ls, c0, s0⟩ := A
  dsimp only [Pt.U, Pt.locs, Pt.cells, Pt.slots] at h1 h2 h3 h4 h5 X hn hPc ⊢
  obtain ⟨m9, methY, cY, hn9, hmY, hcY, -, hlY, -⟩ := Cond.codeWith_spec h2
  cases Option.some.inj (hn9.symm.trans hn)
  obtain ⟨kY, hkY, -⟩ := className_of_methodNamed hn
  have hinitY : kY.init = .initialized := Cond.initialized_spec (findClass_of_methodNamed hn) hkY h3
  have h : At U g.method c below := by rw [hg]; exact X.here
  have hlocals9 : W9 + (maxL + 11) + (headSpec ws rm).room.locals ≤ R.locals := hlocals
  have happ : (headSpec ws rm).appliesLoose y e.platform (U.calling g mk a) = true :=
    Spec.appliesLoose_calling (g := g) h hdg hn hkY hinitY
      (X.room_calling (g := g) (R' := (headSpec ws rm).room) hsize hmY hcY hframes (by rw [hlY]; omega) h4 h5) h1
  obtain ⟨mid, hmid⟩ := h.above
  have hfr : (U.setTop g).frames = (.java g :: mid) ++ below := by rw [State.frames_setTop' g h.top, hmid]; rfl
  obtain ⟨o, s₂, hsteps, -, hend, hq⟩ := Steps.callFree hM p X.admits X.cas X.clock (acts := []) hfr happ hPc trivial
  have hq' : vx_Q Qc XC mc ms free a (U.calling g mk a) o s₂ := hq
  rw [State.frames_setTop' g h.top] at hend
  obtain ⟨g₀, hg0⟩ := Option.isSome_iff_exists.mp h.top
  obtain ⟨r, hr⟩ := State.topJava?_eq_some.mp hg0
  have hr' : (({ U with heap := s₂.heap, slotsUsed := s₂.slotsUsed } : State).setVm s₂.vm).frames = .java g₀ :: r := hr
  rcases hq' with ⟨hqc, L, hfe, hL⟩ | ⟨q, rfl, E, ce, L, hx, hce, hcv, hcl, hW₂, hsm, hL⟩
  · obtain ⟨⟨v, rfl⟩, hW₂, e2, q2, q3, q4, q5, q6⟩ := id hfe
    have e3 : s₂ = ({ (U.calling g mk a).setFrames s₂.frames with heap := s₂.heap, slotsUsed := s₂.slotsUsed } : State).setVm s₂.vm := by
      have : s₂ = ({ s₂ with vm := (U.calling g mk a).vm } : State).setVm s₂.vm := rfl
      rw [e2] at this
      exact this
    obtain ⟨c₂, i₂, len₂, hc₂, hd₂, hf₂⟩ := hend
    have hW' : U.WarmedH s₂.vm := hW₂
    have hcc : c₂ = c := by
      have h1 : s₂.code? g.method = U.code? g.method := by
        rw [State.code?_eq, State.code?_eq, hW'.alike.method?]
      exact Option.some.inj (hc₂.symm.trans (h1.trans h.code))
    subst hcc
    have hlen : len₂ = len := by rw [hdg] at hd₂; cases hd₂; rfl
    subst hlen
    have hs₂ : s₂ = (({ U with heap := s₂.heap, slotsUsed := s₂.slotsUsed } : State).setVm s₂.vm).setTop { g with pc := g.pc + len₂, stack := v.toList ++ g.stack } := by
      refine e3.trans ?_
      rw [hf₂, State.calling_eq h.top, State.setFrames_setFrames, State.setTop_of_frames _ hr', hr]
      rfl
    have hsame : U.sameButNew ({ U with heap := s₂.heap, slotsUsed := s₂.slotsUsed } : State) L mc ms := by
      refine ⟨?_, q2, q3, q4, q5, q6⟩
      obtain ⟨t, ht, -⟩ := State.frames_cons hr
      show ({ U with heap := s₂.heap, slotsUsed := s₂.slotsUsed } : State) = { U.setFrames U.frames with heap := s₂.heap, slotsUsed := s₂.slotsUsed }
      rw [State.setFrames_self ht]
    subst hg
    refine Or.inl ⟨v, ⟨(({ U with heap := s₂.heap, slotsUsed := s₂.slotsUsed } : State).setVm s₂.vm), Ls ++ L, c0 + mc, s0 + ms⟩,
      ⟨X.admits, X.cas, X.clock, X.frames, X.room, X.hears, X.method, X.code, (X.here.setHeapUsed s₂.heap s₂.slotsUsed).setVm hW'.alike, X.tail, State.WarmedH.trans X.warmed hW', X.limits, X.bytes, X.same.trans (hsame.setVm s.vm)⟩,
      ⟨g, mk, s₂, L, rfl, rfl, hqc, rfl, hL, rfl, rfl⟩, ?_⟩
    show Steps p.tables e below _ ((({ U with heap := s₂.heap, slotsUsed := s₂.slotsUsed } : State).setVm s₂.vm).setTop { g with pc := g.pc + len₂, stack := v.toList ++ g.stack })
    rw [← hs₂]
    exact hsteps
  · obtain ⟨e2, q2, q3, q4, q5, q6⟩ := id hsm
    have e3 : s₂ = ({ (U.calling g mk a).setFrames s₂.frames with heap := s₂.heap, slotsUsed := s₂.slotsUsed } : State).setVm s₂.vm := by
      have : s₂ = ({ s₂ with vm := (U.calling g mk a).vm } : State).setVm s₂.vm := rfl
      rw [e2] at this
      exact this
    have hf₂ : s₂.frames = .throwing q :: .java g :: U.frames.tail := hend
    have hW' : U.WarmedH s₂.vm := hW₂
    have hs₂ : s₂ = ((({ U with heap := s₂.heap, slotsUsed := s₂.slotsUsed } : State).setVm s₂.vm).setTop g).pushFrame (.throwing q) := by
      refine e3.trans ?_
      rw [hf₂, State.calling_eq h.top, State.setFrames_setFrames, State.pushFrame, State.frames_setTop _ hr', State.setTop_of_frames _ hr', State.setFrames_setFrames, hr]
      rfl
    have hsame : U.sameButNew ({ U with heap := s₂.heap, slotsUsed := s₂.slotsUsed } : State) L mc ms := by
      refine ⟨?_, q2, q3, q4, q5, q6⟩
      obtain ⟨t, ht, -⟩ := State.frames_cons hr
      show ({ U with heap := s₂.heap, slotsUsed := s₂.slotsUsed } : State) = { U.setFrames U.frames with heap := s₂.heap, slotsUsed := s₂.slotsUsed }
      rw [State.setFrames_self ht]
    subst hg
    refine Or.inr ⟨q, ⟨(({ U with heap := s₂.heap, slotsUsed := s₂.slotsUsed } : State).setVm s₂.vm), Ls ++ L, c0 + mc, s0 + ms⟩,
      ⟨X.admits, X.cas, X.clock, X.frames, X.room, X.hears, X.method, X.code, (X.here.setHeapUsed s₂.heap s₂.slotsUsed).setVm hW'.alike, X.tail, State.WarmedH.trans X.warmed hW', X.limits, X.bytes, X.same.trans (hsame.setVm s.vm)⟩,
      ⟨g, mk, s₂, L, E, ce, rfl, rfl, hx, hce, hcv, hcl, rfl, hL, rfl, rfl⟩, ?_⟩
    show Steps p.tables e below _ (((({ U with heap := s₂.heap, slotsUsed := s₂.slotsUsed } : State).setVm s₂.vm).setTop g).pushFrame (.throwing q))
    rw [← hs₂]
    exact hsteps
end
variable {p : Program} {l : Launch} {e : Env} {R : Room} {s : State} {m : MethodId} {args : Array Value} {below : List Frame} {meth : Method} {c : Code} {T : State} {H : Heap} {locs : List Loc} {cells slots : Nat}
theorem vx_callVX (X : Stand p l e R s m args below meth c T locs cells slots) (hexec : p.tables.exec = Jvm.exec) {own C : String} {index : Nat} {y : MethodName} {bytes : ByteArray} {maxL : Nat} {ret : Option FieldType} {hh : List (Nat × Nat × Nat × Nat)}
    (hown : s.vm.findClass own = some m.cls) (hlink : (Cond.methodLink own index y).before args s = true) (hinst : (Cond.instanceMethod y).before args s = true) (hsel : (Cond.selects C y y).before args s = true)
    (hcode : (Cond.codeWith y bytes maxL ret hh).before args s = true) (hy : y.cls ≠ "java/lang/invoke/MethodHandle" ∧ y.cls ≠ "java/lang/invoke/VarHandle")
    {W9 : Nat} {Pre : Pt → Array Value → Prop} {Post : Pt → Array Value → Option Value → Pt → Prop} {PostX : Pt → Array Value → Addr → Pt → Prop} (hK : vx_Back l R p e below s args y 3 W9 Pre Post PostX)
    {b : Addr} {cellB : Cell} (hcell : T.heap[b]? = some cellB) (hobj : cellB.vm.isStatics = false) (hcls : s.vm.findClass C = some cellB.cls)
    {g : JFrame} (hg : g.method = m) (hsize : g.locals.size = c.maxLocals) {argsL rest : List Value} (hlen : ∀ sig, parseMethodDescriptor y.desc = some sig → argsL.length = sig.parameters.length)
    (hstack : g.stack = argsL.reverse ++ .ref b :: rest) (hW : 2 * g.monitorRoom + (rest.map fun v => v.category).sum ≤ W9) (hdg : decode c.code g.pc = .ok (.invokevirtual index, 3))
    (hpre : ∀ vm₁, s.WarmedH vm₁ → Pre ⟨T.setVm vm₁, locs, cells, slots⟩ (Value.ref b :: argsL).toArray) :
    (∃ (v : Option Value) (vm₁ : Vm) (B : Pt), s.WarmedH vm₁ ∧ Stand p l e R s m args below meth c B.U B.locs B.cells B.slots ∧ Post ⟨T.setVm vm₁, locs, cells, slots⟩ (Value.ref b :: argsL).toArray v B ∧
      ∀ target, Steps p.tables e below (B.U.setTop { g with pc := g.pc + 3, stack := v.toList ++ rest }) target → Steps p.tables e below (T.setTop g) target) ∨
    (∃ (q : Addr) (vm₁ : Vm) (B : Pt), s.WarmedH vm₁ ∧ Stand p l e R s m args below meth c B.U B.locs B.cells B.slots ∧ PostX ⟨T.setVm vm₁, locs, cells, slots⟩ (Value.ref b :: argsL).toArray q B ∧
      Steps p.tables e below (T.setTop g) ((B.U.setTop { g with stack := rest }).pushFrame (.throwing q))) := by
  obtain ⟨mk, methM, hnamed, hmethM, hstM, habM⟩ := Cond.instanceMethod_spec hinst
  obtain ⟨m8, methM', cM, hn8, hmethM', -, -, -, -, -, -, hsigM⟩ := Cond.codeWith_spec hcode
  cases Option.some.inj (hn8.symm.trans hnamed)
  cases hmethM.symm.trans hmethM'
  obtain ⟨c2, r2, m2, q1, q2, q3, q4, kP, hkP, hkPi⟩ := Cond.selects_spec hsel
  cases hcls.symm.trans q1
  cases (State.methodFound?_of_named hnamed hy).symm.trans q2
  cases hnamed.symm.trans q3
  have hselP : selectMethod e.platform s.vm cellB.cls mk = .method mk := by rw [Launch.admits_selectMethod X.admits]; exact q4
  obtain ⟨vm₁, X₁, hstep₁⟩ := X.invokevirtual hexec hown hlink hnamed hmethM hstM hkP hkPi hy (a := b) (cell := cellB) hcell
    (fun z h => by rw [h] at hobj; cases hobj) hselP hmethM habM hkP hkPi (g := g) hg (argsL := argsL) (rest := rest) (hlen _ hsigM) hstack hdg
  rcases hK m meth c ⟨T.setVm vm₁, locs, cells, slots⟩ { g with stack := rest } (.invokevirtual index) mk (Value.ref b :: argsL).toArray X₁ hg hsize hdg hW (X₁.named hnamed) (hpre vm₁ X₁.warmed) with ⟨v, B, X', hpost, hsteps⟩ | ⟨q, B, X', hpost, hsteps⟩
  · exact Or.inl ⟨v, vm₁, B, X₁.warmed, X', hpost, fun target h => hstep₁ _ fun acts => by rw [doInvoke_state]; exact hsteps.trans h⟩
  · exact Or.inr ⟨q, vm₁, B, X₁.warmed, X', hpost, hstep₁ _ fun acts => by rw [doInvoke_state]; exact hsteps⟩
theorem vx_callSX (X : Stand p l e R s m args below meth c T locs cells slots) (hexec : p.tables.exec = Jvm.exec) {own : String} {index : Nat} {y : MethodName} {bytes : ByteArray} {maxL : Nat} {ret : Option FieldType} {hh : List (Nat × Nat × Nat × Nat)}
    (hown : s.vm.findClass own = some m.cls) (hlink : (Cond.methodLink own index y).before args s = true) (hstat : (Cond.static y).before args s = true) (hinit : (Cond.initialized y.cls).before args s = true)
    (hcode : (Cond.codeWith y bytes maxL ret hh).before args s = true) (hy : y.cls ≠ "java/lang/invoke/MethodHandle" ∧ y.cls ≠ "java/lang/invoke/VarHandle")
    {W9 : Nat} {Pre : Pt → Array Value → Prop} {Post : Pt → Array Value → Option Value → Pt → Prop} {PostX : Pt → Array Value → Addr → Pt → Prop} (hK : vx_Back l R p e below s args y 3 W9 Pre Post PostX)
    {g : JFrame} (hg : g.method = m) (hsize : g.locals.size = c.maxLocals) {argsL rest : List Value} (hlen : ∀ sig, parseMethodDescriptor y.desc = some sig → argsL.length = sig.parameters.length)
    (hstack : g.stack = argsL.reverse ++ rest) (hW : 2 * g.monitorRoom + (rest.map fun v => v.category).sum ≤ W9) (hdg : decode c.code g.pc = .ok (.invokestatic index, 3))
    (hpre : ∀ vm₁, s.WarmedH vm₁ → Pre ⟨T.setVm vm₁, locs, cells, slots⟩ argsL.toArray) :
    (∃ (v : Option Value) (vm₁ : Vm) (B : Pt), s.WarmedH vm₁ ∧ Stand p l e R s m args below meth c B.U B.locs B.cells B.slots ∧ Post ⟨T.setVm vm₁, locs, cells, slots⟩ argsL.toArray v B ∧
      ∀ target, Steps p.tables e below (B.U.setTop { g with pc := g.pc + 3, stack := v.toList ++ rest }) target → Steps p.tables e below (T.setTop g) target) ∨
    (∃ (q : Addr) (vm₁ : Vm) (B : Pt), s.WarmedH vm₁ ∧ Stand p l e R s m args below meth c B.U B.locs B.cells B.slots ∧ PostX ⟨T.setVm vm₁, locs, cells, slots⟩ argsL.toArray q B ∧
      Steps p.tables e below (T.setTop g) ((B.U.setTop { g with stack := rest }).pushFrame (.throwing q))) := by
  obtain ⟨mk, methM, cM, hnamed, hmethM, -, -, -, -, -, -, hsigM⟩ := Cond.codeWith_spec hcode
  have hstatic : methM.isStatic = true := Cond.static_spec hnamed hmethM hstat
  obtain ⟨kP, hkP, -⟩ := className_of_methodNamed hnamed
  have hinitP : kP.init = .initialized := Cond.initialized_spec (findClass_of_methodNamed hnamed) hkP hinit
  obtain ⟨vm₁, X₁, hstep₁⟩ := X.invokestatic hexec hown hlink hnamed hmethM hstatic hkP hinitP hy (g := g) hg (argsL := argsL) (rest := rest) (hlen _ hsigM) hstack hdg
  rcases hK m meth c ⟨T.setVm vm₁, locs, cells, slots⟩ { g with stack := rest } (.invokestatic index) mk argsL.toArray X₁ hg hsize hdg hW (X₁.named hnamed) (hpre vm₁ X₁.warmed) with ⟨v, B, X', hpost, hsteps⟩ | ⟨q, B, X', hpost, hsteps⟩
  · exact Or.inl ⟨v, vm₁, B, X₁.warmed, X', hpost, fun target h => hstep₁ _ fun acts => by rw [doInvoke_state]; exact hsteps.trans h⟩
  · exact Or.inr ⟨q, vm₁, B, X₁.warmed, X', hpost, hstep₁ _ fun acts => by rw [doInvoke_state]; exact hsteps⟩
theorem vx_callVW (X : Stand p l e R s m args below meth c T locs cells slots) (hexec : p.tables.exec = Jvm.exec) {own C : String} {index : Nat} {y : MethodName} {bytes : ByteArray} {maxL : Nat} {ret : Option FieldType} {hh : List (Nat × Nat × Nat × Nat)}
    (hown : s.vm.findClass own = some m.cls) (hlink : (Cond.methodLink own index y).before args s = true) (hinst : (Cond.instanceMethod y).before args s = true) (hsel : (Cond.selects C y y).before args s = true)
    (hcode : (Cond.codeWith y bytes maxL ret hh).before args s = true) (hy : y.cls ≠ "java/lang/invoke/MethodHandle" ∧ y.cls ≠ "java/lang/invoke/VarHandle")
    {W9 : Nat} {Pre : Pt → Array Value → Prop} {Post : Pt → Array Value → Option Value → Pt → Prop} (hK : Back l R p e below s args y 3 W9 Pre Post)
    {b : Addr} {cellB : Cell} (hcell : T.heap[b]? = some cellB) (hobj : cellB.vm.isStatics = false) (hcls : s.vm.findClass C = some cellB.cls)
    {g : JFrame} (hg : g.method = m) (hsize : g.locals.size = c.maxLocals) {argsL rest : List Value} (hlen : ∀ sig, parseMethodDescriptor y.desc = some sig → argsL.length = sig.parameters.length)
    (hstack : g.stack = argsL.reverse ++ .ref b :: rest) (hW : 2 * g.monitorRoom + (rest.map fun v => v.category).sum ≤ W9) (hdg : decode c.code g.pc = .ok (.invokevirtual index, 3))
    (hpre : ∀ vm₁, s.WarmedH vm₁ → Pre ⟨T.setVm vm₁, locs, cells, slots⟩ (Value.ref b :: argsL).toArray) :
    ∃ (v : Option Value) (vm₁ : Vm) (B : Pt), s.WarmedH vm₁ ∧ Stand p l e R s m args below meth c B.U B.locs B.cells B.slots ∧ Post ⟨T.setVm vm₁, locs, cells, slots⟩ (Value.ref b :: argsL).toArray v B ∧
      ∀ target, Steps p.tables e below (B.U.setTop { g with pc := g.pc + 3, stack := v.toList ++ rest }) target → Steps p.tables e below (T.setTop g) target := by
  obtain ⟨mk, methM, hnamed, hmethM, hstM, habM⟩ := Cond.instanceMethod_spec hinst
  obtain ⟨m8, methM', cM, hn8, hmethM', -, -, -, -, -, -, hsigM⟩ := Cond.codeWith_spec hcode
  cases Option.some.inj (hn8.symm.trans hnamed)
  cases hmethM.symm.trans hmethM'
  obtain ⟨c2, r2, m2, q1, q2, q3, q4, kP, hkP, hkPi⟩ := Cond.selects_spec hsel
  cases hcls.symm.trans q1
  cases (State.methodFound?_of_named hnamed hy).symm.trans q2
  cases hnamed.symm.trans q3
  have hselP : selectMethod e.platform s.vm cellB.cls mk = .method mk := by rw [Launch.admits_selectMethod X.admits]; exact q4
  obtain ⟨vm₁, X₁, hstep₁⟩ := X.invokevirtual hexec hown hlink hnamed hmethM hstM hkP hkPi hy (a := b) (cell := cellB) hcell
    (fun z h => by rw [h] at hobj; cases hobj) hselP hmethM habM hkP hkPi (g := g) hg (argsL := argsL) (rest := rest) (hlen _ hsigM) hstack hdg
  obtain ⟨v, B, X', hpost, hsteps⟩ := hK m meth c ⟨T.setVm vm₁, locs, cells, slots⟩ { g with stack := rest } (.invokevirtual index) mk (Value.ref b :: argsL).toArray X₁ hg hsize hdg hW (X₁.named hnamed) (hpre vm₁ X₁.warmed)
  exact ⟨v, vm₁, B, X₁.warmed, X', hpost, fun target h => hstep₁ _ fun acts => by rw [doInvoke_state]; exact hsteps.trans h⟩
abbrev vx_CVW (R : Room) (s : State) (args : Array Value) (own C : String) (index : Nat) (y : MethodName) (bytes : ByteArray) (maxL : Nat) (ret : Option FieldType) (hh : List (Nat × Nat × Nat × Nat)) (ws : List Cond) (rm : Room) (mc ms n : Nat) : Prop :=
  (rm.cells = mc ∧ rm.slots = ms ∧ rm.frames + 1 ≤ R.frames ∧ 8 + (maxL + 11) + rm.locals ≤ R.locals ∧ (∀ w ∈ ws, ∀ (a' : Array Value) (U : State), s.WarmedH U.vm → w.before a' U = true) ∧ Cond.codeWith y bytes maxL ret hh ∈ ws) ∧
  (Cond.codeWith y bytes maxL ret hh).before args s = true ∧ (Cond.initialized y.cls).before args s = true ∧ (y.cls ≠ "java/lang/invoke/MethodHandle" ∧ y.cls ≠ "java/lang/invoke/VarHandle") ∧
  (∀ sig, parseMethodDescriptor y.desc = some sig → n = sig.parameters.length) ∧ (Cond.methodLink own index y).before args s = true ∧ (Cond.instanceMethod y).before args s = true ∧ (Cond.selects C y y).before args s = true
theorem vx_cwVW {own C : String} {index maxL mc ms : Nat} {y : MethodName} {bytes : ByteArray} {ret : Option FieldType} {hh : List (Nat × Nat × Nat × Nat)} {Ts ws ws' : List Cond} {rm : Room} (n : Nat) (ht : ∀ w ∈ Ts, w.before args s = true) (hT : GoodIn Ts (wsV own index C y ws)) (hw : ws = Cond.codeWith y bytes maxL ret hh :: ws') (hrc : rm.cells = mc) (hrs : rm.slots = ms)
    (hd : y.cls = C ∧ y.cls ≠ "java/lang/invoke/MethodHandle" ∧ y.cls ≠ "java/lang/invoke/VarHandle" ∧ (parseMethodDescriptor y.desc).map (fun d => d.parameters.length) = some n) (hR : rm.frames + 1 ≤ R.frames ∧ 8 + (maxL + 11) + rm.locals ≤ R.locals) :
    vx_CVW R s args own C index y bytes maxL ret hh ws rm mc ms n := by
  obtain ⟨hC, hd⟩ := hd
  subst hC
  have ok : ∀ w ∈ wsV own index y.cls y ws, w.before args s = true := fun w h => ht w (hT w h).1
  have hG : GoodIn Ts ws := fun w h => hT w (by unfold wsV; exact List.mem_append_right _ h)
  have hc : Cond.codeWith y bytes maxL ret hh ∈ ws := by rw [hw]; exact List.mem_cons_self
  refine ⟨⟨hrc, hrs, hR.1, hR.2, pay_in ht hG, hc⟩, ht _ (hG _ hc).1, ok _ (by simp [wsV]), ⟨hd.1, hd.2.1⟩, fun sig h => ?_, ok _ (by simp [wsV]), ok _ (by simp [wsV]), ok _ (by simp [wsV])⟩
  have h2 := hd.2.2
  rw [h] at h2
  exact (Option.some.inj h2).symm
theorem vx_runVW {y : MethodName} {bytes cc : ByteArray} {maxL nL mc ms n index : Nat} {ret : Option FieldType} {hh : List (Nat × Nat × Nat × Nat)} {ws : List Cond} {rm : Room} {Pc : Array Value → State → Prop} {Qc : Array Value → State → Outcome → State → Prop} {free : Addr → Prop} {Ts : List Cond} {own C : String} {b : Addr} {As rest : List Value} {g : JFrame}
    (S : CallFix p m c cc nL s args Ts own) (hM : Met l y ws rm Pc Qc mc ms free) (cw : vx_CVW R s args own C index y bytes maxL ret hh ws rm mc ms n) (hp : PreV s H C b Pc As)
    (hg : g.method = m) (hn : As.length = n) (hsize : g.locals.size = nL) (hstack : g.stack = As.reverse ++ .ref b :: rest) (hW : 2 * g.monitorRoom + (rest.map fun v => v.category).sum ≤ 8) (hdg : decode cc g.pc = .ok (.invokevirtual index, 3)) (hf : cells + mc ≤ R.cells ∧ slots + ms ≤ R.slots) :
    va_Run p l e R s m args below meth c H locs cells slots mc ms g rest (Qc (Value.ref b :: As).toArray) free := by
  obtain ⟨⟨hrc, hrs, hfr, hlo, hws, hcw⟩, hcode, hini, hy, hlen, hl, hin, hse⟩ := cw
  have hK : Back l R p e below s args y 3 8 (PreOf R mc ms Pc) (PostOf Qc mc ms free) := va_backW (hh := hh) (bytes := bytes) (maxL := maxL) (ret := ret) hM hp.1 hrc hrs hfr hlo hws hcw (fun a' U hW => word_at hW (Or.inl (by first | rfl | simp [Cond.onTables, Cond.keeps, Cond.steady])) hini)
  obtain ⟨hx, hb, hml, ho, -⟩ := S
  obtain ⟨-, ⟨cellB, hcB, hoB, hclB⟩, hPc⟩ := hp
  intro T hT X
  obtain ⟨v, vm₁, ⟨U', l2, c2, s2⟩, hW₁, X', ⟨g', mk, t, L, e1, e2, hq, h1, hL, h2, h3⟩, st⟩ := vx_callVW X hx (C := C) (hh := hh) (bytes := bytes) (maxL := maxL) (ret := ret) ho hl hin hse hcode hy hK (by rw [hT]; exact hcB) hoB hclB hg (hsize.trans hml.symm) (argsL := As) (rest := rest) (fun sig h => hn.trans (hlen sig h)) hstack hW (by rw [hb]; exact hdg)
    (fun vm₁ hW₁ => ⟨hf.1, hf.2, hPc (T.setVm vm₁) hT hW₁⟩)
  dsimp only [Pt.U, Pt.locs, Pt.cells, Pt.slots] at X' e1 e2 h1 h2 h3 st
  subst h1; subst h2; subst h3
  exact ⟨v, (T.setVm vm₁).calling g' mk (Value.ref b :: As).toArray, t, U', L, hT, X', hL, e1, e2, hq, st⟩
section
variable {y : MethodName} {bytes cc : ByteArray} {maxL nL mc ms n index : Nat} {ret : Option FieldType} {ws : List Cond} {rm : Room} {Pc : Array Value → State → Prop} {Qc : Array Value → State → Outcome → State → Prop} {XC : String → State → State → Prop} {free : Addr → Prop} {Ts : List Cond} {own C : String} {b : Addr} {As rest : List Value} {g : JFrame}
theorem vx_runVX {hh : List (Nat × Nat × Nat × Nat)} (S : CallFix p m c cc nL s args Ts own) (hM : vx_Met l y ws rm Pc Qc XC mc ms free) (cw : vx_CVW R s args own C index y bytes maxL ret hh ws rm mc ms n) (hp : PreV s H C b Pc As)
    (hg : g.method = m) (hn : As.length = n) (hsize : g.locals.size = nL) (hstack : g.stack = As.reverse ++ .ref b :: rest) (hW : 2 * g.monitorRoom + (rest.map fun v => v.category).sum ≤ 8) (hdg : decode cc g.pc = .ok (.invokevirtual index, 3)) (hf : cells + mc ≤ R.cells ∧ slots + ms ≤ R.slots) :
    vx_Run p l e R s m args below meth c H locs cells slots mc ms g rest (Qc (Value.ref b :: As).toArray) XC free := by
  obtain ⟨⟨hrc, hrs, hfr, hlo, hws, hcw⟩, hcode, hini, hy, hlen, hl, hin, hse⟩ := cw
  have hK : vx_Back l R p e below s args y 3 8 (PreOf R mc ms Pc) (PostOf Qc mc ms free) (vx_Post XC mc ms free) := vx_backW (hh := hh) (bytes := bytes) (maxL := maxL) (ret := ret) hM hp.1 hrc hrs hfr hlo hws hcw (fun a' U hW => word_at hW (Or.inl (by first | rfl | simp [Cond.onTables, Cond.keeps, Cond.steady])) hini)
  obtain ⟨hx, hb, hml, ho, -⟩ := S
  obtain ⟨-, ⟨cellB, hcB, hoB, hclB⟩, hPc⟩ := hp
  intro T hT X
  rcases vx_callVX X hx (C := C) (hh := hh) (bytes := bytes) (maxL := maxL) (ret := ret) ho hl hin hse hcode hy hK (by rw [hT]; exact hcB) hoB hclB hg (hsize.trans hml.symm) (argsL := As) (rest := rest) (fun sig h => hn.trans (hlen sig h)) hstack hW (by rw [hb]; exact hdg)
    (fun vm₁ hW₁ => ⟨hf.1, hf.2, hPc (T.setVm vm₁) hT hW₁⟩) with ⟨v, vm₁, ⟨U', l2, c2, s2⟩, hW₁, X', ⟨g', mk, t, L, e1, e2, hq, h1, hL, h2, h3⟩, st⟩ | ⟨q, vm₁, ⟨U', l2, c2, s2⟩, hW₁, X', ⟨g', mk, t, L, E, ce, e1, e2, hq, hce, hcv, hcl, h1, hL, h2, h3⟩, st⟩
  · dsimp only [Pt.U, Pt.locs, Pt.cells, Pt.slots] at X' e1 e2 h1 h2 h3 st
    subst h1; subst h2; subst h3
    exact Or.inl ⟨v, (T.setVm vm₁).calling g' mk (Value.ref b :: As).toArray, t, U', L, hT, X', hL, e1, e2, hq, st⟩
  · dsimp only [Pt.U, Pt.locs, Pt.cells, Pt.slots] at X' e1 e2 h1 h2 h3 st hcl
    subst h1; subst h2; subst h3
    exact Or.inr ⟨q, (T.setVm vm₁).calling g' mk (Value.ref b :: As).toArray, t, U', L, E, ce, hT, X', hL, e1, e2, hq, hce, hcv, vx_cls hW₁ hcl, st⟩
theorem vx_runSX {hh : List (Nat × Nat × Nat × Nat)} (S : CallFix p m c cc nL s args Ts own) (hM : vx_Met l y ws rm Pc Qc XC mc ms free) (cw : vx_CSW R s args own index y bytes maxL ret hh ws rm mc ms n) (hp : PreS s H Pc As)
    (hg : g.method = m) (hn : As.length = n) (hsize : g.locals.size = nL) (hstack : g.stack = As.reverse ++ rest) (hW : 2 * g.monitorRoom + (rest.map fun v => v.category).sum ≤ 8) (hdg : decode cc g.pc = .ok (.invokestatic index, 3)) (hf : cells + mc ≤ R.cells ∧ slots + ms ≤ R.slots) :
    vx_Run p l e R s m args below meth c H locs cells slots mc ms g rest (Qc As.toArray) XC free := by
  obtain ⟨⟨hrc, hrs, hfr, hlo, hws, hcw⟩, hcode, hini, hy, hlen, hl, hstt⟩ := cw
  have hK : vx_Back l R p e below s args y 3 8 (PreOf R mc ms Pc) (PostOf Qc mc ms free) (vx_Post XC mc ms free) := vx_backW (hh := hh) (bytes := bytes) (maxL := maxL) (ret := ret) hM hp.1 hrc hrs hfr hlo hws hcw (fun a' U hW => word_at hW (Or.inl (by first | rfl | simp [Cond.onTables, Cond.keeps, Cond.steady])) hini)
  obtain ⟨hx, hb, hml, ho, -⟩ := S
  intro T hT X
  rcases vx_callSX X hx (hh := hh) (bytes := bytes) (maxL := maxL) (ret := ret) ho hl hstt hini hcode hy hK hg (hsize.trans hml.symm) (argsL := As) (rest := rest) (fun sig h => hn.trans (hlen sig h)) hstack hW (by rw [hb]; exact hdg)
    (fun vm₁ hW₁ => ⟨hf.1, hf.2, hp.2 (T.setVm vm₁) hT hW₁⟩) with ⟨v, vm₁, ⟨U', l2, c2, s2⟩, hW₁, X', ⟨g', mk, t, L, e1, e2, hq, h1, hL, h2, h3⟩, st⟩ | ⟨q, vm₁, ⟨U', l2, c2, s2⟩, hW₁, X', ⟨g', mk, t, L, E, ce, e1, e2, hq, hce, hcv, hcl, h1, hL, h2, h3⟩, st⟩
  · dsimp only [Pt.U, Pt.locs, Pt.cells, Pt.slots] at X' e1 e2 h1 h2 h3 st
    subst h1; subst h2; subst h3
    exact Or.inl ⟨v, (T.setVm vm₁).calling g' mk As.toArray, t, U', L, hT, X', hL, e1, e2, hq, st⟩
  · dsimp only [Pt.U, Pt.locs, Pt.cells, Pt.slots] at X' e1 e2 h1 h2 h3 st hcl
    subst h1; subst h2; subst h3
    exact Or.inr ⟨q, (T.setVm vm₁).calling g' mk As.toArray, t, U', L, E, ce, hT, X', hL, e1, e2, hq, hce, hcv, vx_cls hW₁ hcl, st⟩
end
end VXH
theorem vx_ofWH {l : Launch} {y : MethodName} {ws ws' : List Cond} {rm : Room} {Pc : Array Value → State → Prop} {Qc : Array Value → State → Outcome → State → Prop} {XC : String → State → State → Prop} {mc ms : Nat} {free : Addr → Prop} {cc : ByteArray} {maxL : Nat} {ret : Option FieldType} {hh : List (Nat × Nat × Nat × Nat)}
    (hy : plainName y.cls = true) (hw : ws = Cond.codeWith y cc maxL ret hh :: ws')
    (body : ∀ p e s m args below meth c s₁, BodyLoose p l y (headSpec ws rm) cc maxL ret e s m args below meth c s₁ → c.maxLocals = maxL → Pc args s →
      W p l e (headSpec ws rm).room s m args below meth c s.heap [] 0 0 (vx_MQ below Qc XC args s mc ms free) (entryFrame m args maxL)) : vx_Met l y ws rm Pc Qc XC mc ms free := by
  refine MetFree.of_bodyS (code := cc) (maxLocals := maxL) (ret := ret) hy ?_ ?_
  · intro args s m h hn
    obtain ⟨m9, meth, c, hn9, h1, h2, h3, h4, -, h5, h6, -⟩ := Cond.codeWith_spec (atoms_spec (ws := ws) h _ (by rw [hw]; exact List.mem_cons_self))
    cases hn.symm.trans hn9
    exact ⟨meth, c, h1, h2, h3, h4, h5, h6⟩
  · intro p e s m args below meth c s₁ B hml hP _
    have hh0 : s₁.heap = s.heap := by rw [B.state]; rfl
    obtain ⟨t, a1, o, b1, b2, b3⟩ := body p e s m args below meth c s₁ B hml hP s₁ hh0 (Stand.of_body B)
    exact ⟨t, o, a1, b1, b2, b3⟩
/-! ===== END ===== -/
end
section
def RX0 : String := "BabelMesh$LetterRow"
def TX0 : u_T := fun k => match k with
  | 0 => ("BabelMesh$LetterRow", "fields", "[[I", true)
  | 1 => ("BabelMesh$LetterRow", "first", "I", false)
  | 2 => ("BabelMesh$LetterRow", "count", "I", false)
  | 3 => ("BabelMesh$LetterRow", "sent", "I", false)
  | 4 => ("BabelMesh$LetterRow", "lostForRoom", "I", false)
  | _ => ("BabelMesh$LetterRow", "lostOnTheWay", "I", false)
def tyX0 : Nat → FieldType := fun k => match k with
  | 0 => .array (.array .int)
  | 1 => .int
  | 2 => .int
  | 3 => .int
  | 4 => .int
  | _ => .int
abbrev wsX00 : List Cond := u_ws RX0 TX0 6
theorem nmX0 : ∀ a, a < 6 → ∀ b, b < 6 → a ≠ b → (TX0 a).2.1 ≠ (TX0 b).2.1 := by decide +kernel
theorem tyX0_ok : ∀ k, k < 6 → parseFieldDescriptor (TX0 k).2.2.1 = some (tyX0 k) := by decide +kernel
abbrev cX0_init : ByteArray := prog_2_method_1_code
def yX0_init : MethodName := ⟨RX0, "<init>", "()V"⟩
abbrev cX0_placeOf : ByteArray := prog_2_method_2_code
def yX0_placeOf : MethodName := ⟨RX0, "placeOf", "(I)I"⟩
abbrev cX0_read : ByteArray := prog_2_method_3_code
def yX0_read : MethodName := ⟨RX0, "read", "(II)I"⟩
abbrev cX0_send : ByteArray := prog_2_method_4_code
def yX0_send : MethodName := ⟨RX0, "send", "(IIIIII)V"⟩
abbrev cX0_repeat : ByteArray := prog_2_method_5_code
def yX0_repeat : MethodName := ⟨RX0, "repeat", "(I)Z"⟩
abbrev cX0_takeAway : ByteArray := prog_2_method_6_code
def yX0_takeAway : MethodName := ⟨RX0, "takeAway", "(I)V"⟩
abbrev cX0_loseAllOf : ByteArray := prog_2_method_7_code
def yX0_loseAllOf : MethodName := ⟨RX0, "loseAllOf", "(I)I"⟩
abbrev cX0_put : ByteArray := prog_2_method_8_code
def yX0_put : MethodName := ⟨RX0, "put", "(II)V"⟩
def RX1 : String := "BabelMesh$Radio"
def TX1 : u_T := fun k => match k with
  | 0 => ("BabelMesh$Radio", "linkCost", "[I", true)
  | 1 => ("BabelMesh$Radio", "boundNumber", "[I", true)
  | 2 => ("BabelMesh$Radio", "boundMetric", "[I", true)
  | 3 => ("BabelMesh$Radio", "chosen", "[I", true)
  | 4 => ("BabelMesh$Radio", "wayNumber", "[I", true)
  | 5 => ("BabelMesh$Radio", "wayMetric", "[I", true)
  | 6 => ("BabelMesh$Radio", "passedNumber", "[I", true)
  | 7 => ("BabelMesh$Radio", "toldNumber", "[[I", true)
  | 8 => ("BabelMesh$Radio", "toldMetric", "[[I", true)
  | _ => ("BabelMesh$Radio", "self", "I", true)
def tyX1 : Nat → FieldType := fun k => match k with
  | 0 => .array .int
  | 1 => .array .int
  | 2 => .array .int
  | 3 => .array .int
  | 4 => .array .int
  | 5 => .array .int
  | 6 => .array .int
  | 7 => .array (.array .int)
  | 8 => .array (.array .int)
  | _ => .int
abbrev wsX10 : List Cond := u_ws RX1 TX1 10
theorem nmX1 : ∀ a, a < 10 → ∀ b, b < 10 → a ≠ b → (TX1 a).2.1 ≠ (TX1 b).2.1 := by decide +kernel
theorem tyX1_ok : ∀ k, k < 10 → parseFieldDescriptor (TX1 k).2.2.1 = some (tyX1 k) := by decide +kernel
abbrev cX1_init : ByteArray := prog_3_method_1_code
def yX1_init : MethodName := ⟨RX1, "<init>", "(I)V"⟩
abbrev cX1_hasWay : ByteArray := prog_3_method_2_code
def yX1_hasWay : MethodName := ⟨RX1, "hasWay", "(I)Z"⟩
abbrev cX1_hasBound : ByteArray := prog_3_method_3_code
def yX1_hasBound : MethodName := ⟨RX1, "hasBound", "(I)Z"⟩
abbrev cX1_isGood : ByteArray := prog_3_method_4_code
def yX1_isGood : MethodName := ⟨RX1, "isGood", "(III)Z"⟩
abbrev cX1_hasPassedOn : ByteArray := prog_3_method_5_code
def yX1_hasPassedOn : MethodName := ⟨RX1, "hasPassedOn", "(II)Z"⟩
abbrev cX1_raiseOwnNumber : ByteArray := prog_3_method_6_code
def yX1_raiseOwnNumber : MethodName := ⟨RX1, "raiseOwnNumber", "()I"⟩
abbrev cX1_countLinks : ByteArray := prog_3_method_7_code
def yX1_countLinks : MethodName := ⟨RX1, "countLinks", "()I"⟩
abbrev cX1_forgetNeighbour : ByteArray := prog_3_method_8_code
def yX1_forgetNeighbour : MethodName := ⟨RX1, "forgetNeighbour", "(I)V"⟩
abbrev cX1_forgetBounds : ByteArray := prog_3_method_9_code
def yX1_forgetBounds : MethodName := ⟨RX1, "forgetBounds", "()V"⟩
abbrev cX1_takeBestWay : ByteArray := prog_3_method_10_code
def yX1_takeBestWay : MethodName := ⟨RX1, "takeBestWay", "(I)Z"⟩
abbrev cX1_findBestNeighbour : ByteArray := prog_3_method_11_code
def yX1_findBestNeighbour : MethodName := ⟨RX1, "findBestNeighbour", "(I)I"⟩
def RX2 : String := "BabelMesh"
def TX2 : u_T := fun k => match k with
  | 0 => ("BabelMesh", "radios", "[LBabelMesh$Radio;", true)
  | _ => ("BabelMesh", "letters", "LBabelMesh$LetterRow;", true)
def tyX2 : Nat → FieldType := fun k => match k with
  | 0 => .array (.object "BabelMesh$Radio")
  | _ => .object "BabelMesh$LetterRow"
abbrev wsX20 : List Cond := u_ws RX2 TX2 2
theorem nmX2 : ∀ a, a < 2 → ∀ b, b < 2 → a ≠ b → (TX2 a).2.1 ≠ (TX2 b).2.1 := by decide +kernel
theorem tyX2_ok : ∀ k, k < 2 → parseFieldDescriptor (TX2 k).2.2.1 = some (tyX2 k) := by decide +kernel
abbrev cX2_init : ByteArray := prog_1_method_1_code
def yX2_init : MethodName := ⟨RX2, "<init>", "()V"⟩
abbrev cX2_link : ByteArray := prog_1_method_2_code
def yX2_link : MethodName := ⟨RX2, "link", "(III)I"⟩
abbrev cX2_announce : ByteArray := prog_1_method_3_code
def yX2_announce : MethodName := ⟨RX2, "announce", "(I)I"⟩
abbrev cX2_renew : ByteArray := prog_1_method_4_code
def yX2_renew : MethodName := ⟨RX2, "renew", "(I)I"⟩
abbrev cX2_ask : ByteArray := prog_1_method_5_code
def yX2_ask : MethodName := ⟨RX2, "ask", "(II)I"⟩
abbrev cX2_reboot : ByteArray := prog_1_method_6_code
def yX2_reboot : MethodName := ⟨RX2, "reboot", "(I)I"⟩
abbrev cX2_deliver : ByteArray := prog_1_method_7_code
def yX2_deliver : MethodName := ⟨RX2, "deliver", "(I)I"⟩
abbrev cX2_run : ByteArray := prog_1_method_8_code
def yX2_run : MethodName := ⟨RX2, "run", "(I)I"⟩
abbrev cX2_drop : ByteArray := prog_1_method_9_code
def yX2_drop : MethodName := ⟨RX2, "drop", "(I)I"⟩
abbrev cX2_copy : ByteArray := prog_1_method_10_code
def yX2_copy : MethodName := ⟨RX2, "copy", "(I)Z"⟩
abbrev cX2_letter : ByteArray := prog_1_method_11_code
def yX2_letter : MethodName := ⟨RX2, "letter", "(II)I"⟩
abbrev cX2_way : ByteArray := prog_1_method_12_code
def yX2_way : MethodName := ⟨RX2, "way", "(III)I"⟩
abbrev cX2_told : ByteArray := prog_1_method_13_code
def yX2_told : MethodName := ⟨RX2, "told", "(IIII)I"⟩
abbrev cX2_trace : ByteArray := prog_1_method_14_code
def yX2_trace : MethodName := ⟨RX2, "trace", "(II)I"⟩
abbrev cX2_cost : ByteArray := prog_1_method_15_code
def yX2_cost : MethodName := ⟨RX2, "cost", "(II)I"⟩
abbrev cX2_total : ByteArray := prog_1_method_16_code
def yX2_total : MethodName := ⟨RX2, "total", "(I)I"⟩
abbrev cX2_requireNode : ByteArray := prog_1_method_17_code
def yX2_requireNode : MethodName := ⟨RX2, "requireNode", "(I)V"⟩
abbrev cX2_requirePair : ByteArray := prog_1_method_18_code
def yX2_requirePair : MethodName := ⟨RX2, "requirePair", "(II)V"⟩
abbrev cX2_requireUpTo : ByteArray := prog_1_method_19_code
def yX2_requireUpTo : MethodName := ⟨RX2, "requireUpTo", "(II)V"⟩
abbrev cX2_requireLetter : ByteArray := prog_1_method_20_code
def yX2_requireLetter : MethodName := ⟨RX2, "requireLetter", "(I)V"⟩
abbrev cX2_isNewer : ByteArray := prog_1_method_21_code
def yX2_isNewer : MethodName := ⟨RX2, "isNewer", "(II)Z"⟩
abbrev cX2_nextNumber : ByteArray := prog_1_method_22_code
def yX2_nextNumber : MethodName := ⟨RX2, "nextNumber", "(I)I"⟩
abbrev cX2_countAllLinks : ByteArray := prog_1_method_23_code
def yX2_countAllLinks : MethodName := ⟨RX2, "countAllLinks", "()I"⟩
abbrev cX2_handOver : ByteArray := prog_1_method_24_code
def yX2_handOver : MethodName := ⟨RX2, "handOver", "(I)V"⟩
abbrev cX2_hearTelling : ByteArray := prog_1_method_25_code
def yX2_hearTelling : MethodName := ⟨RX2, "hearTelling", "(IIIII)V"⟩
abbrev cX2_hearRequest : ByteArray := prog_1_method_26_code
def yX2_hearRequest : MethodName := ⟨RX2, "hearRequest", "(IIIII)V"⟩
abbrev cX2_chooseEverywhere : ByteArray := prog_1_method_27_code
def yX2_chooseEverywhere : MethodName := ⟨RX2, "chooseEverywhere", "(I)V"⟩
abbrev cX2_chooseAnew : ByteArray := prog_1_method_28_code
def yX2_chooseAnew : MethodName := ⟨RX2, "chooseAnew", "(II)V"⟩
abbrev cX2_tellEveryWay : ByteArray := prog_1_method_29_code
def yX2_tellEveryWay : MethodName := ⟨RX2, "tellEveryWay", "(II)V"⟩
abbrev cX2_tellAll : ByteArray := prog_1_method_30_code
def yX2_tellAll : MethodName := ⟨RX2, "tellAll", "(II)V"⟩
abbrev cX2_tell : ByteArray := prog_1_method_31_code
def yX2_tell : MethodName := ⟨RX2, "tell", "(III)V"⟩
abbrev cX2_askAll : ByteArray := prog_1_method_32_code
def yX2_askAll : MethodName := ⟨RX2, "askAll", "(II)V"⟩
abbrev cX2_requestAll : ByteArray := prog_1_method_33_code
def yX2_requestAll : MethodName := ⟨RX2, "requestAll", "(IIIII)V"⟩
def RX3 : String := "BabelMeshModel"
def TX3 : u_T := fun k => match k with
  | 0 => ("BabelMeshModel", "code", "I", false)
  | 1 => ("BabelMeshModel", "costs", "[I", true)
  | 2 => ("BabelMeshModel", "links", "I", false)
  | 3 => ("BabelMeshModel", "own", "[I", true)
  | 4 => ("BabelMeshModel", "boundNumber", "[I", true)
  | 5 => ("BabelMeshModel", "boundMetric", "[I", true)
  | 6 => ("BabelMeshModel", "chosen", "[I", true)
  | 7 => ("BabelMeshModel", "wayNumber", "[I", true)
  | 8 => ("BabelMeshModel", "wayMetric", "[I", true)
  | 9 => ("BabelMeshModel", "passed", "[I", true)
  | 10 => ("BabelMeshModel", "toldNumber", "[I", true)
  | 11 => ("BabelMeshModel", "toldMetric", "[I", true)
  | 12 => ("BabelMeshModel", "letters", "[I", true)
  | 13 => ("BabelMeshModel", "many", "I", false)
  | 14 => ("BabelMeshModel", "sent", "I", false)
  | 15 => ("BabelMeshModel", "full", "I", false)
  | _ => ("BabelMeshModel", "lost", "I", false)
def tyX3 : Nat → FieldType := fun k => match k with
  | 0 => .int
  | 1 => .array .int
  | 2 => .int
  | 3 => .array .int
  | 4 => .array .int
  | 5 => .array .int
  | 6 => .array .int
  | 7 => .array .int
  | 8 => .array .int
  | 9 => .array .int
  | 10 => .array .int
  | 11 => .array .int
  | 12 => .array .int
  | 13 => .int
  | 14 => .int
  | 15 => .int
  | _ => .int
abbrev wsX30 : List Cond := u_ws RX3 TX3 17
theorem nmX3 : ∀ a, a < 17 → ∀ b, b < 17 → a ≠ b → (TX3 a).2.1 ≠ (TX3 b).2.1 := by decide +kernel
theorem tyX3_ok : ∀ k, k < 17 → parseFieldDescriptor (TX3 k).2.2.1 = some (tyX3 k) := by decide +kernel
abbrev cX3_init : ByteArray := prog_5_method_1_code
def yX3_init : MethodName := ⟨RX3, "<init>", "()V"⟩
abbrev cX3_thrown : ByteArray := prog_5_method_2_code
def yX3_thrown : MethodName := ⟨RX3, "thrown", "()I"⟩
abbrev cX3_refuses : ByteArray := prog_5_method_3_code
def yX3_refuses : MethodName := ⟨RX3, "refuses", "(I)Z"⟩
abbrev cX3_isNode : ByteArray := prog_5_method_4_code
def yX3_isNode : MethodName := ⟨RX3, "isNode", "(I)Z"⟩
abbrev cX3_newer : ByteArray := prog_5_method_5_code
def yX3_newer : MethodName := ⟨RX3, "newer", "(II)Z"⟩
abbrev cX3_send : ByteArray := prog_5_method_6_code
def yX3_send : MethodName := ⟨RX3, "send", "(IIIIII)V"⟩
abbrev cX3_takes : ByteArray := prog_5_method_7_code
def yX3_takes : MethodName := ⟨RX3, "takes", "(I)V"⟩
abbrev cX3_tells : ByteArray := prog_5_method_8_code
def yX3_tells : MethodName := ⟨RX3, "tells", "(III)V"⟩
abbrev cX3_tellsAll : ByteArray := prog_5_method_9_code
def yX3_tellsAll : MethodName := ⟨RX3, "tellsAll", "(II)V"⟩
abbrev cX3_asks : ByteArray := prog_5_method_10_code
def yX3_asks : MethodName := ⟨RX3, "asks", "(IIIII)V"⟩
abbrev cX3_wanted : ByteArray := prog_5_method_11_code
def yX3_wanted : MethodName := ⟨RX3, "wanted", "(II)I"⟩
abbrev cX3_isGood : ByteArray := prog_5_method_12_code
def yX3_isGood : MethodName := ⟨RX3, "isGood", "(IIII)Z"⟩
abbrev cX3_by : ByteArray := prog_5_method_13_code
def yX3_by : MethodName := ⟨RX3, "by", "(III)I"⟩
abbrev cX3_chooses : ByteArray := prog_5_method_14_code
def yX3_chooses : MethodName := ⟨RX3, "chooses", "(II)V"⟩
abbrev cX3_choosesAll : ByteArray := prog_5_method_15_code
def yX3_choosesAll : MethodName := ⟨RX3, "choosesAll", "(I)V"⟩
abbrev cX3_link : ByteArray := prog_5_method_16_code
def yX3_link : MethodName := ⟨RX3, "link", "(III)I"⟩
abbrev cX3_introduces : ByteArray := prog_5_method_17_code
def yX3_introduces : MethodName := ⟨RX3, "introduces", "(II)V"⟩
abbrev cX3_announce : ByteArray := prog_5_method_18_code
def yX3_announce : MethodName := ⟨RX3, "announce", "(I)I"⟩
abbrev cX3_renew : ByteArray := prog_5_method_19_code
def yX3_renew : MethodName := ⟨RX3, "renew", "(I)I"⟩
abbrev cX3_ask : ByteArray := prog_5_method_20_code
def yX3_ask : MethodName := ⟨RX3, "ask", "(II)I"⟩
abbrev cX3_reboot : ByteArray := prog_5_method_21_code
def yX3_reboot : MethodName := ⟨RX3, "reboot", "(I)I"⟩
abbrev cX3_deliver : ByteArray := prog_5_method_22_code
def yX3_deliver : MethodName := ⟨RX3, "deliver", "(I)I"⟩
abbrev cX3_hands : ByteArray := prog_5_method_23_code
def yX3_hands : MethodName := ⟨RX3, "hands", "(I)I"⟩
abbrev cX3_requested : ByteArray := prog_5_method_24_code
def yX3_requested : MethodName := ⟨RX3, "requested", "(IIIII)V"⟩
abbrev cX3_run : ByteArray := prog_5_method_25_code
def yX3_run : MethodName := ⟨RX3, "run", "(I)I"⟩
abbrev cX3_drop : ByteArray := prog_5_method_26_code
def yX3_drop : MethodName := ⟨RX3, "drop", "(I)I"⟩
abbrev cX3_copy : ByteArray := prog_5_method_27_code
def yX3_copy : MethodName := ⟨RX3, "copy", "(I)Z"⟩
abbrev cX3_letter : ByteArray := prog_5_method_28_code
def yX3_letter : MethodName := ⟨RX3, "letter", "(II)I"⟩
abbrev cX3_way : ByteArray := prog_5_method_29_code
def yX3_way : MethodName := ⟨RX3, "way", "(III)I"⟩
abbrev cX3_told : ByteArray := prog_5_method_30_code
def yX3_told : MethodName := ⟨RX3, "told", "(IIII)I"⟩
abbrev cX3_trace : ByteArray := prog_5_method_31_code
def yX3_trace : MethodName := ⟨RX3, "trace", "(II)I"⟩
abbrev cX3_cost : ByteArray := prog_5_method_32_code
def yX3_cost : MethodName := ⟨RX3, "cost", "(II)I"⟩
abbrev cX3_total : ByteArray := prog_5_method_33_code
def yX3_total : MethodName := ⟨RX3, "total", "(I)I"⟩
def RJ9 : String := "java/lang/Math"
def TJ9 : u_T := fun k => match k with
  | _ => ("", "", "", false)
def tyJ9 : Nat → FieldType := fun k => match k with
  | _ => .int
abbrev wsJ90 : List Cond := u_ws RJ9 TJ9 0
theorem nmJ9 : ∀ a, a < 0 → ∀ b, b < 0 → a ≠ b → (TJ9 a).2.1 ≠ (TJ9 b).2.1 := by decide +kernel
theorem tyJ9_ok : ∀ k, k < 0 → parseFieldDescriptor (TJ9 k).2.2.1 = some (tyJ9 k) := by decide +kernel
abbrev cJ9_max_7cf53 : ByteArray := prog_9_method_65_code
def yJ9_max_7cf53 : MethodName := ⟨RJ9, "max", "(II)I"⟩
abbrev cJ9_min_7cf53 : ByteArray := prog_9_method_69_code
def yJ9_min_7cf53 : MethodName := ⟨RJ9, "min", "(II)I"⟩
def RJ0 : String := "java/lang/String"
def TJ0 : u_T := fun k => match k with
  | _ => ("", "", "", false)
def tyJ0 : Nat → FieldType := fun k => match k with
  | _ => .int
abbrev wsJ00 : List Cond := u_ws RJ0 TJ0 0
theorem nmJ0 : ∀ a, a < 0 → ∀ b, b < 0 → a ≠ b → (TJ0 a).2.1 ≠ (TJ0 b).2.1 := by decide +kernel
theorem tyJ0_ok : ∀ k, k < 0 → parseFieldDescriptor (TJ0 k).2.2.1 = some (tyJ0 k) := by decide +kernel
def RJ7 : String := "java/util/Arrays"
def TJ7 : u_T := fun k => match k with
  | _ => ("", "", "", false)
def tyJ7 : Nat → FieldType := fun k => match k with
  | _ => .int
abbrev wsJ70 : List Cond := u_ws RJ7 TJ7 0
theorem nmJ7 : ∀ a, a < 0 → ∀ b, b < 0 → a ≠ b → (TJ7 a).2.1 ≠ (TJ7 b).2.1 := by decide +kernel
theorem tyJ7_ok : ∀ k, k < 0 → parseFieldDescriptor (TJ7 k).2.2.1 = some (tyJ7 k) := by decide +kernel
abbrev cJ7_fill_53178 : ByteArray := prog_13_method_103_code
def yJ7_fill_53178 : MethodName := ⟨RJ7, "fill", "([II)V"⟩
def RL : String := "BabelMeshLaw"
abbrev cL_link : ByteArray := method_3_code
def yL_link : MethodName := ⟨RL, "link", "(LBabelMesh;III[J)I"⟩
abbrev cL_announce : ByteArray := method_4_code
def yL_announce : MethodName := ⟨RL, "announce", "(LBabelMesh;I[J)I"⟩
abbrev cL_renew : ByteArray := method_5_code
def yL_renew : MethodName := ⟨RL, "renew", "(LBabelMesh;I[J)I"⟩
abbrev cL_ask : ByteArray := method_6_code
def yL_ask : MethodName := ⟨RL, "ask", "(LBabelMesh;II[J)I"⟩
abbrev cL_reboot : ByteArray := method_7_code
def yL_reboot : MethodName := ⟨RL, "reboot", "(LBabelMesh;I[J)I"⟩
abbrev cL_deliver : ByteArray := method_8_code
def yL_deliver : MethodName := ⟨RL, "deliver", "(LBabelMesh;I[J)I"⟩
abbrev cL_run : ByteArray := method_9_code
def yL_run : MethodName := ⟨RL, "run", "(LBabelMesh;I[J)I"⟩
abbrev cL_drop : ByteArray := method_10_code
def yL_drop : MethodName := ⟨RL, "drop", "(LBabelMesh;I[J)I"⟩
abbrev cL_copy : ByteArray := method_11_code
def yL_copy : MethodName := ⟨RL, "copy", "(LBabelMesh;I[J)I"⟩
abbrev cL_letter : ByteArray := method_12_code
def yL_letter : MethodName := ⟨RL, "letter", "(LBabelMesh;II[J)I"⟩
abbrev cL_way : ByteArray := method_13_code
def yL_way : MethodName := ⟨RL, "way", "(LBabelMesh;III[J)I"⟩
abbrev cL_told : ByteArray := method_14_code
def yL_told : MethodName := ⟨RL, "told", "(LBabelMesh;IIII[J)I"⟩
abbrev cL_trace : ByteArray := method_15_code
def yL_trace : MethodName := ⟨RL, "trace", "(LBabelMesh;II[J)I"⟩
abbrev cL_cost : ByteArray := method_16_code
def yL_cost : MethodName := ⟨RL, "cost", "(LBabelMesh;II[J)I"⟩
abbrev cL_total : ByteArray := method_17_code
def yL_total : MethodName := ⟨RL, "total", "(LBabelMesh;I[J)I"⟩
abbrev cL_law : ByteArray := code
def yL_law : MethodName := ⟨RL, "law", "([I)Z"⟩
abbrev vwCl : List vw_C := [(RX0, TX0, 6), (RX1, TX1, 10), (RX2, TX2, 2), (RX3, TX3, 17)]
theorem inX0 : ∀ w ∈ wsX00, w ∈ lw_tbl := by decide +kernel
theorem inX1 : ∀ w ∈ wsX10, w ∈ lw_tbl := by decide +kernel
theorem inX2 : ∀ w ∈ wsX20, w ∈ lw_tbl := by decide +kernel
theorem inX3 : ∀ w ∈ wsX30, w ∈ lw_tbl := by decide +kernel
end
section
theorem dX0_init_0 : decode cX0_init 0 = .ok (.aload_n 0, 1) := by decide +kernel
theorem dX0_init_1 : decode cX0_init 1 = .ok (.invokespecial 3, 3) := by decide +kernel
theorem dX0_init_4 : decode cX0_init 4 = .ok (.aload_n 0, 1) := by decide +kernel
theorem dX0_init_5 : decode cX0_init 5 = .ok (.bipush 6, 2) := by decide +kernel
theorem dX0_init_7 : decode cX0_init 7 = .ok (.sipush 300, 3) := by decide +kernel
theorem dX0_init_10 : decode cX0_init 10 = .ok (.multianewarray 9 2, 4) := by decide +kernel
theorem dX0_init_14 : decode cX0_init 14 = .ok (.putfield 11, 3) := by decide +kernel
theorem dX0_init_17 : decode cX0_init 17 = .ok (.return_, 1) := by decide +kernel
theorem dX0_placeOf_0 : decode cX0_placeOf 0 = .ok (.aload_n 0, 1) := by decide +kernel
theorem dX0_placeOf_1 : decode cX0_placeOf 1 = .ok (.getfield 16, 3) := by decide +kernel
theorem dX0_placeOf_4 : decode cX0_placeOf 4 = .ok (.iload_n 1, 1) := by decide +kernel
theorem dX0_placeOf_5 : decode cX0_placeOf 5 = .ok (.iadd, 1) := by decide +kernel
theorem dX0_placeOf_6 : decode cX0_placeOf 6 = .ok (.istore_n 2, 1) := by decide +kernel
theorem dX0_placeOf_7 : decode cX0_placeOf 7 = .ok (.iload_n 2, 1) := by decide +kernel
theorem dX0_placeOf_8 : decode cX0_placeOf 8 = .ok (.sipush 300, 3) := by decide +kernel
theorem dX0_placeOf_11 : decode cX0_placeOf 11 = .ok (.if_icmp .lt 11, 3) := by decide +kernel
theorem dX0_placeOf_14 : decode cX0_placeOf 14 = .ok (.iload_n 2, 1) := by decide +kernel
theorem dX0_placeOf_15 : decode cX0_placeOf 15 = .ok (.sipush 300, 3) := by decide +kernel
theorem dX0_placeOf_18 : decode cX0_placeOf 18 = .ok (.isub, 1) := by decide +kernel
theorem dX0_placeOf_19 : decode cX0_placeOf 19 = .ok (.goto 4, 3) := by decide +kernel
theorem dX0_placeOf_22 : decode cX0_placeOf 22 = .ok (.iload_n 2, 1) := by decide +kernel
theorem dX0_placeOf_23 : decode cX0_placeOf 23 = .ok (.ireturn, 1) := by decide +kernel
theorem dX0_read_0 : decode cX0_read 0 = .ok (.aload_n 0, 1) := by decide +kernel
theorem dX0_read_1 : decode cX0_read 1 = .ok (.getfield 11, 3) := by decide +kernel
theorem dX0_read_4 : decode cX0_read 4 = .ok (.iload_n 2, 1) := by decide +kernel
theorem dX0_read_5 : decode cX0_read 5 = .ok (.aaload, 1) := by decide +kernel
theorem dX0_read_6 : decode cX0_read 6 = .ok (.aload_n 0, 1) := by decide +kernel
theorem dX0_read_7 : decode cX0_read 7 = .ok (.iload_n 1, 1) := by decide +kernel
theorem dX0_read_8 : decode cX0_read 8 = .ok (.invokevirtual 20, 3) := by decide +kernel
theorem dX0_read_11 : decode cX0_read 11 = .ok (.iaload, 1) := by decide +kernel
theorem dX0_read_12 : decode cX0_read 12 = .ok (.ireturn, 1) := by decide +kernel
theorem dX0_send_0 : decode cX0_send 0 = .ok (.aload_n 0, 1) := by decide +kernel
theorem dX0_send_1 : decode cX0_send 1 = .ok (.dup, 1) := by decide +kernel
theorem dX0_send_2 : decode cX0_send 2 = .ok (.getfield 24, 3) := by decide +kernel
theorem dX0_send_5 : decode cX0_send 5 = .ok (.iconst 1, 1) := by decide +kernel
theorem dX0_send_6 : decode cX0_send 6 = .ok (.iadd, 1) := by decide +kernel
theorem dX0_send_7 : decode cX0_send 7 = .ok (.putfield 24, 3) := by decide +kernel
theorem dX0_send_10 : decode cX0_send 10 = .ok (.aload_n 0, 1) := by decide +kernel
theorem dX0_send_11 : decode cX0_send 11 = .ok (.getfield 27, 3) := by decide +kernel
theorem dX0_send_14 : decode cX0_send 14 = .ok (.sipush 300, 3) := by decide +kernel
theorem dX0_send_17 : decode cX0_send 17 = .ok (.if_icmp .lt 14, 3) := by decide +kernel
theorem dX0_send_20 : decode cX0_send 20 = .ok (.aload_n 0, 1) := by decide +kernel
theorem dX0_send_21 : decode cX0_send 21 = .ok (.dup, 1) := by decide +kernel
theorem dX0_send_22 : decode cX0_send 22 = .ok (.getfield 30, 3) := by decide +kernel
theorem dX0_send_25 : decode cX0_send 25 = .ok (.iconst 1, 1) := by decide +kernel
theorem dX0_send_26 : decode cX0_send 26 = .ok (.iadd, 1) := by decide +kernel
theorem dX0_send_27 : decode cX0_send 27 = .ok (.putfield 30, 3) := by decide +kernel
theorem dX0_send_30 : decode cX0_send 30 = .ok (.return_, 1) := by decide +kernel
theorem dX0_send_31 : decode cX0_send 31 = .ok (.aload_n 0, 1) := by decide +kernel
theorem dX0_send_32 : decode cX0_send 32 = .ok (.aload_n 0, 1) := by decide +kernel
theorem dX0_send_33 : decode cX0_send 33 = .ok (.getfield 27, 3) := by decide +kernel
theorem dX0_send_36 : decode cX0_send 36 = .ok (.invokevirtual 20, 3) := by decide +kernel
theorem dX0_send_39 : decode cX0_send 39 = .ok (.istore 7, 2) := by decide +kernel
theorem dX0_send_41 : decode cX0_send 41 = .ok (.aload_n 0, 1) := by decide +kernel
theorem dX0_send_42 : decode cX0_send 42 = .ok (.getfield 11, 3) := by decide +kernel
theorem dX0_send_45 : decode cX0_send 45 = .ok (.iconst 0, 1) := by decide +kernel
theorem dX0_send_46 : decode cX0_send 46 = .ok (.aaload, 1) := by decide +kernel
theorem dX0_send_47 : decode cX0_send 47 = .ok (.iload 7, 2) := by decide +kernel
theorem dX0_send_49 : decode cX0_send 49 = .ok (.iload_n 1, 1) := by decide +kernel
theorem dX0_send_50 : decode cX0_send 50 = .ok (.iastore, 1) := by decide +kernel
theorem dX0_send_51 : decode cX0_send 51 = .ok (.aload_n 0, 1) := by decide +kernel
theorem dX0_send_52 : decode cX0_send 52 = .ok (.getfield 11, 3) := by decide +kernel
theorem dX0_send_55 : decode cX0_send 55 = .ok (.iconst 1, 1) := by decide +kernel
theorem dX0_send_56 : decode cX0_send 56 = .ok (.aaload, 1) := by decide +kernel
theorem dX0_send_57 : decode cX0_send 57 = .ok (.iload 7, 2) := by decide +kernel
theorem dX0_send_59 : decode cX0_send 59 = .ok (.iload_n 2, 1) := by decide +kernel
theorem dX0_send_60 : decode cX0_send 60 = .ok (.iastore, 1) := by decide +kernel
theorem dX0_send_61 : decode cX0_send 61 = .ok (.aload_n 0, 1) := by decide +kernel
theorem dX0_send_62 : decode cX0_send 62 = .ok (.getfield 11, 3) := by decide +kernel
theorem dX0_send_65 : decode cX0_send 65 = .ok (.iconst 2, 1) := by decide +kernel
theorem dX0_send_66 : decode cX0_send 66 = .ok (.aaload, 1) := by decide +kernel
theorem dX0_send_67 : decode cX0_send 67 = .ok (.iload 7, 2) := by decide +kernel
theorem dX0_send_69 : decode cX0_send 69 = .ok (.iload_n 3, 1) := by decide +kernel
theorem dX0_send_70 : decode cX0_send 70 = .ok (.iastore, 1) := by decide +kernel
theorem dX0_send_71 : decode cX0_send 71 = .ok (.aload_n 0, 1) := by decide +kernel
theorem dX0_send_72 : decode cX0_send 72 = .ok (.getfield 11, 3) := by decide +kernel
theorem dX0_send_75 : decode cX0_send 75 = .ok (.iconst 3, 1) := by decide +kernel
theorem dX0_send_76 : decode cX0_send 76 = .ok (.aaload, 1) := by decide +kernel
theorem dX0_send_77 : decode cX0_send 77 = .ok (.iload 7, 2) := by decide +kernel
theorem dX0_send_79 : decode cX0_send 79 = .ok (.iload 4, 2) := by decide +kernel
theorem dX0_send_81 : decode cX0_send 81 = .ok (.iastore, 1) := by decide +kernel
theorem dX0_send_82 : decode cX0_send 82 = .ok (.aload_n 0, 1) := by decide +kernel
theorem dX0_send_83 : decode cX0_send 83 = .ok (.getfield 11, 3) := by decide +kernel
theorem dX0_send_86 : decode cX0_send 86 = .ok (.iconst 4, 1) := by decide +kernel
theorem dX0_send_87 : decode cX0_send 87 = .ok (.aaload, 1) := by decide +kernel
theorem dX0_send_88 : decode cX0_send 88 = .ok (.iload 7, 2) := by decide +kernel
theorem dX0_send_90 : decode cX0_send 90 = .ok (.iload 5, 2) := by decide +kernel
theorem dX0_send_92 : decode cX0_send 92 = .ok (.iastore, 1) := by decide +kernel
theorem dX0_send_93 : decode cX0_send 93 = .ok (.aload_n 0, 1) := by decide +kernel
theorem dX0_send_94 : decode cX0_send 94 = .ok (.getfield 11, 3) := by decide +kernel
theorem dX0_send_97 : decode cX0_send 97 = .ok (.iconst 5, 1) := by decide +kernel
theorem dX0_send_98 : decode cX0_send 98 = .ok (.aaload, 1) := by decide +kernel
theorem dX0_send_99 : decode cX0_send 99 = .ok (.iload 7, 2) := by decide +kernel
theorem dX0_send_101 : decode cX0_send 101 = .ok (.iload 6, 2) := by decide +kernel
theorem dX0_send_103 : decode cX0_send 103 = .ok (.iastore, 1) := by decide +kernel
theorem dX0_send_104 : decode cX0_send 104 = .ok (.aload_n 0, 1) := by decide +kernel
theorem dX0_send_105 : decode cX0_send 105 = .ok (.dup, 1) := by decide +kernel
theorem dX0_send_106 : decode cX0_send 106 = .ok (.getfield 27, 3) := by decide +kernel
theorem dX0_send_109 : decode cX0_send 109 = .ok (.iconst 1, 1) := by decide +kernel
theorem dX0_send_110 : decode cX0_send 110 = .ok (.iadd, 1) := by decide +kernel
theorem dX0_send_111 : decode cX0_send 111 = .ok (.putfield 27, 3) := by decide +kernel
theorem dX0_send_114 : decode cX0_send 114 = .ok (.return_, 1) := by decide +kernel
theorem dX0_repeat_0 : decode cX0_repeat 0 = .ok (.aload_n 0, 1) := by decide +kernel
theorem dX0_repeat_1 : decode cX0_repeat 1 = .ok (.getfield 27, 3) := by decide +kernel
theorem dX0_repeat_4 : decode cX0_repeat 4 = .ok (.sipush 300, 3) := by decide +kernel
theorem dX0_repeat_7 : decode cX0_repeat 7 = .ok (.if_icmp .lt 5, 3) := by decide +kernel
theorem dX0_repeat_10 : decode cX0_repeat 10 = .ok (.iconst 0, 1) := by decide +kernel
theorem dX0_repeat_11 : decode cX0_repeat 11 = .ok (.ireturn, 1) := by decide +kernel
theorem dX0_repeat_12 : decode cX0_repeat 12 = .ok (.aload_n 0, 1) := by decide +kernel
theorem dX0_repeat_13 : decode cX0_repeat 13 = .ok (.iload_n 1, 1) := by decide +kernel
theorem dX0_repeat_14 : decode cX0_repeat 14 = .ok (.aload_n 0, 1) := by decide +kernel
theorem dX0_repeat_15 : decode cX0_repeat 15 = .ok (.getfield 27, 3) := by decide +kernel
theorem dX0_repeat_18 : decode cX0_repeat 18 = .ok (.invokevirtual 33, 3) := by decide +kernel
theorem dX0_repeat_21 : decode cX0_repeat 21 = .ok (.aload_n 0, 1) := by decide +kernel
theorem dX0_repeat_22 : decode cX0_repeat 22 = .ok (.dup, 1) := by decide +kernel
theorem dX0_repeat_23 : decode cX0_repeat 23 = .ok (.getfield 27, 3) := by decide +kernel
theorem dX0_repeat_26 : decode cX0_repeat 26 = .ok (.iconst 1, 1) := by decide +kernel
theorem dX0_repeat_27 : decode cX0_repeat 27 = .ok (.iadd, 1) := by decide +kernel
theorem dX0_repeat_28 : decode cX0_repeat 28 = .ok (.putfield 27, 3) := by decide +kernel
theorem dX0_repeat_31 : decode cX0_repeat 31 = .ok (.iconst 1, 1) := by decide +kernel
theorem dX0_repeat_32 : decode cX0_repeat 32 = .ok (.ireturn, 1) := by decide +kernel
theorem dX0_takeAway_0 : decode cX0_takeAway 0 = .ok (.iload_n 1, 1) := by decide +kernel
theorem dX0_takeAway_1 : decode cX0_takeAway 1 = .ok (.istore_n 2, 1) := by decide +kernel
theorem dX0_takeAway_2 : decode cX0_takeAway 2 = .ok (.iload_n 2, 1) := by decide +kernel
theorem dX0_takeAway_3 : decode cX0_takeAway 3 = .ok (.ifCond .le 17, 3) := by decide +kernel
theorem dX0_takeAway_6 : decode cX0_takeAway 6 = .ok (.aload_n 0, 1) := by decide +kernel
theorem dX0_takeAway_7 : decode cX0_takeAway 7 = .ok (.iload_n 2, 1) := by decide +kernel
theorem dX0_takeAway_8 : decode cX0_takeAway 8 = .ok (.iconst 1, 1) := by decide +kernel
theorem dX0_takeAway_9 : decode cX0_takeAway 9 = .ok (.isub, 1) := by decide +kernel
theorem dX0_takeAway_10 : decode cX0_takeAway 10 = .ok (.iload_n 2, 1) := by decide +kernel
theorem dX0_takeAway_11 : decode cX0_takeAway 11 = .ok (.invokevirtual 33, 3) := by decide +kernel
theorem dX0_takeAway_14 : decode cX0_takeAway 14 = .ok (.iinc 2 (-1), 3) := by decide +kernel
theorem dX0_takeAway_17 : decode cX0_takeAway 17 = .ok (.goto (-15), 3) := by decide +kernel
theorem dX0_takeAway_20 : decode cX0_takeAway 20 = .ok (.aload_n 0, 1) := by decide +kernel
theorem dX0_takeAway_21 : decode cX0_takeAway 21 = .ok (.aload_n 0, 1) := by decide +kernel
theorem dX0_takeAway_22 : decode cX0_takeAway 22 = .ok (.iconst 1, 1) := by decide +kernel
theorem dX0_takeAway_23 : decode cX0_takeAway 23 = .ok (.invokevirtual 20, 3) := by decide +kernel
theorem dX0_takeAway_26 : decode cX0_takeAway 26 = .ok (.putfield 16, 3) := by decide +kernel
theorem dX0_takeAway_29 : decode cX0_takeAway 29 = .ok (.aload_n 0, 1) := by decide +kernel
theorem dX0_takeAway_30 : decode cX0_takeAway 30 = .ok (.dup, 1) := by decide +kernel
theorem dX0_takeAway_31 : decode cX0_takeAway 31 = .ok (.getfield 27, 3) := by decide +kernel
theorem dX0_takeAway_34 : decode cX0_takeAway 34 = .ok (.iconst 1, 1) := by decide +kernel
theorem dX0_takeAway_35 : decode cX0_takeAway 35 = .ok (.isub, 1) := by decide +kernel
theorem dX0_takeAway_36 : decode cX0_takeAway 36 = .ok (.putfield 27, 3) := by decide +kernel
theorem dX0_takeAway_39 : decode cX0_takeAway 39 = .ok (.return_, 1) := by decide +kernel
theorem dX0_loseAllOf_0 : decode cX0_loseAllOf 0 = .ok (.iconst 0, 1) := by decide +kernel
theorem dX0_loseAllOf_1 : decode cX0_loseAllOf 1 = .ok (.istore_n 2, 1) := by decide +kernel
theorem dX0_loseAllOf_2 : decode cX0_loseAllOf 2 = .ok (.iconst 0, 1) := by decide +kernel
theorem dX0_loseAllOf_3 : decode cX0_loseAllOf 3 = .ok (.istore_n 3, 1) := by decide +kernel
theorem dX0_loseAllOf_4 : decode cX0_loseAllOf 4 = .ok (.iload_n 3, 1) := by decide +kernel
theorem dX0_loseAllOf_5 : decode cX0_loseAllOf 5 = .ok (.aload_n 0, 1) := by decide +kernel
theorem dX0_loseAllOf_6 : decode cX0_loseAllOf 6 = .ok (.getfield 27, 3) := by decide +kernel
theorem dX0_loseAllOf_9 : decode cX0_loseAllOf 9 = .ok (.if_icmp .ge 38, 3) := by decide +kernel
theorem dX0_loseAllOf_12 : decode cX0_loseAllOf 12 = .ok (.aload_n 0, 1) := by decide +kernel
theorem dX0_loseAllOf_13 : decode cX0_loseAllOf 13 = .ok (.iload_n 3, 1) := by decide +kernel
theorem dX0_loseAllOf_14 : decode cX0_loseAllOf 14 = .ok (.iconst 1, 1) := by decide +kernel
theorem dX0_loseAllOf_15 : decode cX0_loseAllOf 15 = .ok (.invokevirtual 37, 3) := by decide +kernel
theorem dX0_loseAllOf_18 : decode cX0_loseAllOf 18 = .ok (.iload_n 1, 1) := by decide +kernel
theorem dX0_loseAllOf_19 : decode cX0_loseAllOf 19 = .ok (.if_icmp .eq 22, 3) := by decide +kernel
theorem dX0_loseAllOf_22 : decode cX0_loseAllOf 22 = .ok (.aload_n 0, 1) := by decide +kernel
theorem dX0_loseAllOf_23 : decode cX0_loseAllOf 23 = .ok (.iload_n 3, 1) := by decide +kernel
theorem dX0_loseAllOf_24 : decode cX0_loseAllOf 24 = .ok (.iconst 2, 1) := by decide +kernel
theorem dX0_loseAllOf_25 : decode cX0_loseAllOf 25 = .ok (.invokevirtual 37, 3) := by decide +kernel
theorem dX0_loseAllOf_28 : decode cX0_loseAllOf 28 = .ok (.iload_n 1, 1) := by decide +kernel
theorem dX0_loseAllOf_29 : decode cX0_loseAllOf 29 = .ok (.if_icmp .eq 12, 3) := by decide +kernel
theorem dX0_loseAllOf_32 : decode cX0_loseAllOf 32 = .ok (.aload_n 0, 1) := by decide +kernel
theorem dX0_loseAllOf_33 : decode cX0_loseAllOf 33 = .ok (.iload_n 3, 1) := by decide +kernel
theorem dX0_loseAllOf_34 : decode cX0_loseAllOf 34 = .ok (.iload_n 2, 1) := by decide +kernel
theorem dX0_loseAllOf_35 : decode cX0_loseAllOf 35 = .ok (.invokevirtual 33, 3) := by decide +kernel
theorem dX0_loseAllOf_38 : decode cX0_loseAllOf 38 = .ok (.iinc 2 1, 3) := by decide +kernel
theorem dX0_loseAllOf_41 : decode cX0_loseAllOf 41 = .ok (.iinc 3 1, 3) := by decide +kernel
theorem dX0_loseAllOf_44 : decode cX0_loseAllOf 44 = .ok (.goto (-40), 3) := by decide +kernel
theorem dX0_loseAllOf_47 : decode cX0_loseAllOf 47 = .ok (.aload_n 0, 1) := by decide +kernel
theorem dX0_loseAllOf_48 : decode cX0_loseAllOf 48 = .ok (.getfield 27, 3) := by decide +kernel
theorem dX0_loseAllOf_51 : decode cX0_loseAllOf 51 = .ok (.iload_n 2, 1) := by decide +kernel
theorem dX0_loseAllOf_52 : decode cX0_loseAllOf 52 = .ok (.isub, 1) := by decide +kernel
theorem dX0_loseAllOf_53 : decode cX0_loseAllOf 53 = .ok (.istore_n 3, 1) := by decide +kernel
theorem dX0_loseAllOf_54 : decode cX0_loseAllOf 54 = .ok (.aload_n 0, 1) := by decide +kernel
theorem dX0_loseAllOf_55 : decode cX0_loseAllOf 55 = .ok (.iload_n 2, 1) := by decide +kernel
theorem dX0_loseAllOf_56 : decode cX0_loseAllOf 56 = .ok (.putfield 27, 3) := by decide +kernel
theorem dX0_loseAllOf_59 : decode cX0_loseAllOf 59 = .ok (.aload_n 0, 1) := by decide +kernel
theorem dX0_loseAllOf_60 : decode cX0_loseAllOf 60 = .ok (.dup, 1) := by decide +kernel
theorem dX0_loseAllOf_61 : decode cX0_loseAllOf 61 = .ok (.getfield 41, 3) := by decide +kernel
theorem dX0_loseAllOf_64 : decode cX0_loseAllOf 64 = .ok (.iload_n 3, 1) := by decide +kernel
theorem dX0_loseAllOf_65 : decode cX0_loseAllOf 65 = .ok (.iadd, 1) := by decide +kernel
theorem dX0_loseAllOf_66 : decode cX0_loseAllOf 66 = .ok (.putfield 41, 3) := by decide +kernel
theorem dX0_loseAllOf_69 : decode cX0_loseAllOf 69 = .ok (.iload_n 3, 1) := by decide +kernel
theorem dX0_loseAllOf_70 : decode cX0_loseAllOf 70 = .ok (.ireturn, 1) := by decide +kernel
theorem dX0_put_0 : decode cX0_put 0 = .ok (.aload_n 0, 1) := by decide +kernel
theorem dX0_put_1 : decode cX0_put 1 = .ok (.iload_n 1, 1) := by decide +kernel
theorem dX0_put_2 : decode cX0_put 2 = .ok (.invokevirtual 20, 3) := by decide +kernel
theorem dX0_put_5 : decode cX0_put 5 = .ok (.istore_n 3, 1) := by decide +kernel
theorem dX0_put_6 : decode cX0_put 6 = .ok (.aload_n 0, 1) := by decide +kernel
theorem dX0_put_7 : decode cX0_put 7 = .ok (.iload_n 2, 1) := by decide +kernel
theorem dX0_put_8 : decode cX0_put 8 = .ok (.invokevirtual 20, 3) := by decide +kernel
theorem dX0_put_11 : decode cX0_put 11 = .ok (.istore 4, 2) := by decide +kernel
theorem dX0_put_13 : decode cX0_put 13 = .ok (.iconst 0, 1) := by decide +kernel
theorem dX0_put_14 : decode cX0_put 14 = .ok (.istore 5, 2) := by decide +kernel
theorem dX0_put_16 : decode cX0_put 16 = .ok (.iload 5, 2) := by decide +kernel
theorem dX0_put_18 : decode cX0_put 18 = .ok (.bipush 6, 2) := by decide +kernel
theorem dX0_put_20 : decode cX0_put 20 = .ok (.if_icmp .ge 28, 3) := by decide +kernel
theorem dX0_put_23 : decode cX0_put 23 = .ok (.aload_n 0, 1) := by decide +kernel
theorem dX0_put_24 : decode cX0_put 24 = .ok (.getfield 11, 3) := by decide +kernel
theorem dX0_put_27 : decode cX0_put 27 = .ok (.iload 5, 2) := by decide +kernel
theorem dX0_put_29 : decode cX0_put 29 = .ok (.aaload, 1) := by decide +kernel
theorem dX0_put_30 : decode cX0_put 30 = .ok (.iload 4, 2) := by decide +kernel
theorem dX0_put_32 : decode cX0_put 32 = .ok (.aload_n 0, 1) := by decide +kernel
theorem dX0_put_33 : decode cX0_put 33 = .ok (.getfield 11, 3) := by decide +kernel
theorem dX0_put_36 : decode cX0_put 36 = .ok (.iload 5, 2) := by decide +kernel
theorem dX0_put_38 : decode cX0_put 38 = .ok (.aaload, 1) := by decide +kernel
theorem dX0_put_39 : decode cX0_put 39 = .ok (.iload_n 3, 1) := by decide +kernel
theorem dX0_put_40 : decode cX0_put 40 = .ok (.iaload, 1) := by decide +kernel
theorem dX0_put_41 : decode cX0_put 41 = .ok (.iastore, 1) := by decide +kernel
theorem dX0_put_42 : decode cX0_put 42 = .ok (.iinc 5 1, 3) := by decide +kernel
theorem dX0_put_45 : decode cX0_put 45 = .ok (.goto (-29), 3) := by decide +kernel
theorem dX0_put_48 : decode cX0_put 48 = .ok (.return_, 1) := by decide +kernel
theorem dX1_init_0 : decode cX1_init 0 = .ok (.aload_n 0, 1) := by decide +kernel
theorem dX1_init_1 : decode cX1_init 1 = .ok (.invokespecial 3, 3) := by decide +kernel
theorem dX1_init_4 : decode cX1_init 4 = .ok (.aload_n 0, 1) := by decide +kernel
theorem dX1_init_5 : decode cX1_init 5 = .ok (.bipush 12, 2) := by decide +kernel
theorem dX1_init_7 : decode cX1_init 7 = .ok (.newarray .int, 2) := by decide +kernel
theorem dX1_init_9 : decode cX1_init 9 = .ok (.putfield 9, 3) := by decide +kernel
theorem dX1_init_12 : decode cX1_init 12 = .ok (.aload_n 0, 1) := by decide +kernel
theorem dX1_init_13 : decode cX1_init 13 = .ok (.bipush 12, 2) := by decide +kernel
theorem dX1_init_15 : decode cX1_init 15 = .ok (.newarray .int, 2) := by decide +kernel
theorem dX1_init_17 : decode cX1_init 17 = .ok (.putfield 15, 3) := by decide +kernel
theorem dX1_init_20 : decode cX1_init 20 = .ok (.aload_n 0, 1) := by decide +kernel
theorem dX1_init_21 : decode cX1_init 21 = .ok (.bipush 12, 2) := by decide +kernel
theorem dX1_init_23 : decode cX1_init 23 = .ok (.newarray .int, 2) := by decide +kernel
theorem dX1_init_25 : decode cX1_init 25 = .ok (.putfield 18, 3) := by decide +kernel
theorem dX1_init_28 : decode cX1_init 28 = .ok (.aload_n 0, 1) := by decide +kernel
theorem dX1_init_29 : decode cX1_init 29 = .ok (.bipush 12, 2) := by decide +kernel
theorem dX1_init_31 : decode cX1_init 31 = .ok (.newarray .int, 2) := by decide +kernel
theorem dX1_init_33 : decode cX1_init 33 = .ok (.putfield 21, 3) := by decide +kernel
theorem dX1_init_36 : decode cX1_init 36 = .ok (.aload_n 0, 1) := by decide +kernel
theorem dX1_init_37 : decode cX1_init 37 = .ok (.bipush 12, 2) := by decide +kernel
theorem dX1_init_39 : decode cX1_init 39 = .ok (.newarray .int, 2) := by decide +kernel
theorem dX1_init_41 : decode cX1_init 41 = .ok (.putfield 24, 3) := by decide +kernel
theorem dX1_init_44 : decode cX1_init 44 = .ok (.aload_n 0, 1) := by decide +kernel
theorem dX1_init_45 : decode cX1_init 45 = .ok (.bipush 12, 2) := by decide +kernel
theorem dX1_init_47 : decode cX1_init 47 = .ok (.newarray .int, 2) := by decide +kernel
theorem dX1_init_49 : decode cX1_init 49 = .ok (.putfield 27, 3) := by decide +kernel
theorem dX1_init_52 : decode cX1_init 52 = .ok (.aload_n 0, 1) := by decide +kernel
theorem dX1_init_53 : decode cX1_init 53 = .ok (.bipush 12, 2) := by decide +kernel
theorem dX1_init_55 : decode cX1_init 55 = .ok (.newarray .int, 2) := by decide +kernel
theorem dX1_init_57 : decode cX1_init 57 = .ok (.putfield 30, 3) := by decide +kernel
theorem dX1_init_60 : decode cX1_init 60 = .ok (.aload_n 0, 1) := by decide +kernel
theorem dX1_init_61 : decode cX1_init 61 = .ok (.bipush 12, 2) := by decide +kernel
theorem dX1_init_63 : decode cX1_init 63 = .ok (.bipush 12, 2) := by decide +kernel
theorem dX1_init_65 : decode cX1_init 65 = .ok (.multianewarray 33 2, 4) := by decide +kernel
theorem dX1_init_69 : decode cX1_init 69 = .ok (.putfield 35, 3) := by decide +kernel
theorem dX1_init_72 : decode cX1_init 72 = .ok (.aload_n 0, 1) := by decide +kernel
theorem dX1_init_73 : decode cX1_init 73 = .ok (.bipush 12, 2) := by decide +kernel
theorem dX1_init_75 : decode cX1_init 75 = .ok (.bipush 12, 2) := by decide +kernel
theorem dX1_init_77 : decode cX1_init 77 = .ok (.multianewarray 33 2, 4) := by decide +kernel
theorem dX1_init_81 : decode cX1_init 81 = .ok (.putfield 38, 3) := by decide +kernel
theorem dX1_init_84 : decode cX1_init 84 = .ok (.aload_n 0, 1) := by decide +kernel
theorem dX1_init_85 : decode cX1_init 85 = .ok (.iload_n 1, 1) := by decide +kernel
theorem dX1_init_86 : decode cX1_init 86 = .ok (.putfield 41, 3) := by decide +kernel
theorem dX1_init_89 : decode cX1_init 89 = .ok (.aload_n 0, 1) := by decide +kernel
theorem dX1_init_90 : decode cX1_init 90 = .ok (.getfield 15, 3) := by decide +kernel
theorem dX1_init_93 : decode cX1_init 93 = .ok (.iconst (-1), 1) := by decide +kernel
theorem dX1_init_94 : decode cX1_init 94 = .ok (.invokestatic 45, 3) := by decide +kernel
theorem dX1_init_97 : decode cX1_init 97 = .ok (.aload_n 0, 1) := by decide +kernel
theorem dX1_init_98 : decode cX1_init 98 = .ok (.getfield 18, 3) := by decide +kernel
theorem dX1_init_101 : decode cX1_init 101 = .ok (.iconst (-1), 1) := by decide +kernel
theorem dX1_init_102 : decode cX1_init 102 = .ok (.invokestatic 45, 3) := by decide +kernel
theorem dX1_init_105 : decode cX1_init 105 = .ok (.aload_n 0, 1) := by decide +kernel
theorem dX1_init_106 : decode cX1_init 106 = .ok (.getfield 21, 3) := by decide +kernel
theorem dX1_init_109 : decode cX1_init 109 = .ok (.iconst (-1), 1) := by decide +kernel
theorem dX1_init_110 : decode cX1_init 110 = .ok (.invokestatic 45, 3) := by decide +kernel
theorem dX1_init_113 : decode cX1_init 113 = .ok (.aload_n 0, 1) := by decide +kernel
theorem dX1_init_114 : decode cX1_init 114 = .ok (.getfield 24, 3) := by decide +kernel
theorem dX1_init_117 : decode cX1_init 117 = .ok (.iconst (-1), 1) := by decide +kernel
theorem dX1_init_118 : decode cX1_init 118 = .ok (.invokestatic 45, 3) := by decide +kernel
theorem dX1_init_121 : decode cX1_init 121 = .ok (.aload_n 0, 1) := by decide +kernel
theorem dX1_init_122 : decode cX1_init 122 = .ok (.getfield 27, 3) := by decide +kernel
theorem dX1_init_125 : decode cX1_init 125 = .ok (.iconst (-1), 1) := by decide +kernel
theorem dX1_init_126 : decode cX1_init 126 = .ok (.invokestatic 45, 3) := by decide +kernel
theorem dX1_init_129 : decode cX1_init 129 = .ok (.aload_n 0, 1) := by decide +kernel
theorem dX1_init_130 : decode cX1_init 130 = .ok (.getfield 30, 3) := by decide +kernel
theorem dX1_init_133 : decode cX1_init 133 = .ok (.iconst (-1), 1) := by decide +kernel
theorem dX1_init_134 : decode cX1_init 134 = .ok (.invokestatic 45, 3) := by decide +kernel
theorem dX1_init_137 : decode cX1_init 137 = .ok (.iconst 0, 1) := by decide +kernel
theorem dX1_init_138 : decode cX1_init 138 = .ok (.istore_n 2, 1) := by decide +kernel
theorem dX1_init_139 : decode cX1_init 139 = .ok (.iload_n 2, 1) := by decide +kernel
theorem dX1_init_140 : decode cX1_init 140 = .ok (.bipush 12, 2) := by decide +kernel
theorem dX1_init_142 : decode cX1_init 142 = .ok (.if_icmp .ge 29, 3) := by decide +kernel
theorem dX1_init_145 : decode cX1_init 145 = .ok (.aload_n 0, 1) := by decide +kernel
theorem dX1_init_146 : decode cX1_init 146 = .ok (.getfield 35, 3) := by decide +kernel
theorem dX1_init_149 : decode cX1_init 149 = .ok (.iload_n 2, 1) := by decide +kernel
theorem dX1_init_150 : decode cX1_init 150 = .ok (.aaload, 1) := by decide +kernel
theorem dX1_init_151 : decode cX1_init 151 = .ok (.iconst (-1), 1) := by decide +kernel
theorem dX1_init_152 : decode cX1_init 152 = .ok (.invokestatic 45, 3) := by decide +kernel
theorem dX1_init_155 : decode cX1_init 155 = .ok (.aload_n 0, 1) := by decide +kernel
theorem dX1_init_156 : decode cX1_init 156 = .ok (.getfield 38, 3) := by decide +kernel
theorem dX1_init_159 : decode cX1_init 159 = .ok (.iload_n 2, 1) := by decide +kernel
theorem dX1_init_160 : decode cX1_init 160 = .ok (.aaload, 1) := by decide +kernel
theorem dX1_init_161 : decode cX1_init 161 = .ok (.iconst (-1), 1) := by decide +kernel
theorem dX1_init_162 : decode cX1_init 162 = .ok (.invokestatic 45, 3) := by decide +kernel
theorem dX1_init_165 : decode cX1_init 165 = .ok (.iinc 2 1, 3) := by decide +kernel
theorem dX1_init_168 : decode cX1_init 168 = .ok (.goto (-29), 3) := by decide +kernel
theorem dX1_init_171 : decode cX1_init 171 = .ok (.aload_n 0, 1) := by decide +kernel
theorem dX1_init_172 : decode cX1_init 172 = .ok (.getfield 21, 3) := by decide +kernel
theorem dX1_init_175 : decode cX1_init 175 = .ok (.iload_n 1, 1) := by decide +kernel
theorem dX1_init_176 : decode cX1_init 176 = .ok (.iload_n 1, 1) := by decide +kernel
theorem dX1_init_177 : decode cX1_init 177 = .ok (.iastore, 1) := by decide +kernel
theorem dX1_init_178 : decode cX1_init 178 = .ok (.aload_n 0, 1) := by decide +kernel
theorem dX1_init_179 : decode cX1_init 179 = .ok (.getfield 24, 3) := by decide +kernel
theorem dX1_init_182 : decode cX1_init 182 = .ok (.iload_n 1, 1) := by decide +kernel
theorem dX1_init_183 : decode cX1_init 183 = .ok (.iconst 0, 1) := by decide +kernel
theorem dX1_init_184 : decode cX1_init 184 = .ok (.iastore, 1) := by decide +kernel
theorem dX1_init_185 : decode cX1_init 185 = .ok (.aload_n 0, 1) := by decide +kernel
theorem dX1_init_186 : decode cX1_init 186 = .ok (.getfield 27, 3) := by decide +kernel
theorem dX1_init_189 : decode cX1_init 189 = .ok (.iload_n 1, 1) := by decide +kernel
theorem dX1_init_190 : decode cX1_init 190 = .ok (.iconst 0, 1) := by decide +kernel
theorem dX1_init_191 : decode cX1_init 191 = .ok (.iastore, 1) := by decide +kernel
theorem dX1_init_192 : decode cX1_init 192 = .ok (.return_, 1) := by decide +kernel
theorem dX1_hasWay_0 : decode cX1_hasWay 0 = .ok (.aload_n 0, 1) := by decide +kernel
theorem dX1_hasWay_1 : decode cX1_hasWay 1 = .ok (.getfield 21, 3) := by decide +kernel
theorem dX1_hasWay_4 : decode cX1_hasWay 4 = .ok (.iload_n 1, 1) := by decide +kernel
theorem dX1_hasWay_5 : decode cX1_hasWay 5 = .ok (.iaload, 1) := by decide +kernel
theorem dX1_hasWay_6 : decode cX1_hasWay 6 = .ok (.iconst (-1), 1) := by decide +kernel
theorem dX1_hasWay_7 : decode cX1_hasWay 7 = .ok (.if_icmp .eq 7, 3) := by decide +kernel
theorem dX1_hasWay_10 : decode cX1_hasWay 10 = .ok (.iconst 1, 1) := by decide +kernel
theorem dX1_hasWay_11 : decode cX1_hasWay 11 = .ok (.goto 4, 3) := by decide +kernel
theorem dX1_hasWay_14 : decode cX1_hasWay 14 = .ok (.iconst 0, 1) := by decide +kernel
theorem dX1_hasWay_15 : decode cX1_hasWay 15 = .ok (.ireturn, 1) := by decide +kernel
theorem dX1_hasBound_0 : decode cX1_hasBound 0 = .ok (.aload_n 0, 1) := by decide +kernel
theorem dX1_hasBound_1 : decode cX1_hasBound 1 = .ok (.getfield 15, 3) := by decide +kernel
theorem dX1_hasBound_4 : decode cX1_hasBound 4 = .ok (.iload_n 1, 1) := by decide +kernel
theorem dX1_hasBound_5 : decode cX1_hasBound 5 = .ok (.iaload, 1) := by decide +kernel
theorem dX1_hasBound_6 : decode cX1_hasBound 6 = .ok (.iconst (-1), 1) := by decide +kernel
theorem dX1_hasBound_7 : decode cX1_hasBound 7 = .ok (.if_icmp .eq 7, 3) := by decide +kernel
theorem dX1_hasBound_10 : decode cX1_hasBound 10 = .ok (.iconst 1, 1) := by decide +kernel
theorem dX1_hasBound_11 : decode cX1_hasBound 11 = .ok (.goto 4, 3) := by decide +kernel
theorem dX1_hasBound_14 : decode cX1_hasBound 14 = .ok (.iconst 0, 1) := by decide +kernel
theorem dX1_hasBound_15 : decode cX1_hasBound 15 = .ok (.ireturn, 1) := by decide +kernel
theorem dX1_isGood_0 : decode cX1_isGood 0 = .ok (.iload_n 3, 1) := by decide +kernel
theorem dX1_isGood_1 : decode cX1_isGood 1 = .ok (.ldc 51, 2) := by decide +kernel
theorem dX1_isGood_3 : decode cX1_isGood 3 = .ok (.if_icmp .ne 5, 3) := by decide +kernel
theorem dX1_isGood_6 : decode cX1_isGood 6 = .ok (.iconst 0, 1) := by decide +kernel
theorem dX1_isGood_7 : decode cX1_isGood 7 = .ok (.ireturn, 1) := by decide +kernel
theorem dX1_isGood_8 : decode cX1_isGood 8 = .ok (.aload_n 0, 1) := by decide +kernel
theorem dX1_isGood_9 : decode cX1_isGood 9 = .ok (.getfield 15, 3) := by decide +kernel
theorem dX1_isGood_12 : decode cX1_isGood 12 = .ok (.iload_n 1, 1) := by decide +kernel
theorem dX1_isGood_13 : decode cX1_isGood 13 = .ok (.iaload, 1) := by decide +kernel
theorem dX1_isGood_14 : decode cX1_isGood 14 = .ok (.iconst (-1), 1) := by decide +kernel
theorem dX1_isGood_15 : decode cX1_isGood 15 = .ok (.if_icmp .eq 36, 3) := by decide +kernel
theorem dX1_isGood_18 : decode cX1_isGood 18 = .ok (.iload_n 2, 1) := by decide +kernel
theorem dX1_isGood_19 : decode cX1_isGood 19 = .ok (.aload_n 0, 1) := by decide +kernel
theorem dX1_isGood_20 : decode cX1_isGood 20 = .ok (.getfield 15, 3) := by decide +kernel
theorem dX1_isGood_23 : decode cX1_isGood 23 = .ok (.iload_n 1, 1) := by decide +kernel
theorem dX1_isGood_24 : decode cX1_isGood 24 = .ok (.iaload, 1) := by decide +kernel
theorem dX1_isGood_25 : decode cX1_isGood 25 = .ok (.invokestatic 52, 3) := by decide +kernel
theorem dX1_isGood_28 : decode cX1_isGood 28 = .ok (.ifCond .ne 23, 3) := by decide +kernel
theorem dX1_isGood_31 : decode cX1_isGood 31 = .ok (.iload_n 2, 1) := by decide +kernel
theorem dX1_isGood_32 : decode cX1_isGood 32 = .ok (.aload_n 0, 1) := by decide +kernel
theorem dX1_isGood_33 : decode cX1_isGood 33 = .ok (.getfield 15, 3) := by decide +kernel
theorem dX1_isGood_36 : decode cX1_isGood 36 = .ok (.iload_n 1, 1) := by decide +kernel
theorem dX1_isGood_37 : decode cX1_isGood 37 = .ok (.iaload, 1) := by decide +kernel
theorem dX1_isGood_38 : decode cX1_isGood 38 = .ok (.if_icmp .ne 17, 3) := by decide +kernel
theorem dX1_isGood_41 : decode cX1_isGood 41 = .ok (.iload_n 3, 1) := by decide +kernel
theorem dX1_isGood_42 : decode cX1_isGood 42 = .ok (.aload_n 0, 1) := by decide +kernel
theorem dX1_isGood_43 : decode cX1_isGood 43 = .ok (.getfield 18, 3) := by decide +kernel
theorem dX1_isGood_46 : decode cX1_isGood 46 = .ok (.iload_n 1, 1) := by decide +kernel
theorem dX1_isGood_47 : decode cX1_isGood 47 = .ok (.iaload, 1) := by decide +kernel
theorem dX1_isGood_48 : decode cX1_isGood 48 = .ok (.if_icmp .ge 7, 3) := by decide +kernel
theorem dX1_isGood_51 : decode cX1_isGood 51 = .ok (.iconst 1, 1) := by decide +kernel
theorem dX1_isGood_52 : decode cX1_isGood 52 = .ok (.goto 4, 3) := by decide +kernel
theorem dX1_isGood_55 : decode cX1_isGood 55 = .ok (.iconst 0, 1) := by decide +kernel
theorem dX1_isGood_56 : decode cX1_isGood 56 = .ok (.ireturn, 1) := by decide +kernel
theorem dX1_hasPassedOn_0 : decode cX1_hasPassedOn 0 = .ok (.aload_n 0, 1) := by decide +kernel
theorem dX1_hasPassedOn_1 : decode cX1_hasPassedOn 1 = .ok (.getfield 30, 3) := by decide +kernel
theorem dX1_hasPassedOn_4 : decode cX1_hasPassedOn 4 = .ok (.iload_n 1, 1) := by decide +kernel
theorem dX1_hasPassedOn_5 : decode cX1_hasPassedOn 5 = .ok (.iaload, 1) := by decide +kernel
theorem dX1_hasPassedOn_6 : decode cX1_hasPassedOn 6 = .ok (.istore_n 3, 1) := by decide +kernel
theorem dX1_hasPassedOn_7 : decode cX1_hasPassedOn 7 = .ok (.iload_n 3, 1) := by decide +kernel
theorem dX1_hasPassedOn_8 : decode cX1_hasPassedOn 8 = .ok (.iconst (-1), 1) := by decide +kernel
theorem dX1_hasPassedOn_9 : decode cX1_hasPassedOn 9 = .ok (.if_icmp .eq 20, 3) := by decide +kernel
theorem dX1_hasPassedOn_12 : decode cX1_hasPassedOn 12 = .ok (.iload_n 3, 1) := by decide +kernel
theorem dX1_hasPassedOn_13 : decode cX1_hasPassedOn 13 = .ok (.iload_n 2, 1) := by decide +kernel
theorem dX1_hasPassedOn_14 : decode cX1_hasPassedOn 14 = .ok (.if_icmp .eq 11, 3) := by decide +kernel
theorem dX1_hasPassedOn_17 : decode cX1_hasPassedOn 17 = .ok (.iload_n 3, 1) := by decide +kernel
theorem dX1_hasPassedOn_18 : decode cX1_hasPassedOn 18 = .ok (.iload_n 2, 1) := by decide +kernel
theorem dX1_hasPassedOn_19 : decode cX1_hasPassedOn 19 = .ok (.invokestatic 52, 3) := by decide +kernel
theorem dX1_hasPassedOn_22 : decode cX1_hasPassedOn 22 = .ok (.ifCond .eq 7, 3) := by decide +kernel
theorem dX1_hasPassedOn_25 : decode cX1_hasPassedOn 25 = .ok (.iconst 1, 1) := by decide +kernel
theorem dX1_hasPassedOn_26 : decode cX1_hasPassedOn 26 = .ok (.goto 4, 3) := by decide +kernel
theorem dX1_hasPassedOn_29 : decode cX1_hasPassedOn 29 = .ok (.iconst 0, 1) := by decide +kernel
theorem dX1_hasPassedOn_30 : decode cX1_hasPassedOn 30 = .ok (.ireturn, 1) := by decide +kernel
theorem dX1_raiseOwnNumber_0 : decode cX1_raiseOwnNumber 0 = .ok (.aload_n 0, 1) := by decide +kernel
theorem dX1_raiseOwnNumber_1 : decode cX1_raiseOwnNumber 1 = .ok (.getfield 24, 3) := by decide +kernel
theorem dX1_raiseOwnNumber_4 : decode cX1_raiseOwnNumber 4 = .ok (.aload_n 0, 1) := by decide +kernel
theorem dX1_raiseOwnNumber_5 : decode cX1_raiseOwnNumber 5 = .ok (.getfield 41, 3) := by decide +kernel
theorem dX1_raiseOwnNumber_8 : decode cX1_raiseOwnNumber 8 = .ok (.aload_n 0, 1) := by decide +kernel
theorem dX1_raiseOwnNumber_9 : decode cX1_raiseOwnNumber 9 = .ok (.getfield 24, 3) := by decide +kernel
theorem dX1_raiseOwnNumber_12 : decode cX1_raiseOwnNumber 12 = .ok (.aload_n 0, 1) := by decide +kernel
theorem dX1_raiseOwnNumber_13 : decode cX1_raiseOwnNumber 13 = .ok (.getfield 41, 3) := by decide +kernel
theorem dX1_raiseOwnNumber_16 : decode cX1_raiseOwnNumber 16 = .ok (.iaload, 1) := by decide +kernel
theorem dX1_raiseOwnNumber_17 : decode cX1_raiseOwnNumber 17 = .ok (.invokestatic 56, 3) := by decide +kernel
theorem dX1_raiseOwnNumber_20 : decode cX1_raiseOwnNumber 20 = .ok (.iastore, 1) := by decide +kernel
theorem dX1_raiseOwnNumber_21 : decode cX1_raiseOwnNumber 21 = .ok (.aload_n 0, 1) := by decide +kernel
theorem dX1_raiseOwnNumber_22 : decode cX1_raiseOwnNumber 22 = .ok (.getfield 24, 3) := by decide +kernel
theorem dX1_raiseOwnNumber_25 : decode cX1_raiseOwnNumber 25 = .ok (.aload_n 0, 1) := by decide +kernel
theorem dX1_raiseOwnNumber_26 : decode cX1_raiseOwnNumber 26 = .ok (.getfield 41, 3) := by decide +kernel
theorem dX1_raiseOwnNumber_29 : decode cX1_raiseOwnNumber 29 = .ok (.iaload, 1) := by decide +kernel
theorem dX1_raiseOwnNumber_30 : decode cX1_raiseOwnNumber 30 = .ok (.ireturn, 1) := by decide +kernel
theorem dX1_countLinks_0 : decode cX1_countLinks 0 = .ok (.iconst 0, 1) := by decide +kernel
theorem dX1_countLinks_1 : decode cX1_countLinks 1 = .ok (.istore_n 1, 1) := by decide +kernel
theorem dX1_countLinks_2 : decode cX1_countLinks 2 = .ok (.iconst 0, 1) := by decide +kernel
theorem dX1_countLinks_3 : decode cX1_countLinks 3 = .ok (.istore_n 2, 1) := by decide +kernel
theorem dX1_countLinks_4 : decode cX1_countLinks 4 = .ok (.iload_n 2, 1) := by decide +kernel
theorem dX1_countLinks_5 : decode cX1_countLinks 5 = .ok (.bipush 12, 2) := by decide +kernel
theorem dX1_countLinks_7 : decode cX1_countLinks 7 = .ok (.if_icmp .ge 21, 3) := by decide +kernel
theorem dX1_countLinks_10 : decode cX1_countLinks 10 = .ok (.aload_n 0, 1) := by decide +kernel
theorem dX1_countLinks_11 : decode cX1_countLinks 11 = .ok (.getfield 9, 3) := by decide +kernel
theorem dX1_countLinks_14 : decode cX1_countLinks 14 = .ok (.iload_n 2, 1) := by decide +kernel
theorem dX1_countLinks_15 : decode cX1_countLinks 15 = .ok (.iaload, 1) := by decide +kernel
theorem dX1_countLinks_16 : decode cX1_countLinks 16 = .ok (.ifCond .eq 6, 3) := by decide +kernel
theorem dX1_countLinks_19 : decode cX1_countLinks 19 = .ok (.iinc 1 1, 3) := by decide +kernel
theorem dX1_countLinks_22 : decode cX1_countLinks 22 = .ok (.iinc 2 1, 3) := by decide +kernel
theorem dX1_countLinks_25 : decode cX1_countLinks 25 = .ok (.goto (-21), 3) := by decide +kernel
theorem dX1_countLinks_28 : decode cX1_countLinks 28 = .ok (.iload_n 1, 1) := by decide +kernel
theorem dX1_countLinks_29 : decode cX1_countLinks 29 = .ok (.ireturn, 1) := by decide +kernel
theorem dX1_forgetNeighbour_0 : decode cX1_forgetNeighbour 0 = .ok (.aload_n 0, 1) := by decide +kernel
theorem dX1_forgetNeighbour_1 : decode cX1_forgetNeighbour 1 = .ok (.getfield 35, 3) := by decide +kernel
theorem dX1_forgetNeighbour_4 : decode cX1_forgetNeighbour 4 = .ok (.iload_n 1, 1) := by decide +kernel
theorem dX1_forgetNeighbour_5 : decode cX1_forgetNeighbour 5 = .ok (.aaload, 1) := by decide +kernel
theorem dX1_forgetNeighbour_6 : decode cX1_forgetNeighbour 6 = .ok (.iconst (-1), 1) := by decide +kernel
theorem dX1_forgetNeighbour_7 : decode cX1_forgetNeighbour 7 = .ok (.invokestatic 45, 3) := by decide +kernel
theorem dX1_forgetNeighbour_10 : decode cX1_forgetNeighbour 10 = .ok (.aload_n 0, 1) := by decide +kernel
theorem dX1_forgetNeighbour_11 : decode cX1_forgetNeighbour 11 = .ok (.getfield 38, 3) := by decide +kernel
theorem dX1_forgetNeighbour_14 : decode cX1_forgetNeighbour 14 = .ok (.iload_n 1, 1) := by decide +kernel
theorem dX1_forgetNeighbour_15 : decode cX1_forgetNeighbour 15 = .ok (.aaload, 1) := by decide +kernel
theorem dX1_forgetNeighbour_16 : decode cX1_forgetNeighbour 16 = .ok (.iconst (-1), 1) := by decide +kernel
theorem dX1_forgetNeighbour_17 : decode cX1_forgetNeighbour 17 = .ok (.invokestatic 45, 3) := by decide +kernel
theorem dX1_forgetNeighbour_20 : decode cX1_forgetNeighbour 20 = .ok (.return_, 1) := by decide +kernel
theorem dX1_forgetBounds_0 : decode cX1_forgetBounds 0 = .ok (.aload_n 0, 1) := by decide +kernel
theorem dX1_forgetBounds_1 : decode cX1_forgetBounds 1 = .ok (.getfield 15, 3) := by decide +kernel
theorem dX1_forgetBounds_4 : decode cX1_forgetBounds 4 = .ok (.iconst (-1), 1) := by decide +kernel
theorem dX1_forgetBounds_5 : decode cX1_forgetBounds 5 = .ok (.invokestatic 45, 3) := by decide +kernel
theorem dX1_forgetBounds_8 : decode cX1_forgetBounds 8 = .ok (.aload_n 0, 1) := by decide +kernel
theorem dX1_forgetBounds_9 : decode cX1_forgetBounds 9 = .ok (.getfield 18, 3) := by decide +kernel
theorem dX1_forgetBounds_12 : decode cX1_forgetBounds 12 = .ok (.iconst (-1), 1) := by decide +kernel
theorem dX1_forgetBounds_13 : decode cX1_forgetBounds 13 = .ok (.invokestatic 45, 3) := by decide +kernel
theorem dX1_forgetBounds_16 : decode cX1_forgetBounds 16 = .ok (.aload_n 0, 1) := by decide +kernel
theorem dX1_forgetBounds_17 : decode cX1_forgetBounds 17 = .ok (.getfield 30, 3) := by decide +kernel
theorem dX1_forgetBounds_20 : decode cX1_forgetBounds 20 = .ok (.iconst (-1), 1) := by decide +kernel
theorem dX1_forgetBounds_21 : decode cX1_forgetBounds 21 = .ok (.invokestatic 45, 3) := by decide +kernel
theorem dX1_forgetBounds_24 : decode cX1_forgetBounds 24 = .ok (.return_, 1) := by decide +kernel
theorem dX1_takeBestWay_0 : decode cX1_takeBestWay 0 = .ok (.aload_n 0, 1) := by decide +kernel
theorem dX1_takeBestWay_1 : decode cX1_takeBestWay 1 = .ok (.iload_n 1, 1) := by decide +kernel
theorem dX1_takeBestWay_2 : decode cX1_takeBestWay 2 = .ok (.invokevirtual 60, 3) := by decide +kernel
theorem dX1_takeBestWay_5 : decode cX1_takeBestWay 5 = .ok (.istore_n 2, 1) := by decide +kernel
theorem dX1_takeBestWay_6 : decode cX1_takeBestWay 6 = .ok (.iload_n 2, 1) := by decide +kernel
theorem dX1_takeBestWay_7 : decode cX1_takeBestWay 7 = .ok (.iconst (-1), 1) := by decide +kernel
theorem dX1_takeBestWay_8 : decode cX1_takeBestWay 8 = .ok (.if_icmp .ne 7, 3) := by decide +kernel
theorem dX1_takeBestWay_11 : decode cX1_takeBestWay 11 = .ok (.iconst (-1), 1) := by decide +kernel
theorem dX1_takeBestWay_12 : decode cX1_takeBestWay 12 = .ok (.goto 11, 3) := by decide +kernel
theorem dX1_takeBestWay_15 : decode cX1_takeBestWay 15 = .ok (.aload_n 0, 1) := by decide +kernel
theorem dX1_takeBestWay_16 : decode cX1_takeBestWay 16 = .ok (.getfield 35, 3) := by decide +kernel
theorem dX1_takeBestWay_19 : decode cX1_takeBestWay 19 = .ok (.iload_n 2, 1) := by decide +kernel
theorem dX1_takeBestWay_20 : decode cX1_takeBestWay 20 = .ok (.aaload, 1) := by decide +kernel
theorem dX1_takeBestWay_21 : decode cX1_takeBestWay 21 = .ok (.iload_n 1, 1) := by decide +kernel
theorem dX1_takeBestWay_22 : decode cX1_takeBestWay 22 = .ok (.iaload, 1) := by decide +kernel
theorem dX1_takeBestWay_23 : decode cX1_takeBestWay 23 = .ok (.istore_n 3, 1) := by decide +kernel
theorem dX1_takeBestWay_24 : decode cX1_takeBestWay 24 = .ok (.iload_n 2, 1) := by decide +kernel
theorem dX1_takeBestWay_25 : decode cX1_takeBestWay 25 = .ok (.iconst (-1), 1) := by decide +kernel
theorem dX1_takeBestWay_26 : decode cX1_takeBestWay 26 = .ok (.if_icmp .ne 7, 3) := by decide +kernel
theorem dX1_takeBestWay_29 : decode cX1_takeBestWay 29 = .ok (.iconst (-1), 1) := by decide +kernel
theorem dX1_takeBestWay_30 : decode cX1_takeBestWay 30 = .ok (.goto 18, 3) := by decide +kernel
theorem dX1_takeBestWay_33 : decode cX1_takeBestWay 33 = .ok (.aload_n 0, 1) := by decide +kernel
theorem dX1_takeBestWay_34 : decode cX1_takeBestWay 34 = .ok (.getfield 38, 3) := by decide +kernel
theorem dX1_takeBestWay_37 : decode cX1_takeBestWay 37 = .ok (.iload_n 2, 1) := by decide +kernel
theorem dX1_takeBestWay_38 : decode cX1_takeBestWay 38 = .ok (.aaload, 1) := by decide +kernel
theorem dX1_takeBestWay_39 : decode cX1_takeBestWay 39 = .ok (.iload_n 1, 1) := by decide +kernel
theorem dX1_takeBestWay_40 : decode cX1_takeBestWay 40 = .ok (.iaload, 1) := by decide +kernel
theorem dX1_takeBestWay_41 : decode cX1_takeBestWay 41 = .ok (.aload_n 0, 1) := by decide +kernel
theorem dX1_takeBestWay_42 : decode cX1_takeBestWay 42 = .ok (.getfield 9, 3) := by decide +kernel
theorem dX1_takeBestWay_45 : decode cX1_takeBestWay 45 = .ok (.iload_n 2, 1) := by decide +kernel
theorem dX1_takeBestWay_46 : decode cX1_takeBestWay 46 = .ok (.iaload, 1) := by decide +kernel
theorem dX1_takeBestWay_47 : decode cX1_takeBestWay 47 = .ok (.iadd, 1) := by decide +kernel
theorem dX1_takeBestWay_48 : decode cX1_takeBestWay 48 = .ok (.istore 4, 2) := by decide +kernel
theorem dX1_takeBestWay_50 : decode cX1_takeBestWay 50 = .ok (.iload_n 2, 1) := by decide +kernel
theorem dX1_takeBestWay_51 : decode cX1_takeBestWay 51 = .ok (.aload_n 0, 1) := by decide +kernel
theorem dX1_takeBestWay_52 : decode cX1_takeBestWay 52 = .ok (.getfield 21, 3) := by decide +kernel
theorem dX1_takeBestWay_55 : decode cX1_takeBestWay 55 = .ok (.iload_n 1, 1) := by decide +kernel
theorem dX1_takeBestWay_56 : decode cX1_takeBestWay 56 = .ok (.iaload, 1) := by decide +kernel
theorem dX1_takeBestWay_57 : decode cX1_takeBestWay 57 = .ok (.if_icmp .ne 24, 3) := by decide +kernel
theorem dX1_takeBestWay_60 : decode cX1_takeBestWay 60 = .ok (.iload_n 3, 1) := by decide +kernel
theorem dX1_takeBestWay_61 : decode cX1_takeBestWay 61 = .ok (.aload_n 0, 1) := by decide +kernel
theorem dX1_takeBestWay_62 : decode cX1_takeBestWay 62 = .ok (.getfield 24, 3) := by decide +kernel
theorem dX1_takeBestWay_65 : decode cX1_takeBestWay 65 = .ok (.iload_n 1, 1) := by decide +kernel
theorem dX1_takeBestWay_66 : decode cX1_takeBestWay 66 = .ok (.iaload, 1) := by decide +kernel
theorem dX1_takeBestWay_67 : decode cX1_takeBestWay 67 = .ok (.if_icmp .ne 14, 3) := by decide +kernel
theorem dX1_takeBestWay_70 : decode cX1_takeBestWay 70 = .ok (.iload 4, 2) := by decide +kernel
theorem dX1_takeBestWay_72 : decode cX1_takeBestWay 72 = .ok (.aload_n 0, 1) := by decide +kernel
theorem dX1_takeBestWay_73 : decode cX1_takeBestWay 73 = .ok (.getfield 27, 3) := by decide +kernel
theorem dX1_takeBestWay_76 : decode cX1_takeBestWay 76 = .ok (.iload_n 1, 1) := by decide +kernel
theorem dX1_takeBestWay_77 : decode cX1_takeBestWay 77 = .ok (.iaload, 1) := by decide +kernel
theorem dX1_takeBestWay_78 : decode cX1_takeBestWay 78 = .ok (.if_icmp .eq 7, 3) := by decide +kernel
theorem dX1_takeBestWay_81 : decode cX1_takeBestWay 81 = .ok (.iconst 1, 1) := by decide +kernel
theorem dX1_takeBestWay_82 : decode cX1_takeBestWay 82 = .ok (.goto 4, 3) := by decide +kernel
theorem dX1_takeBestWay_85 : decode cX1_takeBestWay 85 = .ok (.iconst 0, 1) := by decide +kernel
theorem dX1_takeBestWay_86 : decode cX1_takeBestWay 86 = .ok (.istore 5, 2) := by decide +kernel
theorem dX1_takeBestWay_88 : decode cX1_takeBestWay 88 = .ok (.aload_n 0, 1) := by decide +kernel
theorem dX1_takeBestWay_89 : decode cX1_takeBestWay 89 = .ok (.getfield 21, 3) := by decide +kernel
theorem dX1_takeBestWay_92 : decode cX1_takeBestWay 92 = .ok (.iload_n 1, 1) := by decide +kernel
theorem dX1_takeBestWay_93 : decode cX1_takeBestWay 93 = .ok (.iload_n 2, 1) := by decide +kernel
theorem dX1_takeBestWay_94 : decode cX1_takeBestWay 94 = .ok (.iastore, 1) := by decide +kernel
theorem dX1_takeBestWay_95 : decode cX1_takeBestWay 95 = .ok (.aload_n 0, 1) := by decide +kernel
theorem dX1_takeBestWay_96 : decode cX1_takeBestWay 96 = .ok (.getfield 24, 3) := by decide +kernel
theorem dX1_takeBestWay_99 : decode cX1_takeBestWay 99 = .ok (.iload_n 1, 1) := by decide +kernel
theorem dX1_takeBestWay_100 : decode cX1_takeBestWay 100 = .ok (.iload_n 3, 1) := by decide +kernel
theorem dX1_takeBestWay_101 : decode cX1_takeBestWay 101 = .ok (.iastore, 1) := by decide +kernel
theorem dX1_takeBestWay_102 : decode cX1_takeBestWay 102 = .ok (.aload_n 0, 1) := by decide +kernel
theorem dX1_takeBestWay_103 : decode cX1_takeBestWay 103 = .ok (.getfield 27, 3) := by decide +kernel
theorem dX1_takeBestWay_106 : decode cX1_takeBestWay 106 = .ok (.iload_n 1, 1) := by decide +kernel
theorem dX1_takeBestWay_107 : decode cX1_takeBestWay 107 = .ok (.iload 4, 2) := by decide +kernel
theorem dX1_takeBestWay_109 : decode cX1_takeBestWay 109 = .ok (.iastore, 1) := by decide +kernel
theorem dX1_takeBestWay_110 : decode cX1_takeBestWay 110 = .ok (.iload 5, 2) := by decide +kernel
theorem dX1_takeBestWay_112 : decode cX1_takeBestWay 112 = .ok (.ireturn, 1) := by decide +kernel
theorem dX1_findBestNeighbour_0 : decode cX1_findBestNeighbour 0 = .ok (.iconst (-1), 1) := by decide +kernel
theorem dX1_findBestNeighbour_1 : decode cX1_findBestNeighbour 1 = .ok (.istore_n 2, 1) := by decide +kernel
theorem dX1_findBestNeighbour_2 : decode cX1_findBestNeighbour 2 = .ok (.ldc 51, 2) := by decide +kernel
theorem dX1_findBestNeighbour_4 : decode cX1_findBestNeighbour 4 = .ok (.istore_n 3, 1) := by decide +kernel
theorem dX1_findBestNeighbour_5 : decode cX1_findBestNeighbour 5 = .ok (.iconst 0, 1) := by decide +kernel
theorem dX1_findBestNeighbour_6 : decode cX1_findBestNeighbour 6 = .ok (.istore 4, 2) := by decide +kernel
theorem dX1_findBestNeighbour_8 : decode cX1_findBestNeighbour 8 = .ok (.iload 4, 2) := by decide +kernel
theorem dX1_findBestNeighbour_10 : decode cX1_findBestNeighbour 10 = .ok (.bipush 12, 2) := by decide +kernel
theorem dX1_findBestNeighbour_12 : decode cX1_findBestNeighbour 12 = .ok (.if_icmp .ge 100, 3) := by decide +kernel
theorem dX1_findBestNeighbour_15 : decode cX1_findBestNeighbour 15 = .ok (.aload_n 0, 1) := by decide +kernel
theorem dX1_findBestNeighbour_16 : decode cX1_findBestNeighbour 16 = .ok (.getfield 35, 3) := by decide +kernel
theorem dX1_findBestNeighbour_19 : decode cX1_findBestNeighbour 19 = .ok (.iload 4, 2) := by decide +kernel
theorem dX1_findBestNeighbour_21 : decode cX1_findBestNeighbour 21 = .ok (.aaload, 1) := by decide +kernel
theorem dX1_findBestNeighbour_22 : decode cX1_findBestNeighbour 22 = .ok (.iload_n 1, 1) := by decide +kernel
theorem dX1_findBestNeighbour_23 : decode cX1_findBestNeighbour 23 = .ok (.iaload, 1) := by decide +kernel
theorem dX1_findBestNeighbour_24 : decode cX1_findBestNeighbour 24 = .ok (.istore 5, 2) := by decide +kernel
theorem dX1_findBestNeighbour_26 : decode cX1_findBestNeighbour 26 = .ok (.aload_n 0, 1) := by decide +kernel
theorem dX1_findBestNeighbour_27 : decode cX1_findBestNeighbour 27 = .ok (.getfield 38, 3) := by decide +kernel
theorem dX1_findBestNeighbour_30 : decode cX1_findBestNeighbour 30 = .ok (.iload 4, 2) := by decide +kernel
theorem dX1_findBestNeighbour_32 : decode cX1_findBestNeighbour 32 = .ok (.aaload, 1) := by decide +kernel
theorem dX1_findBestNeighbour_33 : decode cX1_findBestNeighbour 33 = .ok (.iload_n 1, 1) := by decide +kernel
theorem dX1_findBestNeighbour_34 : decode cX1_findBestNeighbour 34 = .ok (.iaload, 1) := by decide +kernel
theorem dX1_findBestNeighbour_35 : decode cX1_findBestNeighbour 35 = .ok (.istore 6, 2) := by decide +kernel
theorem dX1_findBestNeighbour_37 : decode cX1_findBestNeighbour 37 = .ok (.iload 6, 2) := by decide +kernel
theorem dX1_findBestNeighbour_39 : decode cX1_findBestNeighbour 39 = .ok (.aload_n 0, 1) := by decide +kernel
theorem dX1_findBestNeighbour_40 : decode cX1_findBestNeighbour 40 = .ok (.getfield 9, 3) := by decide +kernel
theorem dX1_findBestNeighbour_43 : decode cX1_findBestNeighbour 43 = .ok (.iload 4, 2) := by decide +kernel
theorem dX1_findBestNeighbour_45 : decode cX1_findBestNeighbour 45 = .ok (.iaload, 1) := by decide +kernel
theorem dX1_findBestNeighbour_46 : decode cX1_findBestNeighbour 46 = .ok (.iadd, 1) := by decide +kernel
theorem dX1_findBestNeighbour_47 : decode cX1_findBestNeighbour 47 = .ok (.istore 7, 2) := by decide +kernel
theorem dX1_findBestNeighbour_49 : decode cX1_findBestNeighbour 49 = .ok (.iload 5, 2) := by decide +kernel
theorem dX1_findBestNeighbour_51 : decode cX1_findBestNeighbour 51 = .ok (.iconst (-1), 1) := by decide +kernel
theorem dX1_findBestNeighbour_52 : decode cX1_findBestNeighbour 52 = .ok (.if_icmp .eq 54, 3) := by decide +kernel
theorem dX1_findBestNeighbour_55 : decode cX1_findBestNeighbour 55 = .ok (.iload 7, 2) := by decide +kernel
theorem dX1_findBestNeighbour_57 : decode cX1_findBestNeighbour 57 = .ok (.ldc 63, 2) := by decide +kernel
theorem dX1_findBestNeighbour_59 : decode cX1_findBestNeighbour 59 = .ok (.if_icmp .gt 47, 3) := by decide +kernel
theorem dX1_findBestNeighbour_62 : decode cX1_findBestNeighbour 62 = .ok (.aload_n 0, 1) := by decide +kernel
theorem dX1_findBestNeighbour_63 : decode cX1_findBestNeighbour 63 = .ok (.iload_n 1, 1) := by decide +kernel
theorem dX1_findBestNeighbour_64 : decode cX1_findBestNeighbour 64 = .ok (.iload 5, 2) := by decide +kernel
theorem dX1_findBestNeighbour_66 : decode cX1_findBestNeighbour 66 = .ok (.iload 6, 2) := by decide +kernel
theorem dX1_findBestNeighbour_68 : decode cX1_findBestNeighbour 68 = .ok (.invokevirtual 64, 3) := by decide +kernel
theorem dX1_findBestNeighbour_71 : decode cX1_findBestNeighbour 71 = .ok (.ifCond .ne 6, 3) := by decide +kernel
theorem dX1_findBestNeighbour_74 : decode cX1_findBestNeighbour 74 = .ok (.goto 32, 3) := by decide +kernel
theorem dX1_findBestNeighbour_77 : decode cX1_findBestNeighbour 77 = .ok (.iload 7, 2) := by decide +kernel
theorem dX1_findBestNeighbour_79 : decode cX1_findBestNeighbour 79 = .ok (.iload_n 3, 1) := by decide +kernel
theorem dX1_findBestNeighbour_80 : decode cX1_findBestNeighbour 80 = .ok (.if_icmp .lt 20, 3) := by decide +kernel
theorem dX1_findBestNeighbour_83 : decode cX1_findBestNeighbour 83 = .ok (.iload 7, 2) := by decide +kernel
theorem dX1_findBestNeighbour_85 : decode cX1_findBestNeighbour 85 = .ok (.iload_n 3, 1) := by decide +kernel
theorem dX1_findBestNeighbour_86 : decode cX1_findBestNeighbour 86 = .ok (.if_icmp .ne 20, 3) := by decide +kernel
theorem dX1_findBestNeighbour_89 : decode cX1_findBestNeighbour 89 = .ok (.iload 4, 2) := by decide +kernel
theorem dX1_findBestNeighbour_91 : decode cX1_findBestNeighbour 91 = .ok (.aload_n 0, 1) := by decide +kernel
theorem dX1_findBestNeighbour_92 : decode cX1_findBestNeighbour 92 = .ok (.getfield 21, 3) := by decide +kernel
theorem dX1_findBestNeighbour_95 : decode cX1_findBestNeighbour 95 = .ok (.iload_n 1, 1) := by decide +kernel
theorem dX1_findBestNeighbour_96 : decode cX1_findBestNeighbour 96 = .ok (.iaload, 1) := by decide +kernel
theorem dX1_findBestNeighbour_97 : decode cX1_findBestNeighbour 97 = .ok (.if_icmp .ne 9, 3) := by decide +kernel
theorem dX1_findBestNeighbour_100 : decode cX1_findBestNeighbour 100 = .ok (.iload 4, 2) := by decide +kernel
theorem dX1_findBestNeighbour_102 : decode cX1_findBestNeighbour 102 = .ok (.istore_n 2, 1) := by decide +kernel
theorem dX1_findBestNeighbour_103 : decode cX1_findBestNeighbour 103 = .ok (.iload 7, 2) := by decide +kernel
theorem dX1_findBestNeighbour_105 : decode cX1_findBestNeighbour 105 = .ok (.istore_n 3, 1) := by decide +kernel
theorem dX1_findBestNeighbour_106 : decode cX1_findBestNeighbour 106 = .ok (.iinc 4 1, 3) := by decide +kernel
theorem dX1_findBestNeighbour_109 : decode cX1_findBestNeighbour 109 = .ok (.goto (-101), 3) := by decide +kernel
theorem dX1_findBestNeighbour_112 : decode cX1_findBestNeighbour 112 = .ok (.iload_n 2, 1) := by decide +kernel
theorem dX1_findBestNeighbour_113 : decode cX1_findBestNeighbour 113 = .ok (.ireturn, 1) := by decide +kernel
theorem dJ7_fill_53178_0 : decode cJ7_fill_53178 0 = .ok (.iconst 0, 1) := by decide +kernel
theorem dJ7_fill_53178_1 : decode cJ7_fill_53178 1 = .ok (.istore_n 2, 1) := by decide +kernel
theorem dJ7_fill_53178_2 : decode cJ7_fill_53178 2 = .ok (.aload_n 0, 1) := by decide +kernel
theorem dJ7_fill_53178_3 : decode cJ7_fill_53178 3 = .ok (.arraylength, 1) := by decide +kernel
theorem dJ7_fill_53178_4 : decode cJ7_fill_53178 4 = .ok (.istore_n 3, 1) := by decide +kernel
theorem dJ7_fill_53178_5 : decode cJ7_fill_53178 5 = .ok (.iload_n 2, 1) := by decide +kernel
theorem dJ7_fill_53178_6 : decode cJ7_fill_53178 6 = .ok (.iload_n 3, 1) := by decide +kernel
theorem dJ7_fill_53178_7 : decode cJ7_fill_53178 7 = .ok (.if_icmp .ge 13, 3) := by decide +kernel
theorem dJ7_fill_53178_10 : decode cJ7_fill_53178 10 = .ok (.aload_n 0, 1) := by decide +kernel
theorem dJ7_fill_53178_11 : decode cJ7_fill_53178 11 = .ok (.iload_n 2, 1) := by decide +kernel
theorem dJ7_fill_53178_12 : decode cJ7_fill_53178 12 = .ok (.iload_n 1, 1) := by decide +kernel
theorem dJ7_fill_53178_13 : decode cJ7_fill_53178 13 = .ok (.iastore, 1) := by decide +kernel
theorem dJ7_fill_53178_14 : decode cJ7_fill_53178 14 = .ok (.iinc 2 1, 3) := by decide +kernel
theorem dJ7_fill_53178_17 : decode cJ7_fill_53178 17 = .ok (.goto (-12), 3) := by decide +kernel
theorem dJ7_fill_53178_20 : decode cJ7_fill_53178 20 = .ok (.return_, 1) := by decide +kernel
theorem dJ9_max_7cf53_0 : decode cJ9_max_7cf53 0 = .ok (.iload_n 0, 1) := by decide +kernel
theorem dJ9_max_7cf53_1 : decode cJ9_max_7cf53 1 = .ok (.iload_n 1, 1) := by decide +kernel
theorem dJ9_max_7cf53_2 : decode cJ9_max_7cf53 2 = .ok (.if_icmp .lt 7, 3) := by decide +kernel
theorem dJ9_max_7cf53_5 : decode cJ9_max_7cf53 5 = .ok (.iload_n 0, 1) := by decide +kernel
theorem dJ9_max_7cf53_6 : decode cJ9_max_7cf53 6 = .ok (.goto 4, 3) := by decide +kernel
theorem dJ9_max_7cf53_9 : decode cJ9_max_7cf53 9 = .ok (.iload_n 1, 1) := by decide +kernel
theorem dJ9_max_7cf53_10 : decode cJ9_max_7cf53 10 = .ok (.ireturn, 1) := by decide +kernel
theorem dJ9_min_7cf53_0 : decode cJ9_min_7cf53 0 = .ok (.iload_n 0, 1) := by decide +kernel
theorem dJ9_min_7cf53_1 : decode cJ9_min_7cf53 1 = .ok (.iload_n 1, 1) := by decide +kernel
theorem dJ9_min_7cf53_2 : decode cJ9_min_7cf53 2 = .ok (.if_icmp .gt 7, 3) := by decide +kernel
theorem dJ9_min_7cf53_5 : decode cJ9_min_7cf53 5 = .ok (.iload_n 0, 1) := by decide +kernel
theorem dJ9_min_7cf53_6 : decode cJ9_min_7cf53 6 = .ok (.goto 4, 3) := by decide +kernel
theorem dJ9_min_7cf53_9 : decode cJ9_min_7cf53 9 = .ok (.iload_n 1, 1) := by decide +kernel
theorem dJ9_min_7cf53_10 : decode cJ9_min_7cf53 10 = .ok (.ireturn, 1) := by decide +kernel
end
section
theorem dX2_init_0 : decode cX2_init 0 = .ok (.aload_n 0, 1) := by decide +kernel
theorem dX2_init_1 : decode cX2_init 1 = .ok (.invokespecial 1, 3) := by decide +kernel
theorem dX2_init_4 : decode cX2_init 4 = .ok (.aload_n 0, 1) := by decide +kernel
theorem dX2_init_5 : decode cX2_init 5 = .ok (.bipush 12, 2) := by decide +kernel
theorem dX2_init_7 : decode cX2_init 7 = .ok (.anewarray 9, 3) := by decide +kernel
theorem dX2_init_10 : decode cX2_init 10 = .ok (.putfield 11, 3) := by decide +kernel
theorem dX2_init_13 : decode cX2_init 13 = .ok (.iconst 0, 1) := by decide +kernel
theorem dX2_init_14 : decode cX2_init 14 = .ok (.istore_n 1, 1) := by decide +kernel
theorem dX2_init_15 : decode cX2_init 15 = .ok (.iload_n 1, 1) := by decide +kernel
theorem dX2_init_16 : decode cX2_init 16 = .ok (.bipush 12, 2) := by decide +kernel
theorem dX2_init_18 : decode cX2_init 18 = .ok (.if_icmp .ge 23, 3) := by decide +kernel
theorem dX2_init_21 : decode cX2_init 21 = .ok (.aload_n 0, 1) := by decide +kernel
theorem dX2_init_22 : decode cX2_init 22 = .ok (.getfield 11, 3) := by decide +kernel
theorem dX2_init_25 : decode cX2_init 25 = .ok (.iload_n 1, 1) := by decide +kernel
theorem dX2_init_26 : decode cX2_init 26 = .ok (.new 9, 3) := by decide +kernel
theorem dX2_init_29 : decode cX2_init 29 = .ok (.dup, 1) := by decide +kernel
theorem dX2_init_30 : decode cX2_init 30 = .ok (.iload_n 1, 1) := by decide +kernel
theorem dX2_init_31 : decode cX2_init 31 = .ok (.invokespecial 15, 3) := by decide +kernel
theorem dX2_init_34 : decode cX2_init 34 = .ok (.aastore, 1) := by decide +kernel
theorem dX2_init_35 : decode cX2_init 35 = .ok (.iinc 1 1, 3) := by decide +kernel
theorem dX2_init_38 : decode cX2_init 38 = .ok (.goto (-23), 3) := by decide +kernel
theorem dX2_init_41 : decode cX2_init 41 = .ok (.aload_n 0, 1) := by decide +kernel
theorem dX2_init_42 : decode cX2_init 42 = .ok (.new 18, 3) := by decide +kernel
theorem dX2_init_45 : decode cX2_init 45 = .ok (.dup, 1) := by decide +kernel
theorem dX2_init_46 : decode cX2_init 46 = .ok (.invokespecial 20, 3) := by decide +kernel
theorem dX2_init_49 : decode cX2_init 49 = .ok (.putfield 21, 3) := by decide +kernel
theorem dX2_init_52 : decode cX2_init 52 = .ok (.return_, 1) := by decide +kernel
theorem dX2_link_0 : decode cX2_link 0 = .ok (.iload_n 1, 1) := by decide +kernel
theorem dX2_link_1 : decode cX2_link 1 = .ok (.iload_n 2, 1) := by decide +kernel
theorem dX2_link_2 : decode cX2_link 2 = .ok (.invokestatic 25, 3) := by decide +kernel
theorem dX2_link_5 : decode cX2_link 5 = .ok (.iload_n 3, 1) := by decide +kernel
theorem dX2_link_6 : decode cX2_link 6 = .ok (.sipush 1000, 3) := by decide +kernel
theorem dX2_link_9 : decode cX2_link 9 = .ok (.invokestatic 29, 3) := by decide +kernel
theorem dX2_link_12 : decode cX2_link 12 = .ok (.aload_n 0, 1) := by decide +kernel
theorem dX2_link_13 : decode cX2_link 13 = .ok (.getfield 11, 3) := by decide +kernel
theorem dX2_link_16 : decode cX2_link 16 = .ok (.iload_n 1, 1) := by decide +kernel
theorem dX2_link_17 : decode cX2_link 17 = .ok (.aaload, 1) := by decide +kernel
theorem dX2_link_18 : decode cX2_link 18 = .ok (.getfield 32, 3) := by decide +kernel
theorem dX2_link_21 : decode cX2_link 21 = .ok (.iload_n 2, 1) := by decide +kernel
theorem dX2_link_22 : decode cX2_link 22 = .ok (.iaload, 1) := by decide +kernel
theorem dX2_link_23 : decode cX2_link 23 = .ok (.istore 4, 2) := by decide +kernel
theorem dX2_link_25 : decode cX2_link 25 = .ok (.iload_n 3, 1) := by decide +kernel
theorem dX2_link_26 : decode cX2_link 26 = .ok (.iload 4, 2) := by decide +kernel
theorem dX2_link_28 : decode cX2_link 28 = .ok (.if_icmp .ne 6, 3) := by decide +kernel
theorem dX2_link_31 : decode cX2_link 31 = .ok (.iload 4, 2) := by decide +kernel
theorem dX2_link_33 : decode cX2_link 33 = .ok (.ireturn, 1) := by decide +kernel
theorem dX2_link_34 : decode cX2_link 34 = .ok (.aload_n 0, 1) := by decide +kernel
theorem dX2_link_35 : decode cX2_link 35 = .ok (.getfield 11, 3) := by decide +kernel
theorem dX2_link_38 : decode cX2_link 38 = .ok (.iload_n 1, 1) := by decide +kernel
theorem dX2_link_39 : decode cX2_link 39 = .ok (.aaload, 1) := by decide +kernel
theorem dX2_link_40 : decode cX2_link 40 = .ok (.getfield 32, 3) := by decide +kernel
theorem dX2_link_43 : decode cX2_link 43 = .ok (.iload_n 2, 1) := by decide +kernel
theorem dX2_link_44 : decode cX2_link 44 = .ok (.iload_n 3, 1) := by decide +kernel
theorem dX2_link_45 : decode cX2_link 45 = .ok (.iastore, 1) := by decide +kernel
theorem dX2_link_46 : decode cX2_link 46 = .ok (.aload_n 0, 1) := by decide +kernel
theorem dX2_link_47 : decode cX2_link 47 = .ok (.getfield 11, 3) := by decide +kernel
theorem dX2_link_50 : decode cX2_link 50 = .ok (.iload_n 2, 1) := by decide +kernel
theorem dX2_link_51 : decode cX2_link 51 = .ok (.aaload, 1) := by decide +kernel
theorem dX2_link_52 : decode cX2_link 52 = .ok (.getfield 32, 3) := by decide +kernel
theorem dX2_link_55 : decode cX2_link 55 = .ok (.iload_n 1, 1) := by decide +kernel
theorem dX2_link_56 : decode cX2_link 56 = .ok (.iload_n 3, 1) := by decide +kernel
theorem dX2_link_57 : decode cX2_link 57 = .ok (.iastore, 1) := by decide +kernel
theorem dX2_link_58 : decode cX2_link 58 = .ok (.iload_n 1, 1) := by decide +kernel
theorem dX2_link_59 : decode cX2_link 59 = .ok (.iload_n 2, 1) := by decide +kernel
theorem dX2_link_60 : decode cX2_link 60 = .ok (.invokestatic 36, 3) := by decide +kernel
theorem dX2_link_63 : decode cX2_link 63 = .ok (.istore 5, 2) := by decide +kernel
theorem dX2_link_65 : decode cX2_link 65 = .ok (.iload_n 1, 1) := by decide +kernel
theorem dX2_link_66 : decode cX2_link 66 = .ok (.iload_n 2, 1) := by decide +kernel
theorem dX2_link_67 : decode cX2_link 67 = .ok (.invokestatic 42, 3) := by decide +kernel
theorem dX2_link_70 : decode cX2_link 70 = .ok (.istore 6, 2) := by decide +kernel
theorem dX2_link_72 : decode cX2_link 72 = .ok (.iload 4, 2) := by decide +kernel
theorem dX2_link_74 : decode cX2_link 74 = .ok (.ifCond .ne 22, 3) := by decide +kernel
theorem dX2_link_77 : decode cX2_link 77 = .ok (.aload_n 0, 1) := by decide +kernel
theorem dX2_link_78 : decode cX2_link 78 = .ok (.iload 5, 2) := by decide +kernel
theorem dX2_link_80 : decode cX2_link 80 = .ok (.iload 6, 2) := by decide +kernel
theorem dX2_link_82 : decode cX2_link 82 = .ok (.invokevirtual 45, 3) := by decide +kernel
theorem dX2_link_85 : decode cX2_link 85 = .ok (.aload_n 0, 1) := by decide +kernel
theorem dX2_link_86 : decode cX2_link 86 = .ok (.iload 6, 2) := by decide +kernel
theorem dX2_link_88 : decode cX2_link 88 = .ok (.iload 5, 2) := by decide +kernel
theorem dX2_link_90 : decode cX2_link 90 = .ok (.invokevirtual 45, 3) := by decide +kernel
theorem dX2_link_93 : decode cX2_link 93 = .ok (.iload 4, 2) := by decide +kernel
theorem dX2_link_95 : decode cX2_link 95 = .ok (.ireturn, 1) := by decide +kernel
theorem dX2_link_96 : decode cX2_link 96 = .ok (.iload_n 3, 1) := by decide +kernel
theorem dX2_link_97 : decode cX2_link 97 = .ok (.ifCond .ne 23, 3) := by decide +kernel
theorem dX2_link_100 : decode cX2_link 100 = .ok (.aload_n 0, 1) := by decide +kernel
theorem dX2_link_101 : decode cX2_link 101 = .ok (.getfield 11, 3) := by decide +kernel
theorem dX2_link_104 : decode cX2_link 104 = .ok (.iload_n 1, 1) := by decide +kernel
theorem dX2_link_105 : decode cX2_link 105 = .ok (.aaload, 1) := by decide +kernel
theorem dX2_link_106 : decode cX2_link 106 = .ok (.iload_n 2, 1) := by decide +kernel
theorem dX2_link_107 : decode cX2_link 107 = .ok (.invokevirtual 48, 3) := by decide +kernel
theorem dX2_link_110 : decode cX2_link 110 = .ok (.aload_n 0, 1) := by decide +kernel
theorem dX2_link_111 : decode cX2_link 111 = .ok (.getfield 11, 3) := by decide +kernel
theorem dX2_link_114 : decode cX2_link 114 = .ok (.iload_n 2, 1) := by decide +kernel
theorem dX2_link_115 : decode cX2_link 115 = .ok (.aaload, 1) := by decide +kernel
theorem dX2_link_116 : decode cX2_link 116 = .ok (.iload_n 1, 1) := by decide +kernel
theorem dX2_link_117 : decode cX2_link 117 = .ok (.invokevirtual 48, 3) := by decide +kernel
theorem dX2_link_120 : decode cX2_link 120 = .ok (.aload_n 0, 1) := by decide +kernel
theorem dX2_link_121 : decode cX2_link 121 = .ok (.iload 5, 2) := by decide +kernel
theorem dX2_link_123 : decode cX2_link 123 = .ok (.invokevirtual 51, 3) := by decide +kernel
theorem dX2_link_126 : decode cX2_link 126 = .ok (.aload_n 0, 1) := by decide +kernel
theorem dX2_link_127 : decode cX2_link 127 = .ok (.iload 6, 2) := by decide +kernel
theorem dX2_link_129 : decode cX2_link 129 = .ok (.invokevirtual 51, 3) := by decide +kernel
theorem dX2_link_132 : decode cX2_link 132 = .ok (.iload 4, 2) := by decide +kernel
theorem dX2_link_134 : decode cX2_link 134 = .ok (.ireturn, 1) := by decide +kernel
theorem dX2_announce_0 : decode cX2_announce 0 = .ok (.iload_n 1, 1) := by decide +kernel
theorem dX2_announce_1 : decode cX2_announce 1 = .ok (.invokestatic 54, 3) := by decide +kernel
theorem dX2_announce_4 : decode cX2_announce 4 = .ok (.aload_n 0, 1) := by decide +kernel
theorem dX2_announce_5 : decode cX2_announce 5 = .ok (.getfield 21, 3) := by decide +kernel
theorem dX2_announce_8 : decode cX2_announce 8 = .ok (.getfield 57, 3) := by decide +kernel
theorem dX2_announce_11 : decode cX2_announce 11 = .ok (.istore_n 2, 1) := by decide +kernel
theorem dX2_announce_12 : decode cX2_announce 12 = .ok (.iconst 0, 1) := by decide +kernel
theorem dX2_announce_13 : decode cX2_announce 13 = .ok (.istore_n 3, 1) := by decide +kernel
theorem dX2_announce_14 : decode cX2_announce 14 = .ok (.iload_n 3, 1) := by decide +kernel
theorem dX2_announce_15 : decode cX2_announce 15 = .ok (.bipush 12, 2) := by decide +kernel
theorem dX2_announce_17 : decode cX2_announce 17 = .ok (.if_icmp .ge 41, 3) := by decide +kernel
theorem dX2_announce_20 : decode cX2_announce 20 = .ok (.aload_n 0, 1) := by decide +kernel
theorem dX2_announce_21 : decode cX2_announce 21 = .ok (.getfield 11, 3) := by decide +kernel
theorem dX2_announce_24 : decode cX2_announce 24 = .ok (.iload_n 1, 1) := by decide +kernel
theorem dX2_announce_25 : decode cX2_announce 25 = .ok (.aaload, 1) := by decide +kernel
theorem dX2_announce_26 : decode cX2_announce 26 = .ok (.iload_n 3, 1) := by decide +kernel
theorem dX2_announce_27 : decode cX2_announce 27 = .ok (.invokevirtual 61, 3) := by decide +kernel
theorem dX2_announce_30 : decode cX2_announce 30 = .ok (.ifCond .ne 16, 3) := by decide +kernel
theorem dX2_announce_33 : decode cX2_announce 33 = .ok (.aload_n 0, 1) := by decide +kernel
theorem dX2_announce_34 : decode cX2_announce 34 = .ok (.getfield 11, 3) := by decide +kernel
theorem dX2_announce_37 : decode cX2_announce 37 = .ok (.iload_n 1, 1) := by decide +kernel
theorem dX2_announce_38 : decode cX2_announce 38 = .ok (.aaload, 1) := by decide +kernel
theorem dX2_announce_39 : decode cX2_announce 39 = .ok (.iload_n 3, 1) := by decide +kernel
theorem dX2_announce_40 : decode cX2_announce 40 = .ok (.invokevirtual 65, 3) := by decide +kernel
theorem dX2_announce_43 : decode cX2_announce 43 = .ok (.ifCond .eq 9, 3) := by decide +kernel
theorem dX2_announce_46 : decode cX2_announce 46 = .ok (.aload_n 0, 1) := by decide +kernel
theorem dX2_announce_47 : decode cX2_announce 47 = .ok (.iload_n 1, 1) := by decide +kernel
theorem dX2_announce_48 : decode cX2_announce 48 = .ok (.iload_n 3, 1) := by decide +kernel
theorem dX2_announce_49 : decode cX2_announce 49 = .ok (.invokevirtual 68, 3) := by decide +kernel
theorem dX2_announce_52 : decode cX2_announce 52 = .ok (.iinc 3 1, 3) := by decide +kernel
theorem dX2_announce_55 : decode cX2_announce 55 = .ok (.goto (-41), 3) := by decide +kernel
theorem dX2_announce_58 : decode cX2_announce 58 = .ok (.aload_n 0, 1) := by decide +kernel
theorem dX2_announce_59 : decode cX2_announce 59 = .ok (.getfield 21, 3) := by decide +kernel
theorem dX2_announce_62 : decode cX2_announce 62 = .ok (.getfield 57, 3) := by decide +kernel
theorem dX2_announce_65 : decode cX2_announce 65 = .ok (.iload_n 2, 1) := by decide +kernel
theorem dX2_announce_66 : decode cX2_announce 66 = .ok (.isub, 1) := by decide +kernel
theorem dX2_announce_67 : decode cX2_announce 67 = .ok (.ireturn, 1) := by decide +kernel
theorem dX2_renew_0 : decode cX2_renew 0 = .ok (.iload_n 1, 1) := by decide +kernel
theorem dX2_renew_1 : decode cX2_renew 1 = .ok (.invokestatic 54, 3) := by decide +kernel
theorem dX2_renew_4 : decode cX2_renew 4 = .ok (.aload_n 0, 1) := by decide +kernel
theorem dX2_renew_5 : decode cX2_renew 5 = .ok (.getfield 11, 3) := by decide +kernel
theorem dX2_renew_8 : decode cX2_renew 8 = .ok (.iload_n 1, 1) := by decide +kernel
theorem dX2_renew_9 : decode cX2_renew 9 = .ok (.aaload, 1) := by decide +kernel
theorem dX2_renew_10 : decode cX2_renew 10 = .ok (.invokevirtual 71, 3) := by decide +kernel
theorem dX2_renew_13 : decode cX2_renew 13 = .ok (.istore_n 2, 1) := by decide +kernel
theorem dX2_renew_14 : decode cX2_renew 14 = .ok (.aload_n 0, 1) := by decide +kernel
theorem dX2_renew_15 : decode cX2_renew 15 = .ok (.iload_n 1, 1) := by decide +kernel
theorem dX2_renew_16 : decode cX2_renew 16 = .ok (.iload_n 1, 1) := by decide +kernel
theorem dX2_renew_17 : decode cX2_renew 17 = .ok (.invokevirtual 68, 3) := by decide +kernel
theorem dX2_renew_20 : decode cX2_renew 20 = .ok (.iload_n 2, 1) := by decide +kernel
theorem dX2_renew_21 : decode cX2_renew 21 = .ok (.ireturn, 1) := by decide +kernel
theorem dX2_ask_0 : decode cX2_ask 0 = .ok (.iload_n 1, 1) := by decide +kernel
theorem dX2_ask_1 : decode cX2_ask 1 = .ok (.iload_n 2, 1) := by decide +kernel
theorem dX2_ask_2 : decode cX2_ask 2 = .ok (.invokestatic 25, 3) := by decide +kernel
theorem dX2_ask_5 : decode cX2_ask 5 = .ok (.aload_n 0, 1) := by decide +kernel
theorem dX2_ask_6 : decode cX2_ask 6 = .ok (.getfield 21, 3) := by decide +kernel
theorem dX2_ask_9 : decode cX2_ask 9 = .ok (.getfield 57, 3) := by decide +kernel
theorem dX2_ask_12 : decode cX2_ask 12 = .ok (.istore_n 3, 1) := by decide +kernel
theorem dX2_ask_13 : decode cX2_ask 13 = .ok (.aload_n 0, 1) := by decide +kernel
theorem dX2_ask_14 : decode cX2_ask 14 = .ok (.getfield 11, 3) := by decide +kernel
theorem dX2_ask_17 : decode cX2_ask 17 = .ok (.iload_n 1, 1) := by decide +kernel
theorem dX2_ask_18 : decode cX2_ask 18 = .ok (.aaload, 1) := by decide +kernel
theorem dX2_ask_19 : decode cX2_ask 19 = .ok (.iload_n 2, 1) := by decide +kernel
theorem dX2_ask_20 : decode cX2_ask 20 = .ok (.invokevirtual 61, 3) := by decide +kernel
theorem dX2_ask_23 : decode cX2_ask 23 = .ok (.ifCond .ne 9, 3) := by decide +kernel
theorem dX2_ask_26 : decode cX2_ask 26 = .ok (.aload_n 0, 1) := by decide +kernel
theorem dX2_ask_27 : decode cX2_ask 27 = .ok (.iload_n 1, 1) := by decide +kernel
theorem dX2_ask_28 : decode cX2_ask 28 = .ok (.iload_n 2, 1) := by decide +kernel
theorem dX2_ask_29 : decode cX2_ask 29 = .ok (.invokevirtual 75, 3) := by decide +kernel
theorem dX2_ask_32 : decode cX2_ask 32 = .ok (.aload_n 0, 1) := by decide +kernel
theorem dX2_ask_33 : decode cX2_ask 33 = .ok (.getfield 21, 3) := by decide +kernel
theorem dX2_ask_36 : decode cX2_ask 36 = .ok (.getfield 57, 3) := by decide +kernel
theorem dX2_ask_39 : decode cX2_ask 39 = .ok (.iload_n 3, 1) := by decide +kernel
theorem dX2_ask_40 : decode cX2_ask 40 = .ok (.isub, 1) := by decide +kernel
theorem dX2_ask_41 : decode cX2_ask 41 = .ok (.ireturn, 1) := by decide +kernel
theorem dX2_reboot_0 : decode cX2_reboot 0 = .ok (.iload_n 1, 1) := by decide +kernel
theorem dX2_reboot_1 : decode cX2_reboot 1 = .ok (.invokestatic 54, 3) := by decide +kernel
theorem dX2_reboot_4 : decode cX2_reboot 4 = .ok (.aload_n 0, 1) := by decide +kernel
theorem dX2_reboot_5 : decode cX2_reboot 5 = .ok (.getfield 11, 3) := by decide +kernel
theorem dX2_reboot_8 : decode cX2_reboot 8 = .ok (.iload_n 1, 1) := by decide +kernel
theorem dX2_reboot_9 : decode cX2_reboot 9 = .ok (.aaload, 1) := by decide +kernel
theorem dX2_reboot_10 : decode cX2_reboot 10 = .ok (.invokevirtual 78, 3) := by decide +kernel
theorem dX2_reboot_13 : decode cX2_reboot 13 = .ok (.ifCond .eq 13, 3) := by decide +kernel
theorem dX2_reboot_16 : decode cX2_reboot 16 = .ok (.new 81, 3) := by decide +kernel
theorem dX2_reboot_19 : decode cX2_reboot 19 = .ok (.dup, 1) := by decide +kernel
theorem dX2_reboot_20 : decode cX2_reboot 20 = .ok (.ldc 83, 2) := by decide +kernel
theorem dX2_reboot_22 : decode cX2_reboot 22 = .ok (.invokespecial 85, 3) := by decide +kernel
theorem dX2_reboot_25 : decode cX2_reboot 25 = .ok (.athrow, 1) := by decide +kernel
theorem dX2_reboot_26 : decode cX2_reboot 26 = .ok (.aload_n 0, 1) := by decide +kernel
theorem dX2_reboot_27 : decode cX2_reboot 27 = .ok (.getfield 11, 3) := by decide +kernel
theorem dX2_reboot_30 : decode cX2_reboot 30 = .ok (.iload_n 1, 1) := by decide +kernel
theorem dX2_reboot_31 : decode cX2_reboot 31 = .ok (.aaload, 1) := by decide +kernel
theorem dX2_reboot_32 : decode cX2_reboot 32 = .ok (.invokevirtual 88, 3) := by decide +kernel
theorem dX2_reboot_35 : decode cX2_reboot 35 = .ok (.aload_n 0, 1) := by decide +kernel
theorem dX2_reboot_36 : decode cX2_reboot 36 = .ok (.getfield 21, 3) := by decide +kernel
theorem dX2_reboot_39 : decode cX2_reboot 39 = .ok (.iload_n 1, 1) := by decide +kernel
theorem dX2_reboot_40 : decode cX2_reboot 40 = .ok (.invokevirtual 91, 3) := by decide +kernel
theorem dX2_reboot_43 : decode cX2_reboot 43 = .ok (.ireturn, 1) := by decide +kernel
theorem dX2_deliver_0 : decode cX2_deliver 0 = .ok (.aload_n 0, 1) := by decide +kernel
theorem dX2_deliver_1 : decode cX2_deliver 1 = .ok (.iload_n 1, 1) := by decide +kernel
theorem dX2_deliver_2 : decode cX2_deliver 2 = .ok (.invokevirtual 95, 3) := by decide +kernel
theorem dX2_deliver_5 : decode cX2_deliver 5 = .ok (.aload_n 0, 1) := by decide +kernel
theorem dX2_deliver_6 : decode cX2_deliver 6 = .ok (.getfield 21, 3) := by decide +kernel
theorem dX2_deliver_9 : decode cX2_deliver 9 = .ok (.getfield 57, 3) := by decide +kernel
theorem dX2_deliver_12 : decode cX2_deliver 12 = .ok (.istore_n 2, 1) := by decide +kernel
theorem dX2_deliver_13 : decode cX2_deliver 13 = .ok (.aload_n 0, 1) := by decide +kernel
theorem dX2_deliver_14 : decode cX2_deliver 14 = .ok (.iload_n 1, 1) := by decide +kernel
theorem dX2_deliver_15 : decode cX2_deliver 15 = .ok (.invokevirtual 98, 3) := by decide +kernel
theorem dX2_deliver_18 : decode cX2_deliver 18 = .ok (.aload_n 0, 1) := by decide +kernel
theorem dX2_deliver_19 : decode cX2_deliver 19 = .ok (.getfield 21, 3) := by decide +kernel
theorem dX2_deliver_22 : decode cX2_deliver 22 = .ok (.getfield 57, 3) := by decide +kernel
theorem dX2_deliver_25 : decode cX2_deliver 25 = .ok (.iload_n 2, 1) := by decide +kernel
theorem dX2_deliver_26 : decode cX2_deliver 26 = .ok (.isub, 1) := by decide +kernel
theorem dX2_deliver_27 : decode cX2_deliver 27 = .ok (.ireturn, 1) := by decide +kernel
theorem dX2_run_0 : decode cX2_run 0 = .ok (.iload_n 1, 1) := by decide +kernel
theorem dX2_run_1 : decode cX2_run 1 = .ok (.sipush 500, 3) := by decide +kernel
theorem dX2_run_4 : decode cX2_run 4 = .ok (.invokestatic 29, 3) := by decide +kernel
theorem dX2_run_7 : decode cX2_run 7 = .ok (.iconst 0, 1) := by decide +kernel
theorem dX2_run_8 : decode cX2_run 8 = .ok (.istore_n 2, 1) := by decide +kernel
theorem dX2_run_9 : decode cX2_run 9 = .ok (.iload_n 2, 1) := by decide +kernel
theorem dX2_run_10 : decode cX2_run 10 = .ok (.iload_n 1, 1) := by decide +kernel
theorem dX2_run_11 : decode cX2_run 11 = .ok (.if_icmp .ge 24, 3) := by decide +kernel
theorem dX2_run_14 : decode cX2_run 14 = .ok (.aload_n 0, 1) := by decide +kernel
theorem dX2_run_15 : decode cX2_run 15 = .ok (.getfield 21, 3) := by decide +kernel
theorem dX2_run_18 : decode cX2_run 18 = .ok (.getfield 101, 3) := by decide +kernel
theorem dX2_run_21 : decode cX2_run 21 = .ok (.ifCond .le 14, 3) := by decide +kernel
theorem dX2_run_24 : decode cX2_run 24 = .ok (.aload_n 0, 1) := by decide +kernel
theorem dX2_run_25 : decode cX2_run 25 = .ok (.iconst 0, 1) := by decide +kernel
theorem dX2_run_26 : decode cX2_run 26 = .ok (.invokevirtual 98, 3) := by decide +kernel
theorem dX2_run_29 : decode cX2_run 29 = .ok (.iinc 2 1, 3) := by decide +kernel
theorem dX2_run_32 : decode cX2_run 32 = .ok (.goto (-23), 3) := by decide +kernel
theorem dX2_run_35 : decode cX2_run 35 = .ok (.iload_n 2, 1) := by decide +kernel
theorem dX2_run_36 : decode cX2_run 36 = .ok (.ireturn, 1) := by decide +kernel
theorem dX2_drop_0 : decode cX2_drop 0 = .ok (.aload_n 0, 1) := by decide +kernel
theorem dX2_drop_1 : decode cX2_drop 1 = .ok (.iload_n 1, 1) := by decide +kernel
theorem dX2_drop_2 : decode cX2_drop 2 = .ok (.invokevirtual 95, 3) := by decide +kernel
theorem dX2_drop_5 : decode cX2_drop 5 = .ok (.aload_n 0, 1) := by decide +kernel
theorem dX2_drop_6 : decode cX2_drop 6 = .ok (.getfield 21, 3) := by decide +kernel
theorem dX2_drop_9 : decode cX2_drop 9 = .ok (.iload_n 1, 1) := by decide +kernel
theorem dX2_drop_10 : decode cX2_drop 10 = .ok (.iconst 0, 1) := by decide +kernel
theorem dX2_drop_11 : decode cX2_drop 11 = .ok (.invokevirtual 104, 3) := by decide +kernel
theorem dX2_drop_14 : decode cX2_drop 14 = .ok (.istore_n 2, 1) := by decide +kernel
theorem dX2_drop_15 : decode cX2_drop 15 = .ok (.aload_n 0, 1) := by decide +kernel
theorem dX2_drop_16 : decode cX2_drop 16 = .ok (.getfield 21, 3) := by decide +kernel
theorem dX2_drop_19 : decode cX2_drop 19 = .ok (.iload_n 1, 1) := by decide +kernel
theorem dX2_drop_20 : decode cX2_drop 20 = .ok (.invokevirtual 107, 3) := by decide +kernel
theorem dX2_drop_23 : decode cX2_drop 23 = .ok (.iload_n 2, 1) := by decide +kernel
theorem dX2_drop_24 : decode cX2_drop 24 = .ok (.ireturn, 1) := by decide +kernel
theorem dX2_copy_0 : decode cX2_copy 0 = .ok (.aload_n 0, 1) := by decide +kernel
theorem dX2_copy_1 : decode cX2_copy 1 = .ok (.iload_n 1, 1) := by decide +kernel
theorem dX2_copy_2 : decode cX2_copy 2 = .ok (.invokevirtual 95, 3) := by decide +kernel
theorem dX2_copy_5 : decode cX2_copy 5 = .ok (.aload_n 0, 1) := by decide +kernel
theorem dX2_copy_6 : decode cX2_copy 6 = .ok (.getfield 21, 3) := by decide +kernel
theorem dX2_copy_9 : decode cX2_copy 9 = .ok (.iload_n 1, 1) := by decide +kernel
theorem dX2_copy_10 : decode cX2_copy 10 = .ok (.invokevirtual 110, 3) := by decide +kernel
theorem dX2_copy_13 : decode cX2_copy 13 = .ok (.ireturn, 1) := by decide +kernel
theorem dX2_letter_0 : decode cX2_letter 0 = .ok (.aload_n 0, 1) := by decide +kernel
theorem dX2_letter_1 : decode cX2_letter 1 = .ok (.iload_n 1, 1) := by decide +kernel
theorem dX2_letter_2 : decode cX2_letter 2 = .ok (.invokevirtual 95, 3) := by decide +kernel
theorem dX2_letter_5 : decode cX2_letter 5 = .ok (.iload_n 2, 1) := by decide +kernel
theorem dX2_letter_6 : decode cX2_letter 6 = .ok (.iconst 5, 1) := by decide +kernel
theorem dX2_letter_7 : decode cX2_letter 7 = .ok (.invokestatic 29, 3) := by decide +kernel
theorem dX2_letter_10 : decode cX2_letter 10 = .ok (.aload_n 0, 1) := by decide +kernel
theorem dX2_letter_11 : decode cX2_letter 11 = .ok (.getfield 21, 3) := by decide +kernel
theorem dX2_letter_14 : decode cX2_letter 14 = .ok (.iload_n 1, 1) := by decide +kernel
theorem dX2_letter_15 : decode cX2_letter 15 = .ok (.iload_n 2, 1) := by decide +kernel
theorem dX2_letter_16 : decode cX2_letter 16 = .ok (.invokevirtual 104, 3) := by decide +kernel
theorem dX2_letter_19 : decode cX2_letter 19 = .ok (.ireturn, 1) := by decide +kernel
theorem dX2_way_0 : decode cX2_way 0 = .ok (.iload_n 1, 1) := by decide +kernel
theorem dX2_way_1 : decode cX2_way 1 = .ok (.invokestatic 54, 3) := by decide +kernel
theorem dX2_way_4 : decode cX2_way 4 = .ok (.iload_n 2, 1) := by decide +kernel
theorem dX2_way_5 : decode cX2_way 5 = .ok (.invokestatic 54, 3) := by decide +kernel
theorem dX2_way_8 : decode cX2_way 8 = .ok (.iload_n 3, 1) := by decide +kernel
theorem dX2_way_9 : decode cX2_way 9 = .ok (.iconst 4, 1) := by decide +kernel
theorem dX2_way_10 : decode cX2_way 10 = .ok (.invokestatic 29, 3) := by decide +kernel
theorem dX2_way_13 : decode cX2_way 13 = .ok (.aload_n 0, 1) := by decide +kernel
theorem dX2_way_14 : decode cX2_way 14 = .ok (.getfield 11, 3) := by decide +kernel
theorem dX2_way_17 : decode cX2_way 17 = .ok (.iload_n 1, 1) := by decide +kernel
theorem dX2_way_18 : decode cX2_way 18 = .ok (.aaload, 1) := by decide +kernel
theorem dX2_way_19 : decode cX2_way 19 = .ok (.astore 4, 2) := by decide +kernel
theorem dX2_way_21 : decode cX2_way 21 = .ok (.iload_n 3, 1) := by decide +kernel
theorem dX2_way_22 : decode cX2_way 22 = .ok (.tableswitch 62 0 3 #[30, 38, 46, 54], 30) := by decide +kernel
theorem dX2_way_52 : decode cX2_way 52 = .ok (.aload 4, 2) := by decide +kernel
theorem dX2_way_54 : decode cX2_way 54 = .ok (.getfield 113, 3) := by decide +kernel
theorem dX2_way_57 : decode cX2_way 57 = .ok (.iload_n 2, 1) := by decide +kernel
theorem dX2_way_58 : decode cX2_way 58 = .ok (.iaload, 1) := by decide +kernel
theorem dX2_way_59 : decode cX2_way 59 = .ok (.ireturn, 1) := by decide +kernel
theorem dX2_way_60 : decode cX2_way 60 = .ok (.aload 4, 2) := by decide +kernel
theorem dX2_way_62 : decode cX2_way 62 = .ok (.getfield 116, 3) := by decide +kernel
theorem dX2_way_65 : decode cX2_way 65 = .ok (.iload_n 2, 1) := by decide +kernel
theorem dX2_way_66 : decode cX2_way 66 = .ok (.iaload, 1) := by decide +kernel
theorem dX2_way_67 : decode cX2_way 67 = .ok (.ireturn, 1) := by decide +kernel
theorem dX2_way_68 : decode cX2_way 68 = .ok (.aload 4, 2) := by decide +kernel
theorem dX2_way_70 : decode cX2_way 70 = .ok (.getfield 119, 3) := by decide +kernel
theorem dX2_way_73 : decode cX2_way 73 = .ok (.iload_n 2, 1) := by decide +kernel
theorem dX2_way_74 : decode cX2_way 74 = .ok (.iaload, 1) := by decide +kernel
theorem dX2_way_75 : decode cX2_way 75 = .ok (.ireturn, 1) := by decide +kernel
theorem dX2_way_76 : decode cX2_way 76 = .ok (.aload 4, 2) := by decide +kernel
theorem dX2_way_78 : decode cX2_way 78 = .ok (.getfield 122, 3) := by decide +kernel
theorem dX2_way_81 : decode cX2_way 81 = .ok (.iload_n 2, 1) := by decide +kernel
theorem dX2_way_82 : decode cX2_way 82 = .ok (.iaload, 1) := by decide +kernel
theorem dX2_way_83 : decode cX2_way 83 = .ok (.ireturn, 1) := by decide +kernel
theorem dX2_way_84 : decode cX2_way 84 = .ok (.aload 4, 2) := by decide +kernel
theorem dX2_way_86 : decode cX2_way 86 = .ok (.getfield 125, 3) := by decide +kernel
theorem dX2_way_89 : decode cX2_way 89 = .ok (.iload_n 2, 1) := by decide +kernel
theorem dX2_way_90 : decode cX2_way 90 = .ok (.iaload, 1) := by decide +kernel
theorem dX2_way_91 : decode cX2_way 91 = .ok (.ireturn, 1) := by decide +kernel
theorem dX2_told_0 : decode cX2_told 0 = .ok (.iload_n 1, 1) := by decide +kernel
theorem dX2_told_1 : decode cX2_told 1 = .ok (.iload_n 2, 1) := by decide +kernel
theorem dX2_told_2 : decode cX2_told 2 = .ok (.invokestatic 25, 3) := by decide +kernel
theorem dX2_told_5 : decode cX2_told 5 = .ok (.iload_n 1, 1) := by decide +kernel
theorem dX2_told_6 : decode cX2_told 6 = .ok (.iload_n 3, 1) := by decide +kernel
theorem dX2_told_7 : decode cX2_told 7 = .ok (.invokestatic 25, 3) := by decide +kernel
theorem dX2_told_10 : decode cX2_told 10 = .ok (.iload 4, 2) := by decide +kernel
theorem dX2_told_12 : decode cX2_told 12 = .ok (.iconst 2, 1) := by decide +kernel
theorem dX2_told_13 : decode cX2_told 13 = .ok (.invokestatic 29, 3) := by decide +kernel
theorem dX2_told_16 : decode cX2_told 16 = .ok (.aload_n 0, 1) := by decide +kernel
theorem dX2_told_17 : decode cX2_told 17 = .ok (.getfield 11, 3) := by decide +kernel
theorem dX2_told_20 : decode cX2_told 20 = .ok (.iload_n 1, 1) := by decide +kernel
theorem dX2_told_21 : decode cX2_told 21 = .ok (.aaload, 1) := by decide +kernel
theorem dX2_told_22 : decode cX2_told 22 = .ok (.astore 5, 2) := by decide +kernel
theorem dX2_told_24 : decode cX2_told 24 = .ok (.aload 5, 2) := by decide +kernel
theorem dX2_told_26 : decode cX2_told 26 = .ok (.getfield 128, 3) := by decide +kernel
theorem dX2_told_29 : decode cX2_told 29 = .ok (.iload_n 2, 1) := by decide +kernel
theorem dX2_told_30 : decode cX2_told 30 = .ok (.aaload, 1) := by decide +kernel
theorem dX2_told_31 : decode cX2_told 31 = .ok (.iload_n 3, 1) := by decide +kernel
theorem dX2_told_32 : decode cX2_told 32 = .ok (.iaload, 1) := by decide +kernel
theorem dX2_told_33 : decode cX2_told 33 = .ok (.istore 6, 2) := by decide +kernel
theorem dX2_told_35 : decode cX2_told 35 = .ok (.aload 5, 2) := by decide +kernel
theorem dX2_told_37 : decode cX2_told 37 = .ok (.getfield 132, 3) := by decide +kernel
theorem dX2_told_40 : decode cX2_told 40 = .ok (.iload_n 2, 1) := by decide +kernel
theorem dX2_told_41 : decode cX2_told 41 = .ok (.aaload, 1) := by decide +kernel
theorem dX2_told_42 : decode cX2_told 42 = .ok (.iload_n 3, 1) := by decide +kernel
theorem dX2_told_43 : decode cX2_told 43 = .ok (.iaload, 1) := by decide +kernel
theorem dX2_told_44 : decode cX2_told 44 = .ok (.istore 7, 2) := by decide +kernel
theorem dX2_told_46 : decode cX2_told 46 = .ok (.iload 4, 2) := by decide +kernel
theorem dX2_told_48 : decode cX2_told 48 = .ok (.ifCond .ne 6, 3) := by decide +kernel
theorem dX2_told_51 : decode cX2_told 51 = .ok (.iload 6, 2) := by decide +kernel
theorem dX2_told_53 : decode cX2_told 53 = .ok (.ireturn, 1) := by decide +kernel
theorem dX2_told_54 : decode cX2_told 54 = .ok (.iload 4, 2) := by decide +kernel
theorem dX2_told_56 : decode cX2_told 56 = .ok (.iconst 1, 1) := by decide +kernel
theorem dX2_told_57 : decode cX2_told 57 = .ok (.if_icmp .ne 6, 3) := by decide +kernel
theorem dX2_told_60 : decode cX2_told 60 = .ok (.iload 7, 2) := by decide +kernel
theorem dX2_told_62 : decode cX2_told 62 = .ok (.ireturn, 1) := by decide +kernel
theorem dX2_told_63 : decode cX2_told 63 = .ok (.iload 6, 2) := by decide +kernel
theorem dX2_told_65 : decode cX2_told 65 = .ok (.iconst (-1), 1) := by decide +kernel
theorem dX2_told_66 : decode cX2_told 66 = .ok (.if_icmp .eq 20, 3) := by decide +kernel
theorem dX2_told_69 : decode cX2_told 69 = .ok (.aload 5, 2) := by decide +kernel
theorem dX2_told_71 : decode cX2_told 71 = .ok (.iload_n 3, 1) := by decide +kernel
theorem dX2_told_72 : decode cX2_told 72 = .ok (.iload 6, 2) := by decide +kernel
theorem dX2_told_74 : decode cX2_told 74 = .ok (.iload 7, 2) := by decide +kernel
theorem dX2_told_76 : decode cX2_told 76 = .ok (.invokevirtual 135, 3) := by decide +kernel
theorem dX2_told_79 : decode cX2_told 79 = .ok (.ifCond .eq 7, 3) := by decide +kernel
theorem dX2_told_82 : decode cX2_told 82 = .ok (.iconst 1, 1) := by decide +kernel
theorem dX2_told_83 : decode cX2_told 83 = .ok (.goto 4, 3) := by decide +kernel
theorem dX2_told_86 : decode cX2_told 86 = .ok (.iconst 0, 1) := by decide +kernel
theorem dX2_told_87 : decode cX2_told 87 = .ok (.ireturn, 1) := by decide +kernel
theorem dX2_trace_0 : decode cX2_trace 0 = .ok (.iload_n 1, 1) := by decide +kernel
theorem dX2_trace_1 : decode cX2_trace 1 = .ok (.invokestatic 54, 3) := by decide +kernel
theorem dX2_trace_4 : decode cX2_trace 4 = .ok (.iload_n 2, 1) := by decide +kernel
theorem dX2_trace_5 : decode cX2_trace 5 = .ok (.invokestatic 54, 3) := by decide +kernel
theorem dX2_trace_8 : decode cX2_trace 8 = .ok (.iload_n 1, 1) := by decide +kernel
theorem dX2_trace_9 : decode cX2_trace 9 = .ok (.istore_n 3, 1) := by decide +kernel
theorem dX2_trace_10 : decode cX2_trace 10 = .ok (.iconst 0, 1) := by decide +kernel
theorem dX2_trace_11 : decode cX2_trace 11 = .ok (.istore 4, 2) := by decide +kernel
theorem dX2_trace_13 : decode cX2_trace 13 = .ok (.iload 4, 2) := by decide +kernel
theorem dX2_trace_15 : decode cX2_trace 15 = .ok (.bipush 12, 2) := by decide +kernel
theorem dX2_trace_17 : decode cX2_trace 17 = .ok (.if_icmp .ge 36, 3) := by decide +kernel
theorem dX2_trace_20 : decode cX2_trace 20 = .ok (.iload_n 3, 1) := by decide +kernel
theorem dX2_trace_21 : decode cX2_trace 21 = .ok (.iload_n 2, 1) := by decide +kernel
theorem dX2_trace_22 : decode cX2_trace 22 = .ok (.if_icmp .ne 6, 3) := by decide +kernel
theorem dX2_trace_25 : decode cX2_trace 25 = .ok (.iload 4, 2) := by decide +kernel
theorem dX2_trace_27 : decode cX2_trace 27 = .ok (.ireturn, 1) := by decide +kernel
theorem dX2_trace_28 : decode cX2_trace 28 = .ok (.aload_n 0, 1) := by decide +kernel
theorem dX2_trace_29 : decode cX2_trace 29 = .ok (.getfield 11, 3) := by decide +kernel
theorem dX2_trace_32 : decode cX2_trace 32 = .ok (.iload_n 3, 1) := by decide +kernel
theorem dX2_trace_33 : decode cX2_trace 33 = .ok (.aaload, 1) := by decide +kernel
theorem dX2_trace_34 : decode cX2_trace 34 = .ok (.getfield 113, 3) := by decide +kernel
theorem dX2_trace_37 : decode cX2_trace 37 = .ok (.iload_n 2, 1) := by decide +kernel
theorem dX2_trace_38 : decode cX2_trace 38 = .ok (.iaload, 1) := by decide +kernel
theorem dX2_trace_39 : decode cX2_trace 39 = .ok (.istore_n 3, 1) := by decide +kernel
theorem dX2_trace_40 : decode cX2_trace 40 = .ok (.iload_n 3, 1) := by decide +kernel
theorem dX2_trace_41 : decode cX2_trace 41 = .ok (.iconst (-1), 1) := by decide +kernel
theorem dX2_trace_42 : decode cX2_trace 42 = .ok (.if_icmp .ne 5, 3) := by decide +kernel
theorem dX2_trace_45 : decode cX2_trace 45 = .ok (.iconst (-1), 1) := by decide +kernel
theorem dX2_trace_46 : decode cX2_trace 46 = .ok (.ireturn, 1) := by decide +kernel
theorem dX2_trace_47 : decode cX2_trace 47 = .ok (.iinc 4 1, 3) := by decide +kernel
theorem dX2_trace_50 : decode cX2_trace 50 = .ok (.goto (-37), 3) := by decide +kernel
theorem dX2_trace_53 : decode cX2_trace 53 = .ok (.iconst (-1), 1) := by decide +kernel
theorem dX2_trace_54 : decode cX2_trace 54 = .ok (.ireturn, 1) := by decide +kernel
theorem dX2_cost_0 : decode cX2_cost 0 = .ok (.iload_n 1, 1) := by decide +kernel
theorem dX2_cost_1 : decode cX2_cost 1 = .ok (.iload_n 2, 1) := by decide +kernel
theorem dX2_cost_2 : decode cX2_cost 2 = .ok (.invokestatic 25, 3) := by decide +kernel
theorem dX2_cost_5 : decode cX2_cost 5 = .ok (.aload_n 0, 1) := by decide +kernel
theorem dX2_cost_6 : decode cX2_cost 6 = .ok (.getfield 11, 3) := by decide +kernel
theorem dX2_cost_9 : decode cX2_cost 9 = .ok (.iload_n 1, 1) := by decide +kernel
theorem dX2_cost_10 : decode cX2_cost 10 = .ok (.aaload, 1) := by decide +kernel
theorem dX2_cost_11 : decode cX2_cost 11 = .ok (.getfield 32, 3) := by decide +kernel
theorem dX2_cost_14 : decode cX2_cost 14 = .ok (.iload_n 2, 1) := by decide +kernel
theorem dX2_cost_15 : decode cX2_cost 15 = .ok (.iaload, 1) := by decide +kernel
theorem dX2_cost_16 : decode cX2_cost 16 = .ok (.ireturn, 1) := by decide +kernel
theorem dX2_total_0 : decode cX2_total 0 = .ok (.iload_n 1, 1) := by decide +kernel
theorem dX2_total_1 : decode cX2_total 1 = .ok (.iconst 4, 1) := by decide +kernel
theorem dX2_total_2 : decode cX2_total 2 = .ok (.invokestatic 29, 3) := by decide +kernel
theorem dX2_total_5 : decode cX2_total 5 = .ok (.iload_n 1, 1) := by decide +kernel
theorem dX2_total_6 : decode cX2_total 6 = .ok (.tableswitch 62 0 3 #[30, 38, 46, 54], 30) := by decide +kernel
theorem dX2_total_36 : decode cX2_total 36 = .ok (.aload_n 0, 1) := by decide +kernel
theorem dX2_total_37 : decode cX2_total 37 = .ok (.getfield 21, 3) := by decide +kernel
theorem dX2_total_40 : decode cX2_total 40 = .ok (.getfield 101, 3) := by decide +kernel
theorem dX2_total_43 : decode cX2_total 43 = .ok (.ireturn, 1) := by decide +kernel
theorem dX2_total_44 : decode cX2_total 44 = .ok (.aload_n 0, 1) := by decide +kernel
theorem dX2_total_45 : decode cX2_total 45 = .ok (.getfield 21, 3) := by decide +kernel
theorem dX2_total_48 : decode cX2_total 48 = .ok (.getfield 57, 3) := by decide +kernel
theorem dX2_total_51 : decode cX2_total 51 = .ok (.ireturn, 1) := by decide +kernel
theorem dX2_total_52 : decode cX2_total 52 = .ok (.aload_n 0, 1) := by decide +kernel
theorem dX2_total_53 : decode cX2_total 53 = .ok (.getfield 21, 3) := by decide +kernel
theorem dX2_total_56 : decode cX2_total 56 = .ok (.getfield 139, 3) := by decide +kernel
theorem dX2_total_59 : decode cX2_total 59 = .ok (.ireturn, 1) := by decide +kernel
theorem dX2_total_60 : decode cX2_total 60 = .ok (.aload_n 0, 1) := by decide +kernel
theorem dX2_total_61 : decode cX2_total 61 = .ok (.getfield 21, 3) := by decide +kernel
theorem dX2_total_64 : decode cX2_total 64 = .ok (.getfield 142, 3) := by decide +kernel
theorem dX2_total_67 : decode cX2_total 67 = .ok (.ireturn, 1) := by decide +kernel
theorem dX2_total_68 : decode cX2_total 68 = .ok (.aload_n 0, 1) := by decide +kernel
theorem dX2_total_69 : decode cX2_total 69 = .ok (.invokevirtual 145, 3) := by decide +kernel
theorem dX2_total_72 : decode cX2_total 72 = .ok (.ireturn, 1) := by decide +kernel
theorem dX2_requireNode_0 : decode cX2_requireNode 0 = .ok (.iload_n 0, 1) := by decide +kernel
theorem dX2_requireNode_1 : decode cX2_requireNode 1 = .ok (.ifCond .lt 9, 3) := by decide +kernel
theorem dX2_requireNode_4 : decode cX2_requireNode 4 = .ok (.iload_n 0, 1) := by decide +kernel
theorem dX2_requireNode_5 : decode cX2_requireNode 5 = .ok (.bipush 12, 2) := by decide +kernel
theorem dX2_requireNode_7 : decode cX2_requireNode 7 = .ok (.if_icmp .lt 13, 3) := by decide +kernel
theorem dX2_requireNode_10 : decode cX2_requireNode 10 = .ok (.new 148, 3) := by decide +kernel
theorem dX2_requireNode_13 : decode cX2_requireNode 13 = .ok (.dup, 1) := by decide +kernel
theorem dX2_requireNode_14 : decode cX2_requireNode 14 = .ok (.ldc 150, 2) := by decide +kernel
theorem dX2_requireNode_16 : decode cX2_requireNode 16 = .ok (.invokespecial 152, 3) := by decide +kernel
theorem dX2_requireNode_19 : decode cX2_requireNode 19 = .ok (.athrow, 1) := by decide +kernel
theorem dX2_requireNode_20 : decode cX2_requireNode 20 = .ok (.return_, 1) := by decide +kernel
theorem dX2_requirePair_0 : decode cX2_requirePair 0 = .ok (.iload_n 0, 1) := by decide +kernel
theorem dX2_requirePair_1 : decode cX2_requirePair 1 = .ok (.invokestatic 54, 3) := by decide +kernel
theorem dX2_requirePair_4 : decode cX2_requirePair 4 = .ok (.iload_n 1, 1) := by decide +kernel
theorem dX2_requirePair_5 : decode cX2_requirePair 5 = .ok (.invokestatic 54, 3) := by decide +kernel
theorem dX2_requirePair_8 : decode cX2_requirePair 8 = .ok (.iload_n 0, 1) := by decide +kernel
theorem dX2_requirePair_9 : decode cX2_requirePair 9 = .ok (.iload_n 1, 1) := by decide +kernel
theorem dX2_requirePair_10 : decode cX2_requirePair 10 = .ok (.if_icmp .ne 13, 3) := by decide +kernel
theorem dX2_requirePair_13 : decode cX2_requirePair 13 = .ok (.new 148, 3) := by decide +kernel
theorem dX2_requirePair_16 : decode cX2_requirePair 16 = .ok (.dup, 1) := by decide +kernel
theorem dX2_requirePair_17 : decode cX2_requirePair 17 = .ok (.ldc 153, 2) := by decide +kernel
theorem dX2_requirePair_19 : decode cX2_requirePair 19 = .ok (.invokespecial 152, 3) := by decide +kernel
theorem dX2_requirePair_22 : decode cX2_requirePair 22 = .ok (.athrow, 1) := by decide +kernel
theorem dX2_requirePair_23 : decode cX2_requirePair 23 = .ok (.return_, 1) := by decide +kernel
theorem dX2_requireUpTo_0 : decode cX2_requireUpTo 0 = .ok (.iload_n 0, 1) := by decide +kernel
theorem dX2_requireUpTo_1 : decode cX2_requireUpTo 1 = .ok (.ifCond .lt 8, 3) := by decide +kernel
theorem dX2_requireUpTo_4 : decode cX2_requireUpTo 4 = .ok (.iload_n 0, 1) := by decide +kernel
theorem dX2_requireUpTo_5 : decode cX2_requireUpTo 5 = .ok (.iload_n 1, 1) := by decide +kernel
theorem dX2_requireUpTo_6 : decode cX2_requireUpTo 6 = .ok (.if_icmp .le 13, 3) := by decide +kernel
theorem dX2_requireUpTo_9 : decode cX2_requireUpTo 9 = .ok (.new 148, 3) := by decide +kernel
theorem dX2_requireUpTo_12 : decode cX2_requireUpTo 12 = .ok (.dup, 1) := by decide +kernel
theorem dX2_requireUpTo_13 : decode cX2_requireUpTo 13 = .ok (.ldc 155, 2) := by decide +kernel
theorem dX2_requireUpTo_15 : decode cX2_requireUpTo 15 = .ok (.invokespecial 152, 3) := by decide +kernel
theorem dX2_requireUpTo_18 : decode cX2_requireUpTo 18 = .ok (.athrow, 1) := by decide +kernel
theorem dX2_requireUpTo_19 : decode cX2_requireUpTo 19 = .ok (.return_, 1) := by decide +kernel
theorem dX2_requireLetter_0 : decode cX2_requireLetter 0 = .ok (.iload_n 1, 1) := by decide +kernel
theorem dX2_requireLetter_1 : decode cX2_requireLetter 1 = .ok (.ifCond .lt 14, 3) := by decide +kernel
theorem dX2_requireLetter_4 : decode cX2_requireLetter 4 = .ok (.iload_n 1, 1) := by decide +kernel
theorem dX2_requireLetter_5 : decode cX2_requireLetter 5 = .ok (.aload_n 0, 1) := by decide +kernel
theorem dX2_requireLetter_6 : decode cX2_requireLetter 6 = .ok (.getfield 21, 3) := by decide +kernel
theorem dX2_requireLetter_9 : decode cX2_requireLetter 9 = .ok (.getfield 101, 3) := by decide +kernel
theorem dX2_requireLetter_12 : decode cX2_requireLetter 12 = .ok (.if_icmp .lt 13, 3) := by decide +kernel
theorem dX2_requireLetter_15 : decode cX2_requireLetter 15 = .ok (.new 148, 3) := by decide +kernel
theorem dX2_requireLetter_18 : decode cX2_requireLetter 18 = .ok (.dup, 1) := by decide +kernel
theorem dX2_requireLetter_19 : decode cX2_requireLetter 19 = .ok (.ldc 157, 2) := by decide +kernel
theorem dX2_requireLetter_21 : decode cX2_requireLetter 21 = .ok (.invokespecial 152, 3) := by decide +kernel
theorem dX2_requireLetter_24 : decode cX2_requireLetter 24 = .ok (.athrow, 1) := by decide +kernel
theorem dX2_requireLetter_25 : decode cX2_requireLetter 25 = .ok (.return_, 1) := by decide +kernel
theorem dX2_isNewer_0 : decode cX2_isNewer 0 = .ok (.iload_n 0, 1) := by decide +kernel
theorem dX2_isNewer_1 : decode cX2_isNewer 1 = .ok (.iload_n 1, 1) := by decide +kernel
theorem dX2_isNewer_2 : decode cX2_isNewer 2 = .ok (.isub, 1) := by decide +kernel
theorem dX2_isNewer_3 : decode cX2_isNewer 3 = .ok (.ldc 159, 2) := by decide +kernel
theorem dX2_isNewer_5 : decode cX2_isNewer 5 = .ok (.iand, 1) := by decide +kernel
theorem dX2_isNewer_6 : decode cX2_isNewer 6 = .ok (.istore_n 2, 1) := by decide +kernel
theorem dX2_isNewer_7 : decode cX2_isNewer 7 = .ok (.iload_n 2, 1) := by decide +kernel
theorem dX2_isNewer_8 : decode cX2_isNewer 8 = .ok (.iconst 1, 1) := by decide +kernel
theorem dX2_isNewer_9 : decode cX2_isNewer 9 = .ok (.if_icmp .lt 14, 3) := by decide +kernel
theorem dX2_isNewer_12 : decode cX2_isNewer 12 = .ok (.iload_n 2, 1) := by decide +kernel
theorem dX2_isNewer_13 : decode cX2_isNewer 13 = .ok (.sipush 32767, 3) := by decide +kernel
theorem dX2_isNewer_16 : decode cX2_isNewer 16 = .ok (.if_icmp .gt 7, 3) := by decide +kernel
theorem dX2_isNewer_19 : decode cX2_isNewer 19 = .ok (.iconst 1, 1) := by decide +kernel
theorem dX2_isNewer_20 : decode cX2_isNewer 20 = .ok (.goto 4, 3) := by decide +kernel
theorem dX2_isNewer_23 : decode cX2_isNewer 23 = .ok (.iconst 0, 1) := by decide +kernel
theorem dX2_isNewer_24 : decode cX2_isNewer 24 = .ok (.ireturn, 1) := by decide +kernel
theorem dX2_nextNumber_0 : decode cX2_nextNumber 0 = .ok (.iload_n 0, 1) := by decide +kernel
theorem dX2_nextNumber_1 : decode cX2_nextNumber 1 = .ok (.iconst 1, 1) := by decide +kernel
theorem dX2_nextNumber_2 : decode cX2_nextNumber 2 = .ok (.iadd, 1) := by decide +kernel
theorem dX2_nextNumber_3 : decode cX2_nextNumber 3 = .ok (.ldc 159, 2) := by decide +kernel
theorem dX2_nextNumber_5 : decode cX2_nextNumber 5 = .ok (.iand, 1) := by decide +kernel
theorem dX2_nextNumber_6 : decode cX2_nextNumber 6 = .ok (.ireturn, 1) := by decide +kernel
theorem dX2_countAllLinks_0 : decode cX2_countAllLinks 0 = .ok (.iconst 0, 1) := by decide +kernel
theorem dX2_countAllLinks_1 : decode cX2_countAllLinks 1 = .ok (.istore_n 1, 1) := by decide +kernel
theorem dX2_countAllLinks_2 : decode cX2_countAllLinks 2 = .ok (.iconst 0, 1) := by decide +kernel
theorem dX2_countAllLinks_3 : decode cX2_countAllLinks 3 = .ok (.istore_n 2, 1) := by decide +kernel
theorem dX2_countAllLinks_4 : decode cX2_countAllLinks 4 = .ok (.iload_n 2, 1) := by decide +kernel
theorem dX2_countAllLinks_5 : decode cX2_countAllLinks 5 = .ok (.bipush 12, 2) := by decide +kernel
theorem dX2_countAllLinks_7 : decode cX2_countAllLinks 7 = .ok (.if_icmp .ge 21, 3) := by decide +kernel
theorem dX2_countAllLinks_10 : decode cX2_countAllLinks 10 = .ok (.iload_n 1, 1) := by decide +kernel
theorem dX2_countAllLinks_11 : decode cX2_countAllLinks 11 = .ok (.aload_n 0, 1) := by decide +kernel
theorem dX2_countAllLinks_12 : decode cX2_countAllLinks 12 = .ok (.getfield 11, 3) := by decide +kernel
theorem dX2_countAllLinks_15 : decode cX2_countAllLinks 15 = .ok (.iload_n 2, 1) := by decide +kernel
theorem dX2_countAllLinks_16 : decode cX2_countAllLinks 16 = .ok (.aaload, 1) := by decide +kernel
theorem dX2_countAllLinks_17 : decode cX2_countAllLinks 17 = .ok (.invokevirtual 78, 3) := by decide +kernel
theorem dX2_countAllLinks_20 : decode cX2_countAllLinks 20 = .ok (.iadd, 1) := by decide +kernel
theorem dX2_countAllLinks_21 : decode cX2_countAllLinks 21 = .ok (.istore_n 1, 1) := by decide +kernel
theorem dX2_countAllLinks_22 : decode cX2_countAllLinks 22 = .ok (.iinc 2 1, 3) := by decide +kernel
theorem dX2_countAllLinks_25 : decode cX2_countAllLinks 25 = .ok (.goto (-21), 3) := by decide +kernel
theorem dX2_countAllLinks_28 : decode cX2_countAllLinks 28 = .ok (.iload_n 1, 1) := by decide +kernel
theorem dX2_countAllLinks_29 : decode cX2_countAllLinks 29 = .ok (.iconst 2, 1) := by decide +kernel
theorem dX2_countAllLinks_30 : decode cX2_countAllLinks 30 = .ok (.idiv, 1) := by decide +kernel
theorem dX2_countAllLinks_31 : decode cX2_countAllLinks 31 = .ok (.ireturn, 1) := by decide +kernel
theorem dX2_handOver_0 : decode cX2_handOver 0 = .ok (.aload_n 0, 1) := by decide +kernel
theorem dX2_handOver_1 : decode cX2_handOver 1 = .ok (.getfield 21, 3) := by decide +kernel
theorem dX2_handOver_4 : decode cX2_handOver 4 = .ok (.iload_n 1, 1) := by decide +kernel
theorem dX2_handOver_5 : decode cX2_handOver 5 = .ok (.iconst 0, 1) := by decide +kernel
theorem dX2_handOver_6 : decode cX2_handOver 6 = .ok (.invokevirtual 104, 3) := by decide +kernel
theorem dX2_handOver_9 : decode cX2_handOver 9 = .ok (.istore_n 2, 1) := by decide +kernel
theorem dX2_handOver_10 : decode cX2_handOver 10 = .ok (.aload_n 0, 1) := by decide +kernel
theorem dX2_handOver_11 : decode cX2_handOver 11 = .ok (.getfield 21, 3) := by decide +kernel
theorem dX2_handOver_14 : decode cX2_handOver 14 = .ok (.iload_n 1, 1) := by decide +kernel
theorem dX2_handOver_15 : decode cX2_handOver 15 = .ok (.iconst 1, 1) := by decide +kernel
theorem dX2_handOver_16 : decode cX2_handOver 16 = .ok (.invokevirtual 104, 3) := by decide +kernel
theorem dX2_handOver_19 : decode cX2_handOver 19 = .ok (.istore_n 3, 1) := by decide +kernel
theorem dX2_handOver_20 : decode cX2_handOver 20 = .ok (.aload_n 0, 1) := by decide +kernel
theorem dX2_handOver_21 : decode cX2_handOver 21 = .ok (.getfield 21, 3) := by decide +kernel
theorem dX2_handOver_24 : decode cX2_handOver 24 = .ok (.iload_n 1, 1) := by decide +kernel
theorem dX2_handOver_25 : decode cX2_handOver 25 = .ok (.iconst 2, 1) := by decide +kernel
theorem dX2_handOver_26 : decode cX2_handOver 26 = .ok (.invokevirtual 104, 3) := by decide +kernel
theorem dX2_handOver_29 : decode cX2_handOver 29 = .ok (.istore 4, 2) := by decide +kernel
theorem dX2_handOver_31 : decode cX2_handOver 31 = .ok (.aload_n 0, 1) := by decide +kernel
theorem dX2_handOver_32 : decode cX2_handOver 32 = .ok (.getfield 21, 3) := by decide +kernel
theorem dX2_handOver_35 : decode cX2_handOver 35 = .ok (.iload_n 1, 1) := by decide +kernel
theorem dX2_handOver_36 : decode cX2_handOver 36 = .ok (.iconst 3, 1) := by decide +kernel
theorem dX2_handOver_37 : decode cX2_handOver 37 = .ok (.invokevirtual 104, 3) := by decide +kernel
theorem dX2_handOver_40 : decode cX2_handOver 40 = .ok (.istore 5, 2) := by decide +kernel
theorem dX2_handOver_42 : decode cX2_handOver 42 = .ok (.aload_n 0, 1) := by decide +kernel
theorem dX2_handOver_43 : decode cX2_handOver 43 = .ok (.getfield 21, 3) := by decide +kernel
theorem dX2_handOver_46 : decode cX2_handOver 46 = .ok (.iload_n 1, 1) := by decide +kernel
theorem dX2_handOver_47 : decode cX2_handOver 47 = .ok (.iconst 4, 1) := by decide +kernel
theorem dX2_handOver_48 : decode cX2_handOver 48 = .ok (.invokevirtual 104, 3) := by decide +kernel
theorem dX2_handOver_51 : decode cX2_handOver 51 = .ok (.istore 6, 2) := by decide +kernel
theorem dX2_handOver_53 : decode cX2_handOver 53 = .ok (.aload_n 0, 1) := by decide +kernel
theorem dX2_handOver_54 : decode cX2_handOver 54 = .ok (.getfield 21, 3) := by decide +kernel
theorem dX2_handOver_57 : decode cX2_handOver 57 = .ok (.iload_n 1, 1) := by decide +kernel
theorem dX2_handOver_58 : decode cX2_handOver 58 = .ok (.iconst 5, 1) := by decide +kernel
theorem dX2_handOver_59 : decode cX2_handOver 59 = .ok (.invokevirtual 104, 3) := by decide +kernel
theorem dX2_handOver_62 : decode cX2_handOver 62 = .ok (.istore 7, 2) := by decide +kernel
theorem dX2_handOver_64 : decode cX2_handOver 64 = .ok (.aload_n 0, 1) := by decide +kernel
theorem dX2_handOver_65 : decode cX2_handOver 65 = .ok (.getfield 21, 3) := by decide +kernel
theorem dX2_handOver_68 : decode cX2_handOver 68 = .ok (.iload_n 1, 1) := by decide +kernel
theorem dX2_handOver_69 : decode cX2_handOver 69 = .ok (.invokevirtual 107, 3) := by decide +kernel
theorem dX2_handOver_72 : decode cX2_handOver 72 = .ok (.aload_n 0, 1) := by decide +kernel
theorem dX2_handOver_73 : decode cX2_handOver 73 = .ok (.getfield 11, 3) := by decide +kernel
theorem dX2_handOver_76 : decode cX2_handOver 76 = .ok (.iload 4, 2) := by decide +kernel
theorem dX2_handOver_78 : decode cX2_handOver 78 = .ok (.aaload, 1) := by decide +kernel
theorem dX2_handOver_79 : decode cX2_handOver 79 = .ok (.getfield 32, 3) := by decide +kernel
theorem dX2_handOver_82 : decode cX2_handOver 82 = .ok (.iload_n 3, 1) := by decide +kernel
theorem dX2_handOver_83 : decode cX2_handOver 83 = .ok (.iaload, 1) := by decide +kernel
theorem dX2_handOver_84 : decode cX2_handOver 84 = .ok (.ifCond .ne 19, 3) := by decide +kernel
theorem dX2_handOver_87 : decode cX2_handOver 87 = .ok (.aload_n 0, 1) := by decide +kernel
theorem dX2_handOver_88 : decode cX2_handOver 88 = .ok (.getfield 21, 3) := by decide +kernel
theorem dX2_handOver_91 : decode cX2_handOver 91 = .ok (.dup, 1) := by decide +kernel
theorem dX2_handOver_92 : decode cX2_handOver 92 = .ok (.getfield 142, 3) := by decide +kernel
theorem dX2_handOver_95 : decode cX2_handOver 95 = .ok (.iconst 1, 1) := by decide +kernel
theorem dX2_handOver_96 : decode cX2_handOver 96 = .ok (.iadd, 1) := by decide +kernel
theorem dX2_handOver_97 : decode cX2_handOver 97 = .ok (.putfield 142, 3) := by decide +kernel
theorem dX2_handOver_100 : decode cX2_handOver 100 = .ok (.goto 37, 3) := by decide +kernel
theorem dX2_handOver_103 : decode cX2_handOver 103 = .ok (.iload_n 2, 1) := by decide +kernel
theorem dX2_handOver_104 : decode cX2_handOver 104 = .ok (.iconst 1, 1) := by decide +kernel
theorem dX2_handOver_105 : decode cX2_handOver 105 = .ok (.if_icmp .ne 19, 3) := by decide +kernel
theorem dX2_handOver_108 : decode cX2_handOver 108 = .ok (.aload_n 0, 1) := by decide +kernel
theorem dX2_handOver_109 : decode cX2_handOver 109 = .ok (.iload 4, 2) := by decide +kernel
theorem dX2_handOver_111 : decode cX2_handOver 111 = .ok (.iload_n 3, 1) := by decide +kernel
theorem dX2_handOver_112 : decode cX2_handOver 112 = .ok (.iload 5, 2) := by decide +kernel
theorem dX2_handOver_114 : decode cX2_handOver 114 = .ok (.iload 6, 2) := by decide +kernel
theorem dX2_handOver_116 : decode cX2_handOver 116 = .ok (.iload 7, 2) := by decide +kernel
theorem dX2_handOver_118 : decode cX2_handOver 118 = .ok (.invokevirtual 160, 3) := by decide +kernel
theorem dX2_handOver_121 : decode cX2_handOver 121 = .ok (.goto 16, 3) := by decide +kernel
theorem dX2_handOver_124 : decode cX2_handOver 124 = .ok (.aload_n 0, 1) := by decide +kernel
theorem dX2_handOver_125 : decode cX2_handOver 125 = .ok (.iload 4, 2) := by decide +kernel
theorem dX2_handOver_127 : decode cX2_handOver 127 = .ok (.iload_n 3, 1) := by decide +kernel
theorem dX2_handOver_128 : decode cX2_handOver 128 = .ok (.iload 5, 2) := by decide +kernel
theorem dX2_handOver_130 : decode cX2_handOver 130 = .ok (.iload 6, 2) := by decide +kernel
theorem dX2_handOver_132 : decode cX2_handOver 132 = .ok (.iload 7, 2) := by decide +kernel
theorem dX2_handOver_134 : decode cX2_handOver 134 = .ok (.invokevirtual 164, 3) := by decide +kernel
theorem dX2_handOver_137 : decode cX2_handOver 137 = .ok (.return_, 1) := by decide +kernel
theorem dX2_hearTelling_0 : decode cX2_hearTelling 0 = .ok (.iload_n 3, 1) := by decide +kernel
theorem dX2_hearTelling_1 : decode cX2_hearTelling 1 = .ok (.iload_n 1, 1) := by decide +kernel
theorem dX2_hearTelling_2 : decode cX2_hearTelling 2 = .ok (.if_icmp .ne 4, 3) := by decide +kernel
theorem dX2_hearTelling_5 : decode cX2_hearTelling 5 = .ok (.return_, 1) := by decide +kernel
theorem dX2_hearTelling_6 : decode cX2_hearTelling 6 = .ok (.aload_n 0, 1) := by decide +kernel
theorem dX2_hearTelling_7 : decode cX2_hearTelling 7 = .ok (.getfield 11, 3) := by decide +kernel
theorem dX2_hearTelling_10 : decode cX2_hearTelling 10 = .ok (.iload_n 1, 1) := by decide +kernel
theorem dX2_hearTelling_11 : decode cX2_hearTelling 11 = .ok (.aaload, 1) := by decide +kernel
theorem dX2_hearTelling_12 : decode cX2_hearTelling 12 = .ok (.astore 6, 2) := by decide +kernel
theorem dX2_hearTelling_14 : decode cX2_hearTelling 14 = .ok (.aload 6, 2) := by decide +kernel
theorem dX2_hearTelling_16 : decode cX2_hearTelling 16 = .ok (.getfield 113, 3) := by decide +kernel
theorem dX2_hearTelling_19 : decode cX2_hearTelling 19 = .ok (.iload_n 3, 1) := by decide +kernel
theorem dX2_hearTelling_20 : decode cX2_hearTelling 20 = .ok (.iaload, 1) := by decide +kernel
theorem dX2_hearTelling_21 : decode cX2_hearTelling 21 = .ok (.iload_n 2, 1) := by decide +kernel
theorem dX2_hearTelling_22 : decode cX2_hearTelling 22 = .ok (.if_icmp .ne 27, 3) := by decide +kernel
theorem dX2_hearTelling_25 : decode cX2_hearTelling 25 = .ok (.iload 5, 2) := by decide +kernel
theorem dX2_hearTelling_27 : decode cX2_hearTelling 27 = .ok (.ldc 159, 2) := by decide +kernel
theorem dX2_hearTelling_29 : decode cX2_hearTelling 29 = .ok (.if_icmp .eq 20, 3) := by decide +kernel
theorem dX2_hearTelling_32 : decode cX2_hearTelling 32 = .ok (.aload 6, 2) := by decide +kernel
theorem dX2_hearTelling_34 : decode cX2_hearTelling 34 = .ok (.iload_n 3, 1) := by decide +kernel
theorem dX2_hearTelling_35 : decode cX2_hearTelling 35 = .ok (.iload 4, 2) := by decide +kernel
theorem dX2_hearTelling_37 : decode cX2_hearTelling 37 = .ok (.iload 5, 2) := by decide +kernel
theorem dX2_hearTelling_39 : decode cX2_hearTelling 39 = .ok (.invokevirtual 135, 3) := by decide +kernel
theorem dX2_hearTelling_42 : decode cX2_hearTelling 42 = .ok (.ifCond .ne 7, 3) := by decide +kernel
theorem dX2_hearTelling_45 : decode cX2_hearTelling 45 = .ok (.iconst 1, 1) := by decide +kernel
theorem dX2_hearTelling_46 : decode cX2_hearTelling 46 = .ok (.goto 4, 3) := by decide +kernel
theorem dX2_hearTelling_49 : decode cX2_hearTelling 49 = .ok (.iconst 0, 1) := by decide +kernel
theorem dX2_hearTelling_50 : decode cX2_hearTelling 50 = .ok (.istore 7, 2) := by decide +kernel
theorem dX2_hearTelling_52 : decode cX2_hearTelling 52 = .ok (.iload 7, 2) := by decide +kernel
theorem dX2_hearTelling_54 : decode cX2_hearTelling 54 = .ok (.ifCond .ne 25, 3) := by decide +kernel
theorem dX2_hearTelling_57 : decode cX2_hearTelling 57 = .ok (.aload 6, 2) := by decide +kernel
theorem dX2_hearTelling_59 : decode cX2_hearTelling 59 = .ok (.getfield 128, 3) := by decide +kernel
theorem dX2_hearTelling_62 : decode cX2_hearTelling 62 = .ok (.iload_n 2, 1) := by decide +kernel
theorem dX2_hearTelling_63 : decode cX2_hearTelling 63 = .ok (.aaload, 1) := by decide +kernel
theorem dX2_hearTelling_64 : decode cX2_hearTelling 64 = .ok (.iload_n 3, 1) := by decide +kernel
theorem dX2_hearTelling_65 : decode cX2_hearTelling 65 = .ok (.iload 4, 2) := by decide +kernel
theorem dX2_hearTelling_67 : decode cX2_hearTelling 67 = .ok (.iastore, 1) := by decide +kernel
theorem dX2_hearTelling_68 : decode cX2_hearTelling 68 = .ok (.aload 6, 2) := by decide +kernel
theorem dX2_hearTelling_70 : decode cX2_hearTelling 70 = .ok (.getfield 132, 3) := by decide +kernel
theorem dX2_hearTelling_73 : decode cX2_hearTelling 73 = .ok (.iload_n 2, 1) := by decide +kernel
theorem dX2_hearTelling_74 : decode cX2_hearTelling 74 = .ok (.aaload, 1) := by decide +kernel
theorem dX2_hearTelling_75 : decode cX2_hearTelling 75 = .ok (.iload_n 3, 1) := by decide +kernel
theorem dX2_hearTelling_76 : decode cX2_hearTelling 76 = .ok (.iload 5, 2) := by decide +kernel
theorem dX2_hearTelling_78 : decode cX2_hearTelling 78 = .ok (.iastore, 1) := by decide +kernel
theorem dX2_hearTelling_79 : decode cX2_hearTelling 79 = .ok (.aload_n 0, 1) := by decide +kernel
theorem dX2_hearTelling_80 : decode cX2_hearTelling 80 = .ok (.iload_n 1, 1) := by decide +kernel
theorem dX2_hearTelling_81 : decode cX2_hearTelling 81 = .ok (.iload_n 3, 1) := by decide +kernel
theorem dX2_hearTelling_82 : decode cX2_hearTelling 82 = .ok (.invokevirtual 167, 3) := by decide +kernel
theorem dX2_hearTelling_85 : decode cX2_hearTelling 85 = .ok (.return_, 1) := by decide +kernel
theorem dX2_hearRequest_0 : decode cX2_hearRequest 0 = .ok (.aload_n 0, 1) := by decide +kernel
theorem dX2_hearRequest_1 : decode cX2_hearRequest 1 = .ok (.getfield 11, 3) := by decide +kernel
theorem dX2_hearRequest_4 : decode cX2_hearRequest 4 = .ok (.iload_n 1, 1) := by decide +kernel
theorem dX2_hearRequest_5 : decode cX2_hearRequest 5 = .ok (.aaload, 1) := by decide +kernel
theorem dX2_hearRequest_6 : decode cX2_hearRequest 6 = .ok (.astore 6, 2) := by decide +kernel
theorem dX2_hearRequest_8 : decode cX2_hearRequest 8 = .ok (.iload_n 3, 1) := by decide +kernel
theorem dX2_hearRequest_9 : decode cX2_hearRequest 9 = .ok (.iload_n 1, 1) := by decide +kernel
theorem dX2_hearRequest_10 : decode cX2_hearRequest 10 = .ok (.if_icmp .ne 33, 3) := by decide +kernel
theorem dX2_hearRequest_13 : decode cX2_hearRequest 13 = .ok (.iload 4, 2) := by decide +kernel
theorem dX2_hearRequest_15 : decode cX2_hearRequest 15 = .ok (.aload 6, 2) := by decide +kernel
theorem dX2_hearRequest_17 : decode cX2_hearRequest 17 = .ok (.getfield 116, 3) := by decide +kernel
theorem dX2_hearRequest_20 : decode cX2_hearRequest 20 = .ok (.iload_n 1, 1) := by decide +kernel
theorem dX2_hearRequest_21 : decode cX2_hearRequest 21 = .ok (.iaload, 1) := by decide +kernel
theorem dX2_hearRequest_22 : decode cX2_hearRequest 22 = .ok (.invokestatic 170, 3) := by decide +kernel
theorem dX2_hearRequest_25 : decode cX2_hearRequest 25 = .ok (.ifCond .eq 9, 3) := by decide +kernel
theorem dX2_hearRequest_28 : decode cX2_hearRequest 28 = .ok (.aload 6, 2) := by decide +kernel
theorem dX2_hearRequest_30 : decode cX2_hearRequest 30 = .ok (.invokevirtual 71, 3) := by decide +kernel
theorem dX2_hearRequest_33 : decode cX2_hearRequest 33 = .ok (.pop, 1) := by decide +kernel
theorem dX2_hearRequest_34 : decode cX2_hearRequest 34 = .ok (.aload_n 0, 1) := by decide +kernel
theorem dX2_hearRequest_35 : decode cX2_hearRequest 35 = .ok (.iload_n 1, 1) := by decide +kernel
theorem dX2_hearRequest_36 : decode cX2_hearRequest 36 = .ok (.iload_n 1, 1) := by decide +kernel
theorem dX2_hearRequest_37 : decode cX2_hearRequest 37 = .ok (.invokevirtual 68, 3) := by decide +kernel
theorem dX2_hearRequest_40 : decode cX2_hearRequest 40 = .ok (.goto 76, 3) := by decide +kernel
theorem dX2_hearRequest_43 : decode cX2_hearRequest 43 = .ok (.aload 6, 2) := by decide +kernel
theorem dX2_hearRequest_45 : decode cX2_hearRequest 45 = .ok (.iload_n 3, 1) := by decide +kernel
theorem dX2_hearRequest_46 : decode cX2_hearRequest 46 = .ok (.invokevirtual 61, 3) := by decide +kernel
theorem dX2_hearRequest_49 : decode cX2_hearRequest 49 = .ok (.ifCond .eq 28, 3) := by decide +kernel
theorem dX2_hearRequest_52 : decode cX2_hearRequest 52 = .ok (.iload 4, 2) := by decide +kernel
theorem dX2_hearRequest_54 : decode cX2_hearRequest 54 = .ok (.aload 6, 2) := by decide +kernel
theorem dX2_hearRequest_56 : decode cX2_hearRequest 56 = .ok (.getfield 116, 3) := by decide +kernel
theorem dX2_hearRequest_59 : decode cX2_hearRequest 59 = .ok (.iload_n 3, 1) := by decide +kernel
theorem dX2_hearRequest_60 : decode cX2_hearRequest 60 = .ok (.iaload, 1) := by decide +kernel
theorem dX2_hearRequest_61 : decode cX2_hearRequest 61 = .ok (.invokestatic 170, 3) := by decide +kernel
theorem dX2_hearRequest_64 : decode cX2_hearRequest 64 = .ok (.ifCond .ne 13, 3) := by decide +kernel
theorem dX2_hearRequest_67 : decode cX2_hearRequest 67 = .ok (.aload_n 0, 1) := by decide +kernel
theorem dX2_hearRequest_68 : decode cX2_hearRequest 68 = .ok (.iload_n 1, 1) := by decide +kernel
theorem dX2_hearRequest_69 : decode cX2_hearRequest 69 = .ok (.iload_n 2, 1) := by decide +kernel
theorem dX2_hearRequest_70 : decode cX2_hearRequest 70 = .ok (.iload_n 3, 1) := by decide +kernel
theorem dX2_hearRequest_71 : decode cX2_hearRequest 71 = .ok (.invokevirtual 174, 3) := by decide +kernel
theorem dX2_hearRequest_74 : decode cX2_hearRequest 74 = .ok (.goto 42, 3) := by decide +kernel
theorem dX2_hearRequest_77 : decode cX2_hearRequest 77 = .ok (.iload 5, 2) := by decide +kernel
theorem dX2_hearRequest_79 : decode cX2_hearRequest 79 = .ok (.iconst 1, 1) := by decide +kernel
theorem dX2_hearRequest_80 : decode cX2_hearRequest 80 = .ok (.if_icmp .le 36, 3) := by decide +kernel
theorem dX2_hearRequest_83 : decode cX2_hearRequest 83 = .ok (.aload 6, 2) := by decide +kernel
theorem dX2_hearRequest_85 : decode cX2_hearRequest 85 = .ok (.iload_n 3, 1) := by decide +kernel
theorem dX2_hearRequest_86 : decode cX2_hearRequest 86 = .ok (.iload 4, 2) := by decide +kernel
theorem dX2_hearRequest_88 : decode cX2_hearRequest 88 = .ok (.invokevirtual 178, 3) := by decide +kernel
theorem dX2_hearRequest_91 : decode cX2_hearRequest 91 = .ok (.ifCond .ne 25, 3) := by decide +kernel
theorem dX2_hearRequest_94 : decode cX2_hearRequest 94 = .ok (.aload 6, 2) := by decide +kernel
theorem dX2_hearRequest_96 : decode cX2_hearRequest 96 = .ok (.getfield 181, 3) := by decide +kernel
theorem dX2_hearRequest_99 : decode cX2_hearRequest 99 = .ok (.iload_n 3, 1) := by decide +kernel
theorem dX2_hearRequest_100 : decode cX2_hearRequest 100 = .ok (.iload 4, 2) := by decide +kernel
theorem dX2_hearRequest_102 : decode cX2_hearRequest 102 = .ok (.iastore, 1) := by decide +kernel
theorem dX2_hearRequest_103 : decode cX2_hearRequest 103 = .ok (.aload_n 0, 1) := by decide +kernel
theorem dX2_hearRequest_104 : decode cX2_hearRequest 104 = .ok (.iload_n 1, 1) := by decide +kernel
theorem dX2_hearRequest_105 : decode cX2_hearRequest 105 = .ok (.iload_n 2, 1) := by decide +kernel
theorem dX2_hearRequest_106 : decode cX2_hearRequest 106 = .ok (.iload_n 3, 1) := by decide +kernel
theorem dX2_hearRequest_107 : decode cX2_hearRequest 107 = .ok (.iload 4, 2) := by decide +kernel
theorem dX2_hearRequest_109 : decode cX2_hearRequest 109 = .ok (.iload 5, 2) := by decide +kernel
theorem dX2_hearRequest_111 : decode cX2_hearRequest 111 = .ok (.iconst 1, 1) := by decide +kernel
theorem dX2_hearRequest_112 : decode cX2_hearRequest 112 = .ok (.isub, 1) := by decide +kernel
theorem dX2_hearRequest_113 : decode cX2_hearRequest 113 = .ok (.invokevirtual 184, 3) := by decide +kernel
theorem dX2_hearRequest_116 : decode cX2_hearRequest 116 = .ok (.return_, 1) := by decide +kernel
theorem dX2_chooseEverywhere_0 : decode cX2_chooseEverywhere 0 = .ok (.iconst 0, 1) := by decide +kernel
theorem dX2_chooseEverywhere_1 : decode cX2_chooseEverywhere 1 = .ok (.istore_n 2, 1) := by decide +kernel
theorem dX2_chooseEverywhere_2 : decode cX2_chooseEverywhere 2 = .ok (.iload_n 2, 1) := by decide +kernel
theorem dX2_chooseEverywhere_3 : decode cX2_chooseEverywhere 3 = .ok (.bipush 12, 2) := by decide +kernel
theorem dX2_chooseEverywhere_5 : decode cX2_chooseEverywhere 5 = .ok (.if_icmp .ge 20, 3) := by decide +kernel
theorem dX2_chooseEverywhere_8 : decode cX2_chooseEverywhere 8 = .ok (.iload_n 2, 1) := by decide +kernel
theorem dX2_chooseEverywhere_9 : decode cX2_chooseEverywhere 9 = .ok (.iload_n 1, 1) := by decide +kernel
theorem dX2_chooseEverywhere_10 : decode cX2_chooseEverywhere 10 = .ok (.if_icmp .eq 9, 3) := by decide +kernel
theorem dX2_chooseEverywhere_13 : decode cX2_chooseEverywhere 13 = .ok (.aload_n 0, 1) := by decide +kernel
theorem dX2_chooseEverywhere_14 : decode cX2_chooseEverywhere 14 = .ok (.iload_n 1, 1) := by decide +kernel
theorem dX2_chooseEverywhere_15 : decode cX2_chooseEverywhere 15 = .ok (.iload_n 2, 1) := by decide +kernel
theorem dX2_chooseEverywhere_16 : decode cX2_chooseEverywhere 16 = .ok (.invokevirtual 167, 3) := by decide +kernel
theorem dX2_chooseEverywhere_19 : decode cX2_chooseEverywhere 19 = .ok (.iinc 2 1, 3) := by decide +kernel
theorem dX2_chooseEverywhere_22 : decode cX2_chooseEverywhere 22 = .ok (.goto (-20), 3) := by decide +kernel
theorem dX2_chooseEverywhere_25 : decode cX2_chooseEverywhere 25 = .ok (.return_, 1) := by decide +kernel
theorem dX2_chooseAnew_0 : decode cX2_chooseAnew 0 = .ok (.aload_n 0, 1) := by decide +kernel
theorem dX2_chooseAnew_1 : decode cX2_chooseAnew 1 = .ok (.getfield 11, 3) := by decide +kernel
theorem dX2_chooseAnew_4 : decode cX2_chooseAnew 4 = .ok (.iload_n 1, 1) := by decide +kernel
theorem dX2_chooseAnew_5 : decode cX2_chooseAnew 5 = .ok (.aaload, 1) := by decide +kernel
theorem dX2_chooseAnew_6 : decode cX2_chooseAnew 6 = .ok (.iload_n 2, 1) := by decide +kernel
theorem dX2_chooseAnew_7 : decode cX2_chooseAnew 7 = .ok (.invokevirtual 187, 3) := by decide +kernel
theorem dX2_chooseAnew_10 : decode cX2_chooseAnew 10 = .ok (.ifCond .ne 4, 3) := by decide +kernel
theorem dX2_chooseAnew_13 : decode cX2_chooseAnew 13 = .ok (.return_, 1) := by decide +kernel
theorem dX2_chooseAnew_14 : decode cX2_chooseAnew 14 = .ok (.aload_n 0, 1) := by decide +kernel
theorem dX2_chooseAnew_15 : decode cX2_chooseAnew 15 = .ok (.iload_n 1, 1) := by decide +kernel
theorem dX2_chooseAnew_16 : decode cX2_chooseAnew 16 = .ok (.iload_n 2, 1) := by decide +kernel
theorem dX2_chooseAnew_17 : decode cX2_chooseAnew 17 = .ok (.invokevirtual 68, 3) := by decide +kernel
theorem dX2_chooseAnew_20 : decode cX2_chooseAnew 20 = .ok (.aload_n 0, 1) := by decide +kernel
theorem dX2_chooseAnew_21 : decode cX2_chooseAnew 21 = .ok (.getfield 11, 3) := by decide +kernel
theorem dX2_chooseAnew_24 : decode cX2_chooseAnew 24 = .ok (.iload_n 1, 1) := by decide +kernel
theorem dX2_chooseAnew_25 : decode cX2_chooseAnew 25 = .ok (.aaload, 1) := by decide +kernel
theorem dX2_chooseAnew_26 : decode cX2_chooseAnew 26 = .ok (.iload_n 2, 1) := by decide +kernel
theorem dX2_chooseAnew_27 : decode cX2_chooseAnew 27 = .ok (.invokevirtual 61, 3) := by decide +kernel
theorem dX2_chooseAnew_30 : decode cX2_chooseAnew 30 = .ok (.ifCond .ne 9, 3) := by decide +kernel
theorem dX2_chooseAnew_33 : decode cX2_chooseAnew 33 = .ok (.aload_n 0, 1) := by decide +kernel
theorem dX2_chooseAnew_34 : decode cX2_chooseAnew 34 = .ok (.iload_n 1, 1) := by decide +kernel
theorem dX2_chooseAnew_35 : decode cX2_chooseAnew 35 = .ok (.iload_n 2, 1) := by decide +kernel
theorem dX2_chooseAnew_36 : decode cX2_chooseAnew 36 = .ok (.invokevirtual 75, 3) := by decide +kernel
theorem dX2_chooseAnew_39 : decode cX2_chooseAnew 39 = .ok (.return_, 1) := by decide +kernel
theorem dX2_tellEveryWay_0 : decode cX2_tellEveryWay 0 = .ok (.iconst 0, 1) := by decide +kernel
theorem dX2_tellEveryWay_1 : decode cX2_tellEveryWay 1 = .ok (.istore_n 3, 1) := by decide +kernel
theorem dX2_tellEveryWay_2 : decode cX2_tellEveryWay 2 = .ok (.iload_n 3, 1) := by decide +kernel
theorem dX2_tellEveryWay_3 : decode cX2_tellEveryWay 3 = .ok (.bipush 12, 2) := by decide +kernel
theorem dX2_tellEveryWay_5 : decode cX2_tellEveryWay 5 = .ok (.if_icmp .ge 29, 3) := by decide +kernel
theorem dX2_tellEveryWay_8 : decode cX2_tellEveryWay 8 = .ok (.aload_n 0, 1) := by decide +kernel
theorem dX2_tellEveryWay_9 : decode cX2_tellEveryWay 9 = .ok (.getfield 11, 3) := by decide +kernel
theorem dX2_tellEveryWay_12 : decode cX2_tellEveryWay 12 = .ok (.iload_n 1, 1) := by decide +kernel
theorem dX2_tellEveryWay_13 : decode cX2_tellEveryWay 13 = .ok (.aaload, 1) := by decide +kernel
theorem dX2_tellEveryWay_14 : decode cX2_tellEveryWay 14 = .ok (.iload_n 3, 1) := by decide +kernel
theorem dX2_tellEveryWay_15 : decode cX2_tellEveryWay 15 = .ok (.invokevirtual 61, 3) := by decide +kernel
theorem dX2_tellEveryWay_18 : decode cX2_tellEveryWay 18 = .ok (.ifCond .eq 10, 3) := by decide +kernel
theorem dX2_tellEveryWay_21 : decode cX2_tellEveryWay 21 = .ok (.aload_n 0, 1) := by decide +kernel
theorem dX2_tellEveryWay_22 : decode cX2_tellEveryWay 22 = .ok (.iload_n 1, 1) := by decide +kernel
theorem dX2_tellEveryWay_23 : decode cX2_tellEveryWay 23 = .ok (.iload_n 2, 1) := by decide +kernel
theorem dX2_tellEveryWay_24 : decode cX2_tellEveryWay 24 = .ok (.iload_n 3, 1) := by decide +kernel
theorem dX2_tellEveryWay_25 : decode cX2_tellEveryWay 25 = .ok (.invokevirtual 174, 3) := by decide +kernel
theorem dX2_tellEveryWay_28 : decode cX2_tellEveryWay 28 = .ok (.iinc 3 1, 3) := by decide +kernel
theorem dX2_tellEveryWay_31 : decode cX2_tellEveryWay 31 = .ok (.goto (-29), 3) := by decide +kernel
theorem dX2_tellEveryWay_34 : decode cX2_tellEveryWay 34 = .ok (.return_, 1) := by decide +kernel
theorem dX2_tellAll_0 : decode cX2_tellAll 0 = .ok (.iconst 0, 1) := by decide +kernel
theorem dX2_tellAll_1 : decode cX2_tellAll 1 = .ok (.istore_n 3, 1) := by decide +kernel
theorem dX2_tellAll_2 : decode cX2_tellAll 2 = .ok (.iload_n 3, 1) := by decide +kernel
theorem dX2_tellAll_3 : decode cX2_tellAll 3 = .ok (.bipush 12, 2) := by decide +kernel
theorem dX2_tellAll_5 : decode cX2_tellAll 5 = .ok (.if_icmp .ge 30, 3) := by decide +kernel
theorem dX2_tellAll_8 : decode cX2_tellAll 8 = .ok (.aload_n 0, 1) := by decide +kernel
theorem dX2_tellAll_9 : decode cX2_tellAll 9 = .ok (.getfield 11, 3) := by decide +kernel
theorem dX2_tellAll_12 : decode cX2_tellAll 12 = .ok (.iload_n 1, 1) := by decide +kernel
theorem dX2_tellAll_13 : decode cX2_tellAll 13 = .ok (.aaload, 1) := by decide +kernel
theorem dX2_tellAll_14 : decode cX2_tellAll 14 = .ok (.getfield 32, 3) := by decide +kernel
theorem dX2_tellAll_17 : decode cX2_tellAll 17 = .ok (.iload_n 3, 1) := by decide +kernel
theorem dX2_tellAll_18 : decode cX2_tellAll 18 = .ok (.iaload, 1) := by decide +kernel
theorem dX2_tellAll_19 : decode cX2_tellAll 19 = .ok (.ifCond .eq 10, 3) := by decide +kernel
theorem dX2_tellAll_22 : decode cX2_tellAll 22 = .ok (.aload_n 0, 1) := by decide +kernel
theorem dX2_tellAll_23 : decode cX2_tellAll 23 = .ok (.iload_n 1, 1) := by decide +kernel
theorem dX2_tellAll_24 : decode cX2_tellAll 24 = .ok (.iload_n 3, 1) := by decide +kernel
theorem dX2_tellAll_25 : decode cX2_tellAll 25 = .ok (.iload_n 2, 1) := by decide +kernel
theorem dX2_tellAll_26 : decode cX2_tellAll 26 = .ok (.invokevirtual 174, 3) := by decide +kernel
theorem dX2_tellAll_29 : decode cX2_tellAll 29 = .ok (.iinc 3 1, 3) := by decide +kernel
theorem dX2_tellAll_32 : decode cX2_tellAll 32 = .ok (.goto (-30), 3) := by decide +kernel
theorem dX2_tellAll_35 : decode cX2_tellAll 35 = .ok (.return_, 1) := by decide +kernel
theorem dX2_tell_0 : decode cX2_tell 0 = .ok (.aload_n 0, 1) := by decide +kernel
theorem dX2_tell_1 : decode cX2_tell 1 = .ok (.getfield 11, 3) := by decide +kernel
theorem dX2_tell_4 : decode cX2_tell 4 = .ok (.iload_n 1, 1) := by decide +kernel
theorem dX2_tell_5 : decode cX2_tell 5 = .ok (.aaload, 1) := by decide +kernel
theorem dX2_tell_6 : decode cX2_tell 6 = .ok (.astore 4, 2) := by decide +kernel
theorem dX2_tell_8 : decode cX2_tell 8 = .ok (.aload 4, 2) := by decide +kernel
theorem dX2_tell_10 : decode cX2_tell 10 = .ok (.iload_n 3, 1) := by decide +kernel
theorem dX2_tell_11 : decode cX2_tell 11 = .ok (.invokevirtual 61, 3) := by decide +kernel
theorem dX2_tell_14 : decode cX2_tell 14 = .ok (.ifCond .ne 41, 3) := by decide +kernel
theorem dX2_tell_17 : decode cX2_tell 17 = .ok (.aload 4, 2) := by decide +kernel
theorem dX2_tell_19 : decode cX2_tell 19 = .ok (.iload_n 3, 1) := by decide +kernel
theorem dX2_tell_20 : decode cX2_tell 20 = .ok (.invokevirtual 65, 3) := by decide +kernel
theorem dX2_tell_23 : decode cX2_tell 23 = .ok (.ifCond .eq 13, 3) := by decide +kernel
theorem dX2_tell_26 : decode cX2_tell 26 = .ok (.aload 4, 2) := by decide +kernel
theorem dX2_tell_28 : decode cX2_tell 28 = .ok (.getfield 122, 3) := by decide +kernel
theorem dX2_tell_31 : decode cX2_tell 31 = .ok (.iload_n 3, 1) := by decide +kernel
theorem dX2_tell_32 : decode cX2_tell 32 = .ok (.iaload, 1) := by decide +kernel
theorem dX2_tell_33 : decode cX2_tell 33 = .ok (.goto 4, 3) := by decide +kernel
theorem dX2_tell_36 : decode cX2_tell 36 = .ok (.iconst 0, 1) := by decide +kernel
theorem dX2_tell_37 : decode cX2_tell 37 = .ok (.istore 5, 2) := by decide +kernel
theorem dX2_tell_39 : decode cX2_tell 39 = .ok (.aload_n 0, 1) := by decide +kernel
theorem dX2_tell_40 : decode cX2_tell 40 = .ok (.getfield 21, 3) := by decide +kernel
theorem dX2_tell_43 : decode cX2_tell 43 = .ok (.iconst 1, 1) := by decide +kernel
theorem dX2_tell_44 : decode cX2_tell 44 = .ok (.iload_n 1, 1) := by decide +kernel
theorem dX2_tell_45 : decode cX2_tell 45 = .ok (.iload_n 2, 1) := by decide +kernel
theorem dX2_tell_46 : decode cX2_tell 46 = .ok (.iload_n 3, 1) := by decide +kernel
theorem dX2_tell_47 : decode cX2_tell 47 = .ok (.iload 5, 2) := by decide +kernel
theorem dX2_tell_49 : decode cX2_tell 49 = .ok (.ldc 159, 2) := by decide +kernel
theorem dX2_tell_51 : decode cX2_tell 51 = .ok (.invokevirtual 190, 3) := by decide +kernel
theorem dX2_tell_54 : decode cX2_tell 54 = .ok (.return_, 1) := by decide +kernel
theorem dX2_tell_55 : decode cX2_tell 55 = .ok (.aload 4, 2) := by decide +kernel
theorem dX2_tell_57 : decode cX2_tell 57 = .ok (.getfield 116, 3) := by decide +kernel
theorem dX2_tell_60 : decode cX2_tell 60 = .ok (.iload_n 3, 1) := by decide +kernel
theorem dX2_tell_61 : decode cX2_tell 61 = .ok (.iaload, 1) := by decide +kernel
theorem dX2_tell_62 : decode cX2_tell 62 = .ok (.istore 5, 2) := by decide +kernel
theorem dX2_tell_64 : decode cX2_tell 64 = .ok (.aload 4, 2) := by decide +kernel
theorem dX2_tell_66 : decode cX2_tell 66 = .ok (.getfield 119, 3) := by decide +kernel
theorem dX2_tell_69 : decode cX2_tell 69 = .ok (.iload_n 3, 1) := by decide +kernel
theorem dX2_tell_70 : decode cX2_tell 70 = .ok (.iaload, 1) := by decide +kernel
theorem dX2_tell_71 : decode cX2_tell 71 = .ok (.istore 6, 2) := by decide +kernel
theorem dX2_tell_73 : decode cX2_tell 73 = .ok (.iload_n 3, 1) := by decide +kernel
theorem dX2_tell_74 : decode cX2_tell 74 = .ok (.iload_n 1, 1) := by decide +kernel
theorem dX2_tell_75 : decode cX2_tell 75 = .ok (.if_icmp .eq 34, 3) := by decide +kernel
theorem dX2_tell_78 : decode cX2_tell 78 = .ok (.aload 4, 2) := by decide +kernel
theorem dX2_tell_80 : decode cX2_tell 80 = .ok (.iload_n 3, 1) := by decide +kernel
theorem dX2_tell_81 : decode cX2_tell 81 = .ok (.iload 5, 2) := by decide +kernel
theorem dX2_tell_83 : decode cX2_tell 83 = .ok (.iload 6, 2) := by decide +kernel
theorem dX2_tell_85 : decode cX2_tell 85 = .ok (.invokevirtual 135, 3) := by decide +kernel
theorem dX2_tell_88 : decode cX2_tell 88 = .ok (.ifCond .eq 21, 3) := by decide +kernel
theorem dX2_tell_91 : decode cX2_tell 91 = .ok (.aload 4, 2) := by decide +kernel
theorem dX2_tell_93 : decode cX2_tell 93 = .ok (.getfield 122, 3) := by decide +kernel
theorem dX2_tell_96 : decode cX2_tell 96 = .ok (.iload_n 3, 1) := by decide +kernel
theorem dX2_tell_97 : decode cX2_tell 97 = .ok (.iload 5, 2) := by decide +kernel
theorem dX2_tell_99 : decode cX2_tell 99 = .ok (.iastore, 1) := by decide +kernel
theorem dX2_tell_100 : decode cX2_tell 100 = .ok (.aload 4, 2) := by decide +kernel
theorem dX2_tell_102 : decode cX2_tell 102 = .ok (.getfield 125, 3) := by decide +kernel
theorem dX2_tell_105 : decode cX2_tell 105 = .ok (.iload_n 3, 1) := by decide +kernel
theorem dX2_tell_106 : decode cX2_tell 106 = .ok (.iload 6, 2) := by decide +kernel
theorem dX2_tell_108 : decode cX2_tell 108 = .ok (.iastore, 1) := by decide +kernel
theorem dX2_tell_109 : decode cX2_tell 109 = .ok (.aload_n 0, 1) := by decide +kernel
theorem dX2_tell_110 : decode cX2_tell 110 = .ok (.getfield 21, 3) := by decide +kernel
theorem dX2_tell_113 : decode cX2_tell 113 = .ok (.iconst 1, 1) := by decide +kernel
theorem dX2_tell_114 : decode cX2_tell 114 = .ok (.iload_n 1, 1) := by decide +kernel
theorem dX2_tell_115 : decode cX2_tell 115 = .ok (.iload_n 2, 1) := by decide +kernel
theorem dX2_tell_116 : decode cX2_tell 116 = .ok (.iload_n 3, 1) := by decide +kernel
theorem dX2_tell_117 : decode cX2_tell 117 = .ok (.iload 5, 2) := by decide +kernel
theorem dX2_tell_119 : decode cX2_tell 119 = .ok (.iload 6, 2) := by decide +kernel
theorem dX2_tell_121 : decode cX2_tell 121 = .ok (.invokevirtual 190, 3) := by decide +kernel
theorem dX2_tell_124 : decode cX2_tell 124 = .ok (.return_, 1) := by decide +kernel
theorem dX2_askAll_0 : decode cX2_askAll 0 = .ok (.aload_n 0, 1) := by decide +kernel
theorem dX2_askAll_1 : decode cX2_askAll 1 = .ok (.getfield 11, 3) := by decide +kernel
theorem dX2_askAll_4 : decode cX2_askAll 4 = .ok (.iload_n 1, 1) := by decide +kernel
theorem dX2_askAll_5 : decode cX2_askAll 5 = .ok (.aaload, 1) := by decide +kernel
theorem dX2_askAll_6 : decode cX2_askAll 6 = .ok (.astore_n 3, 1) := by decide +kernel
theorem dX2_askAll_7 : decode cX2_askAll 7 = .ok (.aload_n 3, 1) := by decide +kernel
theorem dX2_askAll_8 : decode cX2_askAll 8 = .ok (.iload_n 2, 1) := by decide +kernel
theorem dX2_askAll_9 : decode cX2_askAll 9 = .ok (.invokevirtual 65, 3) := by decide +kernel
theorem dX2_askAll_12 : decode cX2_askAll 12 = .ok (.ifCond .eq 15, 3) := by decide +kernel
theorem dX2_askAll_15 : decode cX2_askAll 15 = .ok (.aload_n 3, 1) := by decide +kernel
theorem dX2_askAll_16 : decode cX2_askAll 16 = .ok (.getfield 122, 3) := by decide +kernel
theorem dX2_askAll_19 : decode cX2_askAll 19 = .ok (.iload_n 2, 1) := by decide +kernel
theorem dX2_askAll_20 : decode cX2_askAll 20 = .ok (.iaload, 1) := by decide +kernel
theorem dX2_askAll_21 : decode cX2_askAll 21 = .ok (.invokestatic 194, 3) := by decide +kernel
theorem dX2_askAll_24 : decode cX2_askAll 24 = .ok (.goto 4, 3) := by decide +kernel
theorem dX2_askAll_27 : decode cX2_askAll 27 = .ok (.iconst 0, 1) := by decide +kernel
theorem dX2_askAll_28 : decode cX2_askAll 28 = .ok (.istore 4, 2) := by decide +kernel
theorem dX2_askAll_30 : decode cX2_askAll 30 = .ok (.aload_n 0, 1) := by decide +kernel
theorem dX2_askAll_31 : decode cX2_askAll 31 = .ok (.iload_n 1, 1) := by decide +kernel
theorem dX2_askAll_32 : decode cX2_askAll 32 = .ok (.iconst (-1), 1) := by decide +kernel
theorem dX2_askAll_33 : decode cX2_askAll 33 = .ok (.iload_n 2, 1) := by decide +kernel
theorem dX2_askAll_34 : decode cX2_askAll 34 = .ok (.iload 4, 2) := by decide +kernel
theorem dX2_askAll_36 : decode cX2_askAll 36 = .ok (.bipush 8, 2) := by decide +kernel
theorem dX2_askAll_38 : decode cX2_askAll 38 = .ok (.invokevirtual 184, 3) := by decide +kernel
theorem dX2_askAll_41 : decode cX2_askAll 41 = .ok (.return_, 1) := by decide +kernel
theorem dX2_requestAll_0 : decode cX2_requestAll 0 = .ok (.iconst 0, 1) := by decide +kernel
theorem dX2_requestAll_1 : decode cX2_requestAll 1 = .ok (.istore 6, 2) := by decide +kernel
theorem dX2_requestAll_3 : decode cX2_requestAll 3 = .ok (.iload 6, 2) := by decide +kernel
theorem dX2_requestAll_5 : decode cX2_requestAll 5 = .ok (.bipush 12, 2) := by decide +kernel
theorem dX2_requestAll_7 : decode cX2_requestAll 7 = .ok (.if_icmp .ge 46, 3) := by decide +kernel
theorem dX2_requestAll_10 : decode cX2_requestAll 10 = .ok (.iload 6, 2) := by decide +kernel
theorem dX2_requestAll_12 : decode cX2_requestAll 12 = .ok (.iload_n 2, 1) := by decide +kernel
theorem dX2_requestAll_13 : decode cX2_requestAll 13 = .ok (.if_icmp .eq 34, 3) := by decide +kernel
theorem dX2_requestAll_16 : decode cX2_requestAll 16 = .ok (.aload_n 0, 1) := by decide +kernel
theorem dX2_requestAll_17 : decode cX2_requestAll 17 = .ok (.getfield 11, 3) := by decide +kernel
theorem dX2_requestAll_20 : decode cX2_requestAll 20 = .ok (.iload_n 1, 1) := by decide +kernel
theorem dX2_requestAll_21 : decode cX2_requestAll 21 = .ok (.aaload, 1) := by decide +kernel
theorem dX2_requestAll_22 : decode cX2_requestAll 22 = .ok (.getfield 32, 3) := by decide +kernel
theorem dX2_requestAll_25 : decode cX2_requestAll 25 = .ok (.iload 6, 2) := by decide +kernel
theorem dX2_requestAll_27 : decode cX2_requestAll 27 = .ok (.iaload, 1) := by decide +kernel
theorem dX2_requestAll_28 : decode cX2_requestAll 28 = .ok (.ifCond .eq 19, 3) := by decide +kernel
theorem dX2_requestAll_31 : decode cX2_requestAll 31 = .ok (.aload_n 0, 1) := by decide +kernel
theorem dX2_requestAll_32 : decode cX2_requestAll 32 = .ok (.getfield 21, 3) := by decide +kernel
theorem dX2_requestAll_35 : decode cX2_requestAll 35 = .ok (.iconst 2, 1) := by decide +kernel
theorem dX2_requestAll_36 : decode cX2_requestAll 36 = .ok (.iload_n 1, 1) := by decide +kernel
theorem dX2_requestAll_37 : decode cX2_requestAll 37 = .ok (.iload 6, 2) := by decide +kernel
theorem dX2_requestAll_39 : decode cX2_requestAll 39 = .ok (.iload_n 3, 1) := by decide +kernel
theorem dX2_requestAll_40 : decode cX2_requestAll 40 = .ok (.iload 4, 2) := by decide +kernel
theorem dX2_requestAll_42 : decode cX2_requestAll 42 = .ok (.iload 5, 2) := by decide +kernel
theorem dX2_requestAll_44 : decode cX2_requestAll 44 = .ok (.invokevirtual 190, 3) := by decide +kernel
theorem dX2_requestAll_47 : decode cX2_requestAll 47 = .ok (.iinc 6 1, 3) := by decide +kernel
theorem dX2_requestAll_50 : decode cX2_requestAll 50 = .ok (.goto (-47), 3) := by decide +kernel
theorem dX2_requestAll_53 : decode cX2_requestAll 53 = .ok (.return_, 1) := by decide +kernel
end
section
theorem dX3_init_0 : decode cX3_init 0 = .ok (.aload_n 0, 1) := by decide +kernel
theorem dX3_init_1 : decode cX3_init 1 = .ok (.invokespecial 1, 3) := by decide +kernel
theorem dX3_init_4 : decode cX3_init 4 = .ok (.aload_n 0, 1) := by decide +kernel
theorem dX3_init_5 : decode cX3_init 5 = .ok (.sipush 144, 3) := by decide +kernel
theorem dX3_init_8 : decode cX3_init 8 = .ok (.newarray .int, 2) := by decide +kernel
theorem dX3_init_10 : decode cX3_init 10 = .ok (.putfield 7, 3) := by decide +kernel
theorem dX3_init_13 : decode cX3_init 13 = .ok (.aload_n 0, 1) := by decide +kernel
theorem dX3_init_14 : decode cX3_init 14 = .ok (.bipush 12, 2) := by decide +kernel
theorem dX3_init_16 : decode cX3_init 16 = .ok (.newarray .int, 2) := by decide +kernel
theorem dX3_init_18 : decode cX3_init 18 = .ok (.putfield 13, 3) := by decide +kernel
theorem dX3_init_21 : decode cX3_init 21 = .ok (.aload_n 0, 1) := by decide +kernel
theorem dX3_init_22 : decode cX3_init 22 = .ok (.sipush 144, 3) := by decide +kernel
theorem dX3_init_25 : decode cX3_init 25 = .ok (.newarray .int, 2) := by decide +kernel
theorem dX3_init_27 : decode cX3_init 27 = .ok (.putfield 16, 3) := by decide +kernel
theorem dX3_init_30 : decode cX3_init 30 = .ok (.aload_n 0, 1) := by decide +kernel
theorem dX3_init_31 : decode cX3_init 31 = .ok (.sipush 144, 3) := by decide +kernel
theorem dX3_init_34 : decode cX3_init 34 = .ok (.newarray .int, 2) := by decide +kernel
theorem dX3_init_36 : decode cX3_init 36 = .ok (.putfield 19, 3) := by decide +kernel
theorem dX3_init_39 : decode cX3_init 39 = .ok (.aload_n 0, 1) := by decide +kernel
theorem dX3_init_40 : decode cX3_init 40 = .ok (.sipush 144, 3) := by decide +kernel
theorem dX3_init_43 : decode cX3_init 43 = .ok (.newarray .int, 2) := by decide +kernel
theorem dX3_init_45 : decode cX3_init 45 = .ok (.putfield 22, 3) := by decide +kernel
theorem dX3_init_48 : decode cX3_init 48 = .ok (.aload_n 0, 1) := by decide +kernel
theorem dX3_init_49 : decode cX3_init 49 = .ok (.sipush 144, 3) := by decide +kernel
theorem dX3_init_52 : decode cX3_init 52 = .ok (.newarray .int, 2) := by decide +kernel
theorem dX3_init_54 : decode cX3_init 54 = .ok (.putfield 25, 3) := by decide +kernel
theorem dX3_init_57 : decode cX3_init 57 = .ok (.aload_n 0, 1) := by decide +kernel
theorem dX3_init_58 : decode cX3_init 58 = .ok (.sipush 144, 3) := by decide +kernel
theorem dX3_init_61 : decode cX3_init 61 = .ok (.newarray .int, 2) := by decide +kernel
theorem dX3_init_63 : decode cX3_init 63 = .ok (.putfield 28, 3) := by decide +kernel
theorem dX3_init_66 : decode cX3_init 66 = .ok (.aload_n 0, 1) := by decide +kernel
theorem dX3_init_67 : decode cX3_init 67 = .ok (.sipush 144, 3) := by decide +kernel
theorem dX3_init_70 : decode cX3_init 70 = .ok (.newarray .int, 2) := by decide +kernel
theorem dX3_init_72 : decode cX3_init 72 = .ok (.putfield 31, 3) := by decide +kernel
theorem dX3_init_75 : decode cX3_init 75 = .ok (.aload_n 0, 1) := by decide +kernel
theorem dX3_init_76 : decode cX3_init 76 = .ok (.sipush 1728, 3) := by decide +kernel
theorem dX3_init_79 : decode cX3_init 79 = .ok (.newarray .int, 2) := by decide +kernel
theorem dX3_init_81 : decode cX3_init 81 = .ok (.putfield 34, 3) := by decide +kernel
theorem dX3_init_84 : decode cX3_init 84 = .ok (.aload_n 0, 1) := by decide +kernel
theorem dX3_init_85 : decode cX3_init 85 = .ok (.sipush 1728, 3) := by decide +kernel
theorem dX3_init_88 : decode cX3_init 88 = .ok (.newarray .int, 2) := by decide +kernel
theorem dX3_init_90 : decode cX3_init 90 = .ok (.putfield 37, 3) := by decide +kernel
theorem dX3_init_93 : decode cX3_init 93 = .ok (.aload_n 0, 1) := by decide +kernel
theorem dX3_init_94 : decode cX3_init 94 = .ok (.sipush 1806, 3) := by decide +kernel
theorem dX3_init_97 : decode cX3_init 97 = .ok (.newarray .int, 2) := by decide +kernel
theorem dX3_init_99 : decode cX3_init 99 = .ok (.putfield 40, 3) := by decide +kernel
theorem dX3_init_102 : decode cX3_init 102 = .ok (.iconst 0, 1) := by decide +kernel
theorem dX3_init_103 : decode cX3_init 103 = .ok (.istore_n 1, 1) := by decide +kernel
theorem dX3_init_104 : decode cX3_init 104 = .ok (.iload_n 1, 1) := by decide +kernel
theorem dX3_init_105 : decode cX3_init 105 = .ok (.sipush 144, 3) := by decide +kernel
theorem dX3_init_108 : decode cX3_init 108 = .ok (.if_icmp .ge 51, 3) := by decide +kernel
theorem dX3_init_111 : decode cX3_init 111 = .ok (.aload_n 0, 1) := by decide +kernel
theorem dX3_init_112 : decode cX3_init 112 = .ok (.getfield 16, 3) := by decide +kernel
theorem dX3_init_115 : decode cX3_init 115 = .ok (.iload_n 1, 1) := by decide +kernel
theorem dX3_init_116 : decode cX3_init 116 = .ok (.iconst (-1), 1) := by decide +kernel
theorem dX3_init_117 : decode cX3_init 117 = .ok (.iastore, 1) := by decide +kernel
theorem dX3_init_118 : decode cX3_init 118 = .ok (.aload_n 0, 1) := by decide +kernel
theorem dX3_init_119 : decode cX3_init 119 = .ok (.getfield 19, 3) := by decide +kernel
theorem dX3_init_122 : decode cX3_init 122 = .ok (.iload_n 1, 1) := by decide +kernel
theorem dX3_init_123 : decode cX3_init 123 = .ok (.iconst (-1), 1) := by decide +kernel
theorem dX3_init_124 : decode cX3_init 124 = .ok (.iastore, 1) := by decide +kernel
theorem dX3_init_125 : decode cX3_init 125 = .ok (.aload_n 0, 1) := by decide +kernel
theorem dX3_init_126 : decode cX3_init 126 = .ok (.getfield 22, 3) := by decide +kernel
theorem dX3_init_129 : decode cX3_init 129 = .ok (.iload_n 1, 1) := by decide +kernel
theorem dX3_init_130 : decode cX3_init 130 = .ok (.iconst (-1), 1) := by decide +kernel
theorem dX3_init_131 : decode cX3_init 131 = .ok (.iastore, 1) := by decide +kernel
theorem dX3_init_132 : decode cX3_init 132 = .ok (.aload_n 0, 1) := by decide +kernel
theorem dX3_init_133 : decode cX3_init 133 = .ok (.getfield 25, 3) := by decide +kernel
theorem dX3_init_136 : decode cX3_init 136 = .ok (.iload_n 1, 1) := by decide +kernel
theorem dX3_init_137 : decode cX3_init 137 = .ok (.iconst (-1), 1) := by decide +kernel
theorem dX3_init_138 : decode cX3_init 138 = .ok (.iastore, 1) := by decide +kernel
theorem dX3_init_139 : decode cX3_init 139 = .ok (.aload_n 0, 1) := by decide +kernel
theorem dX3_init_140 : decode cX3_init 140 = .ok (.getfield 28, 3) := by decide +kernel
theorem dX3_init_143 : decode cX3_init 143 = .ok (.iload_n 1, 1) := by decide +kernel
theorem dX3_init_144 : decode cX3_init 144 = .ok (.iconst (-1), 1) := by decide +kernel
theorem dX3_init_145 : decode cX3_init 145 = .ok (.iastore, 1) := by decide +kernel
theorem dX3_init_146 : decode cX3_init 146 = .ok (.aload_n 0, 1) := by decide +kernel
theorem dX3_init_147 : decode cX3_init 147 = .ok (.getfield 31, 3) := by decide +kernel
theorem dX3_init_150 : decode cX3_init 150 = .ok (.iload_n 1, 1) := by decide +kernel
theorem dX3_init_151 : decode cX3_init 151 = .ok (.iconst (-1), 1) := by decide +kernel
theorem dX3_init_152 : decode cX3_init 152 = .ok (.iastore, 1) := by decide +kernel
theorem dX3_init_153 : decode cX3_init 153 = .ok (.iinc 1 1, 3) := by decide +kernel
theorem dX3_init_156 : decode cX3_init 156 = .ok (.goto (-52), 3) := by decide +kernel
theorem dX3_init_159 : decode cX3_init 159 = .ok (.iconst 0, 1) := by decide +kernel
theorem dX3_init_160 : decode cX3_init 160 = .ok (.istore_n 1, 1) := by decide +kernel
theorem dX3_init_161 : decode cX3_init 161 = .ok (.iload_n 1, 1) := by decide +kernel
theorem dX3_init_162 : decode cX3_init 162 = .ok (.sipush 1728, 3) := by decide +kernel
theorem dX3_init_165 : decode cX3_init 165 = .ok (.if_icmp .ge 23, 3) := by decide +kernel
theorem dX3_init_168 : decode cX3_init 168 = .ok (.aload_n 0, 1) := by decide +kernel
theorem dX3_init_169 : decode cX3_init 169 = .ok (.getfield 34, 3) := by decide +kernel
theorem dX3_init_172 : decode cX3_init 172 = .ok (.iload_n 1, 1) := by decide +kernel
theorem dX3_init_173 : decode cX3_init 173 = .ok (.iconst (-1), 1) := by decide +kernel
theorem dX3_init_174 : decode cX3_init 174 = .ok (.iastore, 1) := by decide +kernel
theorem dX3_init_175 : decode cX3_init 175 = .ok (.aload_n 0, 1) := by decide +kernel
theorem dX3_init_176 : decode cX3_init 176 = .ok (.getfield 37, 3) := by decide +kernel
theorem dX3_init_179 : decode cX3_init 179 = .ok (.iload_n 1, 1) := by decide +kernel
theorem dX3_init_180 : decode cX3_init 180 = .ok (.iconst (-1), 1) := by decide +kernel
theorem dX3_init_181 : decode cX3_init 181 = .ok (.iastore, 1) := by decide +kernel
theorem dX3_init_182 : decode cX3_init 182 = .ok (.iinc 1 1, 3) := by decide +kernel
theorem dX3_init_185 : decode cX3_init 185 = .ok (.goto (-24), 3) := by decide +kernel
theorem dX3_init_188 : decode cX3_init 188 = .ok (.return_, 1) := by decide +kernel
theorem dX3_thrown_0 : decode cX3_thrown 0 = .ok (.aload_n 0, 1) := by decide +kernel
theorem dX3_thrown_1 : decode cX3_thrown 1 = .ok (.getfield 43, 3) := by decide +kernel
theorem dX3_thrown_4 : decode cX3_thrown 4 = .ok (.ireturn, 1) := by decide +kernel
theorem dX3_refuses_0 : decode cX3_refuses 0 = .ok (.aload_n 0, 1) := by decide +kernel
theorem dX3_refuses_1 : decode cX3_refuses 1 = .ok (.iload_n 1, 1) := by decide +kernel
theorem dX3_refuses_2 : decode cX3_refuses 2 = .ok (.putfield 43, 3) := by decide +kernel
theorem dX3_refuses_5 : decode cX3_refuses 5 = .ok (.iload_n 1, 1) := by decide +kernel
theorem dX3_refuses_6 : decode cX3_refuses 6 = .ok (.ifCond .le 7, 3) := by decide +kernel
theorem dX3_refuses_9 : decode cX3_refuses 9 = .ok (.iconst 1, 1) := by decide +kernel
theorem dX3_refuses_10 : decode cX3_refuses 10 = .ok (.goto 4, 3) := by decide +kernel
theorem dX3_refuses_13 : decode cX3_refuses 13 = .ok (.iconst 0, 1) := by decide +kernel
theorem dX3_refuses_14 : decode cX3_refuses 14 = .ok (.ireturn, 1) := by decide +kernel
theorem dX3_isNode_0 : decode cX3_isNode 0 = .ok (.iload_n 0, 1) := by decide +kernel
theorem dX3_isNode_1 : decode cX3_isNode 1 = .ok (.ifCond .lt 13, 3) := by decide +kernel
theorem dX3_isNode_4 : decode cX3_isNode 4 = .ok (.iload_n 0, 1) := by decide +kernel
theorem dX3_isNode_5 : decode cX3_isNode 5 = .ok (.bipush 12, 2) := by decide +kernel
theorem dX3_isNode_7 : decode cX3_isNode 7 = .ok (.if_icmp .ge 7, 3) := by decide +kernel
theorem dX3_isNode_10 : decode cX3_isNode 10 = .ok (.iconst 1, 1) := by decide +kernel
theorem dX3_isNode_11 : decode cX3_isNode 11 = .ok (.goto 4, 3) := by decide +kernel
theorem dX3_isNode_14 : decode cX3_isNode 14 = .ok (.iconst 0, 1) := by decide +kernel
theorem dX3_isNode_15 : decode cX3_isNode 15 = .ok (.ireturn, 1) := by decide +kernel
theorem dX3_newer_0 : decode cX3_newer 0 = .ok (.iload_n 0, 1) := by decide +kernel
theorem dX3_newer_1 : decode cX3_newer 1 = .ok (.iload_n 1, 1) := by decide +kernel
theorem dX3_newer_2 : decode cX3_newer 2 = .ok (.isub, 1) := by decide +kernel
theorem dX3_newer_3 : decode cX3_newer 3 = .ok (.ldc 47, 2) := by decide +kernel
theorem dX3_newer_5 : decode cX3_newer 5 = .ok (.iand, 1) := by decide +kernel
theorem dX3_newer_6 : decode cX3_newer 6 = .ok (.istore_n 2, 1) := by decide +kernel
theorem dX3_newer_7 : decode cX3_newer 7 = .ok (.iload_n 2, 1) := by decide +kernel
theorem dX3_newer_8 : decode cX3_newer 8 = .ok (.iconst 1, 1) := by decide +kernel
theorem dX3_newer_9 : decode cX3_newer 9 = .ok (.if_icmp .lt 14, 3) := by decide +kernel
theorem dX3_newer_12 : decode cX3_newer 12 = .ok (.iload_n 2, 1) := by decide +kernel
theorem dX3_newer_13 : decode cX3_newer 13 = .ok (.sipush 32767, 3) := by decide +kernel
theorem dX3_newer_16 : decode cX3_newer 16 = .ok (.if_icmp .gt 7, 3) := by decide +kernel
theorem dX3_newer_19 : decode cX3_newer 19 = .ok (.iconst 1, 1) := by decide +kernel
theorem dX3_newer_20 : decode cX3_newer 20 = .ok (.goto 4, 3) := by decide +kernel
theorem dX3_newer_23 : decode cX3_newer 23 = .ok (.iconst 0, 1) := by decide +kernel
theorem dX3_newer_24 : decode cX3_newer 24 = .ok (.ireturn, 1) := by decide +kernel
theorem dX3_send_0 : decode cX3_send 0 = .ok (.aload_n 0, 1) := by decide +kernel
theorem dX3_send_1 : decode cX3_send 1 = .ok (.dup, 1) := by decide +kernel
theorem dX3_send_2 : decode cX3_send 2 = .ok (.getfield 48, 3) := by decide +kernel
theorem dX3_send_5 : decode cX3_send 5 = .ok (.iconst 1, 1) := by decide +kernel
theorem dX3_send_6 : decode cX3_send 6 = .ok (.iadd, 1) := by decide +kernel
theorem dX3_send_7 : decode cX3_send 7 = .ok (.putfield 48, 3) := by decide +kernel
theorem dX3_send_10 : decode cX3_send 10 = .ok (.aload_n 0, 1) := by decide +kernel
theorem dX3_send_11 : decode cX3_send 11 = .ok (.getfield 51, 3) := by decide +kernel
theorem dX3_send_14 : decode cX3_send 14 = .ok (.sipush 300, 3) := by decide +kernel
theorem dX3_send_17 : decode cX3_send 17 = .ok (.if_icmp .ne 14, 3) := by decide +kernel
theorem dX3_send_20 : decode cX3_send 20 = .ok (.aload_n 0, 1) := by decide +kernel
theorem dX3_send_21 : decode cX3_send 21 = .ok (.dup, 1) := by decide +kernel
theorem dX3_send_22 : decode cX3_send 22 = .ok (.getfield 54, 3) := by decide +kernel
theorem dX3_send_25 : decode cX3_send 25 = .ok (.iconst 1, 1) := by decide +kernel
theorem dX3_send_26 : decode cX3_send 26 = .ok (.iadd, 1) := by decide +kernel
theorem dX3_send_27 : decode cX3_send 27 = .ok (.putfield 54, 3) := by decide +kernel
theorem dX3_send_30 : decode cX3_send 30 = .ok (.return_, 1) := by decide +kernel
theorem dX3_send_31 : decode cX3_send 31 = .ok (.bipush 6, 2) := by decide +kernel
theorem dX3_send_33 : decode cX3_send 33 = .ok (.aload_n 0, 1) := by decide +kernel
theorem dX3_send_34 : decode cX3_send 34 = .ok (.getfield 51, 3) := by decide +kernel
theorem dX3_send_37 : decode cX3_send 37 = .ok (.imul, 1) := by decide +kernel
theorem dX3_send_38 : decode cX3_send 38 = .ok (.istore 7, 2) := by decide +kernel
theorem dX3_send_40 : decode cX3_send 40 = .ok (.aload_n 0, 1) := by decide +kernel
theorem dX3_send_41 : decode cX3_send 41 = .ok (.getfield 40, 3) := by decide +kernel
theorem dX3_send_44 : decode cX3_send 44 = .ok (.iload 7, 2) := by decide +kernel
theorem dX3_send_46 : decode cX3_send 46 = .ok (.iload_n 1, 1) := by decide +kernel
theorem dX3_send_47 : decode cX3_send 47 = .ok (.iastore, 1) := by decide +kernel
theorem dX3_send_48 : decode cX3_send 48 = .ok (.aload_n 0, 1) := by decide +kernel
theorem dX3_send_49 : decode cX3_send 49 = .ok (.getfield 40, 3) := by decide +kernel
theorem dX3_send_52 : decode cX3_send 52 = .ok (.iload 7, 2) := by decide +kernel
theorem dX3_send_54 : decode cX3_send 54 = .ok (.iconst 1, 1) := by decide +kernel
theorem dX3_send_55 : decode cX3_send 55 = .ok (.iadd, 1) := by decide +kernel
theorem dX3_send_56 : decode cX3_send 56 = .ok (.iload_n 2, 1) := by decide +kernel
theorem dX3_send_57 : decode cX3_send 57 = .ok (.iastore, 1) := by decide +kernel
theorem dX3_send_58 : decode cX3_send 58 = .ok (.aload_n 0, 1) := by decide +kernel
theorem dX3_send_59 : decode cX3_send 59 = .ok (.getfield 40, 3) := by decide +kernel
theorem dX3_send_62 : decode cX3_send 62 = .ok (.iload 7, 2) := by decide +kernel
theorem dX3_send_64 : decode cX3_send 64 = .ok (.iconst 2, 1) := by decide +kernel
theorem dX3_send_65 : decode cX3_send 65 = .ok (.iadd, 1) := by decide +kernel
theorem dX3_send_66 : decode cX3_send 66 = .ok (.iload_n 3, 1) := by decide +kernel
theorem dX3_send_67 : decode cX3_send 67 = .ok (.iastore, 1) := by decide +kernel
theorem dX3_send_68 : decode cX3_send 68 = .ok (.aload_n 0, 1) := by decide +kernel
theorem dX3_send_69 : decode cX3_send 69 = .ok (.getfield 40, 3) := by decide +kernel
theorem dX3_send_72 : decode cX3_send 72 = .ok (.iload 7, 2) := by decide +kernel
theorem dX3_send_74 : decode cX3_send 74 = .ok (.iconst 3, 1) := by decide +kernel
theorem dX3_send_75 : decode cX3_send 75 = .ok (.iadd, 1) := by decide +kernel
theorem dX3_send_76 : decode cX3_send 76 = .ok (.iload 4, 2) := by decide +kernel
theorem dX3_send_78 : decode cX3_send 78 = .ok (.iastore, 1) := by decide +kernel
theorem dX3_send_79 : decode cX3_send 79 = .ok (.aload_n 0, 1) := by decide +kernel
theorem dX3_send_80 : decode cX3_send 80 = .ok (.getfield 40, 3) := by decide +kernel
theorem dX3_send_83 : decode cX3_send 83 = .ok (.iload 7, 2) := by decide +kernel
theorem dX3_send_85 : decode cX3_send 85 = .ok (.iconst 4, 1) := by decide +kernel
theorem dX3_send_86 : decode cX3_send 86 = .ok (.iadd, 1) := by decide +kernel
theorem dX3_send_87 : decode cX3_send 87 = .ok (.iload 5, 2) := by decide +kernel
theorem dX3_send_89 : decode cX3_send 89 = .ok (.iastore, 1) := by decide +kernel
theorem dX3_send_90 : decode cX3_send 90 = .ok (.aload_n 0, 1) := by decide +kernel
theorem dX3_send_91 : decode cX3_send 91 = .ok (.getfield 40, 3) := by decide +kernel
theorem dX3_send_94 : decode cX3_send 94 = .ok (.iload 7, 2) := by decide +kernel
theorem dX3_send_96 : decode cX3_send 96 = .ok (.iconst 5, 1) := by decide +kernel
theorem dX3_send_97 : decode cX3_send 97 = .ok (.iadd, 1) := by decide +kernel
theorem dX3_send_98 : decode cX3_send 98 = .ok (.iload 6, 2) := by decide +kernel
theorem dX3_send_100 : decode cX3_send 100 = .ok (.iastore, 1) := by decide +kernel
theorem dX3_send_101 : decode cX3_send 101 = .ok (.aload_n 0, 1) := by decide +kernel
theorem dX3_send_102 : decode cX3_send 102 = .ok (.dup, 1) := by decide +kernel
theorem dX3_send_103 : decode cX3_send 103 = .ok (.getfield 51, 3) := by decide +kernel
theorem dX3_send_106 : decode cX3_send 106 = .ok (.iconst 1, 1) := by decide +kernel
theorem dX3_send_107 : decode cX3_send 107 = .ok (.iadd, 1) := by decide +kernel
theorem dX3_send_108 : decode cX3_send 108 = .ok (.putfield 51, 3) := by decide +kernel
theorem dX3_send_111 : decode cX3_send 111 = .ok (.return_, 1) := by decide +kernel
theorem dX3_takes_0 : decode cX3_takes 0 = .ok (.iconst 0, 1) := by decide +kernel
theorem dX3_takes_1 : decode cX3_takes 1 = .ok (.istore_n 2, 1) := by decide +kernel
theorem dX3_takes_2 : decode cX3_takes 2 = .ok (.iload_n 2, 1) := by decide +kernel
theorem dX3_takes_3 : decode cX3_takes 3 = .ok (.bipush 6, 2) := by decide +kernel
theorem dX3_takes_5 : decode cX3_takes 5 = .ok (.if_icmp .ge 30, 3) := by decide +kernel
theorem dX3_takes_8 : decode cX3_takes 8 = .ok (.aload_n 0, 1) := by decide +kernel
theorem dX3_takes_9 : decode cX3_takes 9 = .ok (.getfield 40, 3) := by decide +kernel
theorem dX3_takes_12 : decode cX3_takes 12 = .ok (.sipush 1800, 3) := by decide +kernel
theorem dX3_takes_15 : decode cX3_takes 15 = .ok (.iload_n 2, 1) := by decide +kernel
theorem dX3_takes_16 : decode cX3_takes 16 = .ok (.iadd, 1) := by decide +kernel
theorem dX3_takes_17 : decode cX3_takes 17 = .ok (.aload_n 0, 1) := by decide +kernel
theorem dX3_takes_18 : decode cX3_takes 18 = .ok (.getfield 40, 3) := by decide +kernel
theorem dX3_takes_21 : decode cX3_takes 21 = .ok (.bipush 6, 2) := by decide +kernel
theorem dX3_takes_23 : decode cX3_takes 23 = .ok (.iload_n 1, 1) := by decide +kernel
theorem dX3_takes_24 : decode cX3_takes 24 = .ok (.imul, 1) := by decide +kernel
theorem dX3_takes_25 : decode cX3_takes 25 = .ok (.iload_n 2, 1) := by decide +kernel
theorem dX3_takes_26 : decode cX3_takes 26 = .ok (.iadd, 1) := by decide +kernel
theorem dX3_takes_27 : decode cX3_takes 27 = .ok (.iaload, 1) := by decide +kernel
theorem dX3_takes_28 : decode cX3_takes 28 = .ok (.iastore, 1) := by decide +kernel
theorem dX3_takes_29 : decode cX3_takes 29 = .ok (.iinc 2 1, 3) := by decide +kernel
theorem dX3_takes_32 : decode cX3_takes 32 = .ok (.goto (-30), 3) := by decide +kernel
theorem dX3_takes_35 : decode cX3_takes 35 = .ok (.bipush 6, 2) := by decide +kernel
theorem dX3_takes_37 : decode cX3_takes 37 = .ok (.iload_n 1, 1) := by decide +kernel
theorem dX3_takes_38 : decode cX3_takes 38 = .ok (.imul, 1) := by decide +kernel
theorem dX3_takes_39 : decode cX3_takes 39 = .ok (.istore_n 2, 1) := by decide +kernel
theorem dX3_takes_40 : decode cX3_takes 40 = .ok (.iload_n 2, 1) := by decide +kernel
theorem dX3_takes_41 : decode cX3_takes 41 = .ok (.bipush 6, 2) := by decide +kernel
theorem dX3_takes_43 : decode cX3_takes 43 = .ok (.iadd, 1) := by decide +kernel
theorem dX3_takes_44 : decode cX3_takes 44 = .ok (.bipush 6, 2) := by decide +kernel
theorem dX3_takes_46 : decode cX3_takes 46 = .ok (.aload_n 0, 1) := by decide +kernel
theorem dX3_takes_47 : decode cX3_takes 47 = .ok (.getfield 51, 3) := by decide +kernel
theorem dX3_takes_50 : decode cX3_takes 50 = .ok (.imul, 1) := by decide +kernel
theorem dX3_takes_51 : decode cX3_takes 51 = .ok (.if_icmp .ge 24, 3) := by decide +kernel
theorem dX3_takes_54 : decode cX3_takes 54 = .ok (.aload_n 0, 1) := by decide +kernel
theorem dX3_takes_55 : decode cX3_takes 55 = .ok (.getfield 40, 3) := by decide +kernel
theorem dX3_takes_58 : decode cX3_takes 58 = .ok (.iload_n 2, 1) := by decide +kernel
theorem dX3_takes_59 : decode cX3_takes 59 = .ok (.aload_n 0, 1) := by decide +kernel
theorem dX3_takes_60 : decode cX3_takes 60 = .ok (.getfield 40, 3) := by decide +kernel
theorem dX3_takes_63 : decode cX3_takes 63 = .ok (.iload_n 2, 1) := by decide +kernel
theorem dX3_takes_64 : decode cX3_takes 64 = .ok (.bipush 6, 2) := by decide +kernel
theorem dX3_takes_66 : decode cX3_takes 66 = .ok (.iadd, 1) := by decide +kernel
theorem dX3_takes_67 : decode cX3_takes 67 = .ok (.iaload, 1) := by decide +kernel
theorem dX3_takes_68 : decode cX3_takes 68 = .ok (.iastore, 1) := by decide +kernel
theorem dX3_takes_69 : decode cX3_takes 69 = .ok (.iinc 2 1, 3) := by decide +kernel
theorem dX3_takes_72 : decode cX3_takes 72 = .ok (.goto (-32), 3) := by decide +kernel
theorem dX3_takes_75 : decode cX3_takes 75 = .ok (.aload_n 0, 1) := by decide +kernel
theorem dX3_takes_76 : decode cX3_takes 76 = .ok (.dup, 1) := by decide +kernel
theorem dX3_takes_77 : decode cX3_takes 77 = .ok (.getfield 51, 3) := by decide +kernel
theorem dX3_takes_80 : decode cX3_takes 80 = .ok (.iconst 1, 1) := by decide +kernel
theorem dX3_takes_81 : decode cX3_takes 81 = .ok (.isub, 1) := by decide +kernel
theorem dX3_takes_82 : decode cX3_takes 82 = .ok (.putfield 51, 3) := by decide +kernel
theorem dX3_takes_85 : decode cX3_takes 85 = .ok (.return_, 1) := by decide +kernel
theorem dX3_tells_0 : decode cX3_tells 0 = .ok (.bipush 12, 2) := by decide +kernel
theorem dX3_tells_2 : decode cX3_tells 2 = .ok (.iload_n 1, 1) := by decide +kernel
theorem dX3_tells_3 : decode cX3_tells 3 = .ok (.imul, 1) := by decide +kernel
theorem dX3_tells_4 : decode cX3_tells 4 = .ok (.iload_n 3, 1) := by decide +kernel
theorem dX3_tells_5 : decode cX3_tells 5 = .ok (.iadd, 1) := by decide +kernel
theorem dX3_tells_6 : decode cX3_tells 6 = .ok (.istore 4, 2) := by decide +kernel
theorem dX3_tells_8 : decode cX3_tells 8 = .ok (.iload_n 1, 1) := by decide +kernel
theorem dX3_tells_9 : decode cX3_tells 9 = .ok (.iload_n 3, 1) := by decide +kernel
theorem dX3_tells_10 : decode cX3_tells 10 = .ok (.if_icmp .ne 19, 3) := by decide +kernel
theorem dX3_tells_13 : decode cX3_tells 13 = .ok (.aload_n 0, 1) := by decide +kernel
theorem dX3_tells_14 : decode cX3_tells 14 = .ok (.iconst 1, 1) := by decide +kernel
theorem dX3_tells_15 : decode cX3_tells 15 = .ok (.iload_n 1, 1) := by decide +kernel
theorem dX3_tells_16 : decode cX3_tells 16 = .ok (.iload_n 2, 1) := by decide +kernel
theorem dX3_tells_17 : decode cX3_tells 17 = .ok (.iload_n 3, 1) := by decide +kernel
theorem dX3_tells_18 : decode cX3_tells 18 = .ok (.aload_n 0, 1) := by decide +kernel
theorem dX3_tells_19 : decode cX3_tells 19 = .ok (.getfield 13, 3) := by decide +kernel
theorem dX3_tells_22 : decode cX3_tells 22 = .ok (.iload_n 1, 1) := by decide +kernel
theorem dX3_tells_23 : decode cX3_tells 23 = .ok (.iaload, 1) := by decide +kernel
theorem dX3_tells_24 : decode cX3_tells 24 = .ok (.iconst 0, 1) := by decide +kernel
theorem dX3_tells_25 : decode cX3_tells 25 = .ok (.invokevirtual 57, 3) := by decide +kernel
theorem dX3_tells_28 : decode cX3_tells 28 = .ok (.return_, 1) := by decide +kernel
theorem dX3_tells_29 : decode cX3_tells 29 = .ok (.aload_n 0, 1) := by decide +kernel
theorem dX3_tells_30 : decode cX3_tells 30 = .ok (.getfield 22, 3) := by decide +kernel
theorem dX3_tells_33 : decode cX3_tells 33 = .ok (.iload 4, 2) := by decide +kernel
theorem dX3_tells_35 : decode cX3_tells 35 = .ok (.iaload, 1) := by decide +kernel
theorem dX3_tells_36 : decode cX3_tells 36 = .ok (.iconst (-1), 1) := by decide +kernel
theorem dX3_tells_37 : decode cX3_tells 37 = .ok (.if_icmp .ne 36, 3) := by decide +kernel
theorem dX3_tells_40 : decode cX3_tells 40 = .ok (.aload_n 0, 1) := by decide +kernel
theorem dX3_tells_41 : decode cX3_tells 41 = .ok (.iconst 1, 1) := by decide +kernel
theorem dX3_tells_42 : decode cX3_tells 42 = .ok (.iload_n 1, 1) := by decide +kernel
theorem dX3_tells_43 : decode cX3_tells 43 = .ok (.iload_n 2, 1) := by decide +kernel
theorem dX3_tells_44 : decode cX3_tells 44 = .ok (.iload_n 3, 1) := by decide +kernel
theorem dX3_tells_45 : decode cX3_tells 45 = .ok (.aload_n 0, 1) := by decide +kernel
theorem dX3_tells_46 : decode cX3_tells 46 = .ok (.getfield 19, 3) := by decide +kernel
theorem dX3_tells_49 : decode cX3_tells 49 = .ok (.iload 4, 2) := by decide +kernel
theorem dX3_tells_51 : decode cX3_tells 51 = .ok (.iaload, 1) := by decide +kernel
theorem dX3_tells_52 : decode cX3_tells 52 = .ok (.iconst (-1), 1) := by decide +kernel
theorem dX3_tells_53 : decode cX3_tells 53 = .ok (.if_icmp .ne 7, 3) := by decide +kernel
theorem dX3_tells_56 : decode cX3_tells 56 = .ok (.iconst 0, 1) := by decide +kernel
theorem dX3_tells_57 : decode cX3_tells 57 = .ok (.goto 10, 3) := by decide +kernel
theorem dX3_tells_60 : decode cX3_tells 60 = .ok (.aload_n 0, 1) := by decide +kernel
theorem dX3_tells_61 : decode cX3_tells 61 = .ok (.getfield 16, 3) := by decide +kernel
theorem dX3_tells_64 : decode cX3_tells 64 = .ok (.iload 4, 2) := by decide +kernel
theorem dX3_tells_66 : decode cX3_tells 66 = .ok (.iaload, 1) := by decide +kernel
theorem dX3_tells_67 : decode cX3_tells 67 = .ok (.ldc 47, 2) := by decide +kernel
theorem dX3_tells_69 : decode cX3_tells 69 = .ok (.invokevirtual 57, 3) := by decide +kernel
theorem dX3_tells_72 : decode cX3_tells 72 = .ok (.return_, 1) := by decide +kernel
theorem dX3_tells_73 : decode cX3_tells 73 = .ok (.aload_n 0, 1) := by decide +kernel
theorem dX3_tells_74 : decode cX3_tells 74 = .ok (.getfield 25, 3) := by decide +kernel
theorem dX3_tells_77 : decode cX3_tells 77 = .ok (.iload 4, 2) := by decide +kernel
theorem dX3_tells_79 : decode cX3_tells 79 = .ok (.iaload, 1) := by decide +kernel
theorem dX3_tells_80 : decode cX3_tells 80 = .ok (.istore 5, 2) := by decide +kernel
theorem dX3_tells_82 : decode cX3_tells 82 = .ok (.aload_n 0, 1) := by decide +kernel
theorem dX3_tells_83 : decode cX3_tells 83 = .ok (.getfield 28, 3) := by decide +kernel
theorem dX3_tells_86 : decode cX3_tells 86 = .ok (.iload 4, 2) := by decide +kernel
theorem dX3_tells_88 : decode cX3_tells 88 = .ok (.iaload, 1) := by decide +kernel
theorem dX3_tells_89 : decode cX3_tells 89 = .ok (.istore 6, 2) := by decide +kernel
theorem dX3_tells_91 : decode cX3_tells 91 = .ok (.aload_n 0, 1) := by decide +kernel
theorem dX3_tells_92 : decode cX3_tells 92 = .ok (.getfield 19, 3) := by decide +kernel
theorem dX3_tells_95 : decode cX3_tells 95 = .ok (.iload 4, 2) := by decide +kernel
theorem dX3_tells_97 : decode cX3_tells 97 = .ok (.iaload, 1) := by decide +kernel
theorem dX3_tells_98 : decode cX3_tells 98 = .ok (.iconst (-1), 1) := by decide +kernel
theorem dX3_tells_99 : decode cX3_tells 99 = .ok (.if_icmp .eq 42, 3) := by decide +kernel
theorem dX3_tells_102 : decode cX3_tells 102 = .ok (.iload 5, 2) := by decide +kernel
theorem dX3_tells_104 : decode cX3_tells 104 = .ok (.aload_n 0, 1) := by decide +kernel
theorem dX3_tells_105 : decode cX3_tells 105 = .ok (.getfield 16, 3) := by decide +kernel
theorem dX3_tells_108 : decode cX3_tells 108 = .ok (.iload 4, 2) := by decide +kernel
theorem dX3_tells_110 : decode cX3_tells 110 = .ok (.iaload, 1) := by decide +kernel
theorem dX3_tells_111 : decode cX3_tells 111 = .ok (.invokestatic 61, 3) := by decide +kernel
theorem dX3_tells_114 : decode cX3_tells 114 = .ok (.ifCond .ne 27, 3) := by decide +kernel
theorem dX3_tells_117 : decode cX3_tells 117 = .ok (.iload 5, 2) := by decide +kernel
theorem dX3_tells_119 : decode cX3_tells 119 = .ok (.aload_n 0, 1) := by decide +kernel
theorem dX3_tells_120 : decode cX3_tells 120 = .ok (.getfield 16, 3) := by decide +kernel
theorem dX3_tells_123 : decode cX3_tells 123 = .ok (.iload 4, 2) := by decide +kernel
theorem dX3_tells_125 : decode cX3_tells 125 = .ok (.iaload, 1) := by decide +kernel
theorem dX3_tells_126 : decode cX3_tells 126 = .ok (.if_icmp .ne 33, 3) := by decide +kernel
theorem dX3_tells_129 : decode cX3_tells 129 = .ok (.iload 6, 2) := by decide +kernel
theorem dX3_tells_131 : decode cX3_tells 131 = .ok (.aload_n 0, 1) := by decide +kernel
theorem dX3_tells_132 : decode cX3_tells 132 = .ok (.getfield 19, 3) := by decide +kernel
theorem dX3_tells_135 : decode cX3_tells 135 = .ok (.iload 4, 2) := by decide +kernel
theorem dX3_tells_137 : decode cX3_tells 137 = .ok (.iaload, 1) := by decide +kernel
theorem dX3_tells_138 : decode cX3_tells 138 = .ok (.if_icmp .ge 21, 3) := by decide +kernel
theorem dX3_tells_141 : decode cX3_tells 141 = .ok (.aload_n 0, 1) := by decide +kernel
theorem dX3_tells_142 : decode cX3_tells 142 = .ok (.getfield 16, 3) := by decide +kernel
theorem dX3_tells_145 : decode cX3_tells 145 = .ok (.iload 4, 2) := by decide +kernel
theorem dX3_tells_147 : decode cX3_tells 147 = .ok (.iload 5, 2) := by decide +kernel
theorem dX3_tells_149 : decode cX3_tells 149 = .ok (.iastore, 1) := by decide +kernel
theorem dX3_tells_150 : decode cX3_tells 150 = .ok (.aload_n 0, 1) := by decide +kernel
theorem dX3_tells_151 : decode cX3_tells 151 = .ok (.getfield 19, 3) := by decide +kernel
theorem dX3_tells_154 : decode cX3_tells 154 = .ok (.iload 4, 2) := by decide +kernel
theorem dX3_tells_156 : decode cX3_tells 156 = .ok (.iload 6, 2) := by decide +kernel
theorem dX3_tells_158 : decode cX3_tells 158 = .ok (.iastore, 1) := by decide +kernel
theorem dX3_tells_159 : decode cX3_tells 159 = .ok (.aload_n 0, 1) := by decide +kernel
theorem dX3_tells_160 : decode cX3_tells 160 = .ok (.iconst 1, 1) := by decide +kernel
theorem dX3_tells_161 : decode cX3_tells 161 = .ok (.iload_n 1, 1) := by decide +kernel
theorem dX3_tells_162 : decode cX3_tells 162 = .ok (.iload_n 2, 1) := by decide +kernel
theorem dX3_tells_163 : decode cX3_tells 163 = .ok (.iload_n 3, 1) := by decide +kernel
theorem dX3_tells_164 : decode cX3_tells 164 = .ok (.iload 5, 2) := by decide +kernel
theorem dX3_tells_166 : decode cX3_tells 166 = .ok (.iload 6, 2) := by decide +kernel
theorem dX3_tells_168 : decode cX3_tells 168 = .ok (.invokevirtual 57, 3) := by decide +kernel
theorem dX3_tells_171 : decode cX3_tells 171 = .ok (.return_, 1) := by decide +kernel
theorem dX3_tellsAll_0 : decode cX3_tellsAll 0 = .ok (.iconst 0, 1) := by decide +kernel
theorem dX3_tellsAll_1 : decode cX3_tellsAll 1 = .ok (.istore_n 3, 1) := by decide +kernel
theorem dX3_tellsAll_2 : decode cX3_tellsAll 2 = .ok (.iload_n 3, 1) := by decide +kernel
theorem dX3_tellsAll_3 : decode cX3_tellsAll 3 = .ok (.bipush 12, 2) := by decide +kernel
theorem dX3_tellsAll_5 : decode cX3_tellsAll 5 = .ok (.if_icmp .ge 30, 3) := by decide +kernel
theorem dX3_tellsAll_8 : decode cX3_tellsAll 8 = .ok (.aload_n 0, 1) := by decide +kernel
theorem dX3_tellsAll_9 : decode cX3_tellsAll 9 = .ok (.getfield 7, 3) := by decide +kernel
theorem dX3_tellsAll_12 : decode cX3_tellsAll 12 = .ok (.bipush 12, 2) := by decide +kernel
theorem dX3_tellsAll_14 : decode cX3_tellsAll 14 = .ok (.iload_n 1, 1) := by decide +kernel
theorem dX3_tellsAll_15 : decode cX3_tellsAll 15 = .ok (.imul, 1) := by decide +kernel
theorem dX3_tellsAll_16 : decode cX3_tellsAll 16 = .ok (.iload_n 3, 1) := by decide +kernel
theorem dX3_tellsAll_17 : decode cX3_tellsAll 17 = .ok (.iadd, 1) := by decide +kernel
theorem dX3_tellsAll_18 : decode cX3_tellsAll 18 = .ok (.iaload, 1) := by decide +kernel
theorem dX3_tellsAll_19 : decode cX3_tellsAll 19 = .ok (.ifCond .le 10, 3) := by decide +kernel
theorem dX3_tellsAll_22 : decode cX3_tellsAll 22 = .ok (.aload_n 0, 1) := by decide +kernel
theorem dX3_tellsAll_23 : decode cX3_tellsAll 23 = .ok (.iload_n 1, 1) := by decide +kernel
theorem dX3_tellsAll_24 : decode cX3_tellsAll 24 = .ok (.iload_n 3, 1) := by decide +kernel
theorem dX3_tellsAll_25 : decode cX3_tellsAll 25 = .ok (.iload_n 2, 1) := by decide +kernel
theorem dX3_tellsAll_26 : decode cX3_tellsAll 26 = .ok (.invokevirtual 65, 3) := by decide +kernel
theorem dX3_tellsAll_29 : decode cX3_tellsAll 29 = .ok (.iinc 3 1, 3) := by decide +kernel
theorem dX3_tellsAll_32 : decode cX3_tellsAll 32 = .ok (.goto (-30), 3) := by decide +kernel
theorem dX3_tellsAll_35 : decode cX3_tellsAll 35 = .ok (.return_, 1) := by decide +kernel
theorem dX3_asks_0 : decode cX3_asks 0 = .ok (.iconst 0, 1) := by decide +kernel
theorem dX3_asks_1 : decode cX3_asks 1 = .ok (.istore 6, 2) := by decide +kernel
theorem dX3_asks_3 : decode cX3_asks 3 = .ok (.iload 6, 2) := by decide +kernel
theorem dX3_asks_5 : decode cX3_asks 5 = .ok (.bipush 12, 2) := by decide +kernel
theorem dX3_asks_7 : decode cX3_asks 7 = .ok (.if_icmp .ge 43, 3) := by decide +kernel
theorem dX3_asks_10 : decode cX3_asks 10 = .ok (.aload_n 0, 1) := by decide +kernel
theorem dX3_asks_11 : decode cX3_asks 11 = .ok (.getfield 7, 3) := by decide +kernel
theorem dX3_asks_14 : decode cX3_asks 14 = .ok (.bipush 12, 2) := by decide +kernel
theorem dX3_asks_16 : decode cX3_asks 16 = .ok (.iload_n 1, 1) := by decide +kernel
theorem dX3_asks_17 : decode cX3_asks 17 = .ok (.imul, 1) := by decide +kernel
theorem dX3_asks_18 : decode cX3_asks 18 = .ok (.iload 6, 2) := by decide +kernel
theorem dX3_asks_20 : decode cX3_asks 20 = .ok (.iadd, 1) := by decide +kernel
theorem dX3_asks_21 : decode cX3_asks 21 = .ok (.iaload, 1) := by decide +kernel
theorem dX3_asks_22 : decode cX3_asks 22 = .ok (.ifCond .le 22, 3) := by decide +kernel
theorem dX3_asks_25 : decode cX3_asks 25 = .ok (.iload 6, 2) := by decide +kernel
theorem dX3_asks_27 : decode cX3_asks 27 = .ok (.iload 5, 2) := by decide +kernel
theorem dX3_asks_29 : decode cX3_asks 29 = .ok (.if_icmp .eq 15, 3) := by decide +kernel
theorem dX3_asks_32 : decode cX3_asks 32 = .ok (.aload_n 0, 1) := by decide +kernel
theorem dX3_asks_33 : decode cX3_asks 33 = .ok (.iconst 2, 1) := by decide +kernel
theorem dX3_asks_34 : decode cX3_asks 34 = .ok (.iload_n 1, 1) := by decide +kernel
theorem dX3_asks_35 : decode cX3_asks 35 = .ok (.iload 6, 2) := by decide +kernel
theorem dX3_asks_37 : decode cX3_asks 37 = .ok (.iload_n 2, 1) := by decide +kernel
theorem dX3_asks_38 : decode cX3_asks 38 = .ok (.iload_n 3, 1) := by decide +kernel
theorem dX3_asks_39 : decode cX3_asks 39 = .ok (.iload 4, 2) := by decide +kernel
theorem dX3_asks_41 : decode cX3_asks 41 = .ok (.invokevirtual 57, 3) := by decide +kernel
theorem dX3_asks_44 : decode cX3_asks 44 = .ok (.iinc 6 1, 3) := by decide +kernel
theorem dX3_asks_47 : decode cX3_asks 47 = .ok (.goto (-44), 3) := by decide +kernel
theorem dX3_asks_50 : decode cX3_asks 50 = .ok (.return_, 1) := by decide +kernel
theorem dX3_wanted_0 : decode cX3_wanted 0 = .ok (.bipush 12, 2) := by decide +kernel
theorem dX3_wanted_2 : decode cX3_wanted 2 = .ok (.iload_n 1, 1) := by decide +kernel
theorem dX3_wanted_3 : decode cX3_wanted 3 = .ok (.imul, 1) := by decide +kernel
theorem dX3_wanted_4 : decode cX3_wanted 4 = .ok (.iload_n 2, 1) := by decide +kernel
theorem dX3_wanted_5 : decode cX3_wanted 5 = .ok (.iadd, 1) := by decide +kernel
theorem dX3_wanted_6 : decode cX3_wanted 6 = .ok (.istore_n 3, 1) := by decide +kernel
theorem dX3_wanted_7 : decode cX3_wanted 7 = .ok (.aload_n 0, 1) := by decide +kernel
theorem dX3_wanted_8 : decode cX3_wanted 8 = .ok (.getfield 19, 3) := by decide +kernel
theorem dX3_wanted_11 : decode cX3_wanted 11 = .ok (.iload_n 3, 1) := by decide +kernel
theorem dX3_wanted_12 : decode cX3_wanted 12 = .ok (.iaload, 1) := by decide +kernel
theorem dX3_wanted_13 : decode cX3_wanted 13 = .ok (.iconst (-1), 1) := by decide +kernel
theorem dX3_wanted_14 : decode cX3_wanted 14 = .ok (.if_icmp .ne 7, 3) := by decide +kernel
theorem dX3_wanted_17 : decode cX3_wanted 17 = .ok (.iconst 0, 1) := by decide +kernel
theorem dX3_wanted_18 : decode cX3_wanted 18 = .ok (.goto 14, 3) := by decide +kernel
theorem dX3_wanted_21 : decode cX3_wanted 21 = .ok (.aload_n 0, 1) := by decide +kernel
theorem dX3_wanted_22 : decode cX3_wanted 22 = .ok (.getfield 16, 3) := by decide +kernel
theorem dX3_wanted_25 : decode cX3_wanted 25 = .ok (.iload_n 3, 1) := by decide +kernel
theorem dX3_wanted_26 : decode cX3_wanted 26 = .ok (.iaload, 1) := by decide +kernel
theorem dX3_wanted_27 : decode cX3_wanted 27 = .ok (.iconst 1, 1) := by decide +kernel
theorem dX3_wanted_28 : decode cX3_wanted 28 = .ok (.iadd, 1) := by decide +kernel
theorem dX3_wanted_29 : decode cX3_wanted 29 = .ok (.ldc 47, 2) := by decide +kernel
theorem dX3_wanted_31 : decode cX3_wanted 31 = .ok (.iand, 1) := by decide +kernel
theorem dX3_wanted_32 : decode cX3_wanted 32 = .ok (.ireturn, 1) := by decide +kernel
theorem dX3_isGood_0 : decode cX3_isGood 0 = .ok (.bipush 12, 2) := by decide +kernel
theorem dX3_isGood_2 : decode cX3_isGood 2 = .ok (.iload_n 1, 1) := by decide +kernel
theorem dX3_isGood_3 : decode cX3_isGood 3 = .ok (.imul, 1) := by decide +kernel
theorem dX3_isGood_4 : decode cX3_isGood 4 = .ok (.iload_n 2, 1) := by decide +kernel
theorem dX3_isGood_5 : decode cX3_isGood 5 = .ok (.iadd, 1) := by decide +kernel
theorem dX3_isGood_6 : decode cX3_isGood 6 = .ok (.istore 5, 2) := by decide +kernel
theorem dX3_isGood_8 : decode cX3_isGood 8 = .ok (.iload 4, 2) := by decide +kernel
theorem dX3_isGood_10 : decode cX3_isGood 10 = .ok (.ifCond .lt 62, 3) := by decide +kernel
theorem dX3_isGood_13 : decode cX3_isGood 13 = .ok (.iload 4, 2) := by decide +kernel
theorem dX3_isGood_15 : decode cX3_isGood 15 = .ok (.ldc 47, 2) := by decide +kernel
theorem dX3_isGood_17 : decode cX3_isGood 17 = .ok (.if_icmp .eq 55, 3) := by decide +kernel
theorem dX3_isGood_20 : decode cX3_isGood 20 = .ok (.aload_n 0, 1) := by decide +kernel
theorem dX3_isGood_21 : decode cX3_isGood 21 = .ok (.getfield 19, 3) := by decide +kernel
theorem dX3_isGood_24 : decode cX3_isGood 24 = .ok (.iload 5, 2) := by decide +kernel
theorem dX3_isGood_26 : decode cX3_isGood 26 = .ok (.iaload, 1) := by decide +kernel
theorem dX3_isGood_27 : decode cX3_isGood 27 = .ok (.iconst (-1), 1) := by decide +kernel
theorem dX3_isGood_28 : decode cX3_isGood 28 = .ok (.if_icmp .eq 40, 3) := by decide +kernel
theorem dX3_isGood_31 : decode cX3_isGood 31 = .ok (.iload_n 3, 1) := by decide +kernel
theorem dX3_isGood_32 : decode cX3_isGood 32 = .ok (.aload_n 0, 1) := by decide +kernel
theorem dX3_isGood_33 : decode cX3_isGood 33 = .ok (.getfield 16, 3) := by decide +kernel
theorem dX3_isGood_36 : decode cX3_isGood 36 = .ok (.iload 5, 2) := by decide +kernel
theorem dX3_isGood_38 : decode cX3_isGood 38 = .ok (.iaload, 1) := by decide +kernel
theorem dX3_isGood_39 : decode cX3_isGood 39 = .ok (.invokestatic 61, 3) := by decide +kernel
theorem dX3_isGood_42 : decode cX3_isGood 42 = .ok (.ifCond .ne 26, 3) := by decide +kernel
theorem dX3_isGood_45 : decode cX3_isGood 45 = .ok (.iload_n 3, 1) := by decide +kernel
theorem dX3_isGood_46 : decode cX3_isGood 46 = .ok (.aload_n 0, 1) := by decide +kernel
theorem dX3_isGood_47 : decode cX3_isGood 47 = .ok (.getfield 16, 3) := by decide +kernel
theorem dX3_isGood_50 : decode cX3_isGood 50 = .ok (.iload 5, 2) := by decide +kernel
theorem dX3_isGood_52 : decode cX3_isGood 52 = .ok (.iaload, 1) := by decide +kernel
theorem dX3_isGood_53 : decode cX3_isGood 53 = .ok (.if_icmp .ne 19, 3) := by decide +kernel
theorem dX3_isGood_56 : decode cX3_isGood 56 = .ok (.iload 4, 2) := by decide +kernel
theorem dX3_isGood_58 : decode cX3_isGood 58 = .ok (.aload_n 0, 1) := by decide +kernel
theorem dX3_isGood_59 : decode cX3_isGood 59 = .ok (.getfield 19, 3) := by decide +kernel
theorem dX3_isGood_62 : decode cX3_isGood 62 = .ok (.iload 5, 2) := by decide +kernel
theorem dX3_isGood_64 : decode cX3_isGood 64 = .ok (.iaload, 1) := by decide +kernel
theorem dX3_isGood_65 : decode cX3_isGood 65 = .ok (.if_icmp .ge 7, 3) := by decide +kernel
theorem dX3_isGood_68 : decode cX3_isGood 68 = .ok (.iconst 1, 1) := by decide +kernel
theorem dX3_isGood_69 : decode cX3_isGood 69 = .ok (.goto 4, 3) := by decide +kernel
theorem dX3_isGood_72 : decode cX3_isGood 72 = .ok (.iconst 0, 1) := by decide +kernel
theorem dX3_isGood_73 : decode cX3_isGood 73 = .ok (.ireturn, 1) := by decide +kernel
theorem dX3_by_0 : decode cX3_by 0 = .ok (.sipush 144, 3) := by decide +kernel
theorem dX3_by_3 : decode cX3_by 3 = .ok (.iload_n 1, 1) := by decide +kernel
theorem dX3_by_4 : decode cX3_by 4 = .ok (.imul, 1) := by decide +kernel
theorem dX3_by_5 : decode cX3_by 5 = .ok (.bipush 12, 2) := by decide +kernel
theorem dX3_by_7 : decode cX3_by 7 = .ok (.iload_n 2, 1) := by decide +kernel
theorem dX3_by_8 : decode cX3_by 8 = .ok (.imul, 1) := by decide +kernel
theorem dX3_by_9 : decode cX3_by 9 = .ok (.iadd, 1) := by decide +kernel
theorem dX3_by_10 : decode cX3_by 10 = .ok (.iload_n 3, 1) := by decide +kernel
theorem dX3_by_11 : decode cX3_by 11 = .ok (.iadd, 1) := by decide +kernel
theorem dX3_by_12 : decode cX3_by 12 = .ok (.istore 4, 2) := by decide +kernel
theorem dX3_by_14 : decode cX3_by 14 = .ok (.aload_n 0, 1) := by decide +kernel
theorem dX3_by_15 : decode cX3_by 15 = .ok (.getfield 7, 3) := by decide +kernel
theorem dX3_by_18 : decode cX3_by 18 = .ok (.bipush 12, 2) := by decide +kernel
theorem dX3_by_20 : decode cX3_by 20 = .ok (.iload_n 1, 1) := by decide +kernel
theorem dX3_by_21 : decode cX3_by 21 = .ok (.imul, 1) := by decide +kernel
theorem dX3_by_22 : decode cX3_by 22 = .ok (.iload_n 2, 1) := by decide +kernel
theorem dX3_by_23 : decode cX3_by 23 = .ok (.iadd, 1) := by decide +kernel
theorem dX3_by_24 : decode cX3_by 24 = .ok (.iaload, 1) := by decide +kernel
theorem dX3_by_25 : decode cX3_by 25 = .ok (.istore 5, 2) := by decide +kernel
theorem dX3_by_27 : decode cX3_by 27 = .ok (.iload 5, 2) := by decide +kernel
theorem dX3_by_29 : decode cX3_by 29 = .ok (.ifCond .eq 26, 3) := by decide +kernel
theorem dX3_by_32 : decode cX3_by 32 = .ok (.aload_n 0, 1) := by decide +kernel
theorem dX3_by_33 : decode cX3_by 33 = .ok (.iload_n 1, 1) := by decide +kernel
theorem dX3_by_34 : decode cX3_by 34 = .ok (.iload_n 3, 1) := by decide +kernel
theorem dX3_by_35 : decode cX3_by 35 = .ok (.aload_n 0, 1) := by decide +kernel
theorem dX3_by_36 : decode cX3_by 36 = .ok (.getfield 34, 3) := by decide +kernel
theorem dX3_by_39 : decode cX3_by 39 = .ok (.iload 4, 2) := by decide +kernel
theorem dX3_by_41 : decode cX3_by 41 = .ok (.iaload, 1) := by decide +kernel
theorem dX3_by_42 : decode cX3_by 42 = .ok (.aload_n 0, 1) := by decide +kernel
theorem dX3_by_43 : decode cX3_by 43 = .ok (.getfield 37, 3) := by decide +kernel
theorem dX3_by_46 : decode cX3_by 46 = .ok (.iload 4, 2) := by decide +kernel
theorem dX3_by_48 : decode cX3_by 48 = .ok (.iaload, 1) := by decide +kernel
theorem dX3_by_49 : decode cX3_by 49 = .ok (.invokevirtual 69, 3) := by decide +kernel
theorem dX3_by_52 : decode cX3_by 52 = .ok (.ifCond .ne 6, 3) := by decide +kernel
theorem dX3_by_55 : decode cX3_by 55 = .ok (.ldc 47, 2) := by decide +kernel
theorem dX3_by_57 : decode cX3_by 57 = .ok (.ireturn, 1) := by decide +kernel
theorem dX3_by_58 : decode cX3_by 58 = .ok (.aload_n 0, 1) := by decide +kernel
theorem dX3_by_59 : decode cX3_by 59 = .ok (.getfield 37, 3) := by decide +kernel
theorem dX3_by_62 : decode cX3_by 62 = .ok (.iload 4, 2) := by decide +kernel
theorem dX3_by_64 : decode cX3_by 64 = .ok (.iaload, 1) := by decide +kernel
theorem dX3_by_65 : decode cX3_by 65 = .ok (.iload 5, 2) := by decide +kernel
theorem dX3_by_67 : decode cX3_by 67 = .ok (.iadd, 1) := by decide +kernel
theorem dX3_by_68 : decode cX3_by 68 = .ok (.ldc 73, 2) := by decide +kernel
theorem dX3_by_70 : decode cX3_by 70 = .ok (.if_icmp .le 8, 3) := by decide +kernel
theorem dX3_by_73 : decode cX3_by 73 = .ok (.ldc 47, 2) := by decide +kernel
theorem dX3_by_75 : decode cX3_by 75 = .ok (.goto 13, 3) := by decide +kernel
theorem dX3_by_78 : decode cX3_by 78 = .ok (.aload_n 0, 1) := by decide +kernel
theorem dX3_by_79 : decode cX3_by 79 = .ok (.getfield 37, 3) := by decide +kernel
theorem dX3_by_82 : decode cX3_by 82 = .ok (.iload 4, 2) := by decide +kernel
theorem dX3_by_84 : decode cX3_by 84 = .ok (.iaload, 1) := by decide +kernel
theorem dX3_by_85 : decode cX3_by 85 = .ok (.iload 5, 2) := by decide +kernel
theorem dX3_by_87 : decode cX3_by 87 = .ok (.iadd, 1) := by decide +kernel
theorem dX3_by_88 : decode cX3_by 88 = .ok (.ireturn, 1) := by decide +kernel
theorem dX3_chooses_0 : decode cX3_chooses 0 = .ok (.bipush 12, 2) := by decide +kernel
theorem dX3_chooses_2 : decode cX3_chooses 2 = .ok (.iload_n 1, 1) := by decide +kernel
theorem dX3_chooses_3 : decode cX3_chooses 3 = .ok (.imul, 1) := by decide +kernel
theorem dX3_chooses_4 : decode cX3_chooses 4 = .ok (.iload_n 2, 1) := by decide +kernel
theorem dX3_chooses_5 : decode cX3_chooses 5 = .ok (.iadd, 1) := by decide +kernel
theorem dX3_chooses_6 : decode cX3_chooses 6 = .ok (.istore_n 3, 1) := by decide +kernel
theorem dX3_chooses_7 : decode cX3_chooses 7 = .ok (.ldc 47, 2) := by decide +kernel
theorem dX3_chooses_9 : decode cX3_chooses 9 = .ok (.istore 4, 2) := by decide +kernel
theorem dX3_chooses_11 : decode cX3_chooses 11 = .ok (.iconst 0, 1) := by decide +kernel
theorem dX3_chooses_12 : decode cX3_chooses 12 = .ok (.istore 5, 2) := by decide +kernel
theorem dX3_chooses_14 : decode cX3_chooses 14 = .ok (.iload 5, 2) := by decide +kernel
theorem dX3_chooses_16 : decode cX3_chooses 16 = .ok (.bipush 12, 2) := by decide +kernel
theorem dX3_chooses_18 : decode cX3_chooses 18 = .ok (.if_icmp .ge 37, 3) := by decide +kernel
theorem dX3_chooses_21 : decode cX3_chooses 21 = .ok (.aload_n 0, 1) := by decide +kernel
theorem dX3_chooses_22 : decode cX3_chooses 22 = .ok (.iload_n 1, 1) := by decide +kernel
theorem dX3_chooses_23 : decode cX3_chooses 23 = .ok (.iload 5, 2) := by decide +kernel
theorem dX3_chooses_25 : decode cX3_chooses 25 = .ok (.iload_n 2, 1) := by decide +kernel
theorem dX3_chooses_26 : decode cX3_chooses 26 = .ok (.invokevirtual 74, 3) := by decide +kernel
theorem dX3_chooses_29 : decode cX3_chooses 29 = .ok (.iload 4, 2) := by decide +kernel
theorem dX3_chooses_31 : decode cX3_chooses 31 = .ok (.if_icmp .ge 14, 3) := by decide +kernel
theorem dX3_chooses_34 : decode cX3_chooses 34 = .ok (.aload_n 0, 1) := by decide +kernel
theorem dX3_chooses_35 : decode cX3_chooses 35 = .ok (.iload_n 1, 1) := by decide +kernel
theorem dX3_chooses_36 : decode cX3_chooses 36 = .ok (.iload 5, 2) := by decide +kernel
theorem dX3_chooses_38 : decode cX3_chooses 38 = .ok (.iload_n 2, 1) := by decide +kernel
theorem dX3_chooses_39 : decode cX3_chooses 39 = .ok (.invokevirtual 74, 3) := by decide +kernel
theorem dX3_chooses_42 : decode cX3_chooses 42 = .ok (.goto 5, 3) := by decide +kernel
theorem dX3_chooses_45 : decode cX3_chooses 45 = .ok (.iload 4, 2) := by decide +kernel
theorem dX3_chooses_47 : decode cX3_chooses 47 = .ok (.istore 4, 2) := by decide +kernel
theorem dX3_chooses_49 : decode cX3_chooses 49 = .ok (.iinc 5 1, 3) := by decide +kernel
theorem dX3_chooses_52 : decode cX3_chooses 52 = .ok (.goto (-38), 3) := by decide +kernel
theorem dX3_chooses_55 : decode cX3_chooses 55 = .ok (.iconst (-1), 1) := by decide +kernel
theorem dX3_chooses_56 : decode cX3_chooses 56 = .ok (.istore 5, 2) := by decide +kernel
theorem dX3_chooses_58 : decode cX3_chooses 58 = .ok (.bipush 11, 2) := by decide +kernel
theorem dX3_chooses_60 : decode cX3_chooses 60 = .ok (.istore 6, 2) := by decide +kernel
theorem dX3_chooses_62 : decode cX3_chooses 62 = .ok (.iload 6, 2) := by decide +kernel
theorem dX3_chooses_64 : decode cX3_chooses 64 = .ok (.ifCond .lt 38, 3) := by decide +kernel
theorem dX3_chooses_67 : decode cX3_chooses 67 = .ok (.iload 4, 2) := by decide +kernel
theorem dX3_chooses_69 : decode cX3_chooses 69 = .ok (.ldc 47, 2) := by decide +kernel
theorem dX3_chooses_71 : decode cX3_chooses 71 = .ok (.if_icmp .ge 31, 3) := by decide +kernel
theorem dX3_chooses_74 : decode cX3_chooses 74 = .ok (.aload_n 0, 1) := by decide +kernel
theorem dX3_chooses_75 : decode cX3_chooses 75 = .ok (.iload_n 1, 1) := by decide +kernel
theorem dX3_chooses_76 : decode cX3_chooses 76 = .ok (.iload 6, 2) := by decide +kernel
theorem dX3_chooses_78 : decode cX3_chooses 78 = .ok (.iload_n 2, 1) := by decide +kernel
theorem dX3_chooses_79 : decode cX3_chooses 79 = .ok (.invokevirtual 74, 3) := by decide +kernel
theorem dX3_chooses_82 : decode cX3_chooses 82 = .ok (.iload 4, 2) := by decide +kernel
theorem dX3_chooses_84 : decode cX3_chooses 84 = .ok (.if_icmp .ne 8, 3) := by decide +kernel
theorem dX3_chooses_87 : decode cX3_chooses 87 = .ok (.iload 6, 2) := by decide +kernel
theorem dX3_chooses_89 : decode cX3_chooses 89 = .ok (.goto 5, 3) := by decide +kernel
theorem dX3_chooses_92 : decode cX3_chooses 92 = .ok (.iload 5, 2) := by decide +kernel
theorem dX3_chooses_94 : decode cX3_chooses 94 = .ok (.istore 5, 2) := by decide +kernel
theorem dX3_chooses_96 : decode cX3_chooses 96 = .ok (.iinc 6 (-1), 3) := by decide +kernel
theorem dX3_chooses_99 : decode cX3_chooses 99 = .ok (.goto (-37), 3) := by decide +kernel
theorem dX3_chooses_102 : decode cX3_chooses 102 = .ok (.iload 4, 2) := by decide +kernel
theorem dX3_chooses_104 : decode cX3_chooses 104 = .ok (.ldc 47, 2) := by decide +kernel
theorem dX3_chooses_106 : decode cX3_chooses 106 = .ok (.if_icmp .ge 39, 3) := by decide +kernel
theorem dX3_chooses_109 : decode cX3_chooses 109 = .ok (.aload_n 0, 1) := by decide +kernel
theorem dX3_chooses_110 : decode cX3_chooses 110 = .ok (.getfield 22, 3) := by decide +kernel
theorem dX3_chooses_113 : decode cX3_chooses 113 = .ok (.iload_n 3, 1) := by decide +kernel
theorem dX3_chooses_114 : decode cX3_chooses 114 = .ok (.iaload, 1) := by decide +kernel
theorem dX3_chooses_115 : decode cX3_chooses 115 = .ok (.iconst (-1), 1) := by decide +kernel
theorem dX3_chooses_116 : decode cX3_chooses 116 = .ok (.if_icmp .eq 29, 3) := by decide +kernel
theorem dX3_chooses_119 : decode cX3_chooses 119 = .ok (.aload_n 0, 1) := by decide +kernel
theorem dX3_chooses_120 : decode cX3_chooses 120 = .ok (.iload_n 1, 1) := by decide +kernel
theorem dX3_chooses_121 : decode cX3_chooses 121 = .ok (.aload_n 0, 1) := by decide +kernel
theorem dX3_chooses_122 : decode cX3_chooses 122 = .ok (.getfield 22, 3) := by decide +kernel
theorem dX3_chooses_125 : decode cX3_chooses 125 = .ok (.iload_n 3, 1) := by decide +kernel
theorem dX3_chooses_126 : decode cX3_chooses 126 = .ok (.iaload, 1) := by decide +kernel
theorem dX3_chooses_127 : decode cX3_chooses 127 = .ok (.iload_n 2, 1) := by decide +kernel
theorem dX3_chooses_128 : decode cX3_chooses 128 = .ok (.invokevirtual 74, 3) := by decide +kernel
theorem dX3_chooses_131 : decode cX3_chooses 131 = .ok (.iload 4, 2) := by decide +kernel
theorem dX3_chooses_133 : decode cX3_chooses 133 = .ok (.if_icmp .ne 12, 3) := by decide +kernel
theorem dX3_chooses_136 : decode cX3_chooses 136 = .ok (.aload_n 0, 1) := by decide +kernel
theorem dX3_chooses_137 : decode cX3_chooses 137 = .ok (.getfield 22, 3) := by decide +kernel
theorem dX3_chooses_140 : decode cX3_chooses 140 = .ok (.iload_n 3, 1) := by decide +kernel
theorem dX3_chooses_141 : decode cX3_chooses 141 = .ok (.iaload, 1) := by decide +kernel
theorem dX3_chooses_142 : decode cX3_chooses 142 = .ok (.goto 5, 3) := by decide +kernel
theorem dX3_chooses_145 : decode cX3_chooses 145 = .ok (.iload 5, 2) := by decide +kernel
theorem dX3_chooses_147 : decode cX3_chooses 147 = .ok (.istore 5, 2) := by decide +kernel
theorem dX3_chooses_149 : decode cX3_chooses 149 = .ok (.iload 5, 2) := by decide +kernel
theorem dX3_chooses_151 : decode cX3_chooses 151 = .ok (.iconst (-1), 1) := by decide +kernel
theorem dX3_chooses_152 : decode cX3_chooses 152 = .ok (.if_icmp .ne 7, 3) := by decide +kernel
theorem dX3_chooses_155 : decode cX3_chooses 155 = .ok (.iconst (-1), 1) := by decide +kernel
theorem dX3_chooses_156 : decode cX3_chooses 156 = .ok (.goto 21, 3) := by decide +kernel
theorem dX3_chooses_159 : decode cX3_chooses 159 = .ok (.aload_n 0, 1) := by decide +kernel
theorem dX3_chooses_160 : decode cX3_chooses 160 = .ok (.getfield 34, 3) := by decide +kernel
theorem dX3_chooses_163 : decode cX3_chooses 163 = .ok (.sipush 144, 3) := by decide +kernel
theorem dX3_chooses_166 : decode cX3_chooses 166 = .ok (.iload_n 1, 1) := by decide +kernel
theorem dX3_chooses_167 : decode cX3_chooses 167 = .ok (.imul, 1) := by decide +kernel
theorem dX3_chooses_168 : decode cX3_chooses 168 = .ok (.bipush 12, 2) := by decide +kernel
theorem dX3_chooses_170 : decode cX3_chooses 170 = .ok (.iload 5, 2) := by decide +kernel
theorem dX3_chooses_172 : decode cX3_chooses 172 = .ok (.imul, 1) := by decide +kernel
theorem dX3_chooses_173 : decode cX3_chooses 173 = .ok (.iadd, 1) := by decide +kernel
theorem dX3_chooses_174 : decode cX3_chooses 174 = .ok (.iload_n 2, 1) := by decide +kernel
theorem dX3_chooses_175 : decode cX3_chooses 175 = .ok (.iadd, 1) := by decide +kernel
theorem dX3_chooses_176 : decode cX3_chooses 176 = .ok (.iaload, 1) := by decide +kernel
theorem dX3_chooses_177 : decode cX3_chooses 177 = .ok (.istore 6, 2) := by decide +kernel
theorem dX3_chooses_179 : decode cX3_chooses 179 = .ok (.iload 5, 2) := by decide +kernel
theorem dX3_chooses_181 : decode cX3_chooses 181 = .ok (.iconst (-1), 1) := by decide +kernel
theorem dX3_chooses_182 : decode cX3_chooses 182 = .ok (.if_icmp .ne 7, 3) := by decide +kernel
theorem dX3_chooses_185 : decode cX3_chooses 185 = .ok (.iconst (-1), 1) := by decide +kernel
theorem dX3_chooses_186 : decode cX3_chooses 186 = .ok (.goto 5, 3) := by decide +kernel
theorem dX3_chooses_189 : decode cX3_chooses 189 = .ok (.iload 4, 2) := by decide +kernel
theorem dX3_chooses_191 : decode cX3_chooses 191 = .ok (.istore 7, 2) := by decide +kernel
theorem dX3_chooses_193 : decode cX3_chooses 193 = .ok (.iload 5, 2) := by decide +kernel
theorem dX3_chooses_195 : decode cX3_chooses 195 = .ok (.aload_n 0, 1) := by decide +kernel
theorem dX3_chooses_196 : decode cX3_chooses 196 = .ok (.getfield 22, 3) := by decide +kernel
theorem dX3_chooses_199 : decode cX3_chooses 199 = .ok (.iload_n 3, 1) := by decide +kernel
theorem dX3_chooses_200 : decode cX3_chooses 200 = .ok (.iaload, 1) := by decide +kernel
theorem dX3_chooses_201 : decode cX3_chooses 201 = .ok (.if_icmp .ne 26, 3) := by decide +kernel
theorem dX3_chooses_204 : decode cX3_chooses 204 = .ok (.iload 6, 2) := by decide +kernel
theorem dX3_chooses_206 : decode cX3_chooses 206 = .ok (.aload_n 0, 1) := by decide +kernel
theorem dX3_chooses_207 : decode cX3_chooses 207 = .ok (.getfield 25, 3) := by decide +kernel
theorem dX3_chooses_210 : decode cX3_chooses 210 = .ok (.iload_n 3, 1) := by decide +kernel
theorem dX3_chooses_211 : decode cX3_chooses 211 = .ok (.iaload, 1) := by decide +kernel
theorem dX3_chooses_212 : decode cX3_chooses 212 = .ok (.if_icmp .ne 15, 3) := by decide +kernel
theorem dX3_chooses_215 : decode cX3_chooses 215 = .ok (.iload 7, 2) := by decide +kernel
theorem dX3_chooses_217 : decode cX3_chooses 217 = .ok (.aload_n 0, 1) := by decide +kernel
theorem dX3_chooses_218 : decode cX3_chooses 218 = .ok (.getfield 28, 3) := by decide +kernel
theorem dX3_chooses_221 : decode cX3_chooses 221 = .ok (.iload_n 3, 1) := by decide +kernel
theorem dX3_chooses_222 : decode cX3_chooses 222 = .ok (.iaload, 1) := by decide +kernel
theorem dX3_chooses_223 : decode cX3_chooses 223 = .ok (.if_icmp .ne 4, 3) := by decide +kernel
theorem dX3_chooses_226 : decode cX3_chooses 226 = .ok (.return_, 1) := by decide +kernel
theorem dX3_chooses_227 : decode cX3_chooses 227 = .ok (.aload_n 0, 1) := by decide +kernel
theorem dX3_chooses_228 : decode cX3_chooses 228 = .ok (.getfield 22, 3) := by decide +kernel
theorem dX3_chooses_231 : decode cX3_chooses 231 = .ok (.iload_n 3, 1) := by decide +kernel
theorem dX3_chooses_232 : decode cX3_chooses 232 = .ok (.iload 5, 2) := by decide +kernel
theorem dX3_chooses_234 : decode cX3_chooses 234 = .ok (.iastore, 1) := by decide +kernel
theorem dX3_chooses_235 : decode cX3_chooses 235 = .ok (.aload_n 0, 1) := by decide +kernel
theorem dX3_chooses_236 : decode cX3_chooses 236 = .ok (.getfield 25, 3) := by decide +kernel
theorem dX3_chooses_239 : decode cX3_chooses 239 = .ok (.iload_n 3, 1) := by decide +kernel
theorem dX3_chooses_240 : decode cX3_chooses 240 = .ok (.iload 6, 2) := by decide +kernel
theorem dX3_chooses_242 : decode cX3_chooses 242 = .ok (.iastore, 1) := by decide +kernel
theorem dX3_chooses_243 : decode cX3_chooses 243 = .ok (.aload_n 0, 1) := by decide +kernel
theorem dX3_chooses_244 : decode cX3_chooses 244 = .ok (.getfield 28, 3) := by decide +kernel
theorem dX3_chooses_247 : decode cX3_chooses 247 = .ok (.iload_n 3, 1) := by decide +kernel
theorem dX3_chooses_248 : decode cX3_chooses 248 = .ok (.iload 7, 2) := by decide +kernel
theorem dX3_chooses_250 : decode cX3_chooses 250 = .ok (.iastore, 1) := by decide +kernel
theorem dX3_chooses_251 : decode cX3_chooses 251 = .ok (.aload_n 0, 1) := by decide +kernel
theorem dX3_chooses_252 : decode cX3_chooses 252 = .ok (.iload_n 1, 1) := by decide +kernel
theorem dX3_chooses_253 : decode cX3_chooses 253 = .ok (.iload_n 2, 1) := by decide +kernel
theorem dX3_chooses_254 : decode cX3_chooses 254 = .ok (.invokevirtual 78, 3) := by decide +kernel
theorem dX3_chooses_257 : decode cX3_chooses 257 = .ok (.iload 5, 2) := by decide +kernel
theorem dX3_chooses_259 : decode cX3_chooses 259 = .ok (.iconst (-1), 1) := by decide +kernel
theorem dX3_chooses_260 : decode cX3_chooses 260 = .ok (.if_icmp .ne 18, 3) := by decide +kernel
theorem dX3_chooses_263 : decode cX3_chooses 263 = .ok (.aload_n 0, 1) := by decide +kernel
theorem dX3_chooses_264 : decode cX3_chooses 264 = .ok (.iload_n 1, 1) := by decide +kernel
theorem dX3_chooses_265 : decode cX3_chooses 265 = .ok (.iload_n 2, 1) := by decide +kernel
theorem dX3_chooses_266 : decode cX3_chooses 266 = .ok (.aload_n 0, 1) := by decide +kernel
theorem dX3_chooses_267 : decode cX3_chooses 267 = .ok (.iload_n 1, 1) := by decide +kernel
theorem dX3_chooses_268 : decode cX3_chooses 268 = .ok (.iload_n 2, 1) := by decide +kernel
theorem dX3_chooses_269 : decode cX3_chooses 269 = .ok (.invokevirtual 82, 3) := by decide +kernel
theorem dX3_chooses_272 : decode cX3_chooses 272 = .ok (.bipush 8, 2) := by decide +kernel
theorem dX3_chooses_274 : decode cX3_chooses 274 = .ok (.iconst (-1), 1) := by decide +kernel
theorem dX3_chooses_275 : decode cX3_chooses 275 = .ok (.invokevirtual 86, 3) := by decide +kernel
theorem dX3_chooses_278 : decode cX3_chooses 278 = .ok (.return_, 1) := by decide +kernel
theorem dX3_choosesAll_0 : decode cX3_choosesAll 0 = .ok (.iconst 0, 1) := by decide +kernel
theorem dX3_choosesAll_1 : decode cX3_choosesAll 1 = .ok (.istore_n 2, 1) := by decide +kernel
theorem dX3_choosesAll_2 : decode cX3_choosesAll 2 = .ok (.iload_n 2, 1) := by decide +kernel
theorem dX3_choosesAll_3 : decode cX3_choosesAll 3 = .ok (.bipush 12, 2) := by decide +kernel
theorem dX3_choosesAll_5 : decode cX3_choosesAll 5 = .ok (.if_icmp .ge 20, 3) := by decide +kernel
theorem dX3_choosesAll_8 : decode cX3_choosesAll 8 = .ok (.iload_n 2, 1) := by decide +kernel
theorem dX3_choosesAll_9 : decode cX3_choosesAll 9 = .ok (.iload_n 1, 1) := by decide +kernel
theorem dX3_choosesAll_10 : decode cX3_choosesAll 10 = .ok (.if_icmp .eq 9, 3) := by decide +kernel
theorem dX3_choosesAll_13 : decode cX3_choosesAll 13 = .ok (.aload_n 0, 1) := by decide +kernel
theorem dX3_choosesAll_14 : decode cX3_choosesAll 14 = .ok (.iload_n 1, 1) := by decide +kernel
theorem dX3_choosesAll_15 : decode cX3_choosesAll 15 = .ok (.iload_n 2, 1) := by decide +kernel
theorem dX3_choosesAll_16 : decode cX3_choosesAll 16 = .ok (.invokevirtual 90, 3) := by decide +kernel
theorem dX3_choosesAll_19 : decode cX3_choosesAll 19 = .ok (.iinc 2 1, 3) := by decide +kernel
theorem dX3_choosesAll_22 : decode cX3_choosesAll 22 = .ok (.goto (-20), 3) := by decide +kernel
theorem dX3_choosesAll_25 : decode cX3_choosesAll 25 = .ok (.return_, 1) := by decide +kernel
theorem dX3_link_0 : decode cX3_link 0 = .ok (.aload_n 0, 1) := by decide +kernel
theorem dX3_link_1 : decode cX3_link 1 = .ok (.iload_n 1, 1) := by decide +kernel
theorem dX3_link_2 : decode cX3_link 2 = .ok (.invokestatic 93, 3) := by decide +kernel
theorem dX3_link_5 : decode cX3_link 5 = .ok (.ifCond .eq 26, 3) := by decide +kernel
theorem dX3_link_8 : decode cX3_link 8 = .ok (.iload_n 2, 1) := by decide +kernel
theorem dX3_link_9 : decode cX3_link 9 = .ok (.invokestatic 93, 3) := by decide +kernel
theorem dX3_link_12 : decode cX3_link 12 = .ok (.ifCond .eq 19, 3) := by decide +kernel
theorem dX3_link_15 : decode cX3_link 15 = .ok (.iload_n 1, 1) := by decide +kernel
theorem dX3_link_16 : decode cX3_link 16 = .ok (.iload_n 2, 1) := by decide +kernel
theorem dX3_link_17 : decode cX3_link 17 = .ok (.if_icmp .eq 14, 3) := by decide +kernel
theorem dX3_link_20 : decode cX3_link 20 = .ok (.iload_n 3, 1) := by decide +kernel
theorem dX3_link_21 : decode cX3_link 21 = .ok (.ifCond .lt 10, 3) := by decide +kernel
theorem dX3_link_24 : decode cX3_link 24 = .ok (.iload_n 3, 1) := by decide +kernel
theorem dX3_link_25 : decode cX3_link 25 = .ok (.sipush 1000, 3) := by decide +kernel
theorem dX3_link_28 : decode cX3_link 28 = .ok (.if_icmp .le 7, 3) := by decide +kernel
theorem dX3_link_31 : decode cX3_link 31 = .ok (.iconst 1, 1) := by decide +kernel
theorem dX3_link_32 : decode cX3_link 32 = .ok (.goto 4, 3) := by decide +kernel
theorem dX3_link_35 : decode cX3_link 35 = .ok (.iconst 0, 1) := by decide +kernel
theorem dX3_link_36 : decode cX3_link 36 = .ok (.invokevirtual 97, 3) := by decide +kernel
theorem dX3_link_39 : decode cX3_link 39 = .ok (.ifCond .eq 5, 3) := by decide +kernel
theorem dX3_link_42 : decode cX3_link 42 = .ok (.iconst 0, 1) := by decide +kernel
theorem dX3_link_43 : decode cX3_link 43 = .ok (.ireturn, 1) := by decide +kernel
theorem dX3_link_44 : decode cX3_link 44 = .ok (.aload_n 0, 1) := by decide +kernel
theorem dX3_link_45 : decode cX3_link 45 = .ok (.getfield 7, 3) := by decide +kernel
theorem dX3_link_48 : decode cX3_link 48 = .ok (.bipush 12, 2) := by decide +kernel
theorem dX3_link_50 : decode cX3_link 50 = .ok (.iload_n 1, 1) := by decide +kernel
theorem dX3_link_51 : decode cX3_link 51 = .ok (.imul, 1) := by decide +kernel
theorem dX3_link_52 : decode cX3_link 52 = .ok (.iload_n 2, 1) := by decide +kernel
theorem dX3_link_53 : decode cX3_link 53 = .ok (.iadd, 1) := by decide +kernel
theorem dX3_link_54 : decode cX3_link 54 = .ok (.iaload, 1) := by decide +kernel
theorem dX3_link_55 : decode cX3_link 55 = .ok (.istore 4, 2) := by decide +kernel
theorem dX3_link_57 : decode cX3_link 57 = .ok (.iload_n 1, 1) := by decide +kernel
theorem dX3_link_58 : decode cX3_link 58 = .ok (.iload_n 2, 1) := by decide +kernel
theorem dX3_link_59 : decode cX3_link 59 = .ok (.if_icmp .ge 7, 3) := by decide +kernel
theorem dX3_link_62 : decode cX3_link 62 = .ok (.iload_n 1, 1) := by decide +kernel
theorem dX3_link_63 : decode cX3_link 63 = .ok (.goto 4, 3) := by decide +kernel
theorem dX3_link_66 : decode cX3_link 66 = .ok (.iload_n 2, 1) := by decide +kernel
theorem dX3_link_67 : decode cX3_link 67 = .ok (.istore 5, 2) := by decide +kernel
theorem dX3_link_69 : decode cX3_link 69 = .ok (.iload_n 1, 1) := by decide +kernel
theorem dX3_link_70 : decode cX3_link 70 = .ok (.iload_n 2, 1) := by decide +kernel
theorem dX3_link_71 : decode cX3_link 71 = .ok (.if_icmp .ge 7, 3) := by decide +kernel
theorem dX3_link_74 : decode cX3_link 74 = .ok (.iload_n 2, 1) := by decide +kernel
theorem dX3_link_75 : decode cX3_link 75 = .ok (.goto 4, 3) := by decide +kernel
theorem dX3_link_78 : decode cX3_link 78 = .ok (.iload_n 1, 1) := by decide +kernel
theorem dX3_link_79 : decode cX3_link 79 = .ok (.istore 6, 2) := by decide +kernel
theorem dX3_link_81 : decode cX3_link 81 = .ok (.aload_n 0, 1) := by decide +kernel
theorem dX3_link_82 : decode cX3_link 82 = .ok (.getfield 7, 3) := by decide +kernel
theorem dX3_link_85 : decode cX3_link 85 = .ok (.bipush 12, 2) := by decide +kernel
theorem dX3_link_87 : decode cX3_link 87 = .ok (.iload_n 1, 1) := by decide +kernel
theorem dX3_link_88 : decode cX3_link 88 = .ok (.imul, 1) := by decide +kernel
theorem dX3_link_89 : decode cX3_link 89 = .ok (.iload_n 2, 1) := by decide +kernel
theorem dX3_link_90 : decode cX3_link 90 = .ok (.iadd, 1) := by decide +kernel
theorem dX3_link_91 : decode cX3_link 91 = .ok (.iload_n 3, 1) := by decide +kernel
theorem dX3_link_92 : decode cX3_link 92 = .ok (.iastore, 1) := by decide +kernel
theorem dX3_link_93 : decode cX3_link 93 = .ok (.aload_n 0, 1) := by decide +kernel
theorem dX3_link_94 : decode cX3_link 94 = .ok (.getfield 7, 3) := by decide +kernel
theorem dX3_link_97 : decode cX3_link 97 = .ok (.bipush 12, 2) := by decide +kernel
theorem dX3_link_99 : decode cX3_link 99 = .ok (.iload_n 2, 1) := by decide +kernel
theorem dX3_link_100 : decode cX3_link 100 = .ok (.imul, 1) := by decide +kernel
theorem dX3_link_101 : decode cX3_link 101 = .ok (.iload_n 1, 1) := by decide +kernel
theorem dX3_link_102 : decode cX3_link 102 = .ok (.iadd, 1) := by decide +kernel
theorem dX3_link_103 : decode cX3_link 103 = .ok (.iload_n 3, 1) := by decide +kernel
theorem dX3_link_104 : decode cX3_link 104 = .ok (.iastore, 1) := by decide +kernel
theorem dX3_link_105 : decode cX3_link 105 = .ok (.iload 4, 2) := by decide +kernel
theorem dX3_link_107 : decode cX3_link 107 = .ok (.ifCond .ne 36, 3) := by decide +kernel
theorem dX3_link_110 : decode cX3_link 110 = .ok (.iload_n 3, 1) := by decide +kernel
theorem dX3_link_111 : decode cX3_link 111 = .ok (.ifCond .le 32, 3) := by decide +kernel
theorem dX3_link_114 : decode cX3_link 114 = .ok (.aload_n 0, 1) := by decide +kernel
theorem dX3_link_115 : decode cX3_link 115 = .ok (.dup, 1) := by decide +kernel
theorem dX3_link_116 : decode cX3_link 116 = .ok (.getfield 100, 3) := by decide +kernel
theorem dX3_link_119 : decode cX3_link 119 = .ok (.iconst 1, 1) := by decide +kernel
theorem dX3_link_120 : decode cX3_link 120 = .ok (.iadd, 1) := by decide +kernel
theorem dX3_link_121 : decode cX3_link 121 = .ok (.putfield 100, 3) := by decide +kernel
theorem dX3_link_124 : decode cX3_link 124 = .ok (.aload_n 0, 1) := by decide +kernel
theorem dX3_link_125 : decode cX3_link 125 = .ok (.iload 5, 2) := by decide +kernel
theorem dX3_link_127 : decode cX3_link 127 = .ok (.iload 6, 2) := by decide +kernel
theorem dX3_link_129 : decode cX3_link 129 = .ok (.invokevirtual 103, 3) := by decide +kernel
theorem dX3_link_132 : decode cX3_link 132 = .ok (.aload_n 0, 1) := by decide +kernel
theorem dX3_link_133 : decode cX3_link 133 = .ok (.iload 6, 2) := by decide +kernel
theorem dX3_link_135 : decode cX3_link 135 = .ok (.iload 5, 2) := by decide +kernel
theorem dX3_link_137 : decode cX3_link 137 = .ok (.invokevirtual 103, 3) := by decide +kernel
theorem dX3_link_140 : decode cX3_link 140 = .ok (.goto 143, 3) := by decide +kernel
theorem dX3_link_143 : decode cX3_link 143 = .ok (.iload 4, 2) := by decide +kernel
theorem dX3_link_145 : decode cX3_link 145 = .ok (.iload_n 3, 1) := by decide +kernel
theorem dX3_link_146 : decode cX3_link 146 = .ok (.if_icmp .eq 137, 3) := by decide +kernel
theorem dX3_link_149 : decode cX3_link 149 = .ok (.aload_n 0, 1) := by decide +kernel
theorem dX3_link_150 : decode cX3_link 150 = .ok (.dup, 1) := by decide +kernel
theorem dX3_link_151 : decode cX3_link 151 = .ok (.getfield 100, 3) := by decide +kernel
theorem dX3_link_154 : decode cX3_link 154 = .ok (.iload_n 3, 1) := by decide +kernel
theorem dX3_link_155 : decode cX3_link 155 = .ok (.ifCond .ne 7, 3) := by decide +kernel
theorem dX3_link_158 : decode cX3_link 158 = .ok (.iconst 1, 1) := by decide +kernel
theorem dX3_link_159 : decode cX3_link 159 = .ok (.goto 4, 3) := by decide +kernel
theorem dX3_link_162 : decode cX3_link 162 = .ok (.iconst 0, 1) := by decide +kernel
theorem dX3_link_163 : decode cX3_link 163 = .ok (.isub, 1) := by decide +kernel
theorem dX3_link_164 : decode cX3_link 164 = .ok (.putfield 100, 3) := by decide +kernel
theorem dX3_link_167 : decode cX3_link 167 = .ok (.iconst 0, 1) := by decide +kernel
theorem dX3_link_168 : decode cX3_link 168 = .ok (.istore 7, 2) := by decide +kernel
theorem dX3_link_170 : decode cX3_link 170 = .ok (.iload 7, 2) := by decide +kernel
theorem dX3_link_172 : decode cX3_link 172 = .ok (.bipush 12, 2) := by decide +kernel
theorem dX3_link_174 : decode cX3_link 174 = .ok (.if_icmp .ge 97, 3) := by decide +kernel
theorem dX3_link_177 : decode cX3_link 177 = .ok (.iload_n 3, 1) := by decide +kernel
theorem dX3_link_178 : decode cX3_link 178 = .ok (.ifCond .ne 93, 3) := by decide +kernel
theorem dX3_link_181 : decode cX3_link 181 = .ok (.aload_n 0, 1) := by decide +kernel
theorem dX3_link_182 : decode cX3_link 182 = .ok (.getfield 34, 3) := by decide +kernel
theorem dX3_link_185 : decode cX3_link 185 = .ok (.sipush 144, 3) := by decide +kernel
theorem dX3_link_188 : decode cX3_link 188 = .ok (.iload 5, 2) := by decide +kernel
theorem dX3_link_190 : decode cX3_link 190 = .ok (.imul, 1) := by decide +kernel
theorem dX3_link_191 : decode cX3_link 191 = .ok (.bipush 12, 2) := by decide +kernel
theorem dX3_link_193 : decode cX3_link 193 = .ok (.iload 6, 2) := by decide +kernel
theorem dX3_link_195 : decode cX3_link 195 = .ok (.imul, 1) := by decide +kernel
theorem dX3_link_196 : decode cX3_link 196 = .ok (.iadd, 1) := by decide +kernel
theorem dX3_link_197 : decode cX3_link 197 = .ok (.iload 7, 2) := by decide +kernel
theorem dX3_link_199 : decode cX3_link 199 = .ok (.iadd, 1) := by decide +kernel
theorem dX3_link_200 : decode cX3_link 200 = .ok (.iconst (-1), 1) := by decide +kernel
theorem dX3_link_201 : decode cX3_link 201 = .ok (.iastore, 1) := by decide +kernel
theorem dX3_link_202 : decode cX3_link 202 = .ok (.aload_n 0, 1) := by decide +kernel
theorem dX3_link_203 : decode cX3_link 203 = .ok (.getfield 37, 3) := by decide +kernel
theorem dX3_link_206 : decode cX3_link 206 = .ok (.sipush 144, 3) := by decide +kernel
theorem dX3_link_209 : decode cX3_link 209 = .ok (.iload 5, 2) := by decide +kernel
theorem dX3_link_211 : decode cX3_link 211 = .ok (.imul, 1) := by decide +kernel
theorem dX3_link_212 : decode cX3_link 212 = .ok (.bipush 12, 2) := by decide +kernel
theorem dX3_link_214 : decode cX3_link 214 = .ok (.iload 6, 2) := by decide +kernel
theorem dX3_link_216 : decode cX3_link 216 = .ok (.imul, 1) := by decide +kernel
theorem dX3_link_217 : decode cX3_link 217 = .ok (.iadd, 1) := by decide +kernel
theorem dX3_link_218 : decode cX3_link 218 = .ok (.iload 7, 2) := by decide +kernel
theorem dX3_link_220 : decode cX3_link 220 = .ok (.iadd, 1) := by decide +kernel
theorem dX3_link_221 : decode cX3_link 221 = .ok (.iconst (-1), 1) := by decide +kernel
theorem dX3_link_222 : decode cX3_link 222 = .ok (.iastore, 1) := by decide +kernel
theorem dX3_link_223 : decode cX3_link 223 = .ok (.aload_n 0, 1) := by decide +kernel
theorem dX3_link_224 : decode cX3_link 224 = .ok (.getfield 34, 3) := by decide +kernel
theorem dX3_link_227 : decode cX3_link 227 = .ok (.sipush 144, 3) := by decide +kernel
theorem dX3_link_230 : decode cX3_link 230 = .ok (.iload 6, 2) := by decide +kernel
theorem dX3_link_232 : decode cX3_link 232 = .ok (.imul, 1) := by decide +kernel
theorem dX3_link_233 : decode cX3_link 233 = .ok (.bipush 12, 2) := by decide +kernel
theorem dX3_link_235 : decode cX3_link 235 = .ok (.iload 5, 2) := by decide +kernel
theorem dX3_link_237 : decode cX3_link 237 = .ok (.imul, 1) := by decide +kernel
theorem dX3_link_238 : decode cX3_link 238 = .ok (.iadd, 1) := by decide +kernel
theorem dX3_link_239 : decode cX3_link 239 = .ok (.iload 7, 2) := by decide +kernel
theorem dX3_link_241 : decode cX3_link 241 = .ok (.iadd, 1) := by decide +kernel
theorem dX3_link_242 : decode cX3_link 242 = .ok (.iconst (-1), 1) := by decide +kernel
theorem dX3_link_243 : decode cX3_link 243 = .ok (.iastore, 1) := by decide +kernel
theorem dX3_link_244 : decode cX3_link 244 = .ok (.aload_n 0, 1) := by decide +kernel
theorem dX3_link_245 : decode cX3_link 245 = .ok (.getfield 37, 3) := by decide +kernel
theorem dX3_link_248 : decode cX3_link 248 = .ok (.sipush 144, 3) := by decide +kernel
theorem dX3_link_251 : decode cX3_link 251 = .ok (.iload 6, 2) := by decide +kernel
theorem dX3_link_253 : decode cX3_link 253 = .ok (.imul, 1) := by decide +kernel
theorem dX3_link_254 : decode cX3_link 254 = .ok (.bipush 12, 2) := by decide +kernel
theorem dX3_link_256 : decode cX3_link 256 = .ok (.iload 5, 2) := by decide +kernel
theorem dX3_link_258 : decode cX3_link 258 = .ok (.imul, 1) := by decide +kernel
theorem dX3_link_259 : decode cX3_link 259 = .ok (.iadd, 1) := by decide +kernel
theorem dX3_link_260 : decode cX3_link 260 = .ok (.iload 7, 2) := by decide +kernel
theorem dX3_link_262 : decode cX3_link 262 = .ok (.iadd, 1) := by decide +kernel
theorem dX3_link_263 : decode cX3_link 263 = .ok (.iconst (-1), 1) := by decide +kernel
theorem dX3_link_264 : decode cX3_link 264 = .ok (.iastore, 1) := by decide +kernel
theorem dX3_link_265 : decode cX3_link 265 = .ok (.iinc 7 1, 3) := by decide +kernel
theorem dX3_link_268 : decode cX3_link 268 = .ok (.goto (-98), 3) := by decide +kernel
theorem dX3_link_271 : decode cX3_link 271 = .ok (.aload_n 0, 1) := by decide +kernel
theorem dX3_link_272 : decode cX3_link 272 = .ok (.iload 5, 2) := by decide +kernel
theorem dX3_link_274 : decode cX3_link 274 = .ok (.invokevirtual 106, 3) := by decide +kernel
theorem dX3_link_277 : decode cX3_link 277 = .ok (.aload_n 0, 1) := by decide +kernel
theorem dX3_link_278 : decode cX3_link 278 = .ok (.iload 6, 2) := by decide +kernel
theorem dX3_link_280 : decode cX3_link 280 = .ok (.invokevirtual 106, 3) := by decide +kernel
theorem dX3_link_283 : decode cX3_link 283 = .ok (.iload 4, 2) := by decide +kernel
theorem dX3_link_285 : decode cX3_link 285 = .ok (.ireturn, 1) := by decide +kernel
theorem dX3_introduces_0 : decode cX3_introduces 0 = .ok (.iconst 0, 1) := by decide +kernel
theorem dX3_introduces_1 : decode cX3_introduces 1 = .ok (.istore_n 3, 1) := by decide +kernel
theorem dX3_introduces_2 : decode cX3_introduces 2 = .ok (.iload_n 3, 1) := by decide +kernel
theorem dX3_introduces_3 : decode cX3_introduces 3 = .ok (.bipush 12, 2) := by decide +kernel
theorem dX3_introduces_5 : decode cX3_introduces 5 = .ok (.if_icmp .ge 36, 3) := by decide +kernel
theorem dX3_introduces_8 : decode cX3_introduces 8 = .ok (.iload_n 3, 1) := by decide +kernel
theorem dX3_introduces_9 : decode cX3_introduces 9 = .ok (.iload_n 1, 1) := by decide +kernel
theorem dX3_introduces_10 : decode cX3_introduces 10 = .ok (.if_icmp .eq 18, 3) := by decide +kernel
theorem dX3_introduces_13 : decode cX3_introduces 13 = .ok (.aload_n 0, 1) := by decide +kernel
theorem dX3_introduces_14 : decode cX3_introduces 14 = .ok (.getfield 22, 3) := by decide +kernel
theorem dX3_introduces_17 : decode cX3_introduces 17 = .ok (.bipush 12, 2) := by decide +kernel
theorem dX3_introduces_19 : decode cX3_introduces 19 = .ok (.iload_n 1, 1) := by decide +kernel
theorem dX3_introduces_20 : decode cX3_introduces 20 = .ok (.imul, 1) := by decide +kernel
theorem dX3_introduces_21 : decode cX3_introduces 21 = .ok (.iload_n 3, 1) := by decide +kernel
theorem dX3_introduces_22 : decode cX3_introduces 22 = .ok (.iadd, 1) := by decide +kernel
theorem dX3_introduces_23 : decode cX3_introduces 23 = .ok (.iaload, 1) := by decide +kernel
theorem dX3_introduces_24 : decode cX3_introduces 24 = .ok (.iconst (-1), 1) := by decide +kernel
theorem dX3_introduces_25 : decode cX3_introduces 25 = .ok (.if_icmp .eq 10, 3) := by decide +kernel
theorem dX3_introduces_28 : decode cX3_introduces 28 = .ok (.aload_n 0, 1) := by decide +kernel
theorem dX3_introduces_29 : decode cX3_introduces 29 = .ok (.iload_n 1, 1) := by decide +kernel
theorem dX3_introduces_30 : decode cX3_introduces 30 = .ok (.iload_n 2, 1) := by decide +kernel
theorem dX3_introduces_31 : decode cX3_introduces 31 = .ok (.iload_n 3, 1) := by decide +kernel
theorem dX3_introduces_32 : decode cX3_introduces 32 = .ok (.invokevirtual 65, 3) := by decide +kernel
theorem dX3_introduces_35 : decode cX3_introduces 35 = .ok (.iinc 3 1, 3) := by decide +kernel
theorem dX3_introduces_38 : decode cX3_introduces 38 = .ok (.goto (-36), 3) := by decide +kernel
theorem dX3_introduces_41 : decode cX3_introduces 41 = .ok (.return_, 1) := by decide +kernel
theorem dX3_announce_0 : decode cX3_announce 0 = .ok (.aload_n 0, 1) := by decide +kernel
theorem dX3_announce_1 : decode cX3_announce 1 = .ok (.iload_n 1, 1) := by decide +kernel
theorem dX3_announce_2 : decode cX3_announce 2 = .ok (.invokestatic 93, 3) := by decide +kernel
theorem dX3_announce_5 : decode cX3_announce 5 = .ok (.ifCond .eq 7, 3) := by decide +kernel
theorem dX3_announce_8 : decode cX3_announce 8 = .ok (.iconst 0, 1) := by decide +kernel
theorem dX3_announce_9 : decode cX3_announce 9 = .ok (.goto 4, 3) := by decide +kernel
theorem dX3_announce_12 : decode cX3_announce 12 = .ok (.iconst 1, 1) := by decide +kernel
theorem dX3_announce_13 : decode cX3_announce 13 = .ok (.invokevirtual 97, 3) := by decide +kernel
theorem dX3_announce_16 : decode cX3_announce 16 = .ok (.ifCond .eq 5, 3) := by decide +kernel
theorem dX3_announce_19 : decode cX3_announce 19 = .ok (.iconst 0, 1) := by decide +kernel
theorem dX3_announce_20 : decode cX3_announce 20 = .ok (.ireturn, 1) := by decide +kernel
theorem dX3_announce_21 : decode cX3_announce 21 = .ok (.aload_n 0, 1) := by decide +kernel
theorem dX3_announce_22 : decode cX3_announce 22 = .ok (.getfield 48, 3) := by decide +kernel
theorem dX3_announce_25 : decode cX3_announce 25 = .ok (.istore_n 2, 1) := by decide +kernel
end
section
theorem dX3_announce_26 : decode cX3_announce 26 = .ok (.iconst 0, 1) := by decide +kernel
theorem dX3_announce_27 : decode cX3_announce 27 = .ok (.istore_n 3, 1) := by decide +kernel
theorem dX3_announce_28 : decode cX3_announce 28 = .ok (.iload_n 3, 1) := by decide +kernel
theorem dX3_announce_29 : decode cX3_announce 29 = .ok (.bipush 12, 2) := by decide +kernel
theorem dX3_announce_31 : decode cX3_announce 31 = .ok (.if_icmp .ge 50, 3) := by decide +kernel
theorem dX3_announce_34 : decode cX3_announce 34 = .ok (.iload_n 3, 1) := by decide +kernel
theorem dX3_announce_35 : decode cX3_announce 35 = .ok (.iload_n 1, 1) := by decide +kernel
theorem dX3_announce_36 : decode cX3_announce 36 = .ok (.if_icmp .eq 33, 3) := by decide +kernel
theorem dX3_announce_39 : decode cX3_announce 39 = .ok (.aload_n 0, 1) := by decide +kernel
theorem dX3_announce_40 : decode cX3_announce 40 = .ok (.getfield 22, 3) := by decide +kernel
theorem dX3_announce_43 : decode cX3_announce 43 = .ok (.bipush 12, 2) := by decide +kernel
theorem dX3_announce_45 : decode cX3_announce 45 = .ok (.iload_n 1, 1) := by decide +kernel
theorem dX3_announce_46 : decode cX3_announce 46 = .ok (.imul, 1) := by decide +kernel
theorem dX3_announce_47 : decode cX3_announce 47 = .ok (.iload_n 3, 1) := by decide +kernel
theorem dX3_announce_48 : decode cX3_announce 48 = .ok (.iadd, 1) := by decide +kernel
theorem dX3_announce_49 : decode cX3_announce 49 = .ok (.iaload, 1) := by decide +kernel
theorem dX3_announce_50 : decode cX3_announce 50 = .ok (.iconst (-1), 1) := by decide +kernel
theorem dX3_announce_51 : decode cX3_announce 51 = .ok (.if_icmp .ne 18, 3) := by decide +kernel
theorem dX3_announce_54 : decode cX3_announce 54 = .ok (.aload_n 0, 1) := by decide +kernel
theorem dX3_announce_55 : decode cX3_announce 55 = .ok (.getfield 19, 3) := by decide +kernel
theorem dX3_announce_58 : decode cX3_announce 58 = .ok (.bipush 12, 2) := by decide +kernel
theorem dX3_announce_60 : decode cX3_announce 60 = .ok (.iload_n 1, 1) := by decide +kernel
theorem dX3_announce_61 : decode cX3_announce 61 = .ok (.imul, 1) := by decide +kernel
theorem dX3_announce_62 : decode cX3_announce 62 = .ok (.iload_n 3, 1) := by decide +kernel
theorem dX3_announce_63 : decode cX3_announce 63 = .ok (.iadd, 1) := by decide +kernel
theorem dX3_announce_64 : decode cX3_announce 64 = .ok (.iaload, 1) := by decide +kernel
theorem dX3_announce_65 : decode cX3_announce 65 = .ok (.iconst (-1), 1) := by decide +kernel
theorem dX3_announce_66 : decode cX3_announce 66 = .ok (.if_icmp .eq 9, 3) := by decide +kernel
theorem dX3_announce_69 : decode cX3_announce 69 = .ok (.aload_n 0, 1) := by decide +kernel
theorem dX3_announce_70 : decode cX3_announce 70 = .ok (.iload_n 1, 1) := by decide +kernel
theorem dX3_announce_71 : decode cX3_announce 71 = .ok (.iload_n 3, 1) := by decide +kernel
theorem dX3_announce_72 : decode cX3_announce 72 = .ok (.invokevirtual 78, 3) := by decide +kernel
theorem dX3_announce_75 : decode cX3_announce 75 = .ok (.iinc 3 1, 3) := by decide +kernel
theorem dX3_announce_78 : decode cX3_announce 78 = .ok (.goto (-50), 3) := by decide +kernel
theorem dX3_announce_81 : decode cX3_announce 81 = .ok (.aload_n 0, 1) := by decide +kernel
theorem dX3_announce_82 : decode cX3_announce 82 = .ok (.getfield 48, 3) := by decide +kernel
theorem dX3_announce_85 : decode cX3_announce 85 = .ok (.iload_n 2, 1) := by decide +kernel
theorem dX3_announce_86 : decode cX3_announce 86 = .ok (.isub, 1) := by decide +kernel
theorem dX3_announce_87 : decode cX3_announce 87 = .ok (.ireturn, 1) := by decide +kernel
theorem dX3_renew_0 : decode cX3_renew 0 = .ok (.aload_n 0, 1) := by decide +kernel
theorem dX3_renew_1 : decode cX3_renew 1 = .ok (.iload_n 1, 1) := by decide +kernel
theorem dX3_renew_2 : decode cX3_renew 2 = .ok (.invokestatic 93, 3) := by decide +kernel
theorem dX3_renew_5 : decode cX3_renew 5 = .ok (.ifCond .eq 7, 3) := by decide +kernel
theorem dX3_renew_8 : decode cX3_renew 8 = .ok (.iconst 0, 1) := by decide +kernel
theorem dX3_renew_9 : decode cX3_renew 9 = .ok (.goto 4, 3) := by decide +kernel
theorem dX3_renew_12 : decode cX3_renew 12 = .ok (.iconst 1, 1) := by decide +kernel
theorem dX3_renew_13 : decode cX3_renew 13 = .ok (.invokevirtual 97, 3) := by decide +kernel
theorem dX3_renew_16 : decode cX3_renew 16 = .ok (.ifCond .eq 5, 3) := by decide +kernel
theorem dX3_renew_19 : decode cX3_renew 19 = .ok (.iconst 0, 1) := by decide +kernel
theorem dX3_renew_20 : decode cX3_renew 20 = .ok (.ireturn, 1) := by decide +kernel
theorem dX3_renew_21 : decode cX3_renew 21 = .ok (.aload_n 0, 1) := by decide +kernel
theorem dX3_renew_22 : decode cX3_renew 22 = .ok (.getfield 13, 3) := by decide +kernel
theorem dX3_renew_25 : decode cX3_renew 25 = .ok (.iload_n 1, 1) := by decide +kernel
theorem dX3_renew_26 : decode cX3_renew 26 = .ok (.aload_n 0, 1) := by decide +kernel
theorem dX3_renew_27 : decode cX3_renew 27 = .ok (.getfield 13, 3) := by decide +kernel
theorem dX3_renew_30 : decode cX3_renew 30 = .ok (.iload_n 1, 1) := by decide +kernel
theorem dX3_renew_31 : decode cX3_renew 31 = .ok (.iaload, 1) := by decide +kernel
theorem dX3_renew_32 : decode cX3_renew 32 = .ok (.iconst 1, 1) := by decide +kernel
theorem dX3_renew_33 : decode cX3_renew 33 = .ok (.iadd, 1) := by decide +kernel
theorem dX3_renew_34 : decode cX3_renew 34 = .ok (.ldc 47, 2) := by decide +kernel
theorem dX3_renew_36 : decode cX3_renew 36 = .ok (.iand, 1) := by decide +kernel
theorem dX3_renew_37 : decode cX3_renew 37 = .ok (.iastore, 1) := by decide +kernel
theorem dX3_renew_38 : decode cX3_renew 38 = .ok (.aload_n 0, 1) := by decide +kernel
theorem dX3_renew_39 : decode cX3_renew 39 = .ok (.iload_n 1, 1) := by decide +kernel
theorem dX3_renew_40 : decode cX3_renew 40 = .ok (.iload_n 1, 1) := by decide +kernel
theorem dX3_renew_41 : decode cX3_renew 41 = .ok (.invokevirtual 78, 3) := by decide +kernel
theorem dX3_renew_44 : decode cX3_renew 44 = .ok (.aload_n 0, 1) := by decide +kernel
theorem dX3_renew_45 : decode cX3_renew 45 = .ok (.getfield 13, 3) := by decide +kernel
theorem dX3_renew_48 : decode cX3_renew 48 = .ok (.iload_n 1, 1) := by decide +kernel
theorem dX3_renew_49 : decode cX3_renew 49 = .ok (.iaload, 1) := by decide +kernel
theorem dX3_renew_50 : decode cX3_renew 50 = .ok (.ireturn, 1) := by decide +kernel
theorem dX3_ask_0 : decode cX3_ask 0 = .ok (.aload_n 0, 1) := by decide +kernel
theorem dX3_ask_1 : decode cX3_ask 1 = .ok (.iload_n 1, 1) := by decide +kernel
theorem dX3_ask_2 : decode cX3_ask 2 = .ok (.invokestatic 93, 3) := by decide +kernel
theorem dX3_ask_5 : decode cX3_ask 5 = .ok (.ifCond .eq 15, 3) := by decide +kernel
theorem dX3_ask_8 : decode cX3_ask 8 = .ok (.iload_n 2, 1) := by decide +kernel
theorem dX3_ask_9 : decode cX3_ask 9 = .ok (.invokestatic 93, 3) := by decide +kernel
theorem dX3_ask_12 : decode cX3_ask 12 = .ok (.ifCond .eq 8, 3) := by decide +kernel
theorem dX3_ask_15 : decode cX3_ask 15 = .ok (.iload_n 1, 1) := by decide +kernel
theorem dX3_ask_16 : decode cX3_ask 16 = .ok (.iload_n 2, 1) := by decide +kernel
theorem dX3_ask_17 : decode cX3_ask 17 = .ok (.if_icmp .ne 7, 3) := by decide +kernel
theorem dX3_ask_20 : decode cX3_ask 20 = .ok (.iconst 1, 1) := by decide +kernel
theorem dX3_ask_21 : decode cX3_ask 21 = .ok (.goto 4, 3) := by decide +kernel
theorem dX3_ask_24 : decode cX3_ask 24 = .ok (.iconst 0, 1) := by decide +kernel
theorem dX3_ask_25 : decode cX3_ask 25 = .ok (.invokevirtual 97, 3) := by decide +kernel
theorem dX3_ask_28 : decode cX3_ask 28 = .ok (.ifCond .eq 5, 3) := by decide +kernel
theorem dX3_ask_31 : decode cX3_ask 31 = .ok (.iconst 0, 1) := by decide +kernel
theorem dX3_ask_32 : decode cX3_ask 32 = .ok (.ireturn, 1) := by decide +kernel
theorem dX3_ask_33 : decode cX3_ask 33 = .ok (.aload_n 0, 1) := by decide +kernel
theorem dX3_ask_34 : decode cX3_ask 34 = .ok (.getfield 48, 3) := by decide +kernel
theorem dX3_ask_37 : decode cX3_ask 37 = .ok (.istore_n 3, 1) := by decide +kernel
theorem dX3_ask_38 : decode cX3_ask 38 = .ok (.aload_n 0, 1) := by decide +kernel
theorem dX3_ask_39 : decode cX3_ask 39 = .ok (.getfield 22, 3) := by decide +kernel
theorem dX3_ask_42 : decode cX3_ask 42 = .ok (.bipush 12, 2) := by decide +kernel
theorem dX3_ask_44 : decode cX3_ask 44 = .ok (.iload_n 1, 1) := by decide +kernel
theorem dX3_ask_45 : decode cX3_ask 45 = .ok (.imul, 1) := by decide +kernel
theorem dX3_ask_46 : decode cX3_ask 46 = .ok (.iload_n 2, 1) := by decide +kernel
theorem dX3_ask_47 : decode cX3_ask 47 = .ok (.iadd, 1) := by decide +kernel
theorem dX3_ask_48 : decode cX3_ask 48 = .ok (.iaload, 1) := by decide +kernel
theorem dX3_ask_49 : decode cX3_ask 49 = .ok (.iconst (-1), 1) := by decide +kernel
theorem dX3_ask_50 : decode cX3_ask 50 = .ok (.if_icmp .ne 18, 3) := by decide +kernel
theorem dX3_ask_53 : decode cX3_ask 53 = .ok (.aload_n 0, 1) := by decide +kernel
theorem dX3_ask_54 : decode cX3_ask 54 = .ok (.iload_n 1, 1) := by decide +kernel
theorem dX3_ask_55 : decode cX3_ask 55 = .ok (.iload_n 2, 1) := by decide +kernel
theorem dX3_ask_56 : decode cX3_ask 56 = .ok (.aload_n 0, 1) := by decide +kernel
theorem dX3_ask_57 : decode cX3_ask 57 = .ok (.iload_n 1, 1) := by decide +kernel
theorem dX3_ask_58 : decode cX3_ask 58 = .ok (.iload_n 2, 1) := by decide +kernel
theorem dX3_ask_59 : decode cX3_ask 59 = .ok (.invokevirtual 82, 3) := by decide +kernel
theorem dX3_ask_62 : decode cX3_ask 62 = .ok (.bipush 8, 2) := by decide +kernel
theorem dX3_ask_64 : decode cX3_ask 64 = .ok (.iconst (-1), 1) := by decide +kernel
theorem dX3_ask_65 : decode cX3_ask 65 = .ok (.invokevirtual 86, 3) := by decide +kernel
theorem dX3_ask_68 : decode cX3_ask 68 = .ok (.aload_n 0, 1) := by decide +kernel
theorem dX3_ask_69 : decode cX3_ask 69 = .ok (.getfield 48, 3) := by decide +kernel
theorem dX3_ask_72 : decode cX3_ask 72 = .ok (.iload_n 3, 1) := by decide +kernel
theorem dX3_ask_73 : decode cX3_ask 73 = .ok (.isub, 1) := by decide +kernel
theorem dX3_ask_74 : decode cX3_ask 74 = .ok (.ireturn, 1) := by decide +kernel
theorem dX3_reboot_0 : decode cX3_reboot 0 = .ok (.iconst 0, 1) := by decide +kernel
theorem dX3_reboot_1 : decode cX3_reboot 1 = .ok (.istore_n 2, 1) := by decide +kernel
theorem dX3_reboot_2 : decode cX3_reboot 2 = .ok (.iconst 0, 1) := by decide +kernel
theorem dX3_reboot_3 : decode cX3_reboot 3 = .ok (.istore_n 3, 1) := by decide +kernel
theorem dX3_reboot_4 : decode cX3_reboot 4 = .ok (.iload_n 3, 1) := by decide +kernel
theorem dX3_reboot_5 : decode cX3_reboot 5 = .ok (.bipush 12, 2) := by decide +kernel
theorem dX3_reboot_7 : decode cX3_reboot 7 = .ok (.if_icmp .ge 40, 3) := by decide +kernel
theorem dX3_reboot_10 : decode cX3_reboot 10 = .ok (.iload_n 1, 1) := by decide +kernel
theorem dX3_reboot_11 : decode cX3_reboot 11 = .ok (.invokestatic 93, 3) := by decide +kernel
theorem dX3_reboot_14 : decode cX3_reboot 14 = .ok (.ifCond .eq 33, 3) := by decide +kernel
theorem dX3_reboot_17 : decode cX3_reboot 17 = .ok (.iload_n 2, 1) := by decide +kernel
theorem dX3_reboot_18 : decode cX3_reboot 18 = .ok (.ifCond .ne 17, 3) := by decide +kernel
theorem dX3_reboot_21 : decode cX3_reboot 21 = .ok (.aload_n 0, 1) := by decide +kernel
theorem dX3_reboot_22 : decode cX3_reboot 22 = .ok (.getfield 7, 3) := by decide +kernel
theorem dX3_reboot_25 : decode cX3_reboot 25 = .ok (.bipush 12, 2) := by decide +kernel
theorem dX3_reboot_27 : decode cX3_reboot 27 = .ok (.iload_n 1, 1) := by decide +kernel
theorem dX3_reboot_28 : decode cX3_reboot 28 = .ok (.imul, 1) := by decide +kernel
theorem dX3_reboot_29 : decode cX3_reboot 29 = .ok (.iload_n 3, 1) := by decide +kernel
theorem dX3_reboot_30 : decode cX3_reboot 30 = .ok (.iadd, 1) := by decide +kernel
theorem dX3_reboot_31 : decode cX3_reboot 31 = .ok (.iaload, 1) := by decide +kernel
theorem dX3_reboot_32 : decode cX3_reboot 32 = .ok (.ifCond .le 7, 3) := by decide +kernel
theorem dX3_reboot_35 : decode cX3_reboot 35 = .ok (.iconst 1, 1) := by decide +kernel
theorem dX3_reboot_36 : decode cX3_reboot 36 = .ok (.goto 4, 3) := by decide +kernel
theorem dX3_reboot_39 : decode cX3_reboot 39 = .ok (.iconst 0, 1) := by decide +kernel
theorem dX3_reboot_40 : decode cX3_reboot 40 = .ok (.istore_n 2, 1) := by decide +kernel
theorem dX3_reboot_41 : decode cX3_reboot 41 = .ok (.iinc 3 1, 3) := by decide +kernel
theorem dX3_reboot_44 : decode cX3_reboot 44 = .ok (.goto (-40), 3) := by decide +kernel
theorem dX3_reboot_47 : decode cX3_reboot 47 = .ok (.aload_n 0, 1) := by decide +kernel
theorem dX3_reboot_48 : decode cX3_reboot 48 = .ok (.iload_n 1, 1) := by decide +kernel
theorem dX3_reboot_49 : decode cX3_reboot 49 = .ok (.invokestatic 93, 3) := by decide +kernel
theorem dX3_reboot_52 : decode cX3_reboot 52 = .ok (.ifCond .ne 7, 3) := by decide +kernel
theorem dX3_reboot_55 : decode cX3_reboot 55 = .ok (.iconst 1, 1) := by decide +kernel
theorem dX3_reboot_56 : decode cX3_reboot 56 = .ok (.goto 12, 3) := by decide +kernel
theorem dX3_reboot_59 : decode cX3_reboot 59 = .ok (.iload_n 2, 1) := by decide +kernel
theorem dX3_reboot_60 : decode cX3_reboot 60 = .ok (.ifCond .eq 7, 3) := by decide +kernel
theorem dX3_reboot_63 : decode cX3_reboot 63 = .ok (.iconst 2, 1) := by decide +kernel
theorem dX3_reboot_64 : decode cX3_reboot 64 = .ok (.goto 4, 3) := by decide +kernel
theorem dX3_reboot_67 : decode cX3_reboot 67 = .ok (.iconst 0, 1) := by decide +kernel
theorem dX3_reboot_68 : decode cX3_reboot 68 = .ok (.invokevirtual 97, 3) := by decide +kernel
theorem dX3_reboot_71 : decode cX3_reboot 71 = .ok (.ifCond .eq 5, 3) := by decide +kernel
theorem dX3_reboot_74 : decode cX3_reboot 74 = .ok (.iconst 0, 1) := by decide +kernel
theorem dX3_reboot_75 : decode cX3_reboot 75 = .ok (.ireturn, 1) := by decide +kernel
theorem dX3_reboot_76 : decode cX3_reboot 76 = .ok (.iconst 0, 1) := by decide +kernel
theorem dX3_reboot_77 : decode cX3_reboot 77 = .ok (.istore_n 3, 1) := by decide +kernel
theorem dX3_reboot_78 : decode cX3_reboot 78 = .ok (.iload_n 3, 1) := by decide +kernel
theorem dX3_reboot_79 : decode cX3_reboot 79 = .ok (.bipush 12, 2) := by decide +kernel
theorem dX3_reboot_81 : decode cX3_reboot 81 = .ok (.if_icmp .ge 45, 3) := by decide +kernel
theorem dX3_reboot_84 : decode cX3_reboot 84 = .ok (.aload_n 0, 1) := by decide +kernel
theorem dX3_reboot_85 : decode cX3_reboot 85 = .ok (.getfield 16, 3) := by decide +kernel
theorem dX3_reboot_88 : decode cX3_reboot 88 = .ok (.bipush 12, 2) := by decide +kernel
theorem dX3_reboot_90 : decode cX3_reboot 90 = .ok (.iload_n 1, 1) := by decide +kernel
theorem dX3_reboot_91 : decode cX3_reboot 91 = .ok (.imul, 1) := by decide +kernel
theorem dX3_reboot_92 : decode cX3_reboot 92 = .ok (.iload_n 3, 1) := by decide +kernel
theorem dX3_reboot_93 : decode cX3_reboot 93 = .ok (.iadd, 1) := by decide +kernel
theorem dX3_reboot_94 : decode cX3_reboot 94 = .ok (.iconst (-1), 1) := by decide +kernel
theorem dX3_reboot_95 : decode cX3_reboot 95 = .ok (.iastore, 1) := by decide +kernel
theorem dX3_reboot_96 : decode cX3_reboot 96 = .ok (.aload_n 0, 1) := by decide +kernel
theorem dX3_reboot_97 : decode cX3_reboot 97 = .ok (.getfield 19, 3) := by decide +kernel
theorem dX3_reboot_100 : decode cX3_reboot 100 = .ok (.bipush 12, 2) := by decide +kernel
theorem dX3_reboot_102 : decode cX3_reboot 102 = .ok (.iload_n 1, 1) := by decide +kernel
theorem dX3_reboot_103 : decode cX3_reboot 103 = .ok (.imul, 1) := by decide +kernel
theorem dX3_reboot_104 : decode cX3_reboot 104 = .ok (.iload_n 3, 1) := by decide +kernel
theorem dX3_reboot_105 : decode cX3_reboot 105 = .ok (.iadd, 1) := by decide +kernel
theorem dX3_reboot_106 : decode cX3_reboot 106 = .ok (.iconst (-1), 1) := by decide +kernel
theorem dX3_reboot_107 : decode cX3_reboot 107 = .ok (.iastore, 1) := by decide +kernel
theorem dX3_reboot_108 : decode cX3_reboot 108 = .ok (.aload_n 0, 1) := by decide +kernel
theorem dX3_reboot_109 : decode cX3_reboot 109 = .ok (.getfield 31, 3) := by decide +kernel
theorem dX3_reboot_112 : decode cX3_reboot 112 = .ok (.bipush 12, 2) := by decide +kernel
theorem dX3_reboot_114 : decode cX3_reboot 114 = .ok (.iload_n 1, 1) := by decide +kernel
theorem dX3_reboot_115 : decode cX3_reboot 115 = .ok (.imul, 1) := by decide +kernel
theorem dX3_reboot_116 : decode cX3_reboot 116 = .ok (.iload_n 3, 1) := by decide +kernel
theorem dX3_reboot_117 : decode cX3_reboot 117 = .ok (.iadd, 1) := by decide +kernel
theorem dX3_reboot_118 : decode cX3_reboot 118 = .ok (.iconst (-1), 1) := by decide +kernel
theorem dX3_reboot_119 : decode cX3_reboot 119 = .ok (.iastore, 1) := by decide +kernel
theorem dX3_reboot_120 : decode cX3_reboot 120 = .ok (.iinc 3 1, 3) := by decide +kernel
theorem dX3_reboot_123 : decode cX3_reboot 123 = .ok (.goto (-45), 3) := by decide +kernel
theorem dX3_reboot_126 : decode cX3_reboot 126 = .ok (.iconst 0, 1) := by decide +kernel
theorem dX3_reboot_127 : decode cX3_reboot 127 = .ok (.istore_n 3, 1) := by decide +kernel
theorem dX3_reboot_128 : decode cX3_reboot 128 = .ok (.aload_n 0, 1) := by decide +kernel
theorem dX3_reboot_129 : decode cX3_reboot 129 = .ok (.getfield 51, 3) := by decide +kernel
theorem dX3_reboot_132 : decode cX3_reboot 132 = .ok (.iconst 1, 1) := by decide +kernel
theorem dX3_reboot_133 : decode cX3_reboot 133 = .ok (.isub, 1) := by decide +kernel
theorem dX3_reboot_134 : decode cX3_reboot 134 = .ok (.istore 4, 2) := by decide +kernel
theorem dX3_reboot_136 : decode cX3_reboot 136 = .ok (.iload 4, 2) := by decide +kernel
theorem dX3_reboot_138 : decode cX3_reboot 138 = .ok (.ifCond .lt 50, 3) := by decide +kernel
theorem dX3_reboot_141 : decode cX3_reboot 141 = .ok (.aload_n 0, 1) := by decide +kernel
theorem dX3_reboot_142 : decode cX3_reboot 142 = .ok (.getfield 40, 3) := by decide +kernel
theorem dX3_reboot_145 : decode cX3_reboot 145 = .ok (.bipush 6, 2) := by decide +kernel
theorem dX3_reboot_147 : decode cX3_reboot 147 = .ok (.iload 4, 2) := by decide +kernel
theorem dX3_reboot_149 : decode cX3_reboot 149 = .ok (.imul, 1) := by decide +kernel
theorem dX3_reboot_150 : decode cX3_reboot 150 = .ok (.iconst 1, 1) := by decide +kernel
theorem dX3_reboot_151 : decode cX3_reboot 151 = .ok (.iadd, 1) := by decide +kernel
theorem dX3_reboot_152 : decode cX3_reboot 152 = .ok (.iaload, 1) := by decide +kernel
theorem dX3_reboot_153 : decode cX3_reboot 153 = .ok (.iload_n 1, 1) := by decide +kernel
theorem dX3_reboot_154 : decode cX3_reboot 154 = .ok (.if_icmp .eq 19, 3) := by decide +kernel
theorem dX3_reboot_157 : decode cX3_reboot 157 = .ok (.aload_n 0, 1) := by decide +kernel
theorem dX3_reboot_158 : decode cX3_reboot 158 = .ok (.getfield 40, 3) := by decide +kernel
theorem dX3_reboot_161 : decode cX3_reboot 161 = .ok (.bipush 6, 2) := by decide +kernel
theorem dX3_reboot_163 : decode cX3_reboot 163 = .ok (.iload 4, 2) := by decide +kernel
theorem dX3_reboot_165 : decode cX3_reboot 165 = .ok (.imul, 1) := by decide +kernel
theorem dX3_reboot_166 : decode cX3_reboot 166 = .ok (.iconst 2, 1) := by decide +kernel
theorem dX3_reboot_167 : decode cX3_reboot 167 = .ok (.iadd, 1) := by decide +kernel
theorem dX3_reboot_168 : decode cX3_reboot 168 = .ok (.iaload, 1) := by decide +kernel
theorem dX3_reboot_169 : decode cX3_reboot 169 = .ok (.iload_n 1, 1) := by decide +kernel
theorem dX3_reboot_170 : decode cX3_reboot 170 = .ok (.if_icmp .ne 12, 3) := by decide +kernel
theorem dX3_reboot_173 : decode cX3_reboot 173 = .ok (.aload_n 0, 1) := by decide +kernel
theorem dX3_reboot_174 : decode cX3_reboot 174 = .ok (.iload 4, 2) := by decide +kernel
theorem dX3_reboot_176 : decode cX3_reboot 176 = .ok (.invokevirtual 110, 3) := by decide +kernel
theorem dX3_reboot_179 : decode cX3_reboot 179 = .ok (.iinc 3 1, 3) := by decide +kernel
theorem dX3_reboot_182 : decode cX3_reboot 182 = .ok (.iinc 4 (-1), 3) := by decide +kernel
theorem dX3_reboot_185 : decode cX3_reboot 185 = .ok (.goto (-49), 3) := by decide +kernel
theorem dX3_reboot_188 : decode cX3_reboot 188 = .ok (.aload_n 0, 1) := by decide +kernel
theorem dX3_reboot_189 : decode cX3_reboot 189 = .ok (.dup, 1) := by decide +kernel
theorem dX3_reboot_190 : decode cX3_reboot 190 = .ok (.getfield 113, 3) := by decide +kernel
theorem dX3_reboot_193 : decode cX3_reboot 193 = .ok (.iload_n 3, 1) := by decide +kernel
theorem dX3_reboot_194 : decode cX3_reboot 194 = .ok (.iadd, 1) := by decide +kernel
theorem dX3_reboot_195 : decode cX3_reboot 195 = .ok (.putfield 113, 3) := by decide +kernel
theorem dX3_reboot_198 : decode cX3_reboot 198 = .ok (.iload_n 3, 1) := by decide +kernel
theorem dX3_reboot_199 : decode cX3_reboot 199 = .ok (.ireturn, 1) := by decide +kernel
theorem dX3_deliver_0 : decode cX3_deliver 0 = .ok (.aload_n 0, 1) := by decide +kernel
theorem dX3_deliver_1 : decode cX3_deliver 1 = .ok (.iload_n 1, 1) := by decide +kernel
theorem dX3_deliver_2 : decode cX3_deliver 2 = .ok (.ifCond .lt 11, 3) := by decide +kernel
theorem dX3_deliver_5 : decode cX3_deliver 5 = .ok (.iload_n 1, 1) := by decide +kernel
theorem dX3_deliver_6 : decode cX3_deliver 6 = .ok (.aload_n 0, 1) := by decide +kernel
theorem dX3_deliver_7 : decode cX3_deliver 7 = .ok (.getfield 51, 3) := by decide +kernel
theorem dX3_deliver_10 : decode cX3_deliver 10 = .ok (.if_icmp .lt 7, 3) := by decide +kernel
theorem dX3_deliver_13 : decode cX3_deliver 13 = .ok (.iconst 1, 1) := by decide +kernel
theorem dX3_deliver_14 : decode cX3_deliver 14 = .ok (.goto 4, 3) := by decide +kernel
theorem dX3_deliver_17 : decode cX3_deliver 17 = .ok (.iconst 0, 1) := by decide +kernel
theorem dX3_deliver_18 : decode cX3_deliver 18 = .ok (.invokevirtual 97, 3) := by decide +kernel
theorem dX3_deliver_21 : decode cX3_deliver 21 = .ok (.ifCond .eq 5, 3) := by decide +kernel
theorem dX3_deliver_24 : decode cX3_deliver 24 = .ok (.iconst 0, 1) := by decide +kernel
theorem dX3_deliver_25 : decode cX3_deliver 25 = .ok (.ireturn, 1) := by decide +kernel
theorem dX3_deliver_26 : decode cX3_deliver 26 = .ok (.aload_n 0, 1) := by decide +kernel
theorem dX3_deliver_27 : decode cX3_deliver 27 = .ok (.iload_n 1, 1) := by decide +kernel
theorem dX3_deliver_28 : decode cX3_deliver 28 = .ok (.invokevirtual 116, 3) := by decide +kernel
theorem dX3_deliver_31 : decode cX3_deliver 31 = .ok (.ireturn, 1) := by decide +kernel
theorem dX3_hands_0 : decode cX3_hands 0 = .ok (.aload_n 0, 1) := by decide +kernel
theorem dX3_hands_1 : decode cX3_hands 1 = .ok (.iload_n 1, 1) := by decide +kernel
theorem dX3_hands_2 : decode cX3_hands 2 = .ok (.invokevirtual 110, 3) := by decide +kernel
theorem dX3_hands_5 : decode cX3_hands 5 = .ok (.aload_n 0, 1) := by decide +kernel
theorem dX3_hands_6 : decode cX3_hands 6 = .ok (.getfield 40, 3) := by decide +kernel
theorem dX3_hands_9 : decode cX3_hands 9 = .ok (.sipush 1801, 3) := by decide +kernel
theorem dX3_hands_12 : decode cX3_hands 12 = .ok (.iaload, 1) := by decide +kernel
theorem dX3_hands_13 : decode cX3_hands 13 = .ok (.istore_n 2, 1) := by decide +kernel
theorem dX3_hands_14 : decode cX3_hands 14 = .ok (.aload_n 0, 1) := by decide +kernel
theorem dX3_hands_15 : decode cX3_hands 15 = .ok (.getfield 40, 3) := by decide +kernel
theorem dX3_hands_18 : decode cX3_hands 18 = .ok (.sipush 1802, 3) := by decide +kernel
theorem dX3_hands_21 : decode cX3_hands 21 = .ok (.iaload, 1) := by decide +kernel
theorem dX3_hands_22 : decode cX3_hands 22 = .ok (.istore_n 3, 1) := by decide +kernel
theorem dX3_hands_23 : decode cX3_hands 23 = .ok (.aload_n 0, 1) := by decide +kernel
theorem dX3_hands_24 : decode cX3_hands 24 = .ok (.getfield 40, 3) := by decide +kernel
theorem dX3_hands_27 : decode cX3_hands 27 = .ok (.sipush 1803, 3) := by decide +kernel
theorem dX3_hands_30 : decode cX3_hands 30 = .ok (.iaload, 1) := by decide +kernel
theorem dX3_hands_31 : decode cX3_hands 31 = .ok (.istore 4, 2) := by decide +kernel
theorem dX3_hands_33 : decode cX3_hands 33 = .ok (.aload_n 0, 1) := by decide +kernel
theorem dX3_hands_34 : decode cX3_hands 34 = .ok (.getfield 40, 3) := by decide +kernel
theorem dX3_hands_37 : decode cX3_hands 37 = .ok (.sipush 1804, 3) := by decide +kernel
theorem dX3_hands_40 : decode cX3_hands 40 = .ok (.iaload, 1) := by decide +kernel
theorem dX3_hands_41 : decode cX3_hands 41 = .ok (.istore 5, 2) := by decide +kernel
theorem dX3_hands_43 : decode cX3_hands 43 = .ok (.aload_n 0, 1) := by decide +kernel
theorem dX3_hands_44 : decode cX3_hands 44 = .ok (.getfield 40, 3) := by decide +kernel
theorem dX3_hands_47 : decode cX3_hands 47 = .ok (.sipush 1805, 3) := by decide +kernel
theorem dX3_hands_50 : decode cX3_hands 50 = .ok (.iaload, 1) := by decide +kernel
theorem dX3_hands_51 : decode cX3_hands 51 = .ok (.istore 6, 2) := by decide +kernel
theorem dX3_hands_53 : decode cX3_hands 53 = .ok (.aload_n 0, 1) := by decide +kernel
theorem dX3_hands_54 : decode cX3_hands 54 = .ok (.getfield 48, 3) := by decide +kernel
theorem dX3_hands_57 : decode cX3_hands 57 = .ok (.istore 7, 2) := by decide +kernel
theorem dX3_hands_59 : decode cX3_hands 59 = .ok (.aload_n 0, 1) := by decide +kernel
theorem dX3_hands_60 : decode cX3_hands 60 = .ok (.getfield 7, 3) := by decide +kernel
theorem dX3_hands_63 : decode cX3_hands 63 = .ok (.bipush 12, 2) := by decide +kernel
theorem dX3_hands_65 : decode cX3_hands 65 = .ok (.iload_n 2, 1) := by decide +kernel
theorem dX3_hands_66 : decode cX3_hands 66 = .ok (.imul, 1) := by decide +kernel
theorem dX3_hands_67 : decode cX3_hands 67 = .ok (.iload_n 3, 1) := by decide +kernel
theorem dX3_hands_68 : decode cX3_hands 68 = .ok (.iadd, 1) := by decide +kernel
theorem dX3_hands_69 : decode cX3_hands 69 = .ok (.iaload, 1) := by decide +kernel
theorem dX3_hands_70 : decode cX3_hands 70 = .ok (.ifCond .ne 16, 3) := by decide +kernel
theorem dX3_hands_73 : decode cX3_hands 73 = .ok (.aload_n 0, 1) := by decide +kernel
theorem dX3_hands_74 : decode cX3_hands 74 = .ok (.dup, 1) := by decide +kernel
theorem dX3_hands_75 : decode cX3_hands 75 = .ok (.getfield 113, 3) := by decide +kernel
theorem dX3_hands_78 : decode cX3_hands 78 = .ok (.iconst 1, 1) := by decide +kernel
theorem dX3_hands_79 : decode cX3_hands 79 = .ok (.iadd, 1) := by decide +kernel
theorem dX3_hands_80 : decode cX3_hands 80 = .ok (.putfield 113, 3) := by decide +kernel
theorem dX3_hands_83 : decode cX3_hands 83 = .ok (.goto 120, 3) := by decide +kernel
theorem dX3_hands_86 : decode cX3_hands 86 = .ok (.aload_n 0, 1) := by decide +kernel
theorem dX3_hands_87 : decode cX3_hands 87 = .ok (.getfield 40, 3) := by decide +kernel
theorem dX3_hands_90 : decode cX3_hands 90 = .ok (.sipush 1800, 3) := by decide +kernel
theorem dX3_hands_93 : decode cX3_hands 93 = .ok (.iaload, 1) := by decide +kernel
theorem dX3_hands_94 : decode cX3_hands 94 = .ok (.iconst 2, 1) := by decide +kernel
theorem dX3_hands_95 : decode cX3_hands 95 = .ok (.if_icmp .ne 18, 3) := by decide +kernel
theorem dX3_hands_98 : decode cX3_hands 98 = .ok (.aload_n 0, 1) := by decide +kernel
theorem dX3_hands_99 : decode cX3_hands 99 = .ok (.iload_n 3, 1) := by decide +kernel
theorem dX3_hands_100 : decode cX3_hands 100 = .ok (.iload_n 2, 1) := by decide +kernel
theorem dX3_hands_101 : decode cX3_hands 101 = .ok (.iload 4, 2) := by decide +kernel
theorem dX3_hands_103 : decode cX3_hands 103 = .ok (.iload 5, 2) := by decide +kernel
theorem dX3_hands_105 : decode cX3_hands 105 = .ok (.iload 6, 2) := by decide +kernel
theorem dX3_hands_107 : decode cX3_hands 107 = .ok (.invokevirtual 120, 3) := by decide +kernel
theorem dX3_hands_110 : decode cX3_hands 110 = .ok (.goto 93, 3) := by decide +kernel
theorem dX3_hands_113 : decode cX3_hands 113 = .ok (.iload_n 3, 1) := by decide +kernel
theorem dX3_hands_114 : decode cX3_hands 114 = .ok (.iload 4, 2) := by decide +kernel
theorem dX3_hands_116 : decode cX3_hands 116 = .ok (.if_icmp .eq 87, 3) := by decide +kernel
theorem dX3_hands_119 : decode cX3_hands 119 = .ok (.aload_n 0, 1) := by decide +kernel
theorem dX3_hands_120 : decode cX3_hands 120 = .ok (.getfield 22, 3) := by decide +kernel
theorem dX3_hands_123 : decode cX3_hands 123 = .ok (.bipush 12, 2) := by decide +kernel
theorem dX3_hands_125 : decode cX3_hands 125 = .ok (.iload_n 3, 1) := by decide +kernel
theorem dX3_hands_126 : decode cX3_hands 126 = .ok (.imul, 1) := by decide +kernel
theorem dX3_hands_127 : decode cX3_hands 127 = .ok (.iload 4, 2) := by decide +kernel
theorem dX3_hands_129 : decode cX3_hands 129 = .ok (.iadd, 1) := by decide +kernel
theorem dX3_hands_130 : decode cX3_hands 130 = .ok (.iaload, 1) := by decide +kernel
theorem dX3_hands_131 : decode cX3_hands 131 = .ok (.iload_n 2, 1) := by decide +kernel
theorem dX3_hands_132 : decode cX3_hands 132 = .ok (.if_icmp .ne 24, 3) := by decide +kernel
theorem dX3_hands_135 : decode cX3_hands 135 = .ok (.iload 6, 2) := by decide +kernel
theorem dX3_hands_137 : decode cX3_hands 137 = .ok (.ldc 47, 2) := by decide +kernel
theorem dX3_hands_139 : decode cX3_hands 139 = .ok (.if_icmp .eq 17, 3) := by decide +kernel
theorem dX3_hands_142 : decode cX3_hands 142 = .ok (.aload_n 0, 1) := by decide +kernel
theorem dX3_hands_143 : decode cX3_hands 143 = .ok (.iload_n 3, 1) := by decide +kernel
theorem dX3_hands_144 : decode cX3_hands 144 = .ok (.iload 4, 2) := by decide +kernel
theorem dX3_hands_146 : decode cX3_hands 146 = .ok (.iload 5, 2) := by decide +kernel
theorem dX3_hands_148 : decode cX3_hands 148 = .ok (.iload 6, 2) := by decide +kernel
theorem dX3_hands_150 : decode cX3_hands 150 = .ok (.invokevirtual 69, 3) := by decide +kernel
theorem dX3_hands_153 : decode cX3_hands 153 = .ok (.ifCond .eq 43, 3) := by decide +kernel
theorem dX3_hands_156 : decode cX3_hands 156 = .ok (.aload_n 0, 1) := by decide +kernel
theorem dX3_hands_157 : decode cX3_hands 157 = .ok (.getfield 34, 3) := by decide +kernel
theorem dX3_hands_160 : decode cX3_hands 160 = .ok (.sipush 144, 3) := by decide +kernel
theorem dX3_hands_163 : decode cX3_hands 163 = .ok (.iload_n 3, 1) := by decide +kernel
theorem dX3_hands_164 : decode cX3_hands 164 = .ok (.imul, 1) := by decide +kernel
theorem dX3_hands_165 : decode cX3_hands 165 = .ok (.bipush 12, 2) := by decide +kernel
theorem dX3_hands_167 : decode cX3_hands 167 = .ok (.iload_n 2, 1) := by decide +kernel
theorem dX3_hands_168 : decode cX3_hands 168 = .ok (.imul, 1) := by decide +kernel
theorem dX3_hands_169 : decode cX3_hands 169 = .ok (.iadd, 1) := by decide +kernel
theorem dX3_hands_170 : decode cX3_hands 170 = .ok (.iload 4, 2) := by decide +kernel
theorem dX3_hands_172 : decode cX3_hands 172 = .ok (.iadd, 1) := by decide +kernel
theorem dX3_hands_173 : decode cX3_hands 173 = .ok (.iload 5, 2) := by decide +kernel
theorem dX3_hands_175 : decode cX3_hands 175 = .ok (.iastore, 1) := by decide +kernel
theorem dX3_hands_176 : decode cX3_hands 176 = .ok (.aload_n 0, 1) := by decide +kernel
theorem dX3_hands_177 : decode cX3_hands 177 = .ok (.getfield 37, 3) := by decide +kernel
theorem dX3_hands_180 : decode cX3_hands 180 = .ok (.sipush 144, 3) := by decide +kernel
theorem dX3_hands_183 : decode cX3_hands 183 = .ok (.iload_n 3, 1) := by decide +kernel
theorem dX3_hands_184 : decode cX3_hands 184 = .ok (.imul, 1) := by decide +kernel
theorem dX3_hands_185 : decode cX3_hands 185 = .ok (.bipush 12, 2) := by decide +kernel
theorem dX3_hands_187 : decode cX3_hands 187 = .ok (.iload_n 2, 1) := by decide +kernel
theorem dX3_hands_188 : decode cX3_hands 188 = .ok (.imul, 1) := by decide +kernel
theorem dX3_hands_189 : decode cX3_hands 189 = .ok (.iadd, 1) := by decide +kernel
theorem dX3_hands_190 : decode cX3_hands 190 = .ok (.iload 4, 2) := by decide +kernel
theorem dX3_hands_192 : decode cX3_hands 192 = .ok (.iadd, 1) := by decide +kernel
theorem dX3_hands_193 : decode cX3_hands 193 = .ok (.iload 6, 2) := by decide +kernel
theorem dX3_hands_195 : decode cX3_hands 195 = .ok (.iastore, 1) := by decide +kernel
theorem dX3_hands_196 : decode cX3_hands 196 = .ok (.aload_n 0, 1) := by decide +kernel
theorem dX3_hands_197 : decode cX3_hands 197 = .ok (.iload_n 3, 1) := by decide +kernel
theorem dX3_hands_198 : decode cX3_hands 198 = .ok (.iload 4, 2) := by decide +kernel
theorem dX3_hands_200 : decode cX3_hands 200 = .ok (.invokevirtual 90, 3) := by decide +kernel
theorem dX3_hands_203 : decode cX3_hands 203 = .ok (.aload_n 0, 1) := by decide +kernel
theorem dX3_hands_204 : decode cX3_hands 204 = .ok (.getfield 48, 3) := by decide +kernel
theorem dX3_hands_207 : decode cX3_hands 207 = .ok (.iload 7, 2) := by decide +kernel
theorem dX3_hands_209 : decode cX3_hands 209 = .ok (.isub, 1) := by decide +kernel
theorem dX3_hands_210 : decode cX3_hands 210 = .ok (.ireturn, 1) := by decide +kernel
theorem dX3_requested_0 : decode cX3_requested 0 = .ok (.bipush 12, 2) := by decide +kernel
theorem dX3_requested_2 : decode cX3_requested 2 = .ok (.iload_n 1, 1) := by decide +kernel
theorem dX3_requested_3 : decode cX3_requested 3 = .ok (.imul, 1) := by decide +kernel
theorem dX3_requested_4 : decode cX3_requested 4 = .ok (.iload_n 3, 1) := by decide +kernel
theorem dX3_requested_5 : decode cX3_requested 5 = .ok (.iadd, 1) := by decide +kernel
theorem dX3_requested_6 : decode cX3_requested 6 = .ok (.istore 6, 2) := by decide +kernel
theorem dX3_requested_8 : decode cX3_requested 8 = .ok (.iload_n 1, 1) := by decide +kernel
theorem dX3_requested_9 : decode cX3_requested 9 = .ok (.iload_n 3, 1) := by decide +kernel
theorem dX3_requested_10 : decode cX3_requested 10 = .ok (.if_icmp .ne 52, 3) := by decide +kernel
theorem dX3_requested_13 : decode cX3_requested 13 = .ok (.aload_n 0, 1) := by decide +kernel
theorem dX3_requested_14 : decode cX3_requested 14 = .ok (.getfield 13, 3) := by decide +kernel
theorem dX3_requested_17 : decode cX3_requested 17 = .ok (.iload_n 1, 1) := by decide +kernel
theorem dX3_requested_18 : decode cX3_requested 18 = .ok (.iload 4, 2) := by decide +kernel
theorem dX3_requested_20 : decode cX3_requested 20 = .ok (.aload_n 0, 1) := by decide +kernel
theorem dX3_requested_21 : decode cX3_requested 21 = .ok (.getfield 13, 3) := by decide +kernel
theorem dX3_requested_24 : decode cX3_requested 24 = .ok (.iload_n 1, 1) := by decide +kernel
theorem dX3_requested_25 : decode cX3_requested 25 = .ok (.iaload, 1) := by decide +kernel
theorem dX3_requested_26 : decode cX3_requested 26 = .ok (.invokestatic 61, 3) := by decide +kernel
theorem dX3_requested_29 : decode cX3_requested 29 = .ok (.ifCond .eq 17, 3) := by decide +kernel
theorem dX3_requested_32 : decode cX3_requested 32 = .ok (.aload_n 0, 1) := by decide +kernel
theorem dX3_requested_33 : decode cX3_requested 33 = .ok (.getfield 13, 3) := by decide +kernel
theorem dX3_requested_36 : decode cX3_requested 36 = .ok (.iload_n 1, 1) := by decide +kernel
theorem dX3_requested_37 : decode cX3_requested 37 = .ok (.iaload, 1) := by decide +kernel
theorem dX3_requested_38 : decode cX3_requested 38 = .ok (.iconst 1, 1) := by decide +kernel
theorem dX3_requested_39 : decode cX3_requested 39 = .ok (.iadd, 1) := by decide +kernel
theorem dX3_requested_40 : decode cX3_requested 40 = .ok (.ldc 47, 2) := by decide +kernel
theorem dX3_requested_42 : decode cX3_requested 42 = .ok (.iand, 1) := by decide +kernel
theorem dX3_requested_43 : decode cX3_requested 43 = .ok (.goto 9, 3) := by decide +kernel
theorem dX3_requested_46 : decode cX3_requested 46 = .ok (.aload_n 0, 1) := by decide +kernel
theorem dX3_requested_47 : decode cX3_requested 47 = .ok (.getfield 13, 3) := by decide +kernel
theorem dX3_requested_50 : decode cX3_requested 50 = .ok (.iload_n 1, 1) := by decide +kernel
theorem dX3_requested_51 : decode cX3_requested 51 = .ok (.iaload, 1) := by decide +kernel
theorem dX3_requested_52 : decode cX3_requested 52 = .ok (.iastore, 1) := by decide +kernel
theorem dX3_requested_53 : decode cX3_requested 53 = .ok (.aload_n 0, 1) := by decide +kernel
theorem dX3_requested_54 : decode cX3_requested 54 = .ok (.iload_n 1, 1) := by decide +kernel
theorem dX3_requested_55 : decode cX3_requested 55 = .ok (.iload_n 1, 1) := by decide +kernel
theorem dX3_requested_56 : decode cX3_requested 56 = .ok (.invokevirtual 78, 3) := by decide +kernel
theorem dX3_requested_59 : decode cX3_requested 59 = .ok (.goto 93, 3) := by decide +kernel
theorem dX3_requested_62 : decode cX3_requested 62 = .ok (.aload_n 0, 1) := by decide +kernel
theorem dX3_requested_63 : decode cX3_requested 63 = .ok (.getfield 22, 3) := by decide +kernel
theorem dX3_requested_66 : decode cX3_requested 66 = .ok (.iload 6, 2) := by decide +kernel
theorem dX3_requested_68 : decode cX3_requested 68 = .ok (.iaload, 1) := by decide +kernel
theorem dX3_requested_69 : decode cX3_requested 69 = .ok (.iconst (-1), 1) := by decide +kernel
theorem dX3_requested_70 : decode cX3_requested 70 = .ok (.if_icmp .eq 28, 3) := by decide +kernel
theorem dX3_requested_73 : decode cX3_requested 73 = .ok (.iload 4, 2) := by decide +kernel
theorem dX3_requested_75 : decode cX3_requested 75 = .ok (.aload_n 0, 1) := by decide +kernel
theorem dX3_requested_76 : decode cX3_requested 76 = .ok (.getfield 25, 3) := by decide +kernel
theorem dX3_requested_79 : decode cX3_requested 79 = .ok (.iload 6, 2) := by decide +kernel
theorem dX3_requested_81 : decode cX3_requested 81 = .ok (.iaload, 1) := by decide +kernel
theorem dX3_requested_82 : decode cX3_requested 82 = .ok (.invokestatic 61, 3) := by decide +kernel
theorem dX3_requested_85 : decode cX3_requested 85 = .ok (.ifCond .ne 13, 3) := by decide +kernel
theorem dX3_requested_88 : decode cX3_requested 88 = .ok (.aload_n 0, 1) := by decide +kernel
theorem dX3_requested_89 : decode cX3_requested 89 = .ok (.iload_n 1, 1) := by decide +kernel
theorem dX3_requested_90 : decode cX3_requested 90 = .ok (.iload_n 2, 1) := by decide +kernel
theorem dX3_requested_91 : decode cX3_requested 91 = .ok (.iload_n 3, 1) := by decide +kernel
theorem dX3_requested_92 : decode cX3_requested 92 = .ok (.invokevirtual 65, 3) := by decide +kernel
theorem dX3_requested_95 : decode cX3_requested 95 = .ok (.goto 57, 3) := by decide +kernel
theorem dX3_requested_98 : decode cX3_requested 98 = .ok (.iload 5, 2) := by decide +kernel
theorem dX3_requested_100 : decode cX3_requested 100 = .ok (.iconst 1, 1) := by decide +kernel
theorem dX3_requested_101 : decode cX3_requested 101 = .ok (.if_icmp .le 51, 3) := by decide +kernel
theorem dX3_requested_104 : decode cX3_requested 104 = .ok (.aload_n 0, 1) := by decide +kernel
theorem dX3_requested_105 : decode cX3_requested 105 = .ok (.getfield 31, 3) := by decide +kernel
theorem dX3_requested_108 : decode cX3_requested 108 = .ok (.iload 6, 2) := by decide +kernel
theorem dX3_requested_110 : decode cX3_requested 110 = .ok (.iaload, 1) := by decide +kernel
theorem dX3_requested_111 : decode cX3_requested 111 = .ok (.iconst (-1), 1) := by decide +kernel
theorem dX3_requested_112 : decode cX3_requested 112 = .ok (.if_icmp .eq 18, 3) := by decide +kernel
theorem dX3_requested_115 : decode cX3_requested 115 = .ok (.iload 4, 2) := by decide +kernel
theorem dX3_requested_117 : decode cX3_requested 117 = .ok (.aload_n 0, 1) := by decide +kernel
theorem dX3_requested_118 : decode cX3_requested 118 = .ok (.getfield 31, 3) := by decide +kernel
theorem dX3_requested_121 : decode cX3_requested 121 = .ok (.iload 6, 2) := by decide +kernel
theorem dX3_requested_123 : decode cX3_requested 123 = .ok (.iaload, 1) := by decide +kernel
theorem dX3_requested_124 : decode cX3_requested 124 = .ok (.invokestatic 61, 3) := by decide +kernel
theorem dX3_requested_127 : decode cX3_requested 127 = .ok (.ifCond .eq 25, 3) := by decide +kernel
theorem dX3_requested_130 : decode cX3_requested 130 = .ok (.aload_n 0, 1) := by decide +kernel
theorem dX3_requested_131 : decode cX3_requested 131 = .ok (.getfield 31, 3) := by decide +kernel
theorem dX3_requested_134 : decode cX3_requested 134 = .ok (.iload 6, 2) := by decide +kernel
theorem dX3_requested_136 : decode cX3_requested 136 = .ok (.iload 4, 2) := by decide +kernel
theorem dX3_requested_138 : decode cX3_requested 138 = .ok (.iastore, 1) := by decide +kernel
theorem dX3_requested_139 : decode cX3_requested 139 = .ok (.aload_n 0, 1) := by decide +kernel
theorem dX3_requested_140 : decode cX3_requested 140 = .ok (.iload_n 1, 1) := by decide +kernel
theorem dX3_requested_141 : decode cX3_requested 141 = .ok (.iload_n 3, 1) := by decide +kernel
theorem dX3_requested_142 : decode cX3_requested 142 = .ok (.iload 4, 2) := by decide +kernel
theorem dX3_requested_144 : decode cX3_requested 144 = .ok (.iload 5, 2) := by decide +kernel
theorem dX3_requested_146 : decode cX3_requested 146 = .ok (.iconst 1, 1) := by decide +kernel
theorem dX3_requested_147 : decode cX3_requested 147 = .ok (.isub, 1) := by decide +kernel
theorem dX3_requested_148 : decode cX3_requested 148 = .ok (.iload_n 2, 1) := by decide +kernel
theorem dX3_requested_149 : decode cX3_requested 149 = .ok (.invokevirtual 86, 3) := by decide +kernel
theorem dX3_requested_152 : decode cX3_requested 152 = .ok (.return_, 1) := by decide +kernel
theorem dX3_run_0 : decode cX3_run 0 = .ok (.aload_n 0, 1) := by decide +kernel
theorem dX3_run_1 : decode cX3_run 1 = .ok (.iload_n 1, 1) := by decide +kernel
theorem dX3_run_2 : decode cX3_run 2 = .ok (.ifCond .lt 10, 3) := by decide +kernel
theorem dX3_run_5 : decode cX3_run 5 = .ok (.iload_n 1, 1) := by decide +kernel
theorem dX3_run_6 : decode cX3_run 6 = .ok (.sipush 500, 3) := by decide +kernel
theorem dX3_run_9 : decode cX3_run 9 = .ok (.if_icmp .le 7, 3) := by decide +kernel
theorem dX3_run_12 : decode cX3_run 12 = .ok (.iconst 1, 1) := by decide +kernel
theorem dX3_run_13 : decode cX3_run 13 = .ok (.goto 4, 3) := by decide +kernel
theorem dX3_run_16 : decode cX3_run 16 = .ok (.iconst 0, 1) := by decide +kernel
theorem dX3_run_17 : decode cX3_run 17 = .ok (.invokevirtual 97, 3) := by decide +kernel
theorem dX3_run_20 : decode cX3_run 20 = .ok (.ifCond .eq 5, 3) := by decide +kernel
theorem dX3_run_23 : decode cX3_run 23 = .ok (.iconst 0, 1) := by decide +kernel
theorem dX3_run_24 : decode cX3_run 24 = .ok (.ireturn, 1) := by decide +kernel
theorem dX3_run_25 : decode cX3_run 25 = .ok (.iconst 0, 1) := by decide +kernel
theorem dX3_run_26 : decode cX3_run 26 = .ok (.istore_n 2, 1) := by decide +kernel
theorem dX3_run_27 : decode cX3_run 27 = .ok (.iload_n 2, 1) := by decide +kernel
theorem dX3_run_28 : decode cX3_run 28 = .ok (.iload_n 1, 1) := by decide +kernel
theorem dX3_run_29 : decode cX3_run 29 = .ok (.if_icmp .ge 22, 3) := by decide +kernel
theorem dX3_run_32 : decode cX3_run 32 = .ok (.aload_n 0, 1) := by decide +kernel
theorem dX3_run_33 : decode cX3_run 33 = .ok (.getfield 51, 3) := by decide +kernel
theorem dX3_run_36 : decode cX3_run 36 = .ok (.ifCond .le 15, 3) := by decide +kernel
theorem dX3_run_39 : decode cX3_run 39 = .ok (.aload_n 0, 1) := by decide +kernel
theorem dX3_run_40 : decode cX3_run 40 = .ok (.iconst 0, 1) := by decide +kernel
theorem dX3_run_41 : decode cX3_run 41 = .ok (.invokevirtual 116, 3) := by decide +kernel
theorem dX3_run_44 : decode cX3_run 44 = .ok (.pop, 1) := by decide +kernel
theorem dX3_run_45 : decode cX3_run 45 = .ok (.iinc 2 1, 3) := by decide +kernel
theorem dX3_run_48 : decode cX3_run 48 = .ok (.goto (-21), 3) := by decide +kernel
theorem dX3_run_51 : decode cX3_run 51 = .ok (.iload_n 2, 1) := by decide +kernel
theorem dX3_run_52 : decode cX3_run 52 = .ok (.ireturn, 1) := by decide +kernel
theorem dX3_drop_0 : decode cX3_drop 0 = .ok (.aload_n 0, 1) := by decide +kernel
theorem dX3_drop_1 : decode cX3_drop 1 = .ok (.iload_n 1, 1) := by decide +kernel
theorem dX3_drop_2 : decode cX3_drop 2 = .ok (.ifCond .lt 11, 3) := by decide +kernel
theorem dX3_drop_5 : decode cX3_drop 5 = .ok (.iload_n 1, 1) := by decide +kernel
theorem dX3_drop_6 : decode cX3_drop 6 = .ok (.aload_n 0, 1) := by decide +kernel
theorem dX3_drop_7 : decode cX3_drop 7 = .ok (.getfield 51, 3) := by decide +kernel
theorem dX3_drop_10 : decode cX3_drop 10 = .ok (.if_icmp .lt 7, 3) := by decide +kernel
theorem dX3_drop_13 : decode cX3_drop 13 = .ok (.iconst 1, 1) := by decide +kernel
theorem dX3_drop_14 : decode cX3_drop 14 = .ok (.goto 4, 3) := by decide +kernel
theorem dX3_drop_17 : decode cX3_drop 17 = .ok (.iconst 0, 1) := by decide +kernel
theorem dX3_drop_18 : decode cX3_drop 18 = .ok (.invokevirtual 97, 3) := by decide +kernel
theorem dX3_drop_21 : decode cX3_drop 21 = .ok (.ifCond .eq 5, 3) := by decide +kernel
theorem dX3_drop_24 : decode cX3_drop 24 = .ok (.iconst 0, 1) := by decide +kernel
theorem dX3_drop_25 : decode cX3_drop 25 = .ok (.ireturn, 1) := by decide +kernel
theorem dX3_drop_26 : decode cX3_drop 26 = .ok (.aload_n 0, 1) := by decide +kernel
theorem dX3_drop_27 : decode cX3_drop 27 = .ok (.iload_n 1, 1) := by decide +kernel
theorem dX3_drop_28 : decode cX3_drop 28 = .ok (.invokevirtual 110, 3) := by decide +kernel
theorem dX3_drop_31 : decode cX3_drop 31 = .ok (.aload_n 0, 1) := by decide +kernel
theorem dX3_drop_32 : decode cX3_drop 32 = .ok (.getfield 40, 3) := by decide +kernel
theorem dX3_drop_35 : decode cX3_drop 35 = .ok (.sipush 1800, 3) := by decide +kernel
theorem dX3_drop_38 : decode cX3_drop 38 = .ok (.iaload, 1) := by decide +kernel
theorem dX3_drop_39 : decode cX3_drop 39 = .ok (.ireturn, 1) := by decide +kernel
theorem dX3_copy_0 : decode cX3_copy 0 = .ok (.aload_n 0, 1) := by decide +kernel
theorem dX3_copy_1 : decode cX3_copy 1 = .ok (.iload_n 1, 1) := by decide +kernel
theorem dX3_copy_2 : decode cX3_copy 2 = .ok (.ifCond .lt 11, 3) := by decide +kernel
theorem dX3_copy_5 : decode cX3_copy 5 = .ok (.iload_n 1, 1) := by decide +kernel
theorem dX3_copy_6 : decode cX3_copy 6 = .ok (.aload_n 0, 1) := by decide +kernel
theorem dX3_copy_7 : decode cX3_copy 7 = .ok (.getfield 51, 3) := by decide +kernel
theorem dX3_copy_10 : decode cX3_copy 10 = .ok (.if_icmp .lt 7, 3) := by decide +kernel
theorem dX3_copy_13 : decode cX3_copy 13 = .ok (.iconst 1, 1) := by decide +kernel
theorem dX3_copy_14 : decode cX3_copy 14 = .ok (.goto 4, 3) := by decide +kernel
theorem dX3_copy_17 : decode cX3_copy 17 = .ok (.iconst 0, 1) := by decide +kernel
theorem dX3_copy_18 : decode cX3_copy 18 = .ok (.invokevirtual 97, 3) := by decide +kernel
theorem dX3_copy_21 : decode cX3_copy 21 = .ok (.ifCond .ne 13, 3) := by decide +kernel
theorem dX3_copy_24 : decode cX3_copy 24 = .ok (.aload_n 0, 1) := by decide +kernel
theorem dX3_copy_25 : decode cX3_copy 25 = .ok (.getfield 51, 3) := by decide +kernel
theorem dX3_copy_28 : decode cX3_copy 28 = .ok (.sipush 300, 3) := by decide +kernel
theorem dX3_copy_31 : decode cX3_copy 31 = .ok (.if_icmp .ne 5, 3) := by decide +kernel
theorem dX3_copy_34 : decode cX3_copy 34 = .ok (.iconst 0, 1) := by decide +kernel
theorem dX3_copy_35 : decode cX3_copy 35 = .ok (.ireturn, 1) := by decide +kernel
theorem dX3_copy_36 : decode cX3_copy 36 = .ok (.iconst 0, 1) := by decide +kernel
theorem dX3_copy_37 : decode cX3_copy 37 = .ok (.istore_n 2, 1) := by decide +kernel
theorem dX3_copy_38 : decode cX3_copy 38 = .ok (.iload_n 2, 1) := by decide +kernel
theorem dX3_copy_39 : decode cX3_copy 39 = .ok (.bipush 6, 2) := by decide +kernel
theorem dX3_copy_41 : decode cX3_copy 41 = .ok (.if_icmp .ge 34, 3) := by decide +kernel
theorem dX3_copy_44 : decode cX3_copy 44 = .ok (.aload_n 0, 1) := by decide +kernel
theorem dX3_copy_45 : decode cX3_copy 45 = .ok (.getfield 40, 3) := by decide +kernel
theorem dX3_copy_48 : decode cX3_copy 48 = .ok (.bipush 6, 2) := by decide +kernel
theorem dX3_copy_50 : decode cX3_copy 50 = .ok (.aload_n 0, 1) := by decide +kernel
theorem dX3_copy_51 : decode cX3_copy 51 = .ok (.getfield 51, 3) := by decide +kernel
theorem dX3_copy_54 : decode cX3_copy 54 = .ok (.imul, 1) := by decide +kernel
theorem dX3_copy_55 : decode cX3_copy 55 = .ok (.iload_n 2, 1) := by decide +kernel
theorem dX3_copy_56 : decode cX3_copy 56 = .ok (.iadd, 1) := by decide +kernel
theorem dX3_copy_57 : decode cX3_copy 57 = .ok (.aload_n 0, 1) := by decide +kernel
theorem dX3_copy_58 : decode cX3_copy 58 = .ok (.getfield 40, 3) := by decide +kernel
theorem dX3_copy_61 : decode cX3_copy 61 = .ok (.bipush 6, 2) := by decide +kernel
theorem dX3_copy_63 : decode cX3_copy 63 = .ok (.iload_n 1, 1) := by decide +kernel
theorem dX3_copy_64 : decode cX3_copy 64 = .ok (.imul, 1) := by decide +kernel
theorem dX3_copy_65 : decode cX3_copy 65 = .ok (.iload_n 2, 1) := by decide +kernel
theorem dX3_copy_66 : decode cX3_copy 66 = .ok (.iadd, 1) := by decide +kernel
theorem dX3_copy_67 : decode cX3_copy 67 = .ok (.iaload, 1) := by decide +kernel
theorem dX3_copy_68 : decode cX3_copy 68 = .ok (.iastore, 1) := by decide +kernel
theorem dX3_copy_69 : decode cX3_copy 69 = .ok (.iinc 2 1, 3) := by decide +kernel
theorem dX3_copy_72 : decode cX3_copy 72 = .ok (.goto (-34), 3) := by decide +kernel
theorem dX3_copy_75 : decode cX3_copy 75 = .ok (.aload_n 0, 1) := by decide +kernel
theorem dX3_copy_76 : decode cX3_copy 76 = .ok (.dup, 1) := by decide +kernel
theorem dX3_copy_77 : decode cX3_copy 77 = .ok (.getfield 51, 3) := by decide +kernel
theorem dX3_copy_80 : decode cX3_copy 80 = .ok (.iconst 1, 1) := by decide +kernel
theorem dX3_copy_81 : decode cX3_copy 81 = .ok (.iadd, 1) := by decide +kernel
theorem dX3_copy_82 : decode cX3_copy 82 = .ok (.putfield 51, 3) := by decide +kernel
theorem dX3_copy_85 : decode cX3_copy 85 = .ok (.iconst 1, 1) := by decide +kernel
theorem dX3_copy_86 : decode cX3_copy 86 = .ok (.ireturn, 1) := by decide +kernel
theorem dX3_letter_0 : decode cX3_letter 0 = .ok (.aload_n 0, 1) := by decide +kernel
theorem dX3_letter_1 : decode cX3_letter 1 = .ok (.iload_n 1, 1) := by decide +kernel
theorem dX3_letter_2 : decode cX3_letter 2 = .ok (.ifCond .lt 20, 3) := by decide +kernel
theorem dX3_letter_5 : decode cX3_letter 5 = .ok (.iload_n 1, 1) := by decide +kernel
theorem dX3_letter_6 : decode cX3_letter 6 = .ok (.aload_n 0, 1) := by decide +kernel
theorem dX3_letter_7 : decode cX3_letter 7 = .ok (.getfield 51, 3) := by decide +kernel
theorem dX3_letter_10 : decode cX3_letter 10 = .ok (.if_icmp .ge 12, 3) := by decide +kernel
theorem dX3_letter_13 : decode cX3_letter 13 = .ok (.iload_n 2, 1) := by decide +kernel
theorem dX3_letter_14 : decode cX3_letter 14 = .ok (.ifCond .lt 8, 3) := by decide +kernel
theorem dX3_letter_17 : decode cX3_letter 17 = .ok (.iload_n 2, 1) := by decide +kernel
theorem dX3_letter_18 : decode cX3_letter 18 = .ok (.iconst 5, 1) := by decide +kernel
theorem dX3_letter_19 : decode cX3_letter 19 = .ok (.if_icmp .le 7, 3) := by decide +kernel
theorem dX3_letter_22 : decode cX3_letter 22 = .ok (.iconst 1, 1) := by decide +kernel
theorem dX3_letter_23 : decode cX3_letter 23 = .ok (.goto 4, 3) := by decide +kernel
theorem dX3_letter_26 : decode cX3_letter 26 = .ok (.iconst 0, 1) := by decide +kernel
theorem dX3_letter_27 : decode cX3_letter 27 = .ok (.invokevirtual 97, 3) := by decide +kernel
theorem dX3_letter_30 : decode cX3_letter 30 = .ok (.ifCond .eq 7, 3) := by decide +kernel
theorem dX3_letter_33 : decode cX3_letter 33 = .ok (.iconst 0, 1) := by decide +kernel
theorem dX3_letter_34 : decode cX3_letter 34 = .ok (.goto 14, 3) := by decide +kernel
theorem dX3_letter_37 : decode cX3_letter 37 = .ok (.aload_n 0, 1) := by decide +kernel
theorem dX3_letter_38 : decode cX3_letter 38 = .ok (.getfield 40, 3) := by decide +kernel
theorem dX3_letter_41 : decode cX3_letter 41 = .ok (.bipush 6, 2) := by decide +kernel
theorem dX3_letter_43 : decode cX3_letter 43 = .ok (.iload_n 1, 1) := by decide +kernel
theorem dX3_letter_44 : decode cX3_letter 44 = .ok (.imul, 1) := by decide +kernel
theorem dX3_letter_45 : decode cX3_letter 45 = .ok (.iload_n 2, 1) := by decide +kernel
theorem dX3_letter_46 : decode cX3_letter 46 = .ok (.iadd, 1) := by decide +kernel
theorem dX3_letter_47 : decode cX3_letter 47 = .ok (.iaload, 1) := by decide +kernel
theorem dX3_letter_48 : decode cX3_letter 48 = .ok (.ireturn, 1) := by decide +kernel
theorem dX3_way_0 : decode cX3_way 0 = .ok (.aload_n 0, 1) := by decide +kernel
theorem dX3_way_1 : decode cX3_way 1 = .ok (.iload_n 1, 1) := by decide +kernel
theorem dX3_way_2 : decode cX3_way 2 = .ok (.invokestatic 93, 3) := by decide +kernel
theorem dX3_way_5 : decode cX3_way 5 = .ok (.ifCond .eq 19, 3) := by decide +kernel
theorem dX3_way_8 : decode cX3_way 8 = .ok (.iload_n 2, 1) := by decide +kernel
theorem dX3_way_9 : decode cX3_way 9 = .ok (.invokestatic 93, 3) := by decide +kernel
theorem dX3_way_12 : decode cX3_way 12 = .ok (.ifCond .eq 12, 3) := by decide +kernel
theorem dX3_way_15 : decode cX3_way 15 = .ok (.iload_n 3, 1) := by decide +kernel
theorem dX3_way_16 : decode cX3_way 16 = .ok (.ifCond .lt 8, 3) := by decide +kernel
theorem dX3_way_19 : decode cX3_way 19 = .ok (.iload_n 3, 1) := by decide +kernel
theorem dX3_way_20 : decode cX3_way 20 = .ok (.iconst 4, 1) := by decide +kernel
theorem dX3_way_21 : decode cX3_way 21 = .ok (.if_icmp .le 7, 3) := by decide +kernel
theorem dX3_way_24 : decode cX3_way 24 = .ok (.iconst 1, 1) := by decide +kernel
theorem dX3_way_25 : decode cX3_way 25 = .ok (.goto 4, 3) := by decide +kernel
theorem dX3_way_28 : decode cX3_way 28 = .ok (.iconst 0, 1) := by decide +kernel
theorem dX3_way_29 : decode cX3_way 29 = .ok (.invokevirtual 97, 3) := by decide +kernel
theorem dX3_way_32 : decode cX3_way 32 = .ok (.ifCond .eq 5, 3) := by decide +kernel
theorem dX3_way_35 : decode cX3_way 35 = .ok (.iconst 0, 1) := by decide +kernel
theorem dX3_way_36 : decode cX3_way 36 = .ok (.ireturn, 1) := by decide +kernel
theorem dX3_way_37 : decode cX3_way 37 = .ok (.bipush 12, 2) := by decide +kernel
theorem dX3_way_39 : decode cX3_way 39 = .ok (.iload_n 1, 1) := by decide +kernel
theorem dX3_way_40 : decode cX3_way 40 = .ok (.imul, 1) := by decide +kernel
theorem dX3_way_41 : decode cX3_way 41 = .ok (.iload_n 2, 1) := by decide +kernel
theorem dX3_way_42 : decode cX3_way 42 = .ok (.iadd, 1) := by decide +kernel
theorem dX3_way_43 : decode cX3_way 43 = .ok (.istore 4, 2) := by decide +kernel
theorem dX3_way_45 : decode cX3_way 45 = .ok (.iload_n 1, 1) := by decide +kernel
theorem dX3_way_46 : decode cX3_way 46 = .ok (.iload_n 2, 1) := by decide +kernel
theorem dX3_way_47 : decode cX3_way 47 = .ok (.if_icmp .ne 36, 3) := by decide +kernel
theorem dX3_way_50 : decode cX3_way 50 = .ok (.iload_n 3, 1) := by decide +kernel
theorem dX3_way_51 : decode cX3_way 51 = .ok (.ifCond .ne 7, 3) := by decide +kernel
theorem dX3_way_54 : decode cX3_way 54 = .ok (.iload_n 1, 1) := by decide +kernel
theorem dX3_way_55 : decode cX3_way 55 = .ok (.goto 27, 3) := by decide +kernel
theorem dX3_way_58 : decode cX3_way 58 = .ok (.iload_n 3, 1) := by decide +kernel
theorem dX3_way_59 : decode cX3_way 59 = .ok (.iconst 1, 1) := by decide +kernel
theorem dX3_way_60 : decode cX3_way 60 = .ok (.if_icmp .ne 12, 3) := by decide +kernel
theorem dX3_way_63 : decode cX3_way 63 = .ok (.aload_n 0, 1) := by decide +kernel
theorem dX3_way_64 : decode cX3_way 64 = .ok (.getfield 13, 3) := by decide +kernel
theorem dX3_way_67 : decode cX3_way 67 = .ok (.iload_n 1, 1) := by decide +kernel
theorem dX3_way_68 : decode cX3_way 68 = .ok (.iaload, 1) := by decide +kernel
theorem dX3_way_69 : decode cX3_way 69 = .ok (.goto 13, 3) := by decide +kernel
theorem dX3_way_72 : decode cX3_way 72 = .ok (.iload_n 3, 1) := by decide +kernel
theorem dX3_way_73 : decode cX3_way 73 = .ok (.iconst 2, 1) := by decide +kernel
theorem dX3_way_74 : decode cX3_way 74 = .ok (.if_icmp .ne 7, 3) := by decide +kernel
theorem dX3_way_77 : decode cX3_way 77 = .ok (.iconst 0, 1) := by decide +kernel
theorem dX3_way_78 : decode cX3_way 78 = .ok (.goto 4, 3) := by decide +kernel
theorem dX3_way_81 : decode cX3_way 81 = .ok (.iconst (-1), 1) := by decide +kernel
theorem dX3_way_82 : decode cX3_way 82 = .ok (.ireturn, 1) := by decide +kernel
theorem dX3_way_83 : decode cX3_way 83 = .ok (.iload_n 3, 1) := by decide +kernel
theorem dX3_way_84 : decode cX3_way 84 = .ok (.ifCond .ne 13, 3) := by decide +kernel
theorem dX3_way_87 : decode cX3_way 87 = .ok (.aload_n 0, 1) := by decide +kernel
theorem dX3_way_88 : decode cX3_way 88 = .ok (.getfield 22, 3) := by decide +kernel
theorem dX3_way_91 : decode cX3_way 91 = .ok (.iload 4, 2) := by decide +kernel
theorem dX3_way_93 : decode cX3_way 93 = .ok (.iaload, 1) := by decide +kernel
theorem dX3_way_94 : decode cX3_way 94 = .ok (.goto 55, 3) := by decide +kernel
theorem dX3_way_97 : decode cX3_way 97 = .ok (.iload_n 3, 1) := by decide +kernel
theorem dX3_way_98 : decode cX3_way 98 = .ok (.iconst 1, 1) := by decide +kernel
theorem dX3_way_99 : decode cX3_way 99 = .ok (.if_icmp .ne 13, 3) := by decide +kernel
theorem dX3_way_102 : decode cX3_way 102 = .ok (.aload_n 0, 1) := by decide +kernel
theorem dX3_way_103 : decode cX3_way 103 = .ok (.getfield 25, 3) := by decide +kernel
theorem dX3_way_106 : decode cX3_way 106 = .ok (.iload 4, 2) := by decide +kernel
theorem dX3_way_108 : decode cX3_way 108 = .ok (.iaload, 1) := by decide +kernel
theorem dX3_way_109 : decode cX3_way 109 = .ok (.goto 40, 3) := by decide +kernel
theorem dX3_way_112 : decode cX3_way 112 = .ok (.iload_n 3, 1) := by decide +kernel
theorem dX3_way_113 : decode cX3_way 113 = .ok (.iconst 2, 1) := by decide +kernel
theorem dX3_way_114 : decode cX3_way 114 = .ok (.if_icmp .ne 13, 3) := by decide +kernel
theorem dX3_way_117 : decode cX3_way 117 = .ok (.aload_n 0, 1) := by decide +kernel
theorem dX3_way_118 : decode cX3_way 118 = .ok (.getfield 28, 3) := by decide +kernel
theorem dX3_way_121 : decode cX3_way 121 = .ok (.iload 4, 2) := by decide +kernel
theorem dX3_way_123 : decode cX3_way 123 = .ok (.iaload, 1) := by decide +kernel
theorem dX3_way_124 : decode cX3_way 124 = .ok (.goto 25, 3) := by decide +kernel
theorem dX3_way_127 : decode cX3_way 127 = .ok (.iload_n 3, 1) := by decide +kernel
theorem dX3_way_128 : decode cX3_way 128 = .ok (.iconst 3, 1) := by decide +kernel
theorem dX3_way_129 : decode cX3_way 129 = .ok (.if_icmp .ne 13, 3) := by decide +kernel
theorem dX3_way_132 : decode cX3_way 132 = .ok (.aload_n 0, 1) := by decide +kernel
theorem dX3_way_133 : decode cX3_way 133 = .ok (.getfield 16, 3) := by decide +kernel
theorem dX3_way_136 : decode cX3_way 136 = .ok (.iload 4, 2) := by decide +kernel
theorem dX3_way_138 : decode cX3_way 138 = .ok (.iaload, 1) := by decide +kernel
theorem dX3_way_139 : decode cX3_way 139 = .ok (.goto 10, 3) := by decide +kernel
theorem dX3_way_142 : decode cX3_way 142 = .ok (.aload_n 0, 1) := by decide +kernel
theorem dX3_way_143 : decode cX3_way 143 = .ok (.getfield 19, 3) := by decide +kernel
theorem dX3_way_146 : decode cX3_way 146 = .ok (.iload 4, 2) := by decide +kernel
theorem dX3_way_148 : decode cX3_way 148 = .ok (.iaload, 1) := by decide +kernel
theorem dX3_way_149 : decode cX3_way 149 = .ok (.ireturn, 1) := by decide +kernel
theorem dX3_told_0 : decode cX3_told 0 = .ok (.iload_n 1, 1) := by decide +kernel
theorem dX3_told_1 : decode cX3_told 1 = .ok (.invokestatic 93, 3) := by decide +kernel
theorem dX3_told_4 : decode cX3_told 4 = .ok (.ifCond .eq 42, 3) := by decide +kernel
theorem dX3_told_7 : decode cX3_told 7 = .ok (.iload_n 2, 1) := by decide +kernel
theorem dX3_told_8 : decode cX3_told 8 = .ok (.invokestatic 93, 3) := by decide +kernel
theorem dX3_told_11 : decode cX3_told 11 = .ok (.ifCond .eq 35, 3) := by decide +kernel
theorem dX3_told_14 : decode cX3_told 14 = .ok (.iload_n 3, 1) := by decide +kernel
theorem dX3_told_15 : decode cX3_told 15 = .ok (.invokestatic 93, 3) := by decide +kernel
theorem dX3_told_18 : decode cX3_told 18 = .ok (.ifCond .eq 28, 3) := by decide +kernel
theorem dX3_told_21 : decode cX3_told 21 = .ok (.iload_n 1, 1) := by decide +kernel
theorem dX3_told_22 : decode cX3_told 22 = .ok (.iload_n 2, 1) := by decide +kernel
theorem dX3_told_23 : decode cX3_told 23 = .ok (.if_icmp .eq 23, 3) := by decide +kernel
theorem dX3_told_26 : decode cX3_told 26 = .ok (.iload_n 1, 1) := by decide +kernel
theorem dX3_told_27 : decode cX3_told 27 = .ok (.iload_n 3, 1) := by decide +kernel
theorem dX3_told_28 : decode cX3_told 28 = .ok (.if_icmp .eq 18, 3) := by decide +kernel
theorem dX3_told_31 : decode cX3_told 31 = .ok (.iload 4, 2) := by decide +kernel
theorem dX3_told_33 : decode cX3_told 33 = .ok (.ifCond .lt 13, 3) := by decide +kernel
theorem dX3_told_36 : decode cX3_told 36 = .ok (.iload 4, 2) := by decide +kernel
theorem dX3_told_38 : decode cX3_told 38 = .ok (.iconst 2, 1) := by decide +kernel
theorem dX3_told_39 : decode cX3_told 39 = .ok (.if_icmp .gt 7, 3) := by decide +kernel
theorem dX3_told_42 : decode cX3_told 42 = .ok (.iconst 1, 1) := by decide +kernel
theorem dX3_told_43 : decode cX3_told 43 = .ok (.goto 4, 3) := by decide +kernel
theorem dX3_told_46 : decode cX3_told 46 = .ok (.iconst 0, 1) := by decide +kernel
theorem dX3_told_47 : decode cX3_told 47 = .ok (.istore 5, 2) := by decide +kernel
theorem dX3_told_49 : decode cX3_told 49 = .ok (.aload_n 0, 1) := by decide +kernel
theorem dX3_told_50 : decode cX3_told 50 = .ok (.iload 5, 2) := by decide +kernel
theorem dX3_told_52 : decode cX3_told 52 = .ok (.ifCond .eq 7, 3) := by decide +kernel
theorem dX3_told_55 : decode cX3_told 55 = .ok (.iconst 0, 1) := by decide +kernel
theorem dX3_told_56 : decode cX3_told 56 = .ok (.goto 4, 3) := by decide +kernel
theorem dX3_told_59 : decode cX3_told 59 = .ok (.iconst 1, 1) := by decide +kernel
theorem dX3_told_60 : decode cX3_told 60 = .ok (.invokevirtual 97, 3) := by decide +kernel
theorem dX3_told_63 : decode cX3_told 63 = .ok (.ifCond .eq 5, 3) := by decide +kernel
theorem dX3_told_66 : decode cX3_told 66 = .ok (.iconst 0, 1) := by decide +kernel
theorem dX3_told_67 : decode cX3_told 67 = .ok (.ireturn, 1) := by decide +kernel
theorem dX3_told_68 : decode cX3_told 68 = .ok (.sipush 144, 3) := by decide +kernel
theorem dX3_told_71 : decode cX3_told 71 = .ok (.iload_n 1, 1) := by decide +kernel
theorem dX3_told_72 : decode cX3_told 72 = .ok (.imul, 1) := by decide +kernel
theorem dX3_told_73 : decode cX3_told 73 = .ok (.bipush 12, 2) := by decide +kernel
theorem dX3_told_75 : decode cX3_told 75 = .ok (.iload_n 2, 1) := by decide +kernel
theorem dX3_told_76 : decode cX3_told 76 = .ok (.imul, 1) := by decide +kernel
theorem dX3_told_77 : decode cX3_told 77 = .ok (.iadd, 1) := by decide +kernel
theorem dX3_told_78 : decode cX3_told 78 = .ok (.iload_n 3, 1) := by decide +kernel
theorem dX3_told_79 : decode cX3_told 79 = .ok (.iadd, 1) := by decide +kernel
theorem dX3_told_80 : decode cX3_told 80 = .ok (.istore 6, 2) := by decide +kernel
theorem dX3_told_82 : decode cX3_told 82 = .ok (.iload 4, 2) := by decide +kernel
theorem dX3_told_84 : decode cX3_told 84 = .ok (.ifCond .ne 13, 3) := by decide +kernel
theorem dX3_told_87 : decode cX3_told 87 = .ok (.aload_n 0, 1) := by decide +kernel
theorem dX3_told_88 : decode cX3_told 88 = .ok (.getfield 34, 3) := by decide +kernel
theorem dX3_told_91 : decode cX3_told 91 = .ok (.iload 6, 2) := by decide +kernel
theorem dX3_told_93 : decode cX3_told 93 = .ok (.iaload, 1) := by decide +kernel
theorem dX3_told_94 : decode cX3_told 94 = .ok (.goto 47, 3) := by decide +kernel
theorem dX3_told_97 : decode cX3_told 97 = .ok (.iload 4, 2) := by decide +kernel
theorem dX3_told_99 : decode cX3_told 99 = .ok (.iconst 1, 1) := by decide +kernel
theorem dX3_told_100 : decode cX3_told 100 = .ok (.if_icmp .ne 13, 3) := by decide +kernel
theorem dX3_told_103 : decode cX3_told 103 = .ok (.aload_n 0, 1) := by decide +kernel
theorem dX3_told_104 : decode cX3_told 104 = .ok (.getfield 37, 3) := by decide +kernel
theorem dX3_told_107 : decode cX3_told 107 = .ok (.iload 6, 2) := by decide +kernel
theorem dX3_told_109 : decode cX3_told 109 = .ok (.iaload, 1) := by decide +kernel
theorem dX3_told_110 : decode cX3_told 110 = .ok (.goto 31, 3) := by decide +kernel
theorem dX3_told_113 : decode cX3_told 113 = .ok (.aload_n 0, 1) := by decide +kernel
theorem dX3_told_114 : decode cX3_told 114 = .ok (.iload_n 1, 1) := by decide +kernel
theorem dX3_told_115 : decode cX3_told 115 = .ok (.iload_n 3, 1) := by decide +kernel
theorem dX3_told_116 : decode cX3_told 116 = .ok (.aload_n 0, 1) := by decide +kernel
theorem dX3_told_117 : decode cX3_told 117 = .ok (.getfield 34, 3) := by decide +kernel
theorem dX3_told_120 : decode cX3_told 120 = .ok (.iload 6, 2) := by decide +kernel
theorem dX3_told_122 : decode cX3_told 122 = .ok (.iaload, 1) := by decide +kernel
theorem dX3_told_123 : decode cX3_told 123 = .ok (.aload_n 0, 1) := by decide +kernel
theorem dX3_told_124 : decode cX3_told 124 = .ok (.getfield 37, 3) := by decide +kernel
theorem dX3_told_127 : decode cX3_told 127 = .ok (.iload 6, 2) := by decide +kernel
theorem dX3_told_129 : decode cX3_told 129 = .ok (.iaload, 1) := by decide +kernel
theorem dX3_told_130 : decode cX3_told 130 = .ok (.invokevirtual 69, 3) := by decide +kernel
theorem dX3_told_133 : decode cX3_told 133 = .ok (.ifCond .eq 7, 3) := by decide +kernel
theorem dX3_told_136 : decode cX3_told 136 = .ok (.iconst 1, 1) := by decide +kernel
theorem dX3_told_137 : decode cX3_told 137 = .ok (.goto 4, 3) := by decide +kernel
theorem dX3_told_140 : decode cX3_told 140 = .ok (.iconst 0, 1) := by decide +kernel
theorem dX3_told_141 : decode cX3_told 141 = .ok (.ireturn, 1) := by decide +kernel
theorem dX3_trace_0 : decode cX3_trace 0 = .ok (.aload_n 0, 1) := by decide +kernel
theorem dX3_trace_1 : decode cX3_trace 1 = .ok (.iload_n 1, 1) := by decide +kernel
theorem dX3_trace_2 : decode cX3_trace 2 = .ok (.invokestatic 93, 3) := by decide +kernel
theorem dX3_trace_5 : decode cX3_trace 5 = .ok (.ifCond .eq 10, 3) := by decide +kernel
theorem dX3_trace_8 : decode cX3_trace 8 = .ok (.iload_n 2, 1) := by decide +kernel
theorem dX3_trace_9 : decode cX3_trace 9 = .ok (.invokestatic 93, 3) := by decide +kernel
theorem dX3_trace_12 : decode cX3_trace 12 = .ok (.ifCond .ne 7, 3) := by decide +kernel
theorem dX3_trace_15 : decode cX3_trace 15 = .ok (.iconst 1, 1) := by decide +kernel
theorem dX3_trace_16 : decode cX3_trace 16 = .ok (.goto 4, 3) := by decide +kernel
theorem dX3_trace_19 : decode cX3_trace 19 = .ok (.iconst 0, 1) := by decide +kernel
theorem dX3_trace_20 : decode cX3_trace 20 = .ok (.invokevirtual 97, 3) := by decide +kernel
theorem dX3_trace_23 : decode cX3_trace 23 = .ok (.ifCond .eq 5, 3) := by decide +kernel
theorem dX3_trace_26 : decode cX3_trace 26 = .ok (.iconst 0, 1) := by decide +kernel
theorem dX3_trace_27 : decode cX3_trace 27 = .ok (.ireturn, 1) := by decide +kernel
theorem dX3_trace_28 : decode cX3_trace 28 = .ok (.iload_n 1, 1) := by decide +kernel
theorem dX3_trace_29 : decode cX3_trace 29 = .ok (.istore_n 3, 1) := by decide +kernel
theorem dX3_trace_30 : decode cX3_trace 30 = .ok (.iconst 0, 1) := by decide +kernel
theorem dX3_trace_31 : decode cX3_trace 31 = .ok (.istore 4, 2) := by decide +kernel
theorem dX3_trace_33 : decode cX3_trace 33 = .ok (.iload_n 3, 1) := by decide +kernel
theorem dX3_trace_34 : decode cX3_trace 34 = .ok (.iload_n 2, 1) := by decide +kernel
theorem dX3_trace_35 : decode cX3_trace 35 = .ok (.if_icmp .eq 33, 3) := by decide +kernel
theorem dX3_trace_38 : decode cX3_trace 38 = .ok (.iload_n 3, 1) := by decide +kernel
theorem dX3_trace_39 : decode cX3_trace 39 = .ok (.iconst (-1), 1) := by decide +kernel
theorem dX3_trace_40 : decode cX3_trace 40 = .ok (.if_icmp .eq 28, 3) := by decide +kernel
theorem dX3_trace_43 : decode cX3_trace 43 = .ok (.iload 4, 2) := by decide +kernel
theorem dX3_trace_45 : decode cX3_trace 45 = .ok (.bipush 20, 2) := by decide +kernel
theorem dX3_trace_47 : decode cX3_trace 47 = .ok (.if_icmp .ge 21, 3) := by decide +kernel
theorem dX3_trace_50 : decode cX3_trace 50 = .ok (.aload_n 0, 1) := by decide +kernel
theorem dX3_trace_51 : decode cX3_trace 51 = .ok (.getfield 22, 3) := by decide +kernel
theorem dX3_trace_54 : decode cX3_trace 54 = .ok (.bipush 12, 2) := by decide +kernel
theorem dX3_trace_56 : decode cX3_trace 56 = .ok (.iload_n 3, 1) := by decide +kernel
theorem dX3_trace_57 : decode cX3_trace 57 = .ok (.imul, 1) := by decide +kernel
theorem dX3_trace_58 : decode cX3_trace 58 = .ok (.iload_n 2, 1) := by decide +kernel
theorem dX3_trace_59 : decode cX3_trace 59 = .ok (.iadd, 1) := by decide +kernel
theorem dX3_trace_60 : decode cX3_trace 60 = .ok (.iaload, 1) := by decide +kernel
theorem dX3_trace_61 : decode cX3_trace 61 = .ok (.istore_n 3, 1) := by decide +kernel
theorem dX3_trace_62 : decode cX3_trace 62 = .ok (.iinc 4 1, 3) := by decide +kernel
theorem dX3_trace_65 : decode cX3_trace 65 = .ok (.goto (-32), 3) := by decide +kernel
theorem dX3_trace_68 : decode cX3_trace 68 = .ok (.iload_n 3, 1) := by decide +kernel
theorem dX3_trace_69 : decode cX3_trace 69 = .ok (.iload_n 2, 1) := by decide +kernel
theorem dX3_trace_70 : decode cX3_trace 70 = .ok (.if_icmp .ne 8, 3) := by decide +kernel
theorem dX3_trace_73 : decode cX3_trace 73 = .ok (.iload 4, 2) := by decide +kernel
theorem dX3_trace_75 : decode cX3_trace 75 = .ok (.goto 4, 3) := by decide +kernel
theorem dX3_trace_78 : decode cX3_trace 78 = .ok (.iconst (-1), 1) := by decide +kernel
theorem dX3_trace_79 : decode cX3_trace 79 = .ok (.ireturn, 1) := by decide +kernel
theorem dX3_cost_0 : decode cX3_cost 0 = .ok (.aload_n 0, 1) := by decide +kernel
theorem dX3_cost_1 : decode cX3_cost 1 = .ok (.iload_n 1, 1) := by decide +kernel
theorem dX3_cost_2 : decode cX3_cost 2 = .ok (.invokestatic 93, 3) := by decide +kernel
theorem dX3_cost_5 : decode cX3_cost 5 = .ok (.ifCond .eq 15, 3) := by decide +kernel
theorem dX3_cost_8 : decode cX3_cost 8 = .ok (.iload_n 2, 1) := by decide +kernel
theorem dX3_cost_9 : decode cX3_cost 9 = .ok (.invokestatic 93, 3) := by decide +kernel
theorem dX3_cost_12 : decode cX3_cost 12 = .ok (.ifCond .eq 8, 3) := by decide +kernel
theorem dX3_cost_15 : decode cX3_cost 15 = .ok (.iload_n 1, 1) := by decide +kernel
theorem dX3_cost_16 : decode cX3_cost 16 = .ok (.iload_n 2, 1) := by decide +kernel
theorem dX3_cost_17 : decode cX3_cost 17 = .ok (.if_icmp .ne 7, 3) := by decide +kernel
theorem dX3_cost_20 : decode cX3_cost 20 = .ok (.iconst 1, 1) := by decide +kernel
theorem dX3_cost_21 : decode cX3_cost 21 = .ok (.goto 4, 3) := by decide +kernel
theorem dX3_cost_24 : decode cX3_cost 24 = .ok (.iconst 0, 1) := by decide +kernel
theorem dX3_cost_25 : decode cX3_cost 25 = .ok (.invokevirtual 97, 3) := by decide +kernel
theorem dX3_cost_28 : decode cX3_cost 28 = .ok (.ifCond .eq 7, 3) := by decide +kernel
theorem dX3_cost_31 : decode cX3_cost 31 = .ok (.iconst 0, 1) := by decide +kernel
theorem dX3_cost_32 : decode cX3_cost 32 = .ok (.goto 14, 3) := by decide +kernel
theorem dX3_cost_35 : decode cX3_cost 35 = .ok (.aload_n 0, 1) := by decide +kernel
theorem dX3_cost_36 : decode cX3_cost 36 = .ok (.getfield 7, 3) := by decide +kernel
theorem dX3_cost_39 : decode cX3_cost 39 = .ok (.bipush 12, 2) := by decide +kernel
theorem dX3_cost_41 : decode cX3_cost 41 = .ok (.iload_n 1, 1) := by decide +kernel
theorem dX3_cost_42 : decode cX3_cost 42 = .ok (.imul, 1) := by decide +kernel
theorem dX3_cost_43 : decode cX3_cost 43 = .ok (.iload_n 2, 1) := by decide +kernel
theorem dX3_cost_44 : decode cX3_cost 44 = .ok (.iadd, 1) := by decide +kernel
theorem dX3_cost_45 : decode cX3_cost 45 = .ok (.iaload, 1) := by decide +kernel
theorem dX3_cost_46 : decode cX3_cost 46 = .ok (.ireturn, 1) := by decide +kernel
theorem dX3_total_0 : decode cX3_total 0 = .ok (.aload_n 0, 1) := by decide +kernel
theorem dX3_total_1 : decode cX3_total 1 = .ok (.iload_n 1, 1) := by decide +kernel
theorem dX3_total_2 : decode cX3_total 2 = .ok (.ifCond .lt 8, 3) := by decide +kernel
theorem dX3_total_5 : decode cX3_total 5 = .ok (.iload_n 1, 1) := by decide +kernel
theorem dX3_total_6 : decode cX3_total 6 = .ok (.iconst 4, 1) := by decide +kernel
theorem dX3_total_7 : decode cX3_total 7 = .ok (.if_icmp .le 7, 3) := by decide +kernel
theorem dX3_total_10 : decode cX3_total 10 = .ok (.iconst 1, 1) := by decide +kernel
theorem dX3_total_11 : decode cX3_total 11 = .ok (.goto 4, 3) := by decide +kernel
theorem dX3_total_14 : decode cX3_total 14 = .ok (.iconst 0, 1) := by decide +kernel
theorem dX3_total_15 : decode cX3_total 15 = .ok (.invokevirtual 97, 3) := by decide +kernel
theorem dX3_total_18 : decode cX3_total 18 = .ok (.ifCond .eq 5, 3) := by decide +kernel
theorem dX3_total_21 : decode cX3_total 21 = .ok (.iconst 0, 1) := by decide +kernel
theorem dX3_total_22 : decode cX3_total 22 = .ok (.ireturn, 1) := by decide +kernel
theorem dX3_total_23 : decode cX3_total 23 = .ok (.iload_n 1, 1) := by decide +kernel
theorem dX3_total_24 : decode cX3_total 24 = .ok (.ifCond .ne 10, 3) := by decide +kernel
theorem dX3_total_27 : decode cX3_total 27 = .ok (.aload_n 0, 1) := by decide +kernel
theorem dX3_total_28 : decode cX3_total 28 = .ok (.getfield 51, 3) := by decide +kernel
theorem dX3_total_31 : decode cX3_total 31 = .ok (.goto 43, 3) := by decide +kernel
theorem dX3_total_34 : decode cX3_total 34 = .ok (.iload_n 1, 1) := by decide +kernel
theorem dX3_total_35 : decode cX3_total 35 = .ok (.iconst 1, 1) := by decide +kernel
theorem dX3_total_36 : decode cX3_total 36 = .ok (.if_icmp .ne 10, 3) := by decide +kernel
theorem dX3_total_39 : decode cX3_total 39 = .ok (.aload_n 0, 1) := by decide +kernel
theorem dX3_total_40 : decode cX3_total 40 = .ok (.getfield 48, 3) := by decide +kernel
theorem dX3_total_43 : decode cX3_total 43 = .ok (.goto 31, 3) := by decide +kernel
theorem dX3_total_46 : decode cX3_total 46 = .ok (.iload_n 1, 1) := by decide +kernel
theorem dX3_total_47 : decode cX3_total 47 = .ok (.iconst 2, 1) := by decide +kernel
theorem dX3_total_48 : decode cX3_total 48 = .ok (.if_icmp .ne 10, 3) := by decide +kernel
theorem dX3_total_51 : decode cX3_total 51 = .ok (.aload_n 0, 1) := by decide +kernel
theorem dX3_total_52 : decode cX3_total 52 = .ok (.getfield 54, 3) := by decide +kernel
theorem dX3_total_55 : decode cX3_total 55 = .ok (.goto 19, 3) := by decide +kernel
theorem dX3_total_58 : decode cX3_total 58 = .ok (.iload_n 1, 1) := by decide +kernel
theorem dX3_total_59 : decode cX3_total 59 = .ok (.iconst 3, 1) := by decide +kernel
theorem dX3_total_60 : decode cX3_total 60 = .ok (.if_icmp .ne 10, 3) := by decide +kernel
theorem dX3_total_63 : decode cX3_total 63 = .ok (.aload_n 0, 1) := by decide +kernel
theorem dX3_total_64 : decode cX3_total 64 = .ok (.getfield 113, 3) := by decide +kernel
theorem dX3_total_67 : decode cX3_total 67 = .ok (.goto 7, 3) := by decide +kernel
theorem dX3_total_70 : decode cX3_total 70 = .ok (.aload_n 0, 1) := by decide +kernel
theorem dX3_total_71 : decode cX3_total 71 = .ok (.getfield 100, 3) := by decide +kernel
theorem dX3_total_74 : decode cX3_total 74 = .ok (.ireturn, 1) := by decide +kernel
end
section
theorem dL_link_0 : decode cL_link 0 = .ok (.aload 4, 2) := by decide +kernel
theorem dL_link_2 : decode cL_link 2 = .ok (.iconst 0, 1) := by decide +kernel
theorem dL_link_3 : decode cL_link 3 = .ok (.aload_n 0, 1) := by decide +kernel
theorem dL_link_4 : decode cL_link 4 = .ok (.iload_n 1, 1) := by decide +kernel
theorem dL_link_5 : decode cL_link 5 = .ok (.iload_n 2, 1) := by decide +kernel
theorem dL_link_6 : decode cL_link 6 = .ok (.iload_n 3, 1) := by decide +kernel
theorem dL_link_7 : decode cL_link 7 = .ok (.invokevirtual 7, 3) := by decide +kernel
theorem dL_link_10 : decode cL_link 10 = .ok (.i2l, 1) := by decide +kernel
theorem dL_link_11 : decode cL_link 11 = .ok (.lastore, 1) := by decide +kernel
theorem dL_link_12 : decode cL_link 12 = .ok (.goto 7, 3) := by decide +kernel
theorem dL_link_15 : decode cL_link 15 = .ok (.astore 5, 2) := by decide +kernel
theorem dL_link_17 : decode cL_link 17 = .ok (.iconst 1, 1) := by decide +kernel
theorem dL_link_18 : decode cL_link 18 = .ok (.ireturn, 1) := by decide +kernel
theorem dL_link_19 : decode cL_link 19 = .ok (.iconst 0, 1) := by decide +kernel
theorem dL_link_20 : decode cL_link 20 = .ok (.ireturn, 1) := by decide +kernel
theorem dL_announce_0 : decode cL_announce 0 = .ok (.aload_n 2, 1) := by decide +kernel
theorem dL_announce_1 : decode cL_announce 1 = .ok (.iconst 0, 1) := by decide +kernel
theorem dL_announce_2 : decode cL_announce 2 = .ok (.aload_n 0, 1) := by decide +kernel
theorem dL_announce_3 : decode cL_announce 3 = .ok (.iload_n 1, 1) := by decide +kernel
theorem dL_announce_4 : decode cL_announce 4 = .ok (.invokevirtual 15, 3) := by decide +kernel
theorem dL_announce_7 : decode cL_announce 7 = .ok (.i2l, 1) := by decide +kernel
theorem dL_announce_8 : decode cL_announce 8 = .ok (.lastore, 1) := by decide +kernel
theorem dL_announce_9 : decode cL_announce 9 = .ok (.goto 6, 3) := by decide +kernel
theorem dL_announce_12 : decode cL_announce 12 = .ok (.astore_n 3, 1) := by decide +kernel
theorem dL_announce_13 : decode cL_announce 13 = .ok (.iconst 1, 1) := by decide +kernel
theorem dL_announce_14 : decode cL_announce 14 = .ok (.ireturn, 1) := by decide +kernel
theorem dL_announce_15 : decode cL_announce 15 = .ok (.iconst 0, 1) := by decide +kernel
theorem dL_announce_16 : decode cL_announce 16 = .ok (.ireturn, 1) := by decide +kernel
theorem dL_renew_0 : decode cL_renew 0 = .ok (.aload_n 2, 1) := by decide +kernel
theorem dL_renew_1 : decode cL_renew 1 = .ok (.iconst 0, 1) := by decide +kernel
theorem dL_renew_2 : decode cL_renew 2 = .ok (.aload_n 0, 1) := by decide +kernel
theorem dL_renew_3 : decode cL_renew 3 = .ok (.iload_n 1, 1) := by decide +kernel
theorem dL_renew_4 : decode cL_renew 4 = .ok (.invokevirtual 19, 3) := by decide +kernel
theorem dL_renew_7 : decode cL_renew 7 = .ok (.i2l, 1) := by decide +kernel
theorem dL_renew_8 : decode cL_renew 8 = .ok (.lastore, 1) := by decide +kernel
theorem dL_renew_9 : decode cL_renew 9 = .ok (.goto 6, 3) := by decide +kernel
theorem dL_renew_12 : decode cL_renew 12 = .ok (.astore_n 3, 1) := by decide +kernel
theorem dL_renew_13 : decode cL_renew 13 = .ok (.iconst 1, 1) := by decide +kernel
theorem dL_renew_14 : decode cL_renew 14 = .ok (.ireturn, 1) := by decide +kernel
theorem dL_renew_15 : decode cL_renew 15 = .ok (.iconst 0, 1) := by decide +kernel
theorem dL_renew_16 : decode cL_renew 16 = .ok (.ireturn, 1) := by decide +kernel
theorem dL_ask_0 : decode cL_ask 0 = .ok (.aload_n 3, 1) := by decide +kernel
theorem dL_ask_1 : decode cL_ask 1 = .ok (.iconst 0, 1) := by decide +kernel
theorem dL_ask_2 : decode cL_ask 2 = .ok (.aload_n 0, 1) := by decide +kernel
theorem dL_ask_3 : decode cL_ask 3 = .ok (.iload_n 1, 1) := by decide +kernel
theorem dL_ask_4 : decode cL_ask 4 = .ok (.iload_n 2, 1) := by decide +kernel
theorem dL_ask_5 : decode cL_ask 5 = .ok (.invokevirtual 22, 3) := by decide +kernel
theorem dL_ask_8 : decode cL_ask 8 = .ok (.i2l, 1) := by decide +kernel
theorem dL_ask_9 : decode cL_ask 9 = .ok (.lastore, 1) := by decide +kernel
theorem dL_ask_10 : decode cL_ask 10 = .ok (.goto 7, 3) := by decide +kernel
theorem dL_ask_13 : decode cL_ask 13 = .ok (.astore 4, 2) := by decide +kernel
theorem dL_ask_15 : decode cL_ask 15 = .ok (.iconst 1, 1) := by decide +kernel
theorem dL_ask_16 : decode cL_ask 16 = .ok (.ireturn, 1) := by decide +kernel
theorem dL_ask_17 : decode cL_ask 17 = .ok (.iconst 0, 1) := by decide +kernel
theorem dL_ask_18 : decode cL_ask 18 = .ok (.ireturn, 1) := by decide +kernel
theorem dL_reboot_0 : decode cL_reboot 0 = .ok (.aload_n 2, 1) := by decide +kernel
theorem dL_reboot_1 : decode cL_reboot 1 = .ok (.iconst 0, 1) := by decide +kernel
theorem dL_reboot_2 : decode cL_reboot 2 = .ok (.aload_n 0, 1) := by decide +kernel
theorem dL_reboot_3 : decode cL_reboot 3 = .ok (.iload_n 1, 1) := by decide +kernel
theorem dL_reboot_4 : decode cL_reboot 4 = .ok (.invokevirtual 26, 3) := by decide +kernel
theorem dL_reboot_7 : decode cL_reboot 7 = .ok (.i2l, 1) := by decide +kernel
theorem dL_reboot_8 : decode cL_reboot 8 = .ok (.lastore, 1) := by decide +kernel
theorem dL_reboot_9 : decode cL_reboot 9 = .ok (.goto 9, 3) := by decide +kernel
theorem dL_reboot_12 : decode cL_reboot 12 = .ok (.astore_n 3, 1) := by decide +kernel
theorem dL_reboot_13 : decode cL_reboot 13 = .ok (.iconst 1, 1) := by decide +kernel
theorem dL_reboot_14 : decode cL_reboot 14 = .ok (.ireturn, 1) := by decide +kernel
theorem dL_reboot_15 : decode cL_reboot 15 = .ok (.astore_n 3, 1) := by decide +kernel
theorem dL_reboot_16 : decode cL_reboot 16 = .ok (.iconst 2, 1) := by decide +kernel
theorem dL_reboot_17 : decode cL_reboot 17 = .ok (.ireturn, 1) := by decide +kernel
theorem dL_reboot_18 : decode cL_reboot 18 = .ok (.iconst 0, 1) := by decide +kernel
theorem dL_reboot_19 : decode cL_reboot 19 = .ok (.ireturn, 1) := by decide +kernel
theorem dL_deliver_0 : decode cL_deliver 0 = .ok (.aload_n 2, 1) := by decide +kernel
theorem dL_deliver_1 : decode cL_deliver 1 = .ok (.iconst 0, 1) := by decide +kernel
theorem dL_deliver_2 : decode cL_deliver 2 = .ok (.aload_n 0, 1) := by decide +kernel
theorem dL_deliver_3 : decode cL_deliver 3 = .ok (.iload_n 1, 1) := by decide +kernel
theorem dL_deliver_4 : decode cL_deliver 4 = .ok (.invokevirtual 31, 3) := by decide +kernel
theorem dL_deliver_7 : decode cL_deliver 7 = .ok (.i2l, 1) := by decide +kernel
theorem dL_deliver_8 : decode cL_deliver 8 = .ok (.lastore, 1) := by decide +kernel
theorem dL_deliver_9 : decode cL_deliver 9 = .ok (.goto 6, 3) := by decide +kernel
theorem dL_deliver_12 : decode cL_deliver 12 = .ok (.astore_n 3, 1) := by decide +kernel
theorem dL_deliver_13 : decode cL_deliver 13 = .ok (.iconst 1, 1) := by decide +kernel
theorem dL_deliver_14 : decode cL_deliver 14 = .ok (.ireturn, 1) := by decide +kernel
theorem dL_deliver_15 : decode cL_deliver 15 = .ok (.iconst 0, 1) := by decide +kernel
theorem dL_deliver_16 : decode cL_deliver 16 = .ok (.ireturn, 1) := by decide +kernel
theorem dL_run_0 : decode cL_run 0 = .ok (.aload_n 2, 1) := by decide +kernel
theorem dL_run_1 : decode cL_run 1 = .ok (.iconst 0, 1) := by decide +kernel
theorem dL_run_2 : decode cL_run 2 = .ok (.aload_n 0, 1) := by decide +kernel
theorem dL_run_3 : decode cL_run 3 = .ok (.iload_n 1, 1) := by decide +kernel
theorem dL_run_4 : decode cL_run 4 = .ok (.invokevirtual 34, 3) := by decide +kernel
theorem dL_run_7 : decode cL_run 7 = .ok (.i2l, 1) := by decide +kernel
theorem dL_run_8 : decode cL_run 8 = .ok (.lastore, 1) := by decide +kernel
theorem dL_run_9 : decode cL_run 9 = .ok (.goto 6, 3) := by decide +kernel
theorem dL_run_12 : decode cL_run 12 = .ok (.astore_n 3, 1) := by decide +kernel
theorem dL_run_13 : decode cL_run 13 = .ok (.iconst 1, 1) := by decide +kernel
theorem dL_run_14 : decode cL_run 14 = .ok (.ireturn, 1) := by decide +kernel
theorem dL_run_15 : decode cL_run 15 = .ok (.iconst 0, 1) := by decide +kernel
theorem dL_run_16 : decode cL_run 16 = .ok (.ireturn, 1) := by decide +kernel
theorem dL_drop_0 : decode cL_drop 0 = .ok (.aload_n 2, 1) := by decide +kernel
theorem dL_drop_1 : decode cL_drop 1 = .ok (.iconst 0, 1) := by decide +kernel
theorem dL_drop_2 : decode cL_drop 2 = .ok (.aload_n 0, 1) := by decide +kernel
theorem dL_drop_3 : decode cL_drop 3 = .ok (.iload_n 1, 1) := by decide +kernel
theorem dL_drop_4 : decode cL_drop 4 = .ok (.invokevirtual 37, 3) := by decide +kernel
theorem dL_drop_7 : decode cL_drop 7 = .ok (.i2l, 1) := by decide +kernel
theorem dL_drop_8 : decode cL_drop 8 = .ok (.lastore, 1) := by decide +kernel
theorem dL_drop_9 : decode cL_drop 9 = .ok (.goto 6, 3) := by decide +kernel
theorem dL_drop_12 : decode cL_drop 12 = .ok (.astore_n 3, 1) := by decide +kernel
theorem dL_drop_13 : decode cL_drop 13 = .ok (.iconst 1, 1) := by decide +kernel
theorem dL_drop_14 : decode cL_drop 14 = .ok (.ireturn, 1) := by decide +kernel
theorem dL_drop_15 : decode cL_drop 15 = .ok (.iconst 0, 1) := by decide +kernel
theorem dL_drop_16 : decode cL_drop 16 = .ok (.ireturn, 1) := by decide +kernel
theorem dL_copy_0 : decode cL_copy 0 = .ok (.aload_n 2, 1) := by decide +kernel
theorem dL_copy_1 : decode cL_copy 1 = .ok (.iconst 0, 1) := by decide +kernel
theorem dL_copy_2 : decode cL_copy 2 = .ok (.aload_n 0, 1) := by decide +kernel
theorem dL_copy_3 : decode cL_copy 3 = .ok (.iload_n 1, 1) := by decide +kernel
theorem dL_copy_4 : decode cL_copy 4 = .ok (.invokevirtual 40, 3) := by decide +kernel
theorem dL_copy_7 : decode cL_copy 7 = .ok (.ifCond .eq 7, 3) := by decide +kernel
theorem dL_copy_10 : decode cL_copy 10 = .ok (.lconst 1, 1) := by decide +kernel
theorem dL_copy_11 : decode cL_copy 11 = .ok (.goto 4, 3) := by decide +kernel
theorem dL_copy_14 : decode cL_copy 14 = .ok (.lconst 0, 1) := by decide +kernel
theorem dL_copy_15 : decode cL_copy 15 = .ok (.lastore, 1) := by decide +kernel
theorem dL_copy_16 : decode cL_copy 16 = .ok (.goto 6, 3) := by decide +kernel
theorem dL_copy_19 : decode cL_copy 19 = .ok (.astore_n 3, 1) := by decide +kernel
theorem dL_copy_20 : decode cL_copy 20 = .ok (.iconst 1, 1) := by decide +kernel
theorem dL_copy_21 : decode cL_copy 21 = .ok (.ireturn, 1) := by decide +kernel
theorem dL_copy_22 : decode cL_copy 22 = .ok (.iconst 0, 1) := by decide +kernel
theorem dL_copy_23 : decode cL_copy 23 = .ok (.ireturn, 1) := by decide +kernel
theorem dL_letter_0 : decode cL_letter 0 = .ok (.aload_n 3, 1) := by decide +kernel
theorem dL_letter_1 : decode cL_letter 1 = .ok (.iconst 0, 1) := by decide +kernel
theorem dL_letter_2 : decode cL_letter 2 = .ok (.aload_n 0, 1) := by decide +kernel
theorem dL_letter_3 : decode cL_letter 3 = .ok (.iload_n 1, 1) := by decide +kernel
theorem dL_letter_4 : decode cL_letter 4 = .ok (.iload_n 2, 1) := by decide +kernel
theorem dL_letter_5 : decode cL_letter 5 = .ok (.invokevirtual 44, 3) := by decide +kernel
theorem dL_letter_8 : decode cL_letter 8 = .ok (.i2l, 1) := by decide +kernel
theorem dL_letter_9 : decode cL_letter 9 = .ok (.lastore, 1) := by decide +kernel
theorem dL_letter_10 : decode cL_letter 10 = .ok (.goto 7, 3) := by decide +kernel
theorem dL_letter_13 : decode cL_letter 13 = .ok (.astore 4, 2) := by decide +kernel
theorem dL_letter_15 : decode cL_letter 15 = .ok (.iconst 1, 1) := by decide +kernel
theorem dL_letter_16 : decode cL_letter 16 = .ok (.ireturn, 1) := by decide +kernel
theorem dL_letter_17 : decode cL_letter 17 = .ok (.iconst 0, 1) := by decide +kernel
theorem dL_letter_18 : decode cL_letter 18 = .ok (.ireturn, 1) := by decide +kernel
theorem dL_way_0 : decode cL_way 0 = .ok (.aload 4, 2) := by decide +kernel
theorem dL_way_2 : decode cL_way 2 = .ok (.iconst 0, 1) := by decide +kernel
theorem dL_way_3 : decode cL_way 3 = .ok (.aload_n 0, 1) := by decide +kernel
theorem dL_way_4 : decode cL_way 4 = .ok (.iload_n 1, 1) := by decide +kernel
theorem dL_way_5 : decode cL_way 5 = .ok (.iload_n 2, 1) := by decide +kernel
theorem dL_way_6 : decode cL_way 6 = .ok (.iload_n 3, 1) := by decide +kernel
theorem dL_way_7 : decode cL_way 7 = .ok (.invokevirtual 47, 3) := by decide +kernel
theorem dL_way_10 : decode cL_way 10 = .ok (.i2l, 1) := by decide +kernel
theorem dL_way_11 : decode cL_way 11 = .ok (.lastore, 1) := by decide +kernel
theorem dL_way_12 : decode cL_way 12 = .ok (.goto 7, 3) := by decide +kernel
theorem dL_way_15 : decode cL_way 15 = .ok (.astore 5, 2) := by decide +kernel
theorem dL_way_17 : decode cL_way 17 = .ok (.iconst 1, 1) := by decide +kernel
theorem dL_way_18 : decode cL_way 18 = .ok (.ireturn, 1) := by decide +kernel
theorem dL_way_19 : decode cL_way 19 = .ok (.iconst 0, 1) := by decide +kernel
theorem dL_way_20 : decode cL_way 20 = .ok (.ireturn, 1) := by decide +kernel
theorem dL_told_0 : decode cL_told 0 = .ok (.aload 5, 2) := by decide +kernel
theorem dL_told_2 : decode cL_told 2 = .ok (.iconst 0, 1) := by decide +kernel
theorem dL_told_3 : decode cL_told 3 = .ok (.aload_n 0, 1) := by decide +kernel
theorem dL_told_4 : decode cL_told 4 = .ok (.iload_n 1, 1) := by decide +kernel
theorem dL_told_5 : decode cL_told 5 = .ok (.iload_n 2, 1) := by decide +kernel
theorem dL_told_6 : decode cL_told 6 = .ok (.iload_n 3, 1) := by decide +kernel
theorem dL_told_7 : decode cL_told 7 = .ok (.iload 4, 2) := by decide +kernel
theorem dL_told_9 : decode cL_told 9 = .ok (.invokevirtual 50, 3) := by decide +kernel
theorem dL_told_12 : decode cL_told 12 = .ok (.i2l, 1) := by decide +kernel
theorem dL_told_13 : decode cL_told 13 = .ok (.lastore, 1) := by decide +kernel
theorem dL_told_14 : decode cL_told 14 = .ok (.goto 7, 3) := by decide +kernel
theorem dL_told_17 : decode cL_told 17 = .ok (.astore 6, 2) := by decide +kernel
theorem dL_told_19 : decode cL_told 19 = .ok (.iconst 1, 1) := by decide +kernel
theorem dL_told_20 : decode cL_told 20 = .ok (.ireturn, 1) := by decide +kernel
theorem dL_told_21 : decode cL_told 21 = .ok (.iconst 0, 1) := by decide +kernel
theorem dL_told_22 : decode cL_told 22 = .ok (.ireturn, 1) := by decide +kernel
theorem dL_trace_0 : decode cL_trace 0 = .ok (.aload_n 3, 1) := by decide +kernel
theorem dL_trace_1 : decode cL_trace 1 = .ok (.iconst 0, 1) := by decide +kernel
theorem dL_trace_2 : decode cL_trace 2 = .ok (.aload_n 0, 1) := by decide +kernel
theorem dL_trace_3 : decode cL_trace 3 = .ok (.iload_n 1, 1) := by decide +kernel
theorem dL_trace_4 : decode cL_trace 4 = .ok (.iload_n 2, 1) := by decide +kernel
theorem dL_trace_5 : decode cL_trace 5 = .ok (.invokevirtual 54, 3) := by decide +kernel
theorem dL_trace_8 : decode cL_trace 8 = .ok (.i2l, 1) := by decide +kernel
theorem dL_trace_9 : decode cL_trace 9 = .ok (.lastore, 1) := by decide +kernel
theorem dL_trace_10 : decode cL_trace 10 = .ok (.goto 7, 3) := by decide +kernel
theorem dL_trace_13 : decode cL_trace 13 = .ok (.astore 4, 2) := by decide +kernel
theorem dL_trace_15 : decode cL_trace 15 = .ok (.iconst 1, 1) := by decide +kernel
theorem dL_trace_16 : decode cL_trace 16 = .ok (.ireturn, 1) := by decide +kernel
theorem dL_trace_17 : decode cL_trace 17 = .ok (.iconst 0, 1) := by decide +kernel
theorem dL_trace_18 : decode cL_trace 18 = .ok (.ireturn, 1) := by decide +kernel
theorem dL_cost_0 : decode cL_cost 0 = .ok (.aload_n 3, 1) := by decide +kernel
theorem dL_cost_1 : decode cL_cost 1 = .ok (.iconst 0, 1) := by decide +kernel
theorem dL_cost_2 : decode cL_cost 2 = .ok (.aload_n 0, 1) := by decide +kernel
theorem dL_cost_3 : decode cL_cost 3 = .ok (.iload_n 1, 1) := by decide +kernel
theorem dL_cost_4 : decode cL_cost 4 = .ok (.iload_n 2, 1) := by decide +kernel
theorem dL_cost_5 : decode cL_cost 5 = .ok (.invokevirtual 57, 3) := by decide +kernel
theorem dL_cost_8 : decode cL_cost 8 = .ok (.i2l, 1) := by decide +kernel
theorem dL_cost_9 : decode cL_cost 9 = .ok (.lastore, 1) := by decide +kernel
theorem dL_cost_10 : decode cL_cost 10 = .ok (.goto 7, 3) := by decide +kernel
theorem dL_cost_13 : decode cL_cost 13 = .ok (.astore 4, 2) := by decide +kernel
theorem dL_cost_15 : decode cL_cost 15 = .ok (.iconst 1, 1) := by decide +kernel
theorem dL_cost_16 : decode cL_cost 16 = .ok (.ireturn, 1) := by decide +kernel
theorem dL_cost_17 : decode cL_cost 17 = .ok (.iconst 0, 1) := by decide +kernel
theorem dL_cost_18 : decode cL_cost 18 = .ok (.ireturn, 1) := by decide +kernel
theorem dL_total_0 : decode cL_total 0 = .ok (.aload_n 2, 1) := by decide +kernel
theorem dL_total_1 : decode cL_total 1 = .ok (.iconst 0, 1) := by decide +kernel
theorem dL_total_2 : decode cL_total 2 = .ok (.aload_n 0, 1) := by decide +kernel
theorem dL_total_3 : decode cL_total 3 = .ok (.iload_n 1, 1) := by decide +kernel
theorem dL_total_4 : decode cL_total 4 = .ok (.invokevirtual 60, 3) := by decide +kernel
theorem dL_total_7 : decode cL_total 7 = .ok (.i2l, 1) := by decide +kernel
theorem dL_total_8 : decode cL_total 8 = .ok (.lastore, 1) := by decide +kernel
theorem dL_total_9 : decode cL_total 9 = .ok (.goto 6, 3) := by decide +kernel
theorem dL_total_12 : decode cL_total 12 = .ok (.astore_n 3, 1) := by decide +kernel
theorem dL_total_13 : decode cL_total 13 = .ok (.iconst 1, 1) := by decide +kernel
theorem dL_total_14 : decode cL_total 14 = .ok (.ireturn, 1) := by decide +kernel
theorem dL_total_15 : decode cL_total 15 = .ok (.iconst 0, 1) := by decide +kernel
theorem dL_total_16 : decode cL_total 16 = .ok (.ireturn, 1) := by decide +kernel
theorem dL_law_0 : decode cL_law 0 = .ok (.new 8, 3) := by decide +kernel
theorem dL_law_3 : decode cL_law 3 = .ok (.dup, 1) := by decide +kernel
theorem dL_law_4 : decode cL_law 4 = .ok (.invokespecial 63, 3) := by decide +kernel
theorem dL_law_7 : decode cL_law 7 = .ok (.astore_n 1, 1) := by decide +kernel
theorem dL_law_8 : decode cL_law 8 = .ok (.new 64, 3) := by decide +kernel
theorem dL_law_11 : decode cL_law 11 = .ok (.dup, 1) := by decide +kernel
theorem dL_law_12 : decode cL_law 12 = .ok (.invokespecial 66, 3) := by decide +kernel
theorem dL_law_15 : decode cL_law 15 = .ok (.astore_n 2, 1) := by decide +kernel
theorem dL_law_16 : decode cL_law 16 = .ok (.iconst 1, 1) := by decide +kernel
theorem dL_law_17 : decode cL_law 17 = .ok (.newarray .long, 2) := by decide +kernel
theorem dL_law_19 : decode cL_law 19 = .ok (.astore_n 3, 1) := by decide +kernel
theorem dL_law_20 : decode cL_law 20 = .ok (.iconst 0, 1) := by decide +kernel
theorem dL_law_21 : decode cL_law 21 = .ok (.istore 4, 2) := by decide +kernel
theorem dL_law_23 : decode cL_law 23 = .ok (.iload 4, 2) := by decide +kernel
theorem dL_law_25 : decode cL_law 25 = .ok (.aload_n 0, 1) := by decide +kernel
theorem dL_law_26 : decode cL_law 26 = .ok (.arraylength, 1) := by decide +kernel
theorem dL_law_27 : decode cL_law 27 = .ok (.iconst 5, 1) := by decide +kernel
theorem dL_law_28 : decode cL_law 28 = .ok (.isub, 1) := by decide +kernel
theorem dL_law_29 : decode cL_law 29 = .ok (.if_icmp .gt 1068, 3) := by decide +kernel
theorem dL_law_32 : decode cL_law 32 = .ok (.aload_n 0, 1) := by decide +kernel
theorem dL_law_33 : decode cL_law 33 = .ok (.iload 4, 2) := by decide +kernel
theorem dL_law_35 : decode cL_law 35 = .ok (.iaload, 1) := by decide +kernel
theorem dL_law_36 : decode cL_law 36 = .ok (.bipush 15, 2) := by decide +kernel
theorem dL_law_38 : decode cL_law 38 = .ok (.iand, 1) := by decide +kernel
theorem dL_law_39 : decode cL_law 39 = .ok (.tableswitch 1052 0 14 #[73, 153, 209, 265, 333, 389, 445, 501, 557, 620, 688, 768, 860, 928, 996], 73) := by decide +kernel
theorem dL_law_112 : decode cL_law 112 = .ok (.aload_n 1, 1) := by decide +kernel
theorem dL_law_113 : decode cL_law 113 = .ok (.aload_n 0, 1) := by decide +kernel
theorem dL_law_114 : decode cL_law 114 = .ok (.iload 4, 2) := by decide +kernel
theorem dL_law_116 : decode cL_law 116 = .ok (.iconst 1, 1) := by decide +kernel
theorem dL_law_117 : decode cL_law 117 = .ok (.iadd, 1) := by decide +kernel
theorem dL_law_118 : decode cL_law 118 = .ok (.iaload, 1) := by decide +kernel
theorem dL_law_119 : decode cL_law 119 = .ok (.aload_n 0, 1) := by decide +kernel
theorem dL_law_120 : decode cL_law 120 = .ok (.iload 4, 2) := by decide +kernel
theorem dL_law_122 : decode cL_law 122 = .ok (.iconst 2, 1) := by decide +kernel
theorem dL_law_123 : decode cL_law 123 = .ok (.iadd, 1) := by decide +kernel
theorem dL_law_124 : decode cL_law 124 = .ok (.iaload, 1) := by decide +kernel
theorem dL_law_125 : decode cL_law 125 = .ok (.aload_n 0, 1) := by decide +kernel
theorem dL_law_126 : decode cL_law 126 = .ok (.iload 4, 2) := by decide +kernel
theorem dL_law_128 : decode cL_law 128 = .ok (.iconst 3, 1) := by decide +kernel
theorem dL_law_129 : decode cL_law 129 = .ok (.iadd, 1) := by decide +kernel
theorem dL_law_130 : decode cL_law 130 = .ok (.iaload, 1) := by decide +kernel
theorem dL_law_131 : decode cL_law 131 = .ok (.aload_n 3, 1) := by decide +kernel
theorem dL_law_132 : decode cL_law 132 = .ok (.invokestatic 67, 3) := by decide +kernel
theorem dL_law_135 : decode cL_law 135 = .ok (.istore 5, 2) := by decide +kernel
theorem dL_law_137 : decode cL_law 137 = .ok (.aload_n 2, 1) := by decide +kernel
theorem dL_law_138 : decode cL_law 138 = .ok (.aload_n 0, 1) := by decide +kernel
theorem dL_law_139 : decode cL_law 139 = .ok (.iload 4, 2) := by decide +kernel
theorem dL_law_141 : decode cL_law 141 = .ok (.iconst 1, 1) := by decide +kernel
theorem dL_law_142 : decode cL_law 142 = .ok (.iadd, 1) := by decide +kernel
theorem dL_law_143 : decode cL_law 143 = .ok (.iaload, 1) := by decide +kernel
theorem dL_law_144 : decode cL_law 144 = .ok (.aload_n 0, 1) := by decide +kernel
theorem dL_law_145 : decode cL_law 145 = .ok (.iload 4, 2) := by decide +kernel
theorem dL_law_147 : decode cL_law 147 = .ok (.iconst 2, 1) := by decide +kernel
theorem dL_law_148 : decode cL_law 148 = .ok (.iadd, 1) := by decide +kernel
theorem dL_law_149 : decode cL_law 149 = .ok (.iaload, 1) := by decide +kernel
theorem dL_law_150 : decode cL_law 150 = .ok (.aload_n 0, 1) := by decide +kernel
theorem dL_law_151 : decode cL_law 151 = .ok (.iload 4, 2) := by decide +kernel
theorem dL_law_153 : decode cL_law 153 = .ok (.iconst 3, 1) := by decide +kernel
theorem dL_law_154 : decode cL_law 154 = .ok (.iadd, 1) := by decide +kernel
theorem dL_law_155 : decode cL_law 155 = .ok (.iaload, 1) := by decide +kernel
theorem dL_law_156 : decode cL_law 156 = .ok (.invokevirtual 72, 3) := by decide +kernel
theorem dL_law_159 : decode cL_law 159 = .ok (.istore 6, 2) := by decide +kernel
theorem dL_law_161 : decode cL_law 161 = .ok (.aload_n 2, 1) := by decide +kernel
theorem dL_law_162 : decode cL_law 162 = .ok (.invokevirtual 73, 3) := by decide +kernel
theorem dL_law_165 : decode cL_law 165 = .ok (.iload 5, 2) := by decide +kernel
theorem dL_law_167 : decode cL_law 167 = .ok (.if_icmp .eq 5, 3) := by decide +kernel
theorem dL_law_170 : decode cL_law 170 = .ok (.iconst 0, 1) := by decide +kernel
theorem dL_law_171 : decode cL_law 171 = .ok (.ireturn, 1) := by decide +kernel
theorem dL_law_172 : decode cL_law 172 = .ok (.iload 5, 2) := by decide +kernel
theorem dL_law_174 : decode cL_law 174 = .ok (.ifCond .ne 15, 3) := by decide +kernel
theorem dL_law_177 : decode cL_law 177 = .ok (.aload_n 3, 1) := by decide +kernel
theorem dL_law_178 : decode cL_law 178 = .ok (.iconst 0, 1) := by decide +kernel
theorem dL_law_179 : decode cL_law 179 = .ok (.laload, 1) := by decide +kernel
theorem dL_law_180 : decode cL_law 180 = .ok (.iload 6, 2) := by decide +kernel
theorem dL_law_182 : decode cL_law 182 = .ok (.i2l, 1) := by decide +kernel
theorem dL_law_183 : decode cL_law 183 = .ok (.lcmp, 1) := by decide +kernel
theorem dL_law_184 : decode cL_law 184 = .ok (.ifCond .eq 5, 3) := by decide +kernel
theorem dL_law_187 : decode cL_law 187 = .ok (.iconst 0, 1) := by decide +kernel
theorem dL_law_188 : decode cL_law 188 = .ok (.ireturn, 1) := by decide +kernel
theorem dL_law_189 : decode cL_law 189 = .ok (.goto 902, 3) := by decide +kernel
theorem dL_law_192 : decode cL_law 192 = .ok (.aload_n 1, 1) := by decide +kernel
theorem dL_law_193 : decode cL_law 193 = .ok (.aload_n 0, 1) := by decide +kernel
theorem dL_law_194 : decode cL_law 194 = .ok (.iload 4, 2) := by decide +kernel
theorem dL_law_196 : decode cL_law 196 = .ok (.iconst 1, 1) := by decide +kernel
theorem dL_law_197 : decode cL_law 197 = .ok (.iadd, 1) := by decide +kernel
theorem dL_law_198 : decode cL_law 198 = .ok (.iaload, 1) := by decide +kernel
theorem dL_law_199 : decode cL_law 199 = .ok (.aload_n 3, 1) := by decide +kernel
theorem dL_law_200 : decode cL_law 200 = .ok (.invokestatic 77, 3) := by decide +kernel
theorem dL_law_203 : decode cL_law 203 = .ok (.istore 5, 2) := by decide +kernel
theorem dL_law_205 : decode cL_law 205 = .ok (.aload_n 2, 1) := by decide +kernel
theorem dL_law_206 : decode cL_law 206 = .ok (.aload_n 0, 1) := by decide +kernel
theorem dL_law_207 : decode cL_law 207 = .ok (.iload 4, 2) := by decide +kernel
theorem dL_law_209 : decode cL_law 209 = .ok (.iconst 1, 1) := by decide +kernel
theorem dL_law_210 : decode cL_law 210 = .ok (.iadd, 1) := by decide +kernel
theorem dL_law_211 : decode cL_law 211 = .ok (.iaload, 1) := by decide +kernel
theorem dL_law_212 : decode cL_law 212 = .ok (.invokevirtual 80, 3) := by decide +kernel
theorem dL_law_215 : decode cL_law 215 = .ok (.istore 6, 2) := by decide +kernel
theorem dL_law_217 : decode cL_law 217 = .ok (.aload_n 2, 1) := by decide +kernel
theorem dL_law_218 : decode cL_law 218 = .ok (.invokevirtual 73, 3) := by decide +kernel
theorem dL_law_221 : decode cL_law 221 = .ok (.iload 5, 2) := by decide +kernel
theorem dL_law_223 : decode cL_law 223 = .ok (.if_icmp .eq 5, 3) := by decide +kernel
theorem dL_law_226 : decode cL_law 226 = .ok (.iconst 0, 1) := by decide +kernel
theorem dL_law_227 : decode cL_law 227 = .ok (.ireturn, 1) := by decide +kernel
theorem dL_law_228 : decode cL_law 228 = .ok (.iload 5, 2) := by decide +kernel
theorem dL_law_230 : decode cL_law 230 = .ok (.ifCond .ne 15, 3) := by decide +kernel
theorem dL_law_233 : decode cL_law 233 = .ok (.aload_n 3, 1) := by decide +kernel
theorem dL_law_234 : decode cL_law 234 = .ok (.iconst 0, 1) := by decide +kernel
theorem dL_law_235 : decode cL_law 235 = .ok (.laload, 1) := by decide +kernel
theorem dL_law_236 : decode cL_law 236 = .ok (.iload 6, 2) := by decide +kernel
theorem dL_law_238 : decode cL_law 238 = .ok (.i2l, 1) := by decide +kernel
theorem dL_law_239 : decode cL_law 239 = .ok (.lcmp, 1) := by decide +kernel
theorem dL_law_240 : decode cL_law 240 = .ok (.ifCond .eq 5, 3) := by decide +kernel
theorem dL_law_243 : decode cL_law 243 = .ok (.iconst 0, 1) := by decide +kernel
theorem dL_law_244 : decode cL_law 244 = .ok (.ireturn, 1) := by decide +kernel
theorem dL_law_245 : decode cL_law 245 = .ok (.goto 846, 3) := by decide +kernel
theorem dL_law_248 : decode cL_law 248 = .ok (.aload_n 1, 1) := by decide +kernel
theorem dL_law_249 : decode cL_law 249 = .ok (.aload_n 0, 1) := by decide +kernel
theorem dL_law_250 : decode cL_law 250 = .ok (.iload 4, 2) := by decide +kernel
theorem dL_law_252 : decode cL_law 252 = .ok (.iconst 1, 1) := by decide +kernel
theorem dL_law_253 : decode cL_law 253 = .ok (.iadd, 1) := by decide +kernel
theorem dL_law_254 : decode cL_law 254 = .ok (.iaload, 1) := by decide +kernel
theorem dL_law_255 : decode cL_law 255 = .ok (.aload_n 3, 1) := by decide +kernel
theorem dL_law_256 : decode cL_law 256 = .ok (.invokestatic 81, 3) := by decide +kernel
theorem dL_law_259 : decode cL_law 259 = .ok (.istore 5, 2) := by decide +kernel
theorem dL_law_261 : decode cL_law 261 = .ok (.aload_n 2, 1) := by decide +kernel
theorem dL_law_262 : decode cL_law 262 = .ok (.aload_n 0, 1) := by decide +kernel
theorem dL_law_263 : decode cL_law 263 = .ok (.iload 4, 2) := by decide +kernel
theorem dL_law_265 : decode cL_law 265 = .ok (.iconst 1, 1) := by decide +kernel
theorem dL_law_266 : decode cL_law 266 = .ok (.iadd, 1) := by decide +kernel
theorem dL_law_267 : decode cL_law 267 = .ok (.iaload, 1) := by decide +kernel
theorem dL_law_268 : decode cL_law 268 = .ok (.invokevirtual 83, 3) := by decide +kernel
theorem dL_law_271 : decode cL_law 271 = .ok (.istore 6, 2) := by decide +kernel
theorem dL_law_273 : decode cL_law 273 = .ok (.aload_n 2, 1) := by decide +kernel
theorem dL_law_274 : decode cL_law 274 = .ok (.invokevirtual 73, 3) := by decide +kernel
theorem dL_law_277 : decode cL_law 277 = .ok (.iload 5, 2) := by decide +kernel
theorem dL_law_279 : decode cL_law 279 = .ok (.if_icmp .eq 5, 3) := by decide +kernel
theorem dL_law_282 : decode cL_law 282 = .ok (.iconst 0, 1) := by decide +kernel
theorem dL_law_283 : decode cL_law 283 = .ok (.ireturn, 1) := by decide +kernel
theorem dL_law_284 : decode cL_law 284 = .ok (.iload 5, 2) := by decide +kernel
theorem dL_law_286 : decode cL_law 286 = .ok (.ifCond .ne 15, 3) := by decide +kernel
theorem dL_law_289 : decode cL_law 289 = .ok (.aload_n 3, 1) := by decide +kernel
theorem dL_law_290 : decode cL_law 290 = .ok (.iconst 0, 1) := by decide +kernel
theorem dL_law_291 : decode cL_law 291 = .ok (.laload, 1) := by decide +kernel
theorem dL_law_292 : decode cL_law 292 = .ok (.iload 6, 2) := by decide +kernel
theorem dL_law_294 : decode cL_law 294 = .ok (.i2l, 1) := by decide +kernel
theorem dL_law_295 : decode cL_law 295 = .ok (.lcmp, 1) := by decide +kernel
theorem dL_law_296 : decode cL_law 296 = .ok (.ifCond .eq 5, 3) := by decide +kernel
theorem dL_law_299 : decode cL_law 299 = .ok (.iconst 0, 1) := by decide +kernel
theorem dL_law_300 : decode cL_law 300 = .ok (.ireturn, 1) := by decide +kernel
theorem dL_law_301 : decode cL_law 301 = .ok (.goto 790, 3) := by decide +kernel
theorem dL_law_304 : decode cL_law 304 = .ok (.aload_n 1, 1) := by decide +kernel
theorem dL_law_305 : decode cL_law 305 = .ok (.aload_n 0, 1) := by decide +kernel
theorem dL_law_306 : decode cL_law 306 = .ok (.iload 4, 2) := by decide +kernel
theorem dL_law_308 : decode cL_law 308 = .ok (.iconst 1, 1) := by decide +kernel
theorem dL_law_309 : decode cL_law 309 = .ok (.iadd, 1) := by decide +kernel
theorem dL_law_310 : decode cL_law 310 = .ok (.iaload, 1) := by decide +kernel
theorem dL_law_311 : decode cL_law 311 = .ok (.aload_n 0, 1) := by decide +kernel
theorem dL_law_312 : decode cL_law 312 = .ok (.iload 4, 2) := by decide +kernel
theorem dL_law_314 : decode cL_law 314 = .ok (.iconst 2, 1) := by decide +kernel
theorem dL_law_315 : decode cL_law 315 = .ok (.iadd, 1) := by decide +kernel
theorem dL_law_316 : decode cL_law 316 = .ok (.iaload, 1) := by decide +kernel
theorem dL_law_317 : decode cL_law 317 = .ok (.aload_n 3, 1) := by decide +kernel
theorem dL_law_318 : decode cL_law 318 = .ok (.invokestatic 84, 3) := by decide +kernel
theorem dL_law_321 : decode cL_law 321 = .ok (.istore 5, 2) := by decide +kernel
theorem dL_law_323 : decode cL_law 323 = .ok (.aload_n 2, 1) := by decide +kernel
theorem dL_law_324 : decode cL_law 324 = .ok (.aload_n 0, 1) := by decide +kernel
theorem dL_law_325 : decode cL_law 325 = .ok (.iload 4, 2) := by decide +kernel
theorem dL_law_327 : decode cL_law 327 = .ok (.iconst 1, 1) := by decide +kernel
theorem dL_law_328 : decode cL_law 328 = .ok (.iadd, 1) := by decide +kernel
theorem dL_law_329 : decode cL_law 329 = .ok (.iaload, 1) := by decide +kernel
theorem dL_law_330 : decode cL_law 330 = .ok (.aload_n 0, 1) := by decide +kernel
theorem dL_law_331 : decode cL_law 331 = .ok (.iload 4, 2) := by decide +kernel
theorem dL_law_333 : decode cL_law 333 = .ok (.iconst 2, 1) := by decide +kernel
theorem dL_law_334 : decode cL_law 334 = .ok (.iadd, 1) := by decide +kernel
theorem dL_law_335 : decode cL_law 335 = .ok (.iaload, 1) := by decide +kernel
theorem dL_law_336 : decode cL_law 336 = .ok (.invokevirtual 87, 3) := by decide +kernel
theorem dL_law_339 : decode cL_law 339 = .ok (.istore 6, 2) := by decide +kernel
theorem dL_law_341 : decode cL_law 341 = .ok (.aload_n 2, 1) := by decide +kernel
theorem dL_law_342 : decode cL_law 342 = .ok (.invokevirtual 73, 3) := by decide +kernel
theorem dL_law_345 : decode cL_law 345 = .ok (.iload 5, 2) := by decide +kernel
theorem dL_law_347 : decode cL_law 347 = .ok (.if_icmp .eq 5, 3) := by decide +kernel
theorem dL_law_350 : decode cL_law 350 = .ok (.iconst 0, 1) := by decide +kernel
theorem dL_law_351 : decode cL_law 351 = .ok (.ireturn, 1) := by decide +kernel
theorem dL_law_352 : decode cL_law 352 = .ok (.iload 5, 2) := by decide +kernel
theorem dL_law_354 : decode cL_law 354 = .ok (.ifCond .ne 15, 3) := by decide +kernel
theorem dL_law_357 : decode cL_law 357 = .ok (.aload_n 3, 1) := by decide +kernel
theorem dL_law_358 : decode cL_law 358 = .ok (.iconst 0, 1) := by decide +kernel
theorem dL_law_359 : decode cL_law 359 = .ok (.laload, 1) := by decide +kernel
theorem dL_law_360 : decode cL_law 360 = .ok (.iload 6, 2) := by decide +kernel
theorem dL_law_362 : decode cL_law 362 = .ok (.i2l, 1) := by decide +kernel
theorem dL_law_363 : decode cL_law 363 = .ok (.lcmp, 1) := by decide +kernel
theorem dL_law_364 : decode cL_law 364 = .ok (.ifCond .eq 5, 3) := by decide +kernel
theorem dL_law_367 : decode cL_law 367 = .ok (.iconst 0, 1) := by decide +kernel
theorem dL_law_368 : decode cL_law 368 = .ok (.ireturn, 1) := by decide +kernel
theorem dL_law_369 : decode cL_law 369 = .ok (.goto 722, 3) := by decide +kernel
theorem dL_law_372 : decode cL_law 372 = .ok (.aload_n 1, 1) := by decide +kernel
theorem dL_law_373 : decode cL_law 373 = .ok (.aload_n 0, 1) := by decide +kernel
theorem dL_law_374 : decode cL_law 374 = .ok (.iload 4, 2) := by decide +kernel
theorem dL_law_376 : decode cL_law 376 = .ok (.iconst 1, 1) := by decide +kernel
theorem dL_law_377 : decode cL_law 377 = .ok (.iadd, 1) := by decide +kernel
theorem dL_law_378 : decode cL_law 378 = .ok (.iaload, 1) := by decide +kernel
theorem dL_law_379 : decode cL_law 379 = .ok (.aload_n 3, 1) := by decide +kernel
theorem dL_law_380 : decode cL_law 380 = .ok (.invokestatic 88, 3) := by decide +kernel
theorem dL_law_383 : decode cL_law 383 = .ok (.istore 5, 2) := by decide +kernel
theorem dL_law_385 : decode cL_law 385 = .ok (.aload_n 2, 1) := by decide +kernel
theorem dL_law_386 : decode cL_law 386 = .ok (.aload_n 0, 1) := by decide +kernel
theorem dL_law_387 : decode cL_law 387 = .ok (.iload 4, 2) := by decide +kernel
theorem dL_law_389 : decode cL_law 389 = .ok (.iconst 1, 1) := by decide +kernel
theorem dL_law_390 : decode cL_law 390 = .ok (.iadd, 1) := by decide +kernel
theorem dL_law_391 : decode cL_law 391 = .ok (.iaload, 1) := by decide +kernel
theorem dL_law_392 : decode cL_law 392 = .ok (.invokevirtual 90, 3) := by decide +kernel
theorem dL_law_395 : decode cL_law 395 = .ok (.istore 6, 2) := by decide +kernel
theorem dL_law_397 : decode cL_law 397 = .ok (.aload_n 2, 1) := by decide +kernel
theorem dL_law_398 : decode cL_law 398 = .ok (.invokevirtual 73, 3) := by decide +kernel
theorem dL_law_401 : decode cL_law 401 = .ok (.iload 5, 2) := by decide +kernel
theorem dL_law_403 : decode cL_law 403 = .ok (.if_icmp .eq 5, 3) := by decide +kernel
theorem dL_law_406 : decode cL_law 406 = .ok (.iconst 0, 1) := by decide +kernel
theorem dL_law_407 : decode cL_law 407 = .ok (.ireturn, 1) := by decide +kernel
theorem dL_law_408 : decode cL_law 408 = .ok (.iload 5, 2) := by decide +kernel
theorem dL_law_410 : decode cL_law 410 = .ok (.ifCond .ne 15, 3) := by decide +kernel
theorem dL_law_413 : decode cL_law 413 = .ok (.aload_n 3, 1) := by decide +kernel
theorem dL_law_414 : decode cL_law 414 = .ok (.iconst 0, 1) := by decide +kernel
theorem dL_law_415 : decode cL_law 415 = .ok (.laload, 1) := by decide +kernel
theorem dL_law_416 : decode cL_law 416 = .ok (.iload 6, 2) := by decide +kernel
theorem dL_law_418 : decode cL_law 418 = .ok (.i2l, 1) := by decide +kernel
theorem dL_law_419 : decode cL_law 419 = .ok (.lcmp, 1) := by decide +kernel
theorem dL_law_420 : decode cL_law 420 = .ok (.ifCond .eq 5, 3) := by decide +kernel
theorem dL_law_423 : decode cL_law 423 = .ok (.iconst 0, 1) := by decide +kernel
theorem dL_law_424 : decode cL_law 424 = .ok (.ireturn, 1) := by decide +kernel
theorem dL_law_425 : decode cL_law 425 = .ok (.goto 666, 3) := by decide +kernel
theorem dL_law_428 : decode cL_law 428 = .ok (.aload_n 1, 1) := by decide +kernel
theorem dL_law_429 : decode cL_law 429 = .ok (.aload_n 0, 1) := by decide +kernel
theorem dL_law_430 : decode cL_law 430 = .ok (.iload 4, 2) := by decide +kernel
theorem dL_law_432 : decode cL_law 432 = .ok (.iconst 1, 1) := by decide +kernel
theorem dL_law_433 : decode cL_law 433 = .ok (.iadd, 1) := by decide +kernel
theorem dL_law_434 : decode cL_law 434 = .ok (.iaload, 1) := by decide +kernel
theorem dL_law_435 : decode cL_law 435 = .ok (.aload_n 3, 1) := by decide +kernel
theorem dL_law_436 : decode cL_law 436 = .ok (.invokestatic 91, 3) := by decide +kernel
theorem dL_law_439 : decode cL_law 439 = .ok (.istore 5, 2) := by decide +kernel
theorem dL_law_441 : decode cL_law 441 = .ok (.aload_n 2, 1) := by decide +kernel
theorem dL_law_442 : decode cL_law 442 = .ok (.aload_n 0, 1) := by decide +kernel
theorem dL_law_443 : decode cL_law 443 = .ok (.iload 4, 2) := by decide +kernel
theorem dL_law_445 : decode cL_law 445 = .ok (.iconst 1, 1) := by decide +kernel
theorem dL_law_446 : decode cL_law 446 = .ok (.iadd, 1) := by decide +kernel
theorem dL_law_447 : decode cL_law 447 = .ok (.iaload, 1) := by decide +kernel
theorem dL_law_448 : decode cL_law 448 = .ok (.invokevirtual 93, 3) := by decide +kernel
theorem dL_law_451 : decode cL_law 451 = .ok (.istore 6, 2) := by decide +kernel
theorem dL_law_453 : decode cL_law 453 = .ok (.aload_n 2, 1) := by decide +kernel
theorem dL_law_454 : decode cL_law 454 = .ok (.invokevirtual 73, 3) := by decide +kernel
theorem dL_law_457 : decode cL_law 457 = .ok (.iload 5, 2) := by decide +kernel
theorem dL_law_459 : decode cL_law 459 = .ok (.if_icmp .eq 5, 3) := by decide +kernel
theorem dL_law_462 : decode cL_law 462 = .ok (.iconst 0, 1) := by decide +kernel
theorem dL_law_463 : decode cL_law 463 = .ok (.ireturn, 1) := by decide +kernel
theorem dL_law_464 : decode cL_law 464 = .ok (.iload 5, 2) := by decide +kernel
theorem dL_law_466 : decode cL_law 466 = .ok (.ifCond .ne 15, 3) := by decide +kernel
theorem dL_law_469 : decode cL_law 469 = .ok (.aload_n 3, 1) := by decide +kernel
theorem dL_law_470 : decode cL_law 470 = .ok (.iconst 0, 1) := by decide +kernel
theorem dL_law_471 : decode cL_law 471 = .ok (.laload, 1) := by decide +kernel
theorem dL_law_472 : decode cL_law 472 = .ok (.iload 6, 2) := by decide +kernel
theorem dL_law_474 : decode cL_law 474 = .ok (.i2l, 1) := by decide +kernel
theorem dL_law_475 : decode cL_law 475 = .ok (.lcmp, 1) := by decide +kernel
theorem dL_law_476 : decode cL_law 476 = .ok (.ifCond .eq 5, 3) := by decide +kernel
theorem dL_law_479 : decode cL_law 479 = .ok (.iconst 0, 1) := by decide +kernel
theorem dL_law_480 : decode cL_law 480 = .ok (.ireturn, 1) := by decide +kernel
theorem dL_law_481 : decode cL_law 481 = .ok (.goto 610, 3) := by decide +kernel
theorem dL_law_484 : decode cL_law 484 = .ok (.aload_n 1, 1) := by decide +kernel
theorem dL_law_485 : decode cL_law 485 = .ok (.aload_n 0, 1) := by decide +kernel
theorem dL_law_486 : decode cL_law 486 = .ok (.iload 4, 2) := by decide +kernel
theorem dL_law_488 : decode cL_law 488 = .ok (.iconst 1, 1) := by decide +kernel
theorem dL_law_489 : decode cL_law 489 = .ok (.iadd, 1) := by decide +kernel
theorem dL_law_490 : decode cL_law 490 = .ok (.iaload, 1) := by decide +kernel
theorem dL_law_491 : decode cL_law 491 = .ok (.aload_n 3, 1) := by decide +kernel
theorem dL_law_492 : decode cL_law 492 = .ok (.invokestatic 94, 3) := by decide +kernel
theorem dL_law_495 : decode cL_law 495 = .ok (.istore 5, 2) := by decide +kernel
theorem dL_law_497 : decode cL_law 497 = .ok (.aload_n 2, 1) := by decide +kernel
theorem dL_law_498 : decode cL_law 498 = .ok (.aload_n 0, 1) := by decide +kernel
theorem dL_law_499 : decode cL_law 499 = .ok (.iload 4, 2) := by decide +kernel
theorem dL_law_501 : decode cL_law 501 = .ok (.iconst 1, 1) := by decide +kernel
theorem dL_law_502 : decode cL_law 502 = .ok (.iadd, 1) := by decide +kernel
theorem dL_law_503 : decode cL_law 503 = .ok (.iaload, 1) := by decide +kernel
theorem dL_law_504 : decode cL_law 504 = .ok (.invokevirtual 96, 3) := by decide +kernel
theorem dL_law_507 : decode cL_law 507 = .ok (.istore 6, 2) := by decide +kernel
theorem dL_law_509 : decode cL_law 509 = .ok (.aload_n 2, 1) := by decide +kernel
theorem dL_law_510 : decode cL_law 510 = .ok (.invokevirtual 73, 3) := by decide +kernel
theorem dL_law_513 : decode cL_law 513 = .ok (.iload 5, 2) := by decide +kernel
theorem dL_law_515 : decode cL_law 515 = .ok (.if_icmp .eq 5, 3) := by decide +kernel
theorem dL_law_518 : decode cL_law 518 = .ok (.iconst 0, 1) := by decide +kernel
theorem dL_law_519 : decode cL_law 519 = .ok (.ireturn, 1) := by decide +kernel
theorem dL_law_520 : decode cL_law 520 = .ok (.iload 5, 2) := by decide +kernel
theorem dL_law_522 : decode cL_law 522 = .ok (.ifCond .ne 15, 3) := by decide +kernel
theorem dL_law_525 : decode cL_law 525 = .ok (.aload_n 3, 1) := by decide +kernel
theorem dL_law_526 : decode cL_law 526 = .ok (.iconst 0, 1) := by decide +kernel
theorem dL_law_527 : decode cL_law 527 = .ok (.laload, 1) := by decide +kernel
theorem dL_law_528 : decode cL_law 528 = .ok (.iload 6, 2) := by decide +kernel
theorem dL_law_530 : decode cL_law 530 = .ok (.i2l, 1) := by decide +kernel
theorem dL_law_531 : decode cL_law 531 = .ok (.lcmp, 1) := by decide +kernel
theorem dL_law_532 : decode cL_law 532 = .ok (.ifCond .eq 5, 3) := by decide +kernel
theorem dL_law_535 : decode cL_law 535 = .ok (.iconst 0, 1) := by decide +kernel
theorem dL_law_536 : decode cL_law 536 = .ok (.ireturn, 1) := by decide +kernel
theorem dL_law_537 : decode cL_law 537 = .ok (.goto 554, 3) := by decide +kernel
theorem dL_law_540 : decode cL_law 540 = .ok (.aload_n 1, 1) := by decide +kernel
theorem dL_law_541 : decode cL_law 541 = .ok (.aload_n 0, 1) := by decide +kernel
theorem dL_law_542 : decode cL_law 542 = .ok (.iload 4, 2) := by decide +kernel
theorem dL_law_544 : decode cL_law 544 = .ok (.iconst 1, 1) := by decide +kernel
theorem dL_law_545 : decode cL_law 545 = .ok (.iadd, 1) := by decide +kernel
theorem dL_law_546 : decode cL_law 546 = .ok (.iaload, 1) := by decide +kernel
theorem dL_law_547 : decode cL_law 547 = .ok (.aload_n 3, 1) := by decide +kernel
theorem dL_law_548 : decode cL_law 548 = .ok (.invokestatic 97, 3) := by decide +kernel
theorem dL_law_551 : decode cL_law 551 = .ok (.istore 5, 2) := by decide +kernel
theorem dL_law_553 : decode cL_law 553 = .ok (.aload_n 2, 1) := by decide +kernel
theorem dL_law_554 : decode cL_law 554 = .ok (.aload_n 0, 1) := by decide +kernel
theorem dL_law_555 : decode cL_law 555 = .ok (.iload 4, 2) := by decide +kernel
theorem dL_law_557 : decode cL_law 557 = .ok (.iconst 1, 1) := by decide +kernel
theorem dL_law_558 : decode cL_law 558 = .ok (.iadd, 1) := by decide +kernel
theorem dL_law_559 : decode cL_law 559 = .ok (.iaload, 1) := by decide +kernel
theorem dL_law_560 : decode cL_law 560 = .ok (.invokevirtual 99, 3) := by decide +kernel
theorem dL_law_563 : decode cL_law 563 = .ok (.istore 6, 2) := by decide +kernel
theorem dL_law_565 : decode cL_law 565 = .ok (.aload_n 2, 1) := by decide +kernel
theorem dL_law_566 : decode cL_law 566 = .ok (.invokevirtual 73, 3) := by decide +kernel
theorem dL_law_569 : decode cL_law 569 = .ok (.iload 5, 2) := by decide +kernel
theorem dL_law_571 : decode cL_law 571 = .ok (.if_icmp .eq 5, 3) := by decide +kernel
theorem dL_law_574 : decode cL_law 574 = .ok (.iconst 0, 1) := by decide +kernel
theorem dL_law_575 : decode cL_law 575 = .ok (.ireturn, 1) := by decide +kernel
theorem dL_law_576 : decode cL_law 576 = .ok (.iload 5, 2) := by decide +kernel
theorem dL_law_578 : decode cL_law 578 = .ok (.ifCond .ne 15, 3) := by decide +kernel
theorem dL_law_581 : decode cL_law 581 = .ok (.aload_n 3, 1) := by decide +kernel
theorem dL_law_582 : decode cL_law 582 = .ok (.iconst 0, 1) := by decide +kernel
theorem dL_law_583 : decode cL_law 583 = .ok (.laload, 1) := by decide +kernel
theorem dL_law_584 : decode cL_law 584 = .ok (.iload 6, 2) := by decide +kernel
theorem dL_law_586 : decode cL_law 586 = .ok (.i2l, 1) := by decide +kernel
theorem dL_law_587 : decode cL_law 587 = .ok (.lcmp, 1) := by decide +kernel
theorem dL_law_588 : decode cL_law 588 = .ok (.ifCond .eq 5, 3) := by decide +kernel
theorem dL_law_591 : decode cL_law 591 = .ok (.iconst 0, 1) := by decide +kernel
theorem dL_law_592 : decode cL_law 592 = .ok (.ireturn, 1) := by decide +kernel
theorem dL_law_593 : decode cL_law 593 = .ok (.goto 498, 3) := by decide +kernel
theorem dL_law_596 : decode cL_law 596 = .ok (.aload_n 1, 1) := by decide +kernel
theorem dL_law_597 : decode cL_law 597 = .ok (.aload_n 0, 1) := by decide +kernel
theorem dL_law_598 : decode cL_law 598 = .ok (.iload 4, 2) := by decide +kernel
theorem dL_law_600 : decode cL_law 600 = .ok (.iconst 1, 1) := by decide +kernel
theorem dL_law_601 : decode cL_law 601 = .ok (.iadd, 1) := by decide +kernel
theorem dL_law_602 : decode cL_law 602 = .ok (.iaload, 1) := by decide +kernel
theorem dL_law_603 : decode cL_law 603 = .ok (.aload_n 3, 1) := by decide +kernel
theorem dL_law_604 : decode cL_law 604 = .ok (.invokestatic 100, 3) := by decide +kernel
theorem dL_law_607 : decode cL_law 607 = .ok (.istore 5, 2) := by decide +kernel
theorem dL_law_609 : decode cL_law 609 = .ok (.aload_n 2, 1) := by decide +kernel
theorem dL_law_610 : decode cL_law 610 = .ok (.aload_n 0, 1) := by decide +kernel
theorem dL_law_611 : decode cL_law 611 = .ok (.iload 4, 2) := by decide +kernel
theorem dL_law_613 : decode cL_law 613 = .ok (.iconst 1, 1) := by decide +kernel
theorem dL_law_614 : decode cL_law 614 = .ok (.iadd, 1) := by decide +kernel
theorem dL_law_615 : decode cL_law 615 = .ok (.iaload, 1) := by decide +kernel
theorem dL_law_616 : decode cL_law 616 = .ok (.invokevirtual 102, 3) := by decide +kernel
theorem dL_law_619 : decode cL_law 619 = .ok (.istore 6, 2) := by decide +kernel
theorem dL_law_621 : decode cL_law 621 = .ok (.aload_n 2, 1) := by decide +kernel
theorem dL_law_622 : decode cL_law 622 = .ok (.invokevirtual 73, 3) := by decide +kernel
theorem dL_law_625 : decode cL_law 625 = .ok (.iload 5, 2) := by decide +kernel
theorem dL_law_627 : decode cL_law 627 = .ok (.if_icmp .eq 5, 3) := by decide +kernel
theorem dL_law_630 : decode cL_law 630 = .ok (.iconst 0, 1) := by decide +kernel
theorem dL_law_631 : decode cL_law 631 = .ok (.ireturn, 1) := by decide +kernel
theorem dL_law_632 : decode cL_law 632 = .ok (.iload 5, 2) := by decide +kernel
theorem dL_law_634 : decode cL_law 634 = .ok (.ifCond .ne 22, 3) := by decide +kernel
theorem dL_law_637 : decode cL_law 637 = .ok (.aload_n 3, 1) := by decide +kernel
theorem dL_law_638 : decode cL_law 638 = .ok (.iconst 0, 1) := by decide +kernel
theorem dL_law_639 : decode cL_law 639 = .ok (.laload, 1) := by decide +kernel
theorem dL_law_640 : decode cL_law 640 = .ok (.iload 6, 2) := by decide +kernel
theorem dL_law_642 : decode cL_law 642 = .ok (.ifCond .eq 7, 3) := by decide +kernel
theorem dL_law_645 : decode cL_law 645 = .ok (.lconst 1, 1) := by decide +kernel
theorem dL_law_646 : decode cL_law 646 = .ok (.goto 4, 3) := by decide +kernel
theorem dL_law_649 : decode cL_law 649 = .ok (.lconst 0, 1) := by decide +kernel
theorem dL_law_650 : decode cL_law 650 = .ok (.lcmp, 1) := by decide +kernel
theorem dL_law_651 : decode cL_law 651 = .ok (.ifCond .eq 5, 3) := by decide +kernel
theorem dL_law_654 : decode cL_law 654 = .ok (.iconst 0, 1) := by decide +kernel
theorem dL_law_655 : decode cL_law 655 = .ok (.ireturn, 1) := by decide +kernel
theorem dL_law_656 : decode cL_law 656 = .ok (.goto 435, 3) := by decide +kernel
theorem dL_law_659 : decode cL_law 659 = .ok (.aload_n 1, 1) := by decide +kernel
theorem dL_law_660 : decode cL_law 660 = .ok (.aload_n 0, 1) := by decide +kernel
theorem dL_law_661 : decode cL_law 661 = .ok (.iload 4, 2) := by decide +kernel
theorem dL_law_663 : decode cL_law 663 = .ok (.iconst 1, 1) := by decide +kernel
theorem dL_law_664 : decode cL_law 664 = .ok (.iadd, 1) := by decide +kernel
theorem dL_law_665 : decode cL_law 665 = .ok (.iaload, 1) := by decide +kernel
theorem dL_law_666 : decode cL_law 666 = .ok (.aload_n 0, 1) := by decide +kernel
theorem dL_law_667 : decode cL_law 667 = .ok (.iload 4, 2) := by decide +kernel
theorem dL_law_669 : decode cL_law 669 = .ok (.iconst 2, 1) := by decide +kernel
theorem dL_law_670 : decode cL_law 670 = .ok (.iadd, 1) := by decide +kernel
theorem dL_law_671 : decode cL_law 671 = .ok (.iaload, 1) := by decide +kernel
theorem dL_law_672 : decode cL_law 672 = .ok (.aload_n 3, 1) := by decide +kernel
theorem dL_law_673 : decode cL_law 673 = .ok (.invokestatic 103, 3) := by decide +kernel
theorem dL_law_676 : decode cL_law 676 = .ok (.istore 5, 2) := by decide +kernel
theorem dL_law_678 : decode cL_law 678 = .ok (.aload_n 2, 1) := by decide +kernel
theorem dL_law_679 : decode cL_law 679 = .ok (.aload_n 0, 1) := by decide +kernel
theorem dL_law_680 : decode cL_law 680 = .ok (.iload 4, 2) := by decide +kernel
theorem dL_law_682 : decode cL_law 682 = .ok (.iconst 1, 1) := by decide +kernel
theorem dL_law_683 : decode cL_law 683 = .ok (.iadd, 1) := by decide +kernel
theorem dL_law_684 : decode cL_law 684 = .ok (.iaload, 1) := by decide +kernel
theorem dL_law_685 : decode cL_law 685 = .ok (.aload_n 0, 1) := by decide +kernel
theorem dL_law_686 : decode cL_law 686 = .ok (.iload 4, 2) := by decide +kernel
theorem dL_law_688 : decode cL_law 688 = .ok (.iconst 2, 1) := by decide +kernel
theorem dL_law_689 : decode cL_law 689 = .ok (.iadd, 1) := by decide +kernel
theorem dL_law_690 : decode cL_law 690 = .ok (.iaload, 1) := by decide +kernel
theorem dL_law_691 : decode cL_law 691 = .ok (.invokevirtual 105, 3) := by decide +kernel
theorem dL_law_694 : decode cL_law 694 = .ok (.istore 6, 2) := by decide +kernel
theorem dL_law_696 : decode cL_law 696 = .ok (.aload_n 2, 1) := by decide +kernel
theorem dL_law_697 : decode cL_law 697 = .ok (.invokevirtual 73, 3) := by decide +kernel
theorem dL_law_700 : decode cL_law 700 = .ok (.iload 5, 2) := by decide +kernel
theorem dL_law_702 : decode cL_law 702 = .ok (.if_icmp .eq 5, 3) := by decide +kernel
theorem dL_law_705 : decode cL_law 705 = .ok (.iconst 0, 1) := by decide +kernel
theorem dL_law_706 : decode cL_law 706 = .ok (.ireturn, 1) := by decide +kernel
theorem dL_law_707 : decode cL_law 707 = .ok (.iload 5, 2) := by decide +kernel
theorem dL_law_709 : decode cL_law 709 = .ok (.ifCond .ne 15, 3) := by decide +kernel
theorem dL_law_712 : decode cL_law 712 = .ok (.aload_n 3, 1) := by decide +kernel
theorem dL_law_713 : decode cL_law 713 = .ok (.iconst 0, 1) := by decide +kernel
theorem dL_law_714 : decode cL_law 714 = .ok (.laload, 1) := by decide +kernel
theorem dL_law_715 : decode cL_law 715 = .ok (.iload 6, 2) := by decide +kernel
theorem dL_law_717 : decode cL_law 717 = .ok (.i2l, 1) := by decide +kernel
theorem dL_law_718 : decode cL_law 718 = .ok (.lcmp, 1) := by decide +kernel
theorem dL_law_719 : decode cL_law 719 = .ok (.ifCond .eq 5, 3) := by decide +kernel
theorem dL_law_722 : decode cL_law 722 = .ok (.iconst 0, 1) := by decide +kernel
theorem dL_law_723 : decode cL_law 723 = .ok (.ireturn, 1) := by decide +kernel
theorem dL_law_724 : decode cL_law 724 = .ok (.goto 367, 3) := by decide +kernel
theorem dL_law_727 : decode cL_law 727 = .ok (.aload_n 1, 1) := by decide +kernel
theorem dL_law_728 : decode cL_law 728 = .ok (.aload_n 0, 1) := by decide +kernel
theorem dL_law_729 : decode cL_law 729 = .ok (.iload 4, 2) := by decide +kernel
theorem dL_law_731 : decode cL_law 731 = .ok (.iconst 1, 1) := by decide +kernel
theorem dL_law_732 : decode cL_law 732 = .ok (.iadd, 1) := by decide +kernel
theorem dL_law_733 : decode cL_law 733 = .ok (.iaload, 1) := by decide +kernel
theorem dL_law_734 : decode cL_law 734 = .ok (.aload_n 0, 1) := by decide +kernel
theorem dL_law_735 : decode cL_law 735 = .ok (.iload 4, 2) := by decide +kernel
theorem dL_law_737 : decode cL_law 737 = .ok (.iconst 2, 1) := by decide +kernel
theorem dL_law_738 : decode cL_law 738 = .ok (.iadd, 1) := by decide +kernel
theorem dL_law_739 : decode cL_law 739 = .ok (.iaload, 1) := by decide +kernel
theorem dL_law_740 : decode cL_law 740 = .ok (.aload_n 0, 1) := by decide +kernel
theorem dL_law_741 : decode cL_law 741 = .ok (.iload 4, 2) := by decide +kernel
theorem dL_law_743 : decode cL_law 743 = .ok (.iconst 3, 1) := by decide +kernel
theorem dL_law_744 : decode cL_law 744 = .ok (.iadd, 1) := by decide +kernel
theorem dL_law_745 : decode cL_law 745 = .ok (.iaload, 1) := by decide +kernel
theorem dL_law_746 : decode cL_law 746 = .ok (.aload_n 3, 1) := by decide +kernel
theorem dL_law_747 : decode cL_law 747 = .ok (.invokestatic 106, 3) := by decide +kernel
theorem dL_law_750 : decode cL_law 750 = .ok (.istore 5, 2) := by decide +kernel
theorem dL_law_752 : decode cL_law 752 = .ok (.aload_n 2, 1) := by decide +kernel
theorem dL_law_753 : decode cL_law 753 = .ok (.aload_n 0, 1) := by decide +kernel
theorem dL_law_754 : decode cL_law 754 = .ok (.iload 4, 2) := by decide +kernel
theorem dL_law_756 : decode cL_law 756 = .ok (.iconst 1, 1) := by decide +kernel
theorem dL_law_757 : decode cL_law 757 = .ok (.iadd, 1) := by decide +kernel
theorem dL_law_758 : decode cL_law 758 = .ok (.iaload, 1) := by decide +kernel
theorem dL_law_759 : decode cL_law 759 = .ok (.aload_n 0, 1) := by decide +kernel
theorem dL_law_760 : decode cL_law 760 = .ok (.iload 4, 2) := by decide +kernel
theorem dL_law_762 : decode cL_law 762 = .ok (.iconst 2, 1) := by decide +kernel
theorem dL_law_763 : decode cL_law 763 = .ok (.iadd, 1) := by decide +kernel
theorem dL_law_764 : decode cL_law 764 = .ok (.iaload, 1) := by decide +kernel
theorem dL_law_765 : decode cL_law 765 = .ok (.aload_n 0, 1) := by decide +kernel
theorem dL_law_766 : decode cL_law 766 = .ok (.iload 4, 2) := by decide +kernel
theorem dL_law_768 : decode cL_law 768 = .ok (.iconst 3, 1) := by decide +kernel
theorem dL_law_769 : decode cL_law 769 = .ok (.iadd, 1) := by decide +kernel
theorem dL_law_770 : decode cL_law 770 = .ok (.iaload, 1) := by decide +kernel
theorem dL_law_771 : decode cL_law 771 = .ok (.invokevirtual 108, 3) := by decide +kernel
theorem dL_law_774 : decode cL_law 774 = .ok (.istore 6, 2) := by decide +kernel
theorem dL_law_776 : decode cL_law 776 = .ok (.aload_n 2, 1) := by decide +kernel
theorem dL_law_777 : decode cL_law 777 = .ok (.invokevirtual 73, 3) := by decide +kernel
theorem dL_law_780 : decode cL_law 780 = .ok (.iload 5, 2) := by decide +kernel
theorem dL_law_782 : decode cL_law 782 = .ok (.if_icmp .eq 5, 3) := by decide +kernel
theorem dL_law_785 : decode cL_law 785 = .ok (.iconst 0, 1) := by decide +kernel
theorem dL_law_786 : decode cL_law 786 = .ok (.ireturn, 1) := by decide +kernel
theorem dL_law_787 : decode cL_law 787 = .ok (.iload 5, 2) := by decide +kernel
theorem dL_law_789 : decode cL_law 789 = .ok (.ifCond .ne 15, 3) := by decide +kernel
theorem dL_law_792 : decode cL_law 792 = .ok (.aload_n 3, 1) := by decide +kernel
theorem dL_law_793 : decode cL_law 793 = .ok (.iconst 0, 1) := by decide +kernel
theorem dL_law_794 : decode cL_law 794 = .ok (.laload, 1) := by decide +kernel
theorem dL_law_795 : decode cL_law 795 = .ok (.iload 6, 2) := by decide +kernel
theorem dL_law_797 : decode cL_law 797 = .ok (.i2l, 1) := by decide +kernel
theorem dL_law_798 : decode cL_law 798 = .ok (.lcmp, 1) := by decide +kernel
theorem dL_law_799 : decode cL_law 799 = .ok (.ifCond .eq 5, 3) := by decide +kernel
theorem dL_law_802 : decode cL_law 802 = .ok (.iconst 0, 1) := by decide +kernel
theorem dL_law_803 : decode cL_law 803 = .ok (.ireturn, 1) := by decide +kernel
theorem dL_law_804 : decode cL_law 804 = .ok (.goto 287, 3) := by decide +kernel
theorem dL_law_807 : decode cL_law 807 = .ok (.aload_n 1, 1) := by decide +kernel
theorem dL_law_808 : decode cL_law 808 = .ok (.aload_n 0, 1) := by decide +kernel
theorem dL_law_809 : decode cL_law 809 = .ok (.iload 4, 2) := by decide +kernel
theorem dL_law_811 : decode cL_law 811 = .ok (.iconst 1, 1) := by decide +kernel
theorem dL_law_812 : decode cL_law 812 = .ok (.iadd, 1) := by decide +kernel
theorem dL_law_813 : decode cL_law 813 = .ok (.iaload, 1) := by decide +kernel
theorem dL_law_814 : decode cL_law 814 = .ok (.aload_n 0, 1) := by decide +kernel
theorem dL_law_815 : decode cL_law 815 = .ok (.iload 4, 2) := by decide +kernel
theorem dL_law_817 : decode cL_law 817 = .ok (.iconst 2, 1) := by decide +kernel
theorem dL_law_818 : decode cL_law 818 = .ok (.iadd, 1) := by decide +kernel
theorem dL_law_819 : decode cL_law 819 = .ok (.iaload, 1) := by decide +kernel
theorem dL_law_820 : decode cL_law 820 = .ok (.aload_n 0, 1) := by decide +kernel
theorem dL_law_821 : decode cL_law 821 = .ok (.iload 4, 2) := by decide +kernel
theorem dL_law_823 : decode cL_law 823 = .ok (.iconst 3, 1) := by decide +kernel
theorem dL_law_824 : decode cL_law 824 = .ok (.iadd, 1) := by decide +kernel
theorem dL_law_825 : decode cL_law 825 = .ok (.iaload, 1) := by decide +kernel
theorem dL_law_826 : decode cL_law 826 = .ok (.aload_n 0, 1) := by decide +kernel
theorem dL_law_827 : decode cL_law 827 = .ok (.iload 4, 2) := by decide +kernel
theorem dL_law_829 : decode cL_law 829 = .ok (.iconst 4, 1) := by decide +kernel
theorem dL_law_830 : decode cL_law 830 = .ok (.iadd, 1) := by decide +kernel
theorem dL_law_831 : decode cL_law 831 = .ok (.iaload, 1) := by decide +kernel
theorem dL_law_832 : decode cL_law 832 = .ok (.aload_n 3, 1) := by decide +kernel
theorem dL_law_833 : decode cL_law 833 = .ok (.invokestatic 109, 3) := by decide +kernel
theorem dL_law_836 : decode cL_law 836 = .ok (.istore 5, 2) := by decide +kernel
theorem dL_law_838 : decode cL_law 838 = .ok (.aload_n 2, 1) := by decide +kernel
theorem dL_law_839 : decode cL_law 839 = .ok (.aload_n 0, 1) := by decide +kernel
theorem dL_law_840 : decode cL_law 840 = .ok (.iload 4, 2) := by decide +kernel
theorem dL_law_842 : decode cL_law 842 = .ok (.iconst 1, 1) := by decide +kernel
theorem dL_law_843 : decode cL_law 843 = .ok (.iadd, 1) := by decide +kernel
theorem dL_law_844 : decode cL_law 844 = .ok (.iaload, 1) := by decide +kernel
theorem dL_law_845 : decode cL_law 845 = .ok (.aload_n 0, 1) := by decide +kernel
theorem dL_law_846 : decode cL_law 846 = .ok (.iload 4, 2) := by decide +kernel
theorem dL_law_848 : decode cL_law 848 = .ok (.iconst 2, 1) := by decide +kernel
theorem dL_law_849 : decode cL_law 849 = .ok (.iadd, 1) := by decide +kernel
theorem dL_law_850 : decode cL_law 850 = .ok (.iaload, 1) := by decide +kernel
theorem dL_law_851 : decode cL_law 851 = .ok (.aload_n 0, 1) := by decide +kernel
theorem dL_law_852 : decode cL_law 852 = .ok (.iload 4, 2) := by decide +kernel
theorem dL_law_854 : decode cL_law 854 = .ok (.iconst 3, 1) := by decide +kernel
theorem dL_law_855 : decode cL_law 855 = .ok (.iadd, 1) := by decide +kernel
theorem dL_law_856 : decode cL_law 856 = .ok (.iaload, 1) := by decide +kernel
theorem dL_law_857 : decode cL_law 857 = .ok (.aload_n 0, 1) := by decide +kernel
theorem dL_law_858 : decode cL_law 858 = .ok (.iload 4, 2) := by decide +kernel
theorem dL_law_860 : decode cL_law 860 = .ok (.iconst 4, 1) := by decide +kernel
theorem dL_law_861 : decode cL_law 861 = .ok (.iadd, 1) := by decide +kernel
theorem dL_law_862 : decode cL_law 862 = .ok (.iaload, 1) := by decide +kernel
theorem dL_law_863 : decode cL_law 863 = .ok (.invokevirtual 112, 3) := by decide +kernel
theorem dL_law_866 : decode cL_law 866 = .ok (.istore 6, 2) := by decide +kernel
theorem dL_law_868 : decode cL_law 868 = .ok (.aload_n 2, 1) := by decide +kernel
theorem dL_law_869 : decode cL_law 869 = .ok (.invokevirtual 73, 3) := by decide +kernel
theorem dL_law_872 : decode cL_law 872 = .ok (.iload 5, 2) := by decide +kernel
theorem dL_law_874 : decode cL_law 874 = .ok (.if_icmp .eq 5, 3) := by decide +kernel
theorem dL_law_877 : decode cL_law 877 = .ok (.iconst 0, 1) := by decide +kernel
theorem dL_law_878 : decode cL_law 878 = .ok (.ireturn, 1) := by decide +kernel
theorem dL_law_879 : decode cL_law 879 = .ok (.iload 5, 2) := by decide +kernel
theorem dL_law_881 : decode cL_law 881 = .ok (.ifCond .ne 15, 3) := by decide +kernel
theorem dL_law_884 : decode cL_law 884 = .ok (.aload_n 3, 1) := by decide +kernel
theorem dL_law_885 : decode cL_law 885 = .ok (.iconst 0, 1) := by decide +kernel
theorem dL_law_886 : decode cL_law 886 = .ok (.laload, 1) := by decide +kernel
theorem dL_law_887 : decode cL_law 887 = .ok (.iload 6, 2) := by decide +kernel
theorem dL_law_889 : decode cL_law 889 = .ok (.i2l, 1) := by decide +kernel
theorem dL_law_890 : decode cL_law 890 = .ok (.lcmp, 1) := by decide +kernel
theorem dL_law_891 : decode cL_law 891 = .ok (.ifCond .eq 5, 3) := by decide +kernel
theorem dL_law_894 : decode cL_law 894 = .ok (.iconst 0, 1) := by decide +kernel
theorem dL_law_895 : decode cL_law 895 = .ok (.ireturn, 1) := by decide +kernel
theorem dL_law_896 : decode cL_law 896 = .ok (.goto 195, 3) := by decide +kernel
theorem dL_law_899 : decode cL_law 899 = .ok (.aload_n 1, 1) := by decide +kernel
theorem dL_law_900 : decode cL_law 900 = .ok (.aload_n 0, 1) := by decide +kernel
theorem dL_law_901 : decode cL_law 901 = .ok (.iload 4, 2) := by decide +kernel
theorem dL_law_903 : decode cL_law 903 = .ok (.iconst 1, 1) := by decide +kernel
theorem dL_law_904 : decode cL_law 904 = .ok (.iadd, 1) := by decide +kernel
theorem dL_law_905 : decode cL_law 905 = .ok (.iaload, 1) := by decide +kernel
theorem dL_law_906 : decode cL_law 906 = .ok (.aload_n 0, 1) := by decide +kernel
theorem dL_law_907 : decode cL_law 907 = .ok (.iload 4, 2) := by decide +kernel
theorem dL_law_909 : decode cL_law 909 = .ok (.iconst 2, 1) := by decide +kernel
theorem dL_law_910 : decode cL_law 910 = .ok (.iadd, 1) := by decide +kernel
theorem dL_law_911 : decode cL_law 911 = .ok (.iaload, 1) := by decide +kernel
theorem dL_law_912 : decode cL_law 912 = .ok (.aload_n 3, 1) := by decide +kernel
theorem dL_law_913 : decode cL_law 913 = .ok (.invokestatic 113, 3) := by decide +kernel
theorem dL_law_916 : decode cL_law 916 = .ok (.istore 5, 2) := by decide +kernel
theorem dL_law_918 : decode cL_law 918 = .ok (.aload_n 2, 1) := by decide +kernel
theorem dL_law_919 : decode cL_law 919 = .ok (.aload_n 0, 1) := by decide +kernel
theorem dL_law_920 : decode cL_law 920 = .ok (.iload 4, 2) := by decide +kernel
theorem dL_law_922 : decode cL_law 922 = .ok (.iconst 1, 1) := by decide +kernel
theorem dL_law_923 : decode cL_law 923 = .ok (.iadd, 1) := by decide +kernel
theorem dL_law_924 : decode cL_law 924 = .ok (.iaload, 1) := by decide +kernel
theorem dL_law_925 : decode cL_law 925 = .ok (.aload_n 0, 1) := by decide +kernel
theorem dL_law_926 : decode cL_law 926 = .ok (.iload 4, 2) := by decide +kernel
theorem dL_law_928 : decode cL_law 928 = .ok (.iconst 2, 1) := by decide +kernel
theorem dL_law_929 : decode cL_law 929 = .ok (.iadd, 1) := by decide +kernel
theorem dL_law_930 : decode cL_law 930 = .ok (.iaload, 1) := by decide +kernel
theorem dL_law_931 : decode cL_law 931 = .ok (.invokevirtual 115, 3) := by decide +kernel
theorem dL_law_934 : decode cL_law 934 = .ok (.istore 6, 2) := by decide +kernel
theorem dL_law_936 : decode cL_law 936 = .ok (.aload_n 2, 1) := by decide +kernel
theorem dL_law_937 : decode cL_law 937 = .ok (.invokevirtual 73, 3) := by decide +kernel
theorem dL_law_940 : decode cL_law 940 = .ok (.iload 5, 2) := by decide +kernel
theorem dL_law_942 : decode cL_law 942 = .ok (.if_icmp .eq 5, 3) := by decide +kernel
theorem dL_law_945 : decode cL_law 945 = .ok (.iconst 0, 1) := by decide +kernel
theorem dL_law_946 : decode cL_law 946 = .ok (.ireturn, 1) := by decide +kernel
theorem dL_law_947 : decode cL_law 947 = .ok (.iload 5, 2) := by decide +kernel
theorem dL_law_949 : decode cL_law 949 = .ok (.ifCond .ne 15, 3) := by decide +kernel
theorem dL_law_952 : decode cL_law 952 = .ok (.aload_n 3, 1) := by decide +kernel
theorem dL_law_953 : decode cL_law 953 = .ok (.iconst 0, 1) := by decide +kernel
theorem dL_law_954 : decode cL_law 954 = .ok (.laload, 1) := by decide +kernel
theorem dL_law_955 : decode cL_law 955 = .ok (.iload 6, 2) := by decide +kernel
theorem dL_law_957 : decode cL_law 957 = .ok (.i2l, 1) := by decide +kernel
theorem dL_law_958 : decode cL_law 958 = .ok (.lcmp, 1) := by decide +kernel
theorem dL_law_959 : decode cL_law 959 = .ok (.ifCond .eq 5, 3) := by decide +kernel
theorem dL_law_962 : decode cL_law 962 = .ok (.iconst 0, 1) := by decide +kernel
theorem dL_law_963 : decode cL_law 963 = .ok (.ireturn, 1) := by decide +kernel
theorem dL_law_964 : decode cL_law 964 = .ok (.goto 127, 3) := by decide +kernel
theorem dL_law_967 : decode cL_law 967 = .ok (.aload_n 1, 1) := by decide +kernel
theorem dL_law_968 : decode cL_law 968 = .ok (.aload_n 0, 1) := by decide +kernel
theorem dL_law_969 : decode cL_law 969 = .ok (.iload 4, 2) := by decide +kernel
theorem dL_law_971 : decode cL_law 971 = .ok (.iconst 1, 1) := by decide +kernel
theorem dL_law_972 : decode cL_law 972 = .ok (.iadd, 1) := by decide +kernel
theorem dL_law_973 : decode cL_law 973 = .ok (.iaload, 1) := by decide +kernel
theorem dL_law_974 : decode cL_law 974 = .ok (.aload_n 0, 1) := by decide +kernel
theorem dL_law_975 : decode cL_law 975 = .ok (.iload 4, 2) := by decide +kernel
theorem dL_law_977 : decode cL_law 977 = .ok (.iconst 2, 1) := by decide +kernel
theorem dL_law_978 : decode cL_law 978 = .ok (.iadd, 1) := by decide +kernel
theorem dL_law_979 : decode cL_law 979 = .ok (.iaload, 1) := by decide +kernel
theorem dL_law_980 : decode cL_law 980 = .ok (.aload_n 3, 1) := by decide +kernel
theorem dL_law_981 : decode cL_law 981 = .ok (.invokestatic 116, 3) := by decide +kernel
theorem dL_law_984 : decode cL_law 984 = .ok (.istore 5, 2) := by decide +kernel
theorem dL_law_986 : decode cL_law 986 = .ok (.aload_n 2, 1) := by decide +kernel
theorem dL_law_987 : decode cL_law 987 = .ok (.aload_n 0, 1) := by decide +kernel
theorem dL_law_988 : decode cL_law 988 = .ok (.iload 4, 2) := by decide +kernel
theorem dL_law_990 : decode cL_law 990 = .ok (.iconst 1, 1) := by decide +kernel
theorem dL_law_991 : decode cL_law 991 = .ok (.iadd, 1) := by decide +kernel
theorem dL_law_992 : decode cL_law 992 = .ok (.iaload, 1) := by decide +kernel
theorem dL_law_993 : decode cL_law 993 = .ok (.aload_n 0, 1) := by decide +kernel
theorem dL_law_994 : decode cL_law 994 = .ok (.iload 4, 2) := by decide +kernel
theorem dL_law_996 : decode cL_law 996 = .ok (.iconst 2, 1) := by decide +kernel
theorem dL_law_997 : decode cL_law 997 = .ok (.iadd, 1) := by decide +kernel
theorem dL_law_998 : decode cL_law 998 = .ok (.iaload, 1) := by decide +kernel
theorem dL_law_999 : decode cL_law 999 = .ok (.invokevirtual 118, 3) := by decide +kernel
theorem dL_law_1002 : decode cL_law 1002 = .ok (.istore 6, 2) := by decide +kernel
theorem dL_law_1004 : decode cL_law 1004 = .ok (.aload_n 2, 1) := by decide +kernel
theorem dL_law_1005 : decode cL_law 1005 = .ok (.invokevirtual 73, 3) := by decide +kernel
theorem dL_law_1008 : decode cL_law 1008 = .ok (.iload 5, 2) := by decide +kernel
theorem dL_law_1010 : decode cL_law 1010 = .ok (.if_icmp .eq 5, 3) := by decide +kernel
theorem dL_law_1013 : decode cL_law 1013 = .ok (.iconst 0, 1) := by decide +kernel
theorem dL_law_1014 : decode cL_law 1014 = .ok (.ireturn, 1) := by decide +kernel
theorem dL_law_1015 : decode cL_law 1015 = .ok (.iload 5, 2) := by decide +kernel
theorem dL_law_1017 : decode cL_law 1017 = .ok (.ifCond .ne 15, 3) := by decide +kernel
theorem dL_law_1020 : decode cL_law 1020 = .ok (.aload_n 3, 1) := by decide +kernel
theorem dL_law_1021 : decode cL_law 1021 = .ok (.iconst 0, 1) := by decide +kernel
theorem dL_law_1022 : decode cL_law 1022 = .ok (.laload, 1) := by decide +kernel
theorem dL_law_1023 : decode cL_law 1023 = .ok (.iload 6, 2) := by decide +kernel
theorem dL_law_1025 : decode cL_law 1025 = .ok (.i2l, 1) := by decide +kernel
theorem dL_law_1026 : decode cL_law 1026 = .ok (.lcmp, 1) := by decide +kernel
theorem dL_law_1027 : decode cL_law 1027 = .ok (.ifCond .eq 5, 3) := by decide +kernel
theorem dL_law_1030 : decode cL_law 1030 = .ok (.iconst 0, 1) := by decide +kernel
theorem dL_law_1031 : decode cL_law 1031 = .ok (.ireturn, 1) := by decide +kernel
theorem dL_law_1032 : decode cL_law 1032 = .ok (.goto 59, 3) := by decide +kernel
theorem dL_law_1035 : decode cL_law 1035 = .ok (.aload_n 1, 1) := by decide +kernel
theorem dL_law_1036 : decode cL_law 1036 = .ok (.aload_n 0, 1) := by decide +kernel
theorem dL_law_1037 : decode cL_law 1037 = .ok (.iload 4, 2) := by decide +kernel
theorem dL_law_1039 : decode cL_law 1039 = .ok (.iconst 1, 1) := by decide +kernel
theorem dL_law_1040 : decode cL_law 1040 = .ok (.iadd, 1) := by decide +kernel
theorem dL_law_1041 : decode cL_law 1041 = .ok (.iaload, 1) := by decide +kernel
theorem dL_law_1042 : decode cL_law 1042 = .ok (.aload_n 3, 1) := by decide +kernel
theorem dL_law_1043 : decode cL_law 1043 = .ok (.invokestatic 119, 3) := by decide +kernel
theorem dL_law_1046 : decode cL_law 1046 = .ok (.istore 5, 2) := by decide +kernel
theorem dL_law_1048 : decode cL_law 1048 = .ok (.aload_n 2, 1) := by decide +kernel
theorem dL_law_1049 : decode cL_law 1049 = .ok (.aload_n 0, 1) := by decide +kernel
theorem dL_law_1050 : decode cL_law 1050 = .ok (.iload 4, 2) := by decide +kernel
theorem dL_law_1052 : decode cL_law 1052 = .ok (.iconst 1, 1) := by decide +kernel
theorem dL_law_1053 : decode cL_law 1053 = .ok (.iadd, 1) := by decide +kernel
theorem dL_law_1054 : decode cL_law 1054 = .ok (.iaload, 1) := by decide +kernel
theorem dL_law_1055 : decode cL_law 1055 = .ok (.invokevirtual 121, 3) := by decide +kernel
theorem dL_law_1058 : decode cL_law 1058 = .ok (.istore 6, 2) := by decide +kernel
theorem dL_law_1060 : decode cL_law 1060 = .ok (.aload_n 2, 1) := by decide +kernel
theorem dL_law_1061 : decode cL_law 1061 = .ok (.invokevirtual 73, 3) := by decide +kernel
theorem dL_law_1064 : decode cL_law 1064 = .ok (.iload 5, 2) := by decide +kernel
theorem dL_law_1066 : decode cL_law 1066 = .ok (.if_icmp .eq 5, 3) := by decide +kernel
theorem dL_law_1069 : decode cL_law 1069 = .ok (.iconst 0, 1) := by decide +kernel
theorem dL_law_1070 : decode cL_law 1070 = .ok (.ireturn, 1) := by decide +kernel
theorem dL_law_1071 : decode cL_law 1071 = .ok (.iload 5, 2) := by decide +kernel
theorem dL_law_1073 : decode cL_law 1073 = .ok (.ifCond .ne 15, 3) := by decide +kernel
theorem dL_law_1076 : decode cL_law 1076 = .ok (.aload_n 3, 1) := by decide +kernel
theorem dL_law_1077 : decode cL_law 1077 = .ok (.iconst 0, 1) := by decide +kernel
theorem dL_law_1078 : decode cL_law 1078 = .ok (.laload, 1) := by decide +kernel
theorem dL_law_1079 : decode cL_law 1079 = .ok (.iload 6, 2) := by decide +kernel
theorem dL_law_1081 : decode cL_law 1081 = .ok (.i2l, 1) := by decide +kernel
theorem dL_law_1082 : decode cL_law 1082 = .ok (.lcmp, 1) := by decide +kernel
theorem dL_law_1083 : decode cL_law 1083 = .ok (.ifCond .eq 5, 3) := by decide +kernel
theorem dL_law_1086 : decode cL_law 1086 = .ok (.iconst 0, 1) := by decide +kernel
theorem dL_law_1087 : decode cL_law 1087 = .ok (.ireturn, 1) := by decide +kernel
theorem dL_law_1088 : decode cL_law 1088 = .ok (.goto 3, 3) := by decide +kernel
theorem dL_law_1091 : decode cL_law 1091 = .ok (.iinc 4 5, 3) := by decide +kernel
theorem dL_law_1094 : decode cL_law 1094 = .ok (.goto (-1071), 3) := by decide +kernel
theorem dL_law_1097 : decode cL_law 1097 = .ok (.iconst 1, 1) := by decide +kernel
theorem dL_law_1098 : decode cL_law 1098 = .ok (.ireturn, 1) := by decide +kernel
end
section
/-! ===== the world by codes: cell k lies at ad k and holds ce k ===== -/
abbrev xwM : Type := Nat → Nat → Int32
def xw_wd (N : Nat) (ad : Nat → Nat) (ce : Nat → va_E) : va_W := (List.range N).map (fun k => (ad k, ce k))
theorem xw_at {N : Nat} {ad : Nat → Nat} {ce : Nat → va_E} {k : Nat} (h : k < N) : (xw_wd N ad ce)[k]? = some (ad k, ce k) := by
  simp [xw_wd, h]
theorem xw_len {N : Nat} {ad : Nat → Nat} {ce : Nat → va_E} : (xw_wd N ad ce).length = N := by simp [xw_wd]
theorem xw_of {N : Nat} {ad : Nat → Nat} {ce : Nat → va_E} {k : Nat} {q : Nat × va_E} (h : (xw_wd N ad ce)[k]? = some q) : k < N ∧ q = (ad k, ce k) := by
  have hl : k < (xw_wd N ad ce).length := (List.getElem?_eq_some_iff.mp h).1
  rw [xw_len] at hl
  rw [xw_at hl] at h
  exact ⟨hl, (Option.some.inj h).symm⟩
theorem xw_set {N : Nat} {ad : Nat → Nat} {ce : Nat → va_E} {k : Nat} {e : va_E} : (xw_wd N ad ce).set k (ad k, e) = xw_wd N ad (va_up ce k e) := by
  apply List.ext_getElem?
  intro i
  rw [List.getElem?_set]
  by_cases hk : k = i
  · subst hk
    by_cases hN : k < N
    · rw [if_pos rfl, if_pos (by rw [xw_len]; exact hN), xw_at hN, va_up_self]
    · rw [if_pos rfl, if_neg (by rw [xw_len]; exact hN), List.getElem?_eq_none (by rw [xw_len]; omega)]
  · rw [if_neg hk]
    by_cases hN : i < N
    · rw [xw_at hN, xw_at hN, va_up_ne _ _ (fun h => hk h.symm)]
    · rw [List.getElem?_eq_none (by rw [xw_len]; omega), List.getElem?_eq_none (by rw [xw_len]; omega)]
def xw_J (N : Nat) (ad : Nat → Nat) (base : Nat) : Prop := (∀ i j : Nat, i < N → j < N → ad i = ad j → i = j) ∧ ∀ k : Nat, k < N → base ≤ ad k
theorem xw_D {N : Nat} {ad : Nat → Nat} {base : Nat} (hJ : xw_J N ad base) (ce : Nat → va_E) : va_D (fun q => base ≤ q) (xw_wd N ad ce) :=
  ⟨fun i j p q hi hj h => by
    obtain ⟨h1, rfl⟩ := xw_of hi
    obtain ⟨h2, rfl⟩ := xw_of hj
    exact hJ.1 i j h1 h2 h, fun k q hk => by
    obtain ⟨h1, rfl⟩ := xw_of hk
    exact hJ.2 k h1⟩
/-! the locals -/
def xw_L (ls : Array Slot) (nL : Nat) (lv : List (Option Value)) : Prop := ls.size = nL ∧ lv_wf ls ∧ ∀ (i : Nat) (v : Value), lv[i]? = some (some v) → ls[i]? = some (.val v) ∧ v.category = 1
theorem xw_store {ls : Array Slot} {nL : Nat} {lv : List (Option Value)} {i : Nat} {v : Value} (h : xw_L ls nL lv) (hi : i < nL) (hc : v.category = 1) : ∃ ls', storeLocals ls i v = some ls' ∧ xw_L ls' nL (lv.set i (some v)) := by
  obtain ⟨ls', e1, h1⟩ := lv_store1 (l := []) (i := i) (v := v) ⟨h.1, h.2.1, fun q hq => by cases hq⟩ hi hc
  refine ⟨ls', e1, h1.1, h1.2.1, fun j w hj => ?_⟩
  rw [List.getElem?_set] at hj
  by_cases hji : i = j
  · subst hji
    rw [if_pos rfl] at hj
    by_cases hl : i < lv.length
    · rw [if_pos hl] at hj
      cases hj
      exact ⟨h1.2.2 (i, v) List.mem_cons_self, hc⟩
    · rw [if_neg hl] at hj
      cases hj
  · rw [if_neg hji] at hj
    obtain ⟨g1, g2⟩ := h.2.2 j w hj
    obtain ⟨ls2, e2, h2⟩ := lv_store1 (l := [(j, w)]) (i := i) (v := v) ⟨h.1, h.2.1, fun q hq => by rw [List.mem_singleton.mp hq]; exact g1⟩ hi hc
    cases Option.some.inj (e2.symm.trans e1)
    refine ⟨h2.2.2 (j, w) (List.mem_cons_of_mem _ (List.mem_filter.mpr ⟨List.mem_singleton_self _, ?_⟩)), g2⟩
    simp [g2, Ne.symm hji]
theorem xw_has {ls : Array Slot} {nL : Nat} {l : List (Nat × Value)} {lv : List (Option Value)} (h : lv_has ls nL l) (hl : ∀ (i : Nat) (v : Value), lv[i]? = some (some v) → (i, v) ∈ l ∧ v.category = 1) : xw_L ls nL lv :=
  ⟨h.1, h.2.1, fun i v hv => ⟨h.2.2 (i, v) (hl i v hv).1, (hl i v hv).2⟩⟩
theorem xw_args : ∀ (vs : List Value) (k : Nat), (∀ v ∈ vs, v.category = 1) → ∀ (i : Nat) (v : Value), (vs.map some)[i]? = some (some v) → (k + i, v) ∈ lv_args k vs ∧ v.category = 1
  | [], _, _, i, v, h => by simp at h
  | w :: vs, k, hc, 0, v, h => by
    simp at h
    subst h
    exact ⟨List.mem_cons_self, hc _ List.mem_cons_self⟩
  | w :: vs, k, hc, i + 1, v, h => by
    have h1 : (vs.map some)[i]? = some (some v) := by simpa using h
    have hw : w.category = 1 := hc _ List.mem_cons_self
    have h2 := xw_args vs (k + 1) (fun x hx => hc x (List.mem_cons_of_mem _ hx)) i v h1
    refine ⟨?_, h2.2⟩
    show (k + (i + 1), v) ∈ (k, w) :: lv_args (if w.category = 2 then k + 2 else k + 1) vs
    rw [hw]
    refine List.mem_cons_of_mem _ ?_
    have e : k + (i + 1) = k + 1 + i := by omega
    rw [e]
    exact h2.1
theorem xw_entry (vs : List Value) {n : Nat} (r : Nat) (h : (lg_sl vs).length ≤ n) (hc : ∀ v ∈ vs, v.category = 1) : xw_L ((lg_sl vs ++ List.replicate (n - (lg_sl vs).length) Slot.unset).toArray) n (vs.map some ++ List.replicate r none) := by
  refine xw_has (lv_entry vs h) (fun i v hv => ?_)
  by_cases hi : i < (vs.map some).length
  · rw [List.getElem?_append_left hi] at hv
    have := xw_args vs 0 hc i v hv
    simpa using this
  · rw [List.getElem?_append_right (by omega)] at hv
    have := List.mem_of_getElem? hv
    simp at this
/-! the words: one list for all methods -/
def xw_big : List Cond := lw_tbl.filter goodWord
theorem xw_in {w : Cond} (h : w ∈ lw_tbl) (hg : goodWord w = true) : w ∈ xw_big := List.mem_filter.mpr ⟨h, hg⟩
theorem xw_gb {w : Cond} (hw : w ∈ xw_big) : w ∈ xw_big ∧ ((w.onTables && w.keeps) = true ∨ ∃ ty, w = .arrayClass ty) := ⟨hw, good_of_word (List.mem_filter.mp hw).2⟩
theorem xw_gs {ws : List Cond} (h : ∀ w ∈ ws, w ∈ xw_big) : GoodIn xw_big ws := fun w hw => xw_gb (h w hw)
theorem xw_gcode {y : MethodName} {cc : ByteArray} {nL : Nat} {ret : Option FieldType} (h : Cond.code y cc nL ret ∈ xw_big) : ∀ w ∈ Cond.code y cc nL ret :: xw_big, w ∈ xw_big := fun w hw => (List.mem_cons.mp hw).elim (fun e => e ▸ h) id
theorem inB0 : ∀ w ∈ wsX00, w ∈ xw_big := fun w h => xw_in (inX0 w h) ((by decide +kernel : ∀ w ∈ wsX00, goodWord w = true) w h)
theorem inB1 : ∀ w ∈ wsX10, w ∈ xw_big := fun w h => xw_in (inX1 w h) ((by decide +kernel : ∀ w ∈ wsX10, goodWord w = true) w h)
theorem inB2 : ∀ w ∈ wsX20, w ∈ xw_big := fun w h => xw_in (inX2 w h) ((by decide +kernel : ∀ w ∈ wsX20, goodWord w = true) w h)
theorem inB3 : ∀ w ∈ wsX30, w ∈ xw_big := fun w h => xw_in (inX3 w h) ((by decide +kernel : ∀ w ∈ wsX30, goodWord w = true) w h)
/-! the machine's context as one thing -/
abbrev xwG := Program × Launch × Env × Room × State × MethodId × Array Value × List Frame × Method × Code × va_G × List (ClassId × FieldType) × Nat
abbrev xgp (G : xwG) : Program := G.1
abbrev xgl (G : xwG) : Launch := G.2.1
abbrev xge (G : xwG) : Env := G.2.2.1
abbrev xgR (G : xwG) : Room := G.2.2.2.1
abbrev xgs (G : xwG) : State := G.2.2.2.2.1
abbrev xgm (G : xwG) : MethodId := G.2.2.2.2.2.1
abbrev xga (G : xwG) : Array Value := G.2.2.2.2.2.2.1
abbrev xgb (G : xwG) : List Frame := G.2.2.2.2.2.2.2.1
abbrev xgM (G : xwG) : Method := G.2.2.2.2.2.2.2.2.1
abbrev xgc (G : xwG) : Code := G.2.2.2.2.2.2.2.2.2.1
abbrev xgD (G : xwG) : va_G := G.2.2.2.2.2.2.2.2.2.2.1
abbrev xgt (G : xwG) : List (ClassId × FieldType) := G.2.2.2.2.2.2.2.2.2.2.2.1
abbrev xgB (G : xwG) : Nat := G.2.2.2.2.2.2.2.2.2.2.2.2
abbrev xgW (G : xwG) (H : Heap) (locs : List Loc) (cells slots : Nat) (Q : State → Prop) (g : JFrame) : Prop := W (xgp G) (xgl G) (xge G) (xgR G) (xgs G) (xgm G) (xga G) (xgb G) (xgM G) (xgc G) H locs cells slots Q g
abbrev xIAE : String := "java/lang/IllegalArgumentException"
abbrev xISE : String := "java/lang/IllegalStateException"
/-- what else a method's start must bring: links across the nest, the throws' statics and texts -/
def xw_Z (base : Nat) (U : State) : Prop :=
  (va_Nw (.methodLinkNest RX1 52 yX2_isNewer RX2) U ∧ va_Nw (.methodLinkNest RX1 56 yX2_nextNumber RX2) U ∧ va_Nw (.methodLinkNest RX2 20 yX0_init RX2) U ∧ va_Nw (.castable xIAE xIAE) U ∧ va_Nw (.castable xISE xISE) U ∧ va_Nw (.declares (Bundle.initS "java/lang/RuntimeException")) U ∧ va_Nw (.declares (Bundle.initS "java/lang/Exception")) U ∧ va_Nw (.declares (Bundle.initS "java/lang/Throwable")) U) ∧
  (vx_Zq Bundle.tN "UNASSIGNED_STACK" Bundle.steD (fun q => base ≤ q) U U.heap ∧ vx_Zq Bundle.tN "SUPPRESSED_SENTINEL" Bundle.listD (fun q => base ≤ q) U U.heap) ∧
  ((∃ a, vk_R RX2 150 "there is no such node" a U) ∧ (∃ a, vk_R RX2 153 "both nodes are the same" a U) ∧ (∃ a, vk_R RX2 155 "a number is not as it may be" a U) ∧ (∃ a, vk_R RX2 157 "there is no such letter" a U) ∧ (∃ a, vk_R RX2 83 "the node has links" a U))
theorem xw_Z.go {base : Nat} {s U : State} (hW : s.WarmedH U.vm) (hk : ∀ a : Nat, a < s.heap.size → ¬ base ≤ a → U.heap[a]? = s.heap[a]?) (h : xw_Z base s) : xw_Z base U := by
  obtain ⟨⟨h1, h2, h3, h4, h5, d1, d2, d3⟩, ⟨h6, h7⟩, ⟨a1, h8⟩, ⟨a2, h9⟩, ⟨a3, h10⟩, ⟨a4, h11⟩, ⟨a5, h12⟩⟩ := h
  exact ⟨⟨va_Nw.warmM hW h1, va_Nw.warmM hW h2, va_Nw.warmM hW h3, va_Nw.warmC hW h4, va_Nw.warmC hW h5, va_Nw.warmD hW d1, va_Nw.warmD hW d2, va_Nw.warmD hW d3⟩, ⟨vx_Zq.moved hW.alike (h6.kept hk), vx_Zq.moved hW.alike (h7.kept hk)⟩, ⟨a1, vk_R.warm hW h8⟩, ⟨a2, vk_R.warm hW h9⟩, ⟨a3, vk_R.warm hW h10⟩, ⟨a4, vk_R.warm hW h11⟩, ⟨a5, vk_R.warm hW h12⟩⟩
/-- what stands throughout a method's body -/
def xw_C (G : xwG) (cc : ByteArray) (nL : Nat) (own : String) (N : Nat) (ad : Nat → Nat) : Prop :=
  (xgp G).tables.exec = Jvm.exec ∧ (xgc G).code = cc ∧ (xgc G).maxLocals = nL ∧ (xgs G).vm.findClass own = some (xgm G).cls ∧ (∀ w ∈ xw_big, w.before (xga G) (xgs G) = true) ∧ va_K (xgD G) vwCl (xgt G) (xgs G) ∧ xgB G ≤ (xgs G).heap.size ∧ (xgM G).locks = false ∧ xw_J N ad (xgB G) ∧ xw_Z (xgB G) (xgs G)
/-- the machine stands at pc with locals lv and stack st, the world's cells at ad hold ce: it comes to Q -/
def XW (G : xwG) (Q : State → Prop) (nL cells slots N : Nat) (ad : Nat → Nat) (ce : Nat → va_E) (pc : Nat) (lv : List (Option Value)) (st : List Value) : Prop :=
  ∀ (H : Heap) (locs : List Loc) (ls : Array Slot), va_P (xgD G) vwCl (xw_wd N ad ce) H → va_S (fun q => xgB G ≤ q) (xgs G).heap H locs → xw_L ls nL lv → xgW G H locs cells slots Q (F0 (xgm G) pc ls st)
section XR
variable {G : xwG} {Q : State → Prop} {cc : ByteArray} {own : String} {nL cells slots N : Nat} {ad : Nat → Nat} {ce : Nat → va_E} {pc : Nat} {lv : List (Option Value)} {st : List Value}
theorem xw_iconst (C : xw_C G cc nL own N ad) {n : Int} {v : Int32} (hd : decode cc pc = .ok (.iconst n, 1)) (hv : Int32.ofInt n = v)
    (k : XW G Q nL cells slots N ad ce (pc + 1) (lv) (.int v :: st)) : XW G Q nL cells slots N ad ce (pc) (lv) (st) :=
  fun H locs ls hP hS hL => lv_iconst C.1 C.2.1 hd hv (k H locs ls hP hS hL)
theorem xw_bipush (C : xw_C G cc nL own N ad) {n : Int} {v : Int32} (hd : decode cc pc = .ok (.bipush n, 2)) (hv : (Int8.ofInt n).toInt32 = v)
    (k : XW G Q nL cells slots N ad ce (pc + 2) (lv) (.int v :: st)) : XW G Q nL cells slots N ad ce (pc) (lv) (st) :=
  fun H locs ls hP hS hL => lv_bipush C.1 C.2.1 hd hv (k H locs ls hP hS hL)
theorem xw_sipush (C : xw_C G cc nL own N ad) {n : Int} {v : Int32} (hd : decode cc pc = .ok (.sipush n, 3)) (hv : (Int16.ofInt n).toInt32 = v)
    (k : XW G Q nL cells slots N ad ce (pc + 3) (lv) (.int v :: st)) : XW G Q nL cells slots N ad ce (pc) (lv) (st) :=
  fun H locs ls hP hS hL => lv_sipush C.1 C.2.1 hd hv (k H locs ls hP hS hL)
theorem xw_ldc (C : xw_C G cc nL own N ad) {index : Nat} {v : Int32} (hw : Cond.constant own index v ∈ xw_big) (hd : decode cc pc = .ok (.ldc index, 2))
    (k : XW G Q nL cells slots N ad ce (pc + 2) (lv) (.int v :: st)) : XW G Q nL cells slots N ad ce (pc) (lv) (st) :=
  fun H locs ls hP hS hL => lv_ldc C.1 C.2.1 C.2.2.2.1 (C.2.2.2.2.1 _ hw) hd (k H locs ls hP hS hL)
theorem xw_iload_n (C : xw_C G cc nL own N ad) {j : Fin 4} {x : Int32} (hd : decode cc pc = .ok (.iload_n j, 1)) (i : Nat) (hi : (j : Nat) = i) (hl : lv[i]? = some (some (.int x)))
    (k : XW G Q nL cells slots N ad ce (pc + 1) (lv) (.int x :: st)) : XW G Q nL cells slots N ad ce (pc) (lv) (st) :=
  fun H locs ls hP hS hL => lv_iload_n C.1 C.2.1 hd hi (hL.2.2 _ _ hl).1 (k H locs ls hP hS hL)
theorem xw_iload (C : xw_C G cc nL own N ad) {i : Nat} {x : Int32} (hd : decode cc pc = .ok (.iload i, 2)) (hl : lv[i]? = some (some (.int x)))
    (k : XW G Q nL cells slots N ad ce (pc + 2) (lv) (.int x :: st)) : XW G Q nL cells slots N ad ce (pc) (lv) (st) :=
  fun H locs ls hP hS hL => lv_iload C.1 C.2.1 hd (hL.2.2 _ _ hl).1 (k H locs ls hP hS hL)
theorem xw_aload_n (C : xw_C G cc nL own N ad) {j : Fin 4} {x : Nat} (hd : decode cc pc = .ok (.aload_n j, 1)) (i : Nat) (hi : (j : Nat) = i) (hl : lv[i]? = some (some (.ref x)))
    (k : XW G Q nL cells slots N ad ce (pc + 1) (lv) (.ref x :: st)) : XW G Q nL cells slots N ad ce (pc) (lv) (st) :=
  fun H locs ls hP hS hL => lv_aload_n C.1 C.2.1 hd hi (hL.2.2 _ _ hl).1 (k H locs ls hP hS hL)
theorem xw_aload (C : xw_C G cc nL own N ad) {i : Nat} {x : Nat} (hd : decode cc pc = .ok (.aload i, 2)) (hl : lv[i]? = some (some (.ref x)))
    (k : XW G Q nL cells slots N ad ce (pc + 2) (lv) (.ref x :: st)) : XW G Q nL cells slots N ad ce (pc) (lv) (st) :=
  fun H locs ls hP hS hL => lv_aload C.1 C.2.1 hd (hL.2.2 _ _ hl).1 (k H locs ls hP hS hL)
theorem xw_istore_n (C : xw_C G cc nL own N ad) {j : Fin 4} {x : Int32} (hd : decode cc pc = .ok (.istore_n j, 1)) (i : Nat) (hi : (j : Nat) = i) (hn : i < nL)
    (k : XW G Q nL cells slots N ad ce (pc + 1) (lv.set i (some (.int x))) (st)) : XW G Q nL cells slots N ad ce (pc) (lv) (.int x :: st) := by
  intro H locs ls hP hS hL T hT X
  subst hi
  obtain ⟨ls', e', h'⟩ := xw_store (v := .int x) hL hn rfl
  obtain ⟨t, a, b⟩ := k H locs ls' hP hS h' T hT X
  refine ⟨t, ?_, b⟩
  have hexec := C.1
  have hb := C.2.1
  jvm_step X.here [X.here.top, ↓top_set X.here.top, hexec, hb, hd, e']
  exact a
theorem xw_istore (C : xw_C G cc nL own N ad) {i : Nat} {x : Int32} (hd : decode cc pc = .ok (.istore i, 2)) (hn : i < nL)
    (k : XW G Q nL cells slots N ad ce (pc + 2) (lv.set i (some (.int x))) (st)) : XW G Q nL cells slots N ad ce (pc) (lv) (.int x :: st) := by
  intro H locs ls hP hS hL T hT X
  skip
  obtain ⟨ls', e', h'⟩ := xw_store (v := .int x) hL hn rfl
  obtain ⟨t, a, b⟩ := k H locs ls' hP hS h' T hT X
  refine ⟨t, ?_, b⟩
  have hexec := C.1
  have hb := C.2.1
  jvm_step X.here [X.here.top, ↓top_set X.here.top, hexec, hb, hd, e']
  exact a
theorem xw_astore_n (C : xw_C G cc nL own N ad) {j : Fin 4} {x : Nat} (hd : decode cc pc = .ok (.astore_n j, 1)) (i : Nat) (hi : (j : Nat) = i) (hn : i < nL)
    (k : XW G Q nL cells slots N ad ce (pc + 1) (lv.set i (some (.ref x))) (st)) : XW G Q nL cells slots N ad ce (pc) (lv) (.ref x :: st) := by
  intro H locs ls hP hS hL T hT X
  subst hi
  obtain ⟨ls', e', h'⟩ := xw_store (v := .ref x) hL hn rfl
  obtain ⟨t, a, b⟩ := k H locs ls' hP hS h' T hT X
  refine ⟨t, ?_, b⟩
  have hexec := C.1
  have hb := C.2.1
  jvm_step X.here [X.here.top, ↓top_set X.here.top, hexec, hb, hd, e', Value.isRef]
  exact a
theorem xw_astore (C : xw_C G cc nL own N ad) {i : Nat} {x : Nat} (hd : decode cc pc = .ok (.astore i, 2)) (hn : i < nL)
    (k : XW G Q nL cells slots N ad ce (pc + 2) (lv.set i (some (.ref x))) (st)) : XW G Q nL cells slots N ad ce (pc) (lv) (.ref x :: st) := by
  intro H locs ls hP hS hL T hT X
  skip
  obtain ⟨ls', e', h'⟩ := xw_store (v := .ref x) hL hn rfl
  obtain ⟨t, a, b⟩ := k H locs ls' hP hS h' T hT X
  refine ⟨t, ?_, b⟩
  have hexec := C.1
  have hb := C.2.1
  jvm_step X.here [X.here.top, ↓top_set X.here.top, hexec, hb, hd, e', Value.isRef]
  exact a
theorem xw_iinc (C : xw_C G cc nL own N ad) {i : Nat} {n : Int} {x v : Int32} (hd : decode cc pc = .ok (.iinc i n, 3)) (hl : lv[i]? = some (some (.int x))) (hv : x + Int32.ofInt n = v) (hn : i < nL)
    (k : XW G Q nL cells slots N ad ce (pc + 3) (lv.set i (some (.int v))) (st)) : XW G Q nL cells slots N ad ce (pc) (lv) (st) := by
  intro H locs ls hP hS hL T hT X
  subst hv
  have hg := (hL.2.2 _ _ hl).1
  obtain ⟨ls', e', h'⟩ := xw_store (v := .int (x + Int32.ofInt n)) hL hn rfl
  obtain ⟨t, a, b⟩ := k H locs ls' hP hS h' T hT X
  refine ⟨t, ?_, b⟩
  have hexec := C.1
  have hb := C.2.1
  jvm_step X.here [X.here.top, ↓top_set X.here.top, hexec, hb, hd, hg, e']
  exact a
theorem xw_iadd (C : xw_C G cc nL own N ad) {x y : Int32} (hd : decode cc pc = .ok (.iadd, 1))
    (k : XW G Q nL cells slots N ad ce (pc + 1) (lv) (.int (x + y) :: st)) : XW G Q nL cells slots N ad ce (pc) (lv) (.int y :: .int x :: st) :=
  fun H locs ls hP hS hL => lv_iadd C.1 C.2.1 hd (k H locs ls hP hS hL)
theorem xw_isub (C : xw_C G cc nL own N ad) {x y : Int32} (hd : decode cc pc = .ok (.isub, 1))
    (k : XW G Q nL cells slots N ad ce (pc + 1) (lv) (.int (x - y) :: st)) : XW G Q nL cells slots N ad ce (pc) (lv) (.int y :: .int x :: st) :=
  fun H locs ls hP hS hL => lv_isub C.1 C.2.1 hd (k H locs ls hP hS hL)
theorem xw_imul (C : xw_C G cc nL own N ad) {x y : Int32} (hd : decode cc pc = .ok (.imul, 1))
    (k : XW G Q nL cells slots N ad ce (pc + 1) (lv) (.int (x * y) :: st)) : XW G Q nL cells slots N ad ce (pc) (lv) (.int y :: .int x :: st) :=
  fun H locs ls hP hS hL => lv_imul C.1 C.2.1 hd (k H locs ls hP hS hL)
theorem xw_iand (C : xw_C G cc nL own N ad) {x y : Int32} (hd : decode cc pc = .ok (.iand, 1))
    (k : XW G Q nL cells slots N ad ce (pc + 1) (lv) (.int (x &&& y) :: st)) : XW G Q nL cells slots N ad ce (pc) (lv) (.int y :: .int x :: st) :=
  fun H locs ls hP hS hL => lv_iand C.1 C.2.1 hd (k H locs ls hP hS hL)
theorem xw_idiv (C : xw_C G cc nL own N ad) {x y : Int32} (hd : decode cc pc = .ok (.idiv, 1)) (hne : ¬ y = 0)
    (k : XW G Q nL cells slots N ad ce (pc + 1) (lv) (.int (x / y) :: st)) : XW G Q nL cells slots N ad ce (pc) (lv) (.int y :: .int x :: st) :=
  fun H locs ls hP hS hL => lv_idiv C.1 C.2.1 hd hne (k H locs ls hP hS hL)
theorem xw_dup (C : xw_C G cc nL own N ad) {v : Value} (hd : decode cc pc = .ok (.dup, 1)) (hv : v.category = 1)
    (k : XW G Q nL cells slots N ad ce (pc + 1) (lv) (v :: v :: st)) : XW G Q nL cells slots N ad ce (pc) (lv) (v :: st) :=
  fun H locs ls hP hS hL => lv_dup C.1 C.2.1 hd hv (k H locs ls hP hS hL)
theorem xw_pop (C : xw_C G cc nL own N ad) {v : Value} (hd : decode cc pc = .ok (.pop, 1)) (hv : v.category = 1)
    (k : XW G Q nL cells slots N ad ce (pc + 1) (lv) (st)) : XW G Q nL cells slots N ad ce (pc) (lv) (v :: st) :=
  fun H locs ls hP hS hL => lv_pop C.1 C.2.1 hd hv (k H locs ls hP hS hL)
theorem xw_goto (C : xw_C G cc nL own N ad) {off : Int} {tgt : Nat} (hd : decode cc pc = .ok (.goto off, 3)) (ht : (pc : Int) + off = (tgt : Int))
    (k : XW G Q nL cells slots N ad ce (tgt) (lv) (st)) : XW G Q nL cells slots N ad ce (pc) (lv) (st) :=
  fun H locs ls hP hS hL => lv_goto C.1 C.2.1 hd ht (k H locs ls hP hS hL)
theorem xw_if_eq (C : xw_C G cc nL own N ad) {x : Int32} {off : Int} {tgt : Nat} (hd : decode cc pc = .ok (.ifCond .eq off, 3)) (ht : (pc : Int) + off = (tgt : Int))
    (kt : x = 0 → XW G Q nL cells slots N ad ce (tgt) (lv) (st)) (kf : ¬ x = 0 → XW G Q nL cells slots N ad ce (pc + 3) (lv) (st)) : XW G Q nL cells slots N ad ce (pc) (lv) (.int x :: st) :=
  fun H locs ls hP hS hL => lv_if_eq C.1 C.2.1 hd ht (fun q => kt q H locs ls hP hS hL) (fun q => kf q H locs ls hP hS hL)
theorem xw_icmp_eq (C : xw_C G cc nL own N ad) {x y : Int32} {off : Int} {tgt : Nat} (hd : decode cc pc = .ok (.if_icmp .eq off, 3)) (ht : (pc : Int) + off = (tgt : Int))
    (kt : x = y → XW G Q nL cells slots N ad ce (tgt) (lv) (st)) (kf : ¬ x = y → XW G Q nL cells slots N ad ce (pc + 3) (lv) (st)) : XW G Q nL cells slots N ad ce (pc) (lv) (.int y :: .int x :: st) :=
  fun H locs ls hP hS hL => lv_icmp_eq C.1 C.2.1 hd ht (fun q => kt q H locs ls hP hS hL) (fun q => kf q H locs ls hP hS hL)
theorem xw_if_ne (C : xw_C G cc nL own N ad) {x : Int32} {off : Int} {tgt : Nat} (hd : decode cc pc = .ok (.ifCond .ne off, 3)) (ht : (pc : Int) + off = (tgt : Int))
    (kt : ¬ x = 0 → XW G Q nL cells slots N ad ce (tgt) (lv) (st)) (kf : x = 0 → XW G Q nL cells slots N ad ce (pc + 3) (lv) (st)) : XW G Q nL cells slots N ad ce (pc) (lv) (.int x :: st) :=
  fun H locs ls hP hS hL => lv_if_ne C.1 C.2.1 hd ht (fun q => kt q H locs ls hP hS hL) (fun q => kf q H locs ls hP hS hL)
theorem xw_icmp_ne (C : xw_C G cc nL own N ad) {x y : Int32} {off : Int} {tgt : Nat} (hd : decode cc pc = .ok (.if_icmp .ne off, 3)) (ht : (pc : Int) + off = (tgt : Int))
    (kt : ¬ x = y → XW G Q nL cells slots N ad ce (tgt) (lv) (st)) (kf : x = y → XW G Q nL cells slots N ad ce (pc + 3) (lv) (st)) : XW G Q nL cells slots N ad ce (pc) (lv) (.int y :: .int x :: st) :=
  fun H locs ls hP hS hL => lv_icmp_ne C.1 C.2.1 hd ht (fun q => kt q H locs ls hP hS hL) (fun q => kf q H locs ls hP hS hL)
theorem xw_if_lt (C : xw_C G cc nL own N ad) {x : Int32} {off : Int} {tgt : Nat} (hd : decode cc pc = .ok (.ifCond .lt off, 3)) (ht : (pc : Int) + off = (tgt : Int))
    (kt : x < 0 → XW G Q nL cells slots N ad ce (tgt) (lv) (st)) (kf : ¬ x < 0 → XW G Q nL cells slots N ad ce (pc + 3) (lv) (st)) : XW G Q nL cells slots N ad ce (pc) (lv) (.int x :: st) :=
  fun H locs ls hP hS hL => lv_if_lt C.1 C.2.1 hd ht (fun q => kt q H locs ls hP hS hL) (fun q => kf q H locs ls hP hS hL)
theorem xw_icmp_lt (C : xw_C G cc nL own N ad) {x y : Int32} {off : Int} {tgt : Nat} (hd : decode cc pc = .ok (.if_icmp .lt off, 3)) (ht : (pc : Int) + off = (tgt : Int))
    (kt : x < y → XW G Q nL cells slots N ad ce (tgt) (lv) (st)) (kf : ¬ x < y → XW G Q nL cells slots N ad ce (pc + 3) (lv) (st)) : XW G Q nL cells slots N ad ce (pc) (lv) (.int y :: .int x :: st) :=
  fun H locs ls hP hS hL => lv_icmp_lt C.1 C.2.1 hd ht (fun q => kt q H locs ls hP hS hL) (fun q => kf q H locs ls hP hS hL)
theorem xw_if_ge (C : xw_C G cc nL own N ad) {x : Int32} {off : Int} {tgt : Nat} (hd : decode cc pc = .ok (.ifCond .ge off, 3)) (ht : (pc : Int) + off = (tgt : Int))
    (kt : 0 ≤ x → XW G Q nL cells slots N ad ce (tgt) (lv) (st)) (kf : ¬ 0 ≤ x → XW G Q nL cells slots N ad ce (pc + 3) (lv) (st)) : XW G Q nL cells slots N ad ce (pc) (lv) (.int x :: st) :=
  fun H locs ls hP hS hL => lv_if_ge C.1 C.2.1 hd ht (fun q => kt q H locs ls hP hS hL) (fun q => kf q H locs ls hP hS hL)
theorem xw_icmp_ge (C : xw_C G cc nL own N ad) {x y : Int32} {off : Int} {tgt : Nat} (hd : decode cc pc = .ok (.if_icmp .ge off, 3)) (ht : (pc : Int) + off = (tgt : Int))
    (kt : y ≤ x → XW G Q nL cells slots N ad ce (tgt) (lv) (st)) (kf : ¬ y ≤ x → XW G Q nL cells slots N ad ce (pc + 3) (lv) (st)) : XW G Q nL cells slots N ad ce (pc) (lv) (.int y :: .int x :: st) :=
  fun H locs ls hP hS hL => lv_icmp_ge C.1 C.2.1 hd ht (fun q => kt q H locs ls hP hS hL) (fun q => kf q H locs ls hP hS hL)
theorem xw_if_gt (C : xw_C G cc nL own N ad) {x : Int32} {off : Int} {tgt : Nat} (hd : decode cc pc = .ok (.ifCond .gt off, 3)) (ht : (pc : Int) + off = (tgt : Int))
    (kt : 0 < x → XW G Q nL cells slots N ad ce (tgt) (lv) (st)) (kf : ¬ 0 < x → XW G Q nL cells slots N ad ce (pc + 3) (lv) (st)) : XW G Q nL cells slots N ad ce (pc) (lv) (.int x :: st) :=
  fun H locs ls hP hS hL => lv_if_gt C.1 C.2.1 hd ht (fun q => kt q H locs ls hP hS hL) (fun q => kf q H locs ls hP hS hL)
theorem xw_icmp_gt (C : xw_C G cc nL own N ad) {x y : Int32} {off : Int} {tgt : Nat} (hd : decode cc pc = .ok (.if_icmp .gt off, 3)) (ht : (pc : Int) + off = (tgt : Int))
    (kt : y < x → XW G Q nL cells slots N ad ce (tgt) (lv) (st)) (kf : ¬ y < x → XW G Q nL cells slots N ad ce (pc + 3) (lv) (st)) : XW G Q nL cells slots N ad ce (pc) (lv) (.int y :: .int x :: st) :=
  fun H locs ls hP hS hL => lv_icmp_gt C.1 C.2.1 hd ht (fun q => kt q H locs ls hP hS hL) (fun q => kf q H locs ls hP hS hL)
theorem xw_if_le (C : xw_C G cc nL own N ad) {x : Int32} {off : Int} {tgt : Nat} (hd : decode cc pc = .ok (.ifCond .le off, 3)) (ht : (pc : Int) + off = (tgt : Int))
    (kt : x ≤ 0 → XW G Q nL cells slots N ad ce (tgt) (lv) (st)) (kf : ¬ x ≤ 0 → XW G Q nL cells slots N ad ce (pc + 3) (lv) (st)) : XW G Q nL cells slots N ad ce (pc) (lv) (.int x :: st) :=
  fun H locs ls hP hS hL => lv_if_le C.1 C.2.1 hd ht (fun q => kt q H locs ls hP hS hL) (fun q => kf q H locs ls hP hS hL)
theorem xw_icmp_le (C : xw_C G cc nL own N ad) {x y : Int32} {off : Int} {tgt : Nat} (hd : decode cc pc = .ok (.if_icmp .le off, 3)) (ht : (pc : Int) + off = (tgt : Int))
    (kt : x ≤ y → XW G Q nL cells slots N ad ce (tgt) (lv) (st)) (kf : ¬ x ≤ y → XW G Q nL cells slots N ad ce (pc + 3) (lv) (st)) : XW G Q nL cells slots N ad ce (pc) (lv) (.int y :: .int x :: st) :=
  fun H locs ls hP hS hL => lv_icmp_le C.1 C.2.1 hd ht (fun q => kt q H locs ls hP hS hL) (fun q => kf q H locs ls hP hS hL)
/-! cells -/
theorem xw_getf (C : xw_C G cc nL own N ad) {k9 ci NF index : Nat} {Cn : String} {T : u_T} {fs : List Value} (hk : k9 < N) (he : ce k9 = .inr (ci, fs)) (hc : vwCl[ci]? = some (Cn, T, NF)) (hin : ∀ w ∈ u_ws Cn T NF, w ∈ xw_big) (j : Nat) (hj : j < NF) (hw : Cond.fieldLink own index (T j).1 (T j).2.1 (T j).2.2.1 ∈ xw_big) {v : Value} (hv : fs[j]? = some v) (hd : decode cc pc = .ok (.getfield index, 3))
    (k : XW G Q nL cells slots N ad ce (pc + 3) (lv) (v :: st)) : XW G Q nL cells slots N ad ce (pc) (lv) (.ref (ad k9) :: st) :=
  fun H locs ls hP hS hL => va_get C.1 C.2.1 C.2.2.2.2.1 hin C.2.2.2.1 C.2.2.2.2.2.1 hP k9 (by rw [xw_at hk, he]) hc j hj (C.2.2.2.2.1 _ hw) (fun _ h => h) hv hd (k H locs ls hP hS hL)
theorem xw_putf (C : xw_C G cc nL own N ad) {k9 ci NF index : Nat} {Cn : String} {T : u_T} {fs fs' : List Value} (hk : k9 < N) (he : ce k9 = .inr (ci, fs)) (hc : vwCl[ci]? = some (Cn, T, NF)) (hin : ∀ w ∈ u_ws Cn T NF, w ∈ xw_big) (ty0 : Nat → FieldType) (hty : ∀ k, k < NF → parseFieldDescriptor (T k).2.2.1 = some (ty0 k)) (hnm : ∀ a, a < NF → ∀ b, b < NF → a ≠ b → (T a).2.1 ≠ (T b).2.1) (j : Nat) (hj : j < NF) (hw : Cond.fieldLink own index (T j).1 (T j).2.1 (T j).2.2.1 ∈ xw_big) (hfin : (T j).2.2.2 = false) {x : Int32} (hty1 : ty0 j = .int) (hl : j < fs.length) (hfs : fs.set j (.int x) = fs') (hd : decode cc pc = .ok (.putfield index, 3))
    (k : XW G Q nL cells slots N ad (va_up ce k9 (.inr (ci, fs'))) (pc + 3) (lv) (st)) : XW G Q nL cells slots N ad ce (pc) (lv) (.int x :: .ref (ad k9) :: st) := by
  intro H locs ls hP hS hL
  subst hfs
  refine va_put (ty := .int) C.1 C.2.1 C.2.2.2.2.1 hin ty0 hty hnm C.2.2.2.1 C.2.2.2.2.2.1 hP (xw_D C.2.2.2.2.2.2.2.2.1 ce) hS k9 (by rw [xw_at hk, he]) hc j hj (C.2.2.2.2.1 _ hw) (fun _ h => h) hfin (by rw [hty j hj, hty1]) rfl rfl hl hd (fun H1 locs1 hP1 hD1 hS1 => ?_)
  rw [xw_set] at hP1
  exact k H1 locs1 ls hP1 hS1 hL
theorem xw_iald (C : xw_C G cc nL own N ad) {k9 t0 n : Nat} {cA : ClassId} {f : Nat → Int32} {i : Int32} (hk : k9 < N) (he : ce k9 = .inl (cA, n, .inl f)) (ht : (xgt G)[t0]? = some (cA, .int)) (hi : vp_in i n) (hd : decode cc pc = .ok (.iaload, 1))
    (k : XW G Q nL cells slots N ad ce (pc + 1) (lv) (.int (f i.toNatClampNeg) :: st)) : XW G Q nL cells slots N ad ce (pc) (lv) (.int i :: .ref (ad k9) :: st) :=
  fun H locs ls hP hS hL => va_iald C.1 C.2.1 C.2.2.2.2.2.1 hP k9 t0 (by rw [xw_at hk, he]) ht hi hd (k H locs ls hP hS hL)
theorem xw_iast (C : xw_C G cc nL own N ad) {k9 t0 n : Nat} {cA : ClassId} {f : Nat → Int32} {i x : Int32} (hk : k9 < N) (he : ce k9 = .inl (cA, n, .inl f)) (ht : (xgt G)[t0]? = some (cA, .int)) (hi : vp_in i n) (hd : decode cc pc = .ok (.iastore, 1))
    (k : XW G Q nL cells slots N ad (va_up ce k9 (.inl (cA, n, .inl (upd f i.toNatClampNeg x)))) (pc + 1) (lv) (st)) : XW G Q nL cells slots N ad ce (pc) (lv) (.int x :: .int i :: .ref (ad k9) :: st) := by
  intro H locs ls hP hS hL
  refine va_iast C.1 C.2.1 C.2.2.2.2.2.1 hP (xw_D C.2.2.2.2.2.2.2.2.1 ce) hS k9 t0 (by rw [xw_at hk, he]) ht hi hd (fun H1 locs1 hP1 hD1 hS1 => ?_)
  rw [xw_set] at hP1
  exact k H1 locs1 ls hP1 hS1 hL
theorem xw_aald (C : xw_C G cc nL own N ad) {k9 t0 n : Nat} {cA : ClassId} {ty : FieldType} {f : Nat → Option Nat} {i : Int32} {q : Nat} (hk : k9 < N) (he : ce k9 = .inl (cA, n, .inr (.inr (.inr (.inr f))))) (ht : (xgt G)[t0]? = some (cA, ty)) (hty : ty.isReference = true) (hi : vp_in i n) (hq : f i.toNatClampNeg = some q) (hd : decode cc pc = .ok (.aaload, 1))
    (k : XW G Q nL cells slots N ad ce (pc + 1) (lv) (.ref q :: st)) : XW G Q nL cells slots N ad ce (pc) (lv) (.int i :: .ref (ad k9) :: st) := by
  intro H locs ls hP hS hL
  have hlt : i.toNatClampNeg < n := Nat.not_le.mp fun q => hi (Or.inr q)
  have h0 : va_rf (f i.toNatClampNeg) = .ref q := by rw [hq]; rfl
  have h1 : H[ad k9]? = some (vp_cell cA (n, .inr (.inr (.inr (.inr f))))) := by
    have := hP k9 _ (xw_at hk)
    rw [he] at this
    exact this
  exact W.aald (v := .ref q) (ty := ty) C.1 C.2.1 h1 ((C.2.2.2.2.2.1.2 t0 _ ht).1 n (fun j => va_rf (f j))) hty (fun q => by cases q) (by show ¬ (i < 0 ∨ (arrV _ _ _).slots.size ≤ _); rw [arrV_size]; exact hi) (by show (arrV _ _ _).slots[_]? = _; rw [arrV_read _ _ hlt, h0]) rfl rfl hd (k H locs ls hP hS hL)
theorem xw_eq {pc' : Nat} {lv' : List (Option Value)} {st' : List Value} {ce' : Nat → va_E} (h1 : pc' = pc) (h2 : lv' = lv) (h3 : st' = st) (h4 : ce' = ce) (k : XW G Q nL cells slots N ad ce (pc) (lv) (st)) : XW G Q nL cells slots N ad ce' pc' lv' st' := by
  subst h1; subst h2; subst h3; subst h4; exact k
theorem xw_sub {lv' : List (Option Value)} (h : ∀ (i : Nat) (v : Value), lv[i]? = some (some v) → lv'[i]? = some (some v)) (k : XW G Q nL cells slots N ad ce (pc) (lv) (st)) : XW G Q nL cells slots N ad ce (pc) (lv') (st) :=
  fun H locs ls hP hS hL => k H locs ls hP hS ⟨hL.1, hL.2.1, fun i v hv => hL.2.2 i v (h i v hv)⟩
end XR
end
section
/-! ===== contracts over the world by codes ===== -/
def xw_B (D : va_G) (tys : List (ClassId × FieldType)) (base N : Nat) (ad : Nat → Nat) (ce : Nat → va_E) (U : State) : Prop :=
  base ≤ U.heap.size ∧ va_P D vwCl (xw_wd N ad ce) U.heap ∧ va_K D vwCl tys U
abbrev xk_Pc (D : va_G) (tys : List (ClassId × FieldType)) (base N : Nat) (ad : Nat → Nat) (av : List Value) (ce : Nat → va_E) : Array Value → State → Prop := va_Pc av (fun U => xw_B D tys base N ad ce U ∧ xw_Z base U)
abbrev xk_Qi (D : va_G) (tys : List (ClassId × FieldType)) (base N : Nat) (ad : Nat → Nat) (ce' : Nat → va_E) (r : Int32) : Array Value → State → Outcome → State → Prop := va_Qi (fun (r' : Int32) (_ : Unit) => r' = r) (fun _ t => xw_B D tys base N ad ce' t) (fun q => base ≤ q)
abbrev xk_Qv (D : va_G) (tys : List (ClassId × FieldType)) (base N : Nat) (ad : Nat → Nat) (ce' : Nat → va_E) : Array Value → State → Outcome → State → Prop := va_Qv (fun (_ : Unit) => True) (fun _ t => xw_B D tys base N ad ce' t) (fun q => base ≤ q)
/-- an int method: from ce it comes to ce', the answer is r -/
def xk_i (l : Launch) (y : MethodName) (cc : ByteArray) (nL : Nat) (ret : Option FieldType) (rm : Room) (D : va_G) (tys : List (ClassId × FieldType)) (base N : Nat) (ad : Nat → Nat) (av : List Value) (ce ce' : Nat → va_E) (r : Int32) : Prop :=
  Met l y (Cond.code y cc nL ret :: xw_big) rm (xk_Pc D tys base N ad av ce) (xk_Qi D tys base N ad ce' r) 0 0 (fun q => base ≤ q)
def xk_v (l : Launch) (y : MethodName) (cc : ByteArray) (nL : Nat) (ret : Option FieldType) (rm : Room) (D : va_G) (tys : List (ClassId × FieldType)) (base N : Nat) (ad : Nat → Nat) (av : List Value) (ce ce' : Nat → va_E) : Prop :=
  Met l y (Cond.code y cc nL ret :: xw_big) rm (xk_Pc D tys base N ad av ce) (xk_Qv D tys base N ad ce') 0 0 (fun q => base ≤ q)
/-- methods that may throw: the outcome o is an int (0 of a void one) or the exception's class -/
abbrev xk_XC (D : va_G) (tys : List (ClassId × FieldType)) (base N : Nat) (ad : Nat → Nat) (ce' : Nat → va_E) (o : Int32 ⊕ String) : String → State → State → Prop := vx_X (fun (_ : Unit) => True) (fun E _ t => o = .inr E ∧ xw_B D tys base N ad ce' t) (fun q => base ≤ q)
abbrev xk_Qxi (D : va_G) (tys : List (ClassId × FieldType)) (base N : Nat) (ad : Nat → Nat) (ce' : Nat → va_E) (o : Int32 ⊕ String) : Array Value → State → Outcome → State → Prop := va_Qi (fun (r' : Int32) (_ : Unit) => o = .inl r') (fun _ t => xw_B D tys base N ad ce' t) (fun q => base ≤ q)
abbrev xk_Qxv (D : va_G) (tys : List (ClassId × FieldType)) (base N : Nat) (ad : Nat → Nat) (ce' : Nat → va_E) (o : Int32 ⊕ String) : Array Value → State → Outcome → State → Prop := va_Qv (fun (_ : Unit) => o = .inl 0) (fun _ t => xw_B D tys base N ad ce' t) (fun q => base ≤ q)
def xk_xi (l : Launch) (y : MethodName) (cc : ByteArray) (nL : Nat) (ret : Option FieldType) (rm : Room) (D : va_G) (tys : List (ClassId × FieldType)) (base N : Nat) (ad : Nat → Nat) (av : List Value) (ce ce' : Nat → va_E) (o : Int32 ⊕ String) (mc ms : Nat) : Prop :=
  vx_Met l y (Cond.code y cc nL ret :: xw_big) rm (xk_Pc D tys base N ad av ce) (xk_Qxi D tys base N ad ce' o) (xk_XC D tys base N ad ce' o) mc ms (fun q => base ≤ q)
def xk_xv (l : Launch) (y : MethodName) (cc : ByteArray) (nL : Nat) (ret : Option FieldType) (rm : Room) (D : va_G) (tys : List (ClassId × FieldType)) (base N : Nat) (ad : Nat → Nat) (av : List Value) (ce ce' : Nat → va_E) (o : Int32 ⊕ String) (mc ms : Nat) : Prop :=
  vx_Met l y (Cond.code y cc nL ret :: xw_big) rm (xk_Pc D tys base N ad av ce) (xk_Qxv D tys base N ad ce' o) (xk_XC D tys base N ad ce' o) mc ms (fun q => base ≤ q)
/-! what a body owes at its end -/
abbrev xw_qi (G : xwG) (N : Nat) (ad : Nat → Nat) (ce' : Nat → va_E) (r : Int32) : State → Prop := MQ (xgb G) (xk_Qi (xgD G) (xgt G) (xgB G) N ad ce' r) (xga G) (xgs G) 0 0 (fun q => xgB G ≤ q)
abbrev xw_qv (G : xwG) (N : Nat) (ad : Nat → Nat) (ce' : Nat → va_E) : State → Prop := MQ (xgb G) (xk_Qv (xgD G) (xgt G) (xgB G) N ad ce') (xga G) (xgs G) 0 0 (fun q => xgB G ≤ q)
abbrev xw_qxi (G : xwG) (N : Nat) (ad : Nat → Nat) (ce' : Nat → va_E) (o : Int32 ⊕ String) (mc ms : Nat) : State → Prop := vx_MQ (xgb G) (xk_Qxi (xgD G) (xgt G) (xgB G) N ad ce' o) (xk_XC (xgD G) (xgt G) (xgB G) N ad ce' o) (xga G) (xgs G) mc ms (fun q => xgB G ≤ q)
abbrev xw_qxv (G : xwG) (N : Nat) (ad : Nat → Nat) (ce' : Nat → va_E) (o : Int32 ⊕ String) (mc ms : Nat) : State → Prop := vx_MQ (xgb G) (xk_Qxv (xgD G) (xgt G) (xgB G) N ad ce' o) (xk_XC (xgD G) (xgt G) (xgB G) N ad ce' o) (xga G) (xgs G) mc ms (fun q => xgB G ≤ q)
section XE
variable {l : Launch} {y : MethodName} {cc : ByteArray} {nL : Nat} {ret : Option FieldType} {rm : Room} {D : va_G} {tys : List (ClassId × FieldType)} {base N : Nat} {ad : Nat → Nat} {av : List Value} {ce ce' : Nat → va_E} {r : Int32} {o : Int32 ⊕ String} {mc ms : Nat}
theorem xk_ofi (q : Nat) (hy : plainName y.cls = true) (hJ : xw_J N ad base) (hc : ∀ v ∈ av, v.category = 1) (hlen : (lg_sl av).length ≤ nL)
    (body : ∀ G : xwG, xgl G = l → xgR G = rm → xgD G = D → xgt G = tys → xgB G = base → (xgM G).sig.returnType = ret → xw_C G cc nL y.cls N ad → XW G (xw_qi G N ad ce' r) nL 0 0 N ad ce 0 (av.map some ++ List.replicate q none) []) : xk_i l y cc nL ret rm D tys base N ad av ce ce' r := by
  refine Met.ofW (cc := cc) (maxL := nL) (ret := ret) hy rfl ?_
  intro p e s m args below meth c s₁ B hml hv
  obtain ⟨rfl, ⟨hb0, hP, hK⟩, hZ⟩ := hv
  have h := body (p, l, e, rm, s, m, av.toArray, below, meth, c, D, tys, base) rfl rfl rfl rfl rfl B.returns ⟨B.exec, B.bytes, hml, findClass_of_methodNamed B.named, fun w hw => atoms_spec B.pre w (List.mem_cons_of_mem _ hw), hK, hb0, B.notSynchronized, hJ, hZ⟩
  rw [lg_entry_eq]
  exact h s.heap [] _ hP va_S.rf (xw_entry av q hlen hc)
theorem xk_ofv (q : Nat) (hy : plainName y.cls = true) (hJ : xw_J N ad base) (hc : ∀ v ∈ av, v.category = 1) (hlen : (lg_sl av).length ≤ nL)
    (body : ∀ G : xwG, xgl G = l → xgR G = rm → xgD G = D → xgt G = tys → xgB G = base → (xgM G).sig.returnType = ret → xw_C G cc nL y.cls N ad → XW G (xw_qv G N ad ce') nL 0 0 N ad ce 0 (av.map some ++ List.replicate q none) []) : xk_v l y cc nL ret rm D tys base N ad av ce ce' := by
  refine Met.ofW (cc := cc) (maxL := nL) (ret := ret) hy rfl ?_
  intro p e s m args below meth c s₁ B hml hv
  obtain ⟨rfl, ⟨hb0, hP, hK⟩, hZ⟩ := hv
  have h := body (p, l, e, rm, s, m, av.toArray, below, meth, c, D, tys, base) rfl rfl rfl rfl rfl B.returns ⟨B.exec, B.bytes, hml, findClass_of_methodNamed B.named, fun w hw => atoms_spec B.pre w (List.mem_cons_of_mem _ hw), hK, hb0, B.notSynchronized, hJ, hZ⟩
  rw [lg_entry_eq]
  exact h s.heap [] _ hP va_S.rf (xw_entry av q hlen hc)
theorem xk_ofxi (q : Nat) (hy : plainName y.cls = true) (hJ : xw_J N ad base) (hc : ∀ v ∈ av, v.category = 1) (hlen : (lg_sl av).length ≤ nL)
    (body : ∀ G : xwG, xgl G = l → xgR G = rm → xgD G = D → xgt G = tys → xgB G = base → (xgM G).sig.returnType = ret → (∀ x ∈ (xgc G).exceptionTable.toList, False) → xw_C G cc nL y.cls N ad → XW G (xw_qxi G N ad ce' o mc ms) nL 0 0 N ad ce 0 (av.map some ++ List.replicate q none) []) : xk_xi l y cc nL ret rm D tys base N ad av ce ce' o mc ms := by
  refine vx_ofW (cc := cc) (maxL := nL) (ret := ret) hy rfl ?_
  intro p e s m args below meth c s₁ B hml hE hv
  obtain ⟨rfl, ⟨hb0, hP, hK⟩, hZ⟩ := hv
  have h := body (p, l, e, rm, s, m, av.toArray, below, meth, c, D, tys, base) rfl rfl rfl rfl rfl B.returns hE ⟨B.exec, B.bytes, hml, findClass_of_methodNamed B.named, fun w hw => atoms_spec B.pre w (List.mem_cons_of_mem _ hw), hK, hb0, B.notSynchronized, hJ, hZ⟩
  rw [lg_entry_eq]
  exact h s.heap [] _ hP va_S.rf (xw_entry av q hlen hc)
theorem xk_ofxv (q : Nat) (hy : plainName y.cls = true) (hJ : xw_J N ad base) (hc : ∀ v ∈ av, v.category = 1) (hlen : (lg_sl av).length ≤ nL)
    (body : ∀ G : xwG, xgl G = l → xgR G = rm → xgD G = D → xgt G = tys → xgB G = base → (xgM G).sig.returnType = ret → (∀ x ∈ (xgc G).exceptionTable.toList, False) → xw_C G cc nL y.cls N ad → XW G (xw_qxv G N ad ce' o mc ms) nL 0 0 N ad ce 0 (av.map some ++ List.replicate q none) []) : xk_xv l y cc nL ret rm D tys base N ad av ce ce' o mc ms := by
  refine vx_ofW (cc := cc) (maxL := nL) (ret := ret) hy rfl ?_
  intro p e s m args below meth c s₁ B hml hE hv
  obtain ⟨rfl, ⟨hb0, hP, hK⟩, hZ⟩ := hv
  have h := body (p, l, e, rm, s, m, av.toArray, below, meth, c, D, tys, base) rfl rfl rfl rfl rfl B.returns hE ⟨B.exec, B.bytes, hml, findClass_of_methodNamed B.named, fun w hw => atoms_spec B.pre w (List.mem_cons_of_mem _ hw), hK, hb0, B.notSynchronized, hJ, hZ⟩
  rw [lg_entry_eq]
  exact h s.heap [] _ hP va_S.rf (xw_entry av q hlen hc)
end XE
section XF
variable {G : xwG} {Q : State → Prop} {cc : ByteArray} {own : String} {nL cells slots N : Nat} {ad : Nat → Nat} {ce : Nat → va_E} {pc : Nat} {lv : List (Option Value)} {st : List Value}
theorem xw_Bof (C : xw_C G cc nL own N ad) {H : Heap} {locs : List Loc} (hP : va_P (xgD G) vwCl (xw_wd N ad ce) H) (hS : va_S (fun q => xgB G ≤ q) (xgs G).heap H locs) {t : State} (ht : t.heap = H) (hW : (xgs G).vm.Alike t.vm) : xw_B (xgD G) (xgt G) (xgB G) N ad ce t :=
  ⟨by rw [ht]; exact Nat.le_trans C.2.2.2.2.2.2.1 hS.1, by rw [ht]; exact hP, va_K.moved hW C.2.2.2.2.2.1⟩
theorem xw_reti (C : xw_C G cc nL own N ad) (hr : (xgM G).sig.returnType = some .int) {v : Int32} (hd : decode cc pc = .ok (.ireturn, 1)) : XW G (xw_qi G N ad ce v) nL 0 0 N ad ce pc lv [.int v] :=
  fun H locs ls hP hS hL => W.iret C.1 C.2.1 hr (fun t ht hW => ⟨⟨v, (), rfl, rfl, xw_Bof C hP hS ht hW.alike⟩, hS.F ht⟩) hS.2.2 hd C.2.2.2.2.2.2.2.1
theorem xw_retz (C : xw_C G cc nL own N ad) (hr : (xgM G).sig.returnType = some .boolean) {v : Int32} (hz : v = 0 ∨ v = 1) (hd : decode cc pc = .ok (.ireturn, 1)) : XW G (xw_qi G N ad ce v) nL 0 0 N ad ce pc lv [.int v] :=
  fun H locs ls hP hS hL => W.zret C.1 C.2.1 hr (by rcases hz with rfl | rfl <;> decide) (fun t ht hW => ⟨⟨v, (), rfl, rfl, xw_Bof C hP hS ht hW.alike⟩, hS.F ht⟩) hS.2.2 hd C.2.2.2.2.2.2.2.1
theorem xw_retv (C : xw_C G cc nL own N ad) (hr : (xgM G).sig.returnType = none) (hd : decode cc pc = .ok (.return_, 1)) : XW G (xw_qv G N ad ce) nL 0 0 N ad ce pc lv [] :=
  fun H locs ls hP hS hL => W.vret C.1 C.2.1 hr (fun t ht hW => ⟨⟨(), rfl, trivial, xw_Bof C hP hS ht hW.alike⟩, hS.F ht⟩) hS.2.2 hd C.2.2.2.2.2.2.2.1
theorem xw_retxi (C : xw_C G cc nL own N ad) (hr : (xgM G).sig.returnType = some .int) {v : Int32} {mc ms : Nat} (hc : cells ≤ mc) (hs : slots ≤ ms) (hd : decode cc pc = .ok (.ireturn, 1)) : XW G (xw_qxi G N ad ce (.inl v) mc ms) nL cells slots N ad ce pc lv [.int v] :=
  fun H locs ls hP hS hL => W.widen hc hs (vx_ret (W.iret C.1 C.2.1 hr (fun t ht hW => ⟨⟨v, (), rfl, rfl, xw_Bof C hP hS ht hW.alike⟩, hS.F ht⟩) hS.2.2 hd C.2.2.2.2.2.2.2.1))
theorem xw_retxz (C : xw_C G cc nL own N ad) (hr : (xgM G).sig.returnType = some .boolean) {v : Int32} {mc ms : Nat} (hz : v = 0 ∨ v = 1) (hc : cells ≤ mc) (hs : slots ≤ ms) (hd : decode cc pc = .ok (.ireturn, 1)) : XW G (xw_qxi G N ad ce (.inl v) mc ms) nL cells slots N ad ce pc lv [.int v] :=
  fun H locs ls hP hS hL => W.widen hc hs (vx_ret (W.zret C.1 C.2.1 hr (by rcases hz with rfl | rfl <;> decide) (fun t ht hW => ⟨⟨v, (), rfl, rfl, xw_Bof C hP hS ht hW.alike⟩, hS.F ht⟩) hS.2.2 hd C.2.2.2.2.2.2.2.1))
theorem xw_retxv (C : xw_C G cc nL own N ad) (hr : (xgM G).sig.returnType = none) {mc ms : Nat} (hc : cells ≤ mc) (hs : slots ≤ ms) (hd : decode cc pc = .ok (.return_, 1)) : XW G (xw_qxv G N ad ce (.inl 0) mc ms) nL cells slots N ad ce pc lv [] :=
  fun H locs ls hP hS hL => W.widen hc hs (vx_ret (W.vret C.1 C.2.1 hr (fun t ht hW => ⟨⟨(), rfl, rfl, xw_Bof C hP hS ht hW.alike⟩, hS.F ht⟩) hS.2.2 hd C.2.2.2.2.2.2.2.1))
/-! calls -/
def xf_V (y : MethodName) (cc' : ByteArray) (nL' : Nat) (ret' : Option FieldType) (Cn : String) (n : Nat) : Prop :=
  Cond.instanceMethod y ∈ xw_big ∧ Cond.selects Cn y y ∈ xw_big ∧ Cond.initialized Cn ∈ xw_big ∧ Cond.code y cc' nL' ret' ∈ xw_big ∧ y.cls = Cn ∧ y.cls ≠ "java/lang/invoke/MethodHandle" ∧ y.cls ≠ "java/lang/invoke/VarHandle" ∧ (parseMethodDescriptor y.desc).map (fun d => d.parameters.length) = some n
def xf_S (y : MethodName) (cc' : ByteArray) (nL' : Nat) (ret' : Option FieldType) (n : Nat) : Prop :=
  Cond.static y ∈ xw_big ∧ Cond.initialized y.cls ∈ xw_big ∧ Cond.code y cc' nL' ret' ∈ xw_big ∧ y.cls ≠ "java/lang/invoke/MethodHandle" ∧ y.cls ≠ "java/lang/invoke/VarHandle" ∧ (parseMethodDescriptor y.desc).map (fun d => d.parameters.length) = some n
variable {y : MethodName} {cc' : ByteArray} {nL' : Nat} {ret' : Option FieldType} {rm' : Room} {As : List Value} {ce' : Nat → va_E} {r : Int32} {k9 ci NF index n mc ms : Nat} {Cn : String} {T : u_T} {fs : List Value} {o : Int32 ⊕ String}
theorem xf_gV (F : xf_V y cc' nL' ret' Cn n) (hl : Cond.methodLink own index y ∈ xw_big) : GoodIn xw_big (wsV own index Cn y (Cond.code y cc' nL' ret' :: xw_big)) := xw_gs (fun w hw => by
  unfold wsV at hw
  rcases List.mem_append.mp hw with h | h
  · simp only [List.mem_cons, List.not_mem_nil, or_false] at h
    rcases h with rfl | rfl | rfl | rfl
    · exact hl
    · exact F.1
    · exact F.2.1
    · exact F.2.2.1
  · exact xw_gcode F.2.2.2.1 w h)
theorem xf_gS (F : xf_S y cc' nL' ret' n) (hl : Cond.methodLink own index y ∈ xw_big) : GoodIn xw_big (va_wsS own index y (Cond.code y cc' nL' ret' :: xw_big)) := xw_gs (fun w hw => by
  unfold va_wsS at hw
  rcases List.mem_append.mp hw with h | h
  · simp only [List.mem_cons, List.not_mem_nil, or_false] at h
    rcases h with rfl | rfl | rfl
    · exact hl
    · exact F.1
    · exact F.2.1
  · exact xw_gcode F.2.2.1 w h)
theorem xf_blind {D : va_G} {tys : List (ClassId × FieldType)} {base : Nat} {av : List Value} : FrameBlind (xk_Pc D tys base N ad av ce) := fun a U g mk q => by
  obtain ⟨q0, ⟨q1, q2, q3⟩, q4⟩ := q
  exact ⟨q0, ⟨q1, q2, va_K.moved (u := U) (U := U.calling g mk a) (Vm.Alike.refl U.vm) q3⟩, xw_Z.go (U := U.calling g mk a) (State.WarmedH.refl U) (fun _ _ _ => rfl) q4⟩
theorem xf_pre (C : xw_C G cc nL own N ad) {av : List Value} {H : Heap} {locs : List Loc} (hP : va_P (xgD G) vwCl (xw_wd N ad ce) H) (hS : va_S (fun q => xgB G ≤ q) (xgs G).heap H locs) : ∀ U : State, U.heap = H → (xgs G).WarmedH U.vm → xk_Pc (xgD G) (xgt G) (xgB G) N ad av ce av.toArray U := fun U hU hW =>
  ⟨rfl, xw_Bof C hP hS hU hW.alike, xw_Z.go hW (fun a h1 h2 => by rw [hU]; exact hS.2.1 a h1 h2) C.2.2.2.2.2.2.2.2.2⟩
/-- the callee's room fits ours -/
abbrev xf_R (rm' : Room) (nL' : Nat) (R : Room) (mc ms : Nat) : Prop := rm'.cells = mc ∧ rm'.slots = ms ∧ rm'.frames + 1 ≤ R.frames ∧ 8 + (nL' + 11) + rm'.locals ≤ R.locals
theorem xw_callVi (C : xw_C G cc nL own N ad) (hM : xk_i (xgl G) y cc' nL' ret' rm' (xgD G) (xgt G) (xgB G) N ad (.ref (ad k9) :: As) ce ce' r) (F : xf_V y cc' nL' ret' Cn n) (hl : Cond.methodLink own index y ∈ xw_big) (hk : k9 < N) (he : ce k9 = .inr (ci, fs)) (hc : vwCl[ci]? = some (Cn, T, NF)) (hR : xf_R rm' nL' (xgR G) 0 0) (hcs : cells ≤ (xgR G).cells ∧ slots ≤ (xgR G).slots) (hn : As.length = n) (hst : (st.map fun v => v.category).sum ≤ 8) (hd : decode cc pc = .ok (.invokevirtual index, 3))
    (k : XW G Q nL cells slots N ad ce' (pc + 3) lv (.int r :: st)) : XW G Q nL cells slots N ad ce pc lv (As.reverse ++ .ref (ad k9) :: st) := by
  intro H locs ls hP hS hL
  refine va_calli (va_runV (As := As) (rest := st) ⟨C.1, C.2.1, C.2.2.1, C.2.2.2.1, C.2.2.2.2.1⟩ hM (cwV n C.2.2.2.2.1 (xf_gV F hl) rfl hR.1 hR.2.1 F.2.2.2.2 ⟨hR.2.2.1, hR.2.2.2⟩) ⟨xf_blind, va_recv C.2.2.2.2.2.1 hP hc (by rw [xw_at hk, he]), xf_pre C hP hS⟩ rfl hn hL.1 rfl (lv_room hst) hd hcs) hS (fun q _ h => h) (fun q h => h) (fun r' u t H1 locs1 ht hvm hw hB hz hk1 hS1 => ?_)
  subst hw
  exact k H1 locs1 ls (by rw [← ht]; exact hB.2.1) hS1 hL
theorem xw_callVv (C : xw_C G cc nL own N ad) (hM : xk_v (xgl G) y cc' nL' ret' rm' (xgD G) (xgt G) (xgB G) N ad (.ref (ad k9) :: As) ce ce') (F : xf_V y cc' nL' ret' Cn n) (hl : Cond.methodLink own index y ∈ xw_big) (hk : k9 < N) (he : ce k9 = .inr (ci, fs)) (hc : vwCl[ci]? = some (Cn, T, NF)) (hR : xf_R rm' nL' (xgR G) 0 0) (hcs : cells ≤ (xgR G).cells ∧ slots ≤ (xgR G).slots) (hn : As.length = n) (hst : (st.map fun v => v.category).sum ≤ 8) (hd : decode cc pc = .ok (.invokevirtual index, 3))
    (k : XW G Q nL cells slots N ad ce' (pc + 3) lv st) : XW G Q nL cells slots N ad ce pc lv (As.reverse ++ .ref (ad k9) :: st) := by
  intro H locs ls hP hS hL
  refine va_callv (va_runV (As := As) (rest := st) ⟨C.1, C.2.1, C.2.2.1, C.2.2.2.1, C.2.2.2.2.1⟩ hM (cwV n C.2.2.2.2.1 (xf_gV F hl) rfl hR.1 hR.2.1 F.2.2.2.2 ⟨hR.2.2.1, hR.2.2.2⟩) ⟨xf_blind, va_recv C.2.2.2.2.2.1 hP hc (by rw [xw_at hk, he]), xf_pre C hP hS⟩ rfl hn hL.1 rfl (lv_room hst) hd hcs) hS (fun q _ h => h) (fun q h => h) (fun u t H1 locs1 ht hvm hw hB hz hk1 hS1 => ?_)
  exact k H1 locs1 ls (by rw [← ht]; exact hB.2.1) hS1 hL
theorem xw_callSi (C : xw_C G cc nL own N ad) (hM : xk_i (xgl G) y cc' nL' ret' rm' (xgD G) (xgt G) (xgB G) N ad As ce ce' r) (F : xf_S y cc' nL' ret' n) (hl : Cond.methodLink own index y ∈ xw_big) (hR : xf_R rm' nL' (xgR G) 0 0) (hcs : cells ≤ (xgR G).cells ∧ slots ≤ (xgR G).slots) (hn : As.length = n) (hst : (st.map fun v => v.category).sum ≤ 8) (hd : decode cc pc = .ok (.invokestatic index, 3))
    (k : XW G Q nL cells slots N ad ce' (pc + 3) lv (.int r :: st)) : XW G Q nL cells slots N ad ce pc lv (As.reverse ++ st) := by
  intro H locs ls hP hS hL
  refine va_calli (va_runS (As := As) (rest := st) ⟨C.1, C.2.1, C.2.2.1, C.2.2.2.1, C.2.2.2.2.1⟩ hM (va_cwS n C.2.2.2.2.1 (xf_gS F hl) rfl hR.1 hR.2.1 F.2.2.2 ⟨hR.2.2.1, hR.2.2.2⟩) ⟨xf_blind, xf_pre C hP hS⟩ rfl hn hL.1 rfl (lv_room hst) hd hcs) hS (fun q _ h => h) (fun q h => h) (fun r' u t H1 locs1 ht hvm hw hB hz hk1 hS1 => ?_)
  subst hw
  exact k H1 locs1 ls (by rw [← ht]; exact hB.2.1) hS1 hL
theorem xw_callSv (C : xw_C G cc nL own N ad) (hM : xk_v (xgl G) y cc' nL' ret' rm' (xgD G) (xgt G) (xgB G) N ad As ce ce') (F : xf_S y cc' nL' ret' n) (hl : Cond.methodLink own index y ∈ xw_big) (hR : xf_R rm' nL' (xgR G) 0 0) (hcs : cells ≤ (xgR G).cells ∧ slots ≤ (xgR G).slots) (hn : As.length = n) (hst : (st.map fun v => v.category).sum ≤ 8) (hd : decode cc pc = .ok (.invokestatic index, 3))
    (k : XW G Q nL cells slots N ad ce' (pc + 3) lv st) : XW G Q nL cells slots N ad ce pc lv (As.reverse ++ st) := by
  intro H locs ls hP hS hL
  refine va_callv (va_runS (As := As) (rest := st) ⟨C.1, C.2.1, C.2.2.1, C.2.2.2.1, C.2.2.2.2.1⟩ hM (va_cwS n C.2.2.2.2.1 (xf_gS F hl) rfl hR.1 hR.2.1 F.2.2.2 ⟨hR.2.2.1, hR.2.2.2⟩) ⟨xf_blind, xf_pre C hP hS⟩ rfl hn hL.1 rfl (lv_room hst) hd hcs) hS (fun q _ h => h) (fun q h => h) (fun u t H1 locs1 ht hvm hw hB hz hk1 hS1 => ?_)
  exact k H1 locs1 ls (by rw [← ht]; exact hB.2.1) hS1 hL
/-- a private static method of a nest mate -/
theorem xw_callNi {host : String} (C : xw_C G cc nL own N ad) (hM : xk_i (xgl G) y cc' nL' ret' rm' (xgD G) (xgt G) (xgB G) N ad As ce ce' r) (F : xf_S y cc' nL' ret' n) (hl : va_Nw (.methodLinkNest own index y host) (xgs G)) (hR : xf_R rm' nL' (xgR G) 0 0) (hcs : cells ≤ (xgR G).cells ∧ slots ≤ (xgR G).slots) (hn : As.length = n) (hst : (st.map fun v => v.category).sum ≤ 8) (hd : decode cc pc = .ok (.invokestatic index, 3))
    (k : XW G Q nL cells slots N ad ce' (pc + 3) lv (.int r :: st)) : XW G Q nL cells slots N ad ce pc lv (As.reverse ++ st) := by
  intro H locs ls hP hS hL
  refine va_calli (va_runSN (As := As) (rest := st) (host := host) ⟨C.1, C.2.1, C.2.2.1, C.2.2.2.1, C.2.2.2.2.1⟩ hM ⟨va_cnB n C.2.2.2.2.1 (xw_gs (xw_gcode F.2.2.1)) rfl hR.1 hR.2.1 hl (C.2.2.2.2.1 _ F.2.1) F.2.2.2 ⟨hR.2.2.1, hR.2.2.2⟩, C.2.2.2.2.1 _ F.1, trivial⟩ ⟨xf_blind, xf_pre C hP hS⟩ rfl hn hL.1 rfl (lv_room hst) hd hcs) hS (fun q _ h => h) (fun q h => h) (fun r' u t H1 locs1 ht hvm hw hB hz hk1 hS1 => ?_)
  subst hw
  exact k H1 locs1 ls (by rw [← ht]; exact hB.2.1) hS1 hL
/-! calls of methods that may throw: it returned; it threw, and so do we -/
theorem xw_callSxv (C : xw_C G cc nL own N ad) (hM : xk_xv (xgl G) y cc' nL' ret' rm' (xgD G) (xgt G) (xgB G) N ad As ce ce' (.inl r) mc ms) (F : xf_S y cc' nL' ret' n) (hl : Cond.methodLink own index y ∈ xw_big) (hR : xf_R rm' nL' (xgR G) mc ms) (hcs : cells + mc ≤ (xgR G).cells ∧ slots + ms ≤ (xgR G).slots) (hn : As.length = n) (hst : (st.map fun v => v.category).sum ≤ 8) (hd : decode cc pc = .ok (.invokestatic index, 3))
    (k : XW G Q nL (cells + mc) (slots + ms) N ad ce' (pc + 3) lv st) : XW G Q nL cells slots N ad ce pc lv (As.reverse ++ st) := by
  intro H locs ls hP hS hL
  refine vx_callv (vx_runS (As := As) (rest := st) ⟨C.1, C.2.1, C.2.2.1, C.2.2.2.1, C.2.2.2.2.1⟩ hM (va_cwS n C.2.2.2.2.1 (xf_gS F hl) rfl hR.1 hR.2.1 F.2.2.2 ⟨hR.2.2.1, hR.2.2.2⟩) ⟨xf_blind, xf_pre C hP hS⟩ rfl hn hL.1 rfl (lv_room hst) hd hcs) hS (fun q _ h => h) (fun q h => h) (fun q _ h => h) (fun E ce9 q9 u t H1 locs1 ht hvm hp hB => by cases hB.1) (fun u t H1 locs1 ht hvm hw hB hz hk1 hS1 => ?_)
  exact k H1 locs1 ls (by rw [← ht]; exact hB.2.1) hS1 hL
theorem xw_callVxv (C : xw_C G cc nL own N ad) (hM : xk_xv (xgl G) y cc' nL' ret' rm' (xgD G) (xgt G) (xgB G) N ad (.ref (ad k9) :: As) ce ce' (.inl r) mc ms) (F : xf_V y cc' nL' ret' Cn n) (hl : Cond.methodLink own index y ∈ xw_big) (hk : k9 < N) (he : ce k9 = .inr (ci, fs)) (hc : vwCl[ci]? = some (Cn, T, NF)) (hR : xf_R rm' nL' (xgR G) mc ms) (hcs : cells + mc ≤ (xgR G).cells ∧ slots + ms ≤ (xgR G).slots) (hn : As.length = n) (hst : (st.map fun v => v.category).sum ≤ 8) (hd : decode cc pc = .ok (.invokevirtual index, 3))
    (k : XW G Q nL (cells + mc) (slots + ms) N ad ce' (pc + 3) lv st) : XW G Q nL cells slots N ad ce pc lv (As.reverse ++ .ref (ad k9) :: st) := by
  intro H locs ls hP hS hL
  refine vx_callv (vx_runV (As := As) (rest := st) ⟨C.1, C.2.1, C.2.2.1, C.2.2.2.1, C.2.2.2.2.1⟩ hM (cwV n C.2.2.2.2.1 (xf_gV F hl) rfl hR.1 hR.2.1 F.2.2.2.2 ⟨hR.2.2.1, hR.2.2.2⟩) ⟨xf_blind, va_recv C.2.2.2.2.2.1 hP hc (by rw [xw_at hk, he]), xf_pre C hP hS⟩ rfl hn hL.1 rfl (lv_room hst) hd hcs) hS (fun q _ h => h) (fun q h => h) (fun q _ h => h) (fun E ce9 q9 u t H1 locs1 ht hvm hp hB => by cases hB.1) (fun u t H1 locs1 ht hvm hw hB hz hk1 hS1 => ?_)
  exact k H1 locs1 ls (by rw [← ht]; exact hB.2.1) hS1 hL
theorem xw_outS {E0 : String} {mc1 ms1 : Nat} {Qc : Array Value → State → Outcome → State → Prop} (C : xw_C G cc nL own N ad) (hE : ∀ x ∈ (xgc G).exceptionTable.toList, False) (hM : xk_xv (xgl G) y cc' nL' ret' rm' (xgD G) (xgt G) (xgB G) N ad As ce ce' (.inr E0) mc ms) (F : xf_S y cc' nL' ret' n) (hl : Cond.methodLink own index y ∈ xw_big) (hR : xf_R rm' nL' (xgR G) mc ms) (hcs : cells + mc ≤ (xgR G).cells ∧ slots + ms ≤ (xgR G).slots) (hcm : cells + mc ≤ mc1 ∧ slots + ms ≤ ms1) (hn : As.length = n) (hst : (st.map fun v => v.category).sum ≤ 8) (hd : decode cc pc = .ok (.invokestatic index, 3)) :
    XW G (vx_MQ (xgb G) Qc (xk_XC (xgD G) (xgt G) (xgB G) N ad ce' (.inr E0)) (xga G) (xgs G) mc1 ms1 (fun q => xgB G ≤ q)) nL cells slots N ad ce pc lv (As.reverse ++ st) := by
  intro H locs ls hP hS hL
  refine vx_callv (vx_runS (As := As) (rest := st) ⟨C.1, C.2.1, C.2.2.1, C.2.2.2.1, C.2.2.2.2.1⟩ hM (va_cwS n C.2.2.2.2.1 (xf_gS F hl) rfl hR.1 hR.2.1 F.2.2.2 ⟨hR.2.2.1, hR.2.2.2⟩) ⟨xf_blind, xf_pre C hP hS⟩ rfl hn hL.1 rfl (lv_room hst) hd hcs) hS (fun q _ h => h) (fun q h => h) (fun q _ h => h) (fun E ce9 q9 u t H1 locs1 ht hvm hp hB hz hk1 hS1 hce hcv hcl => ?_) (fun u t H1 locs1 ht hvm hw hB hz hk1 hS1 => by cases hw)
  obtain ⟨hE0, hB⟩ := hB
  cases hE0
  refine vx_out (fun x hx => (hE x hx).elim) C.2.2.2.2.2.2.2.1 hce hcv hcl (fun t2 ht2 hal => ⟨(), trivial, ⟨rfl, ?_⟩, hS1.F ht2⟩) hS1.2.2 hcm.1 hcm.2
  exact xw_Bof C (by rw [← ht]; exact hB.2.1) hS1 ht2 hal
theorem xw_outV {E0 : String} {mc1 ms1 : Nat} {Qc : Array Value → State → Outcome → State → Prop} (C : xw_C G cc nL own N ad) (hE : ∀ x ∈ (xgc G).exceptionTable.toList, False) (hM : xk_xv (xgl G) y cc' nL' ret' rm' (xgD G) (xgt G) (xgB G) N ad (.ref (ad k9) :: As) ce ce' (.inr E0) mc ms) (F : xf_V y cc' nL' ret' Cn n) (hl : Cond.methodLink own index y ∈ xw_big) (hk : k9 < N) (he : ce k9 = .inr (ci, fs)) (hc : vwCl[ci]? = some (Cn, T, NF)) (hR : xf_R rm' nL' (xgR G) mc ms) (hcs : cells + mc ≤ (xgR G).cells ∧ slots + ms ≤ (xgR G).slots) (hcm : cells + mc ≤ mc1 ∧ slots + ms ≤ ms1) (hn : As.length = n) (hst : (st.map fun v => v.category).sum ≤ 8) (hd : decode cc pc = .ok (.invokevirtual index, 3)) :
    XW G (vx_MQ (xgb G) Qc (xk_XC (xgD G) (xgt G) (xgB G) N ad ce' (.inr E0)) (xga G) (xgs G) mc1 ms1 (fun q => xgB G ≤ q)) nL cells slots N ad ce pc lv (As.reverse ++ .ref (ad k9) :: st) := by
  intro H locs ls hP hS hL
  refine vx_callv (vx_runV (As := As) (rest := st) ⟨C.1, C.2.1, C.2.2.1, C.2.2.2.1, C.2.2.2.2.1⟩ hM (cwV n C.2.2.2.2.1 (xf_gV F hl) rfl hR.1 hR.2.1 F.2.2.2.2 ⟨hR.2.2.1, hR.2.2.2⟩) ⟨xf_blind, va_recv C.2.2.2.2.2.1 hP hc (by rw [xw_at hk, he]), xf_pre C hP hS⟩ rfl hn hL.1 rfl (lv_room hst) hd hcs) hS (fun q _ h => h) (fun q h => h) (fun q _ h => h) (fun E ce9 q9 u t H1 locs1 ht hvm hp hB hz hk1 hS1 hce hcv hcl => ?_) (fun u t H1 locs1 ht hvm hw hB hz hk1 hS1 => by cases hw)
  obtain ⟨hE0, hB⟩ := hB
  cases hE0
  refine vx_out (fun x hx => (hE x hx).elim) C.2.2.2.2.2.2.2.1 hce hcv hcl (fun t2 ht2 hal => ⟨(), trivial, ⟨rfl, ?_⟩, hS1.F ht2⟩) hS1.2.2 hcm.1 hcm.2
  exact xw_Bof C (by rw [← ht]; exact hB.2.1) hS1 ht2 hal
/-- 'throw new E("text")' -/
theorem xw_throw {E text : String} {ik is ic mc1 ms1 : Nat} {Qc : Array Value → State → Outcome → State → Prop} (C : xw_C G cc nL own N ad) (hl : (xgl G).stackTraces = false) (hE : ∀ x ∈ (xgc G).exceptionTable.toList, False) (hfit : Bundle.fit E = true)
    (hk : Cond.classLink own ik E ∈ xw_big) (hini : Cond.initialized E ∈ xw_big) (hstr : ∃ a, vk_R own is text a (xgs G)) (hcast : va_Nw (.castable E E) (xgs G))
    (hat : ∀ w ∈ (vx_atS own ic E ["java/lang/RuntimeException", "java/lang/Exception"]).filter goodWord, w ∈ xw_big) (hbad : ∀ w ∈ (vx_atS own ic E ["java/lang/RuntimeException", "java/lang/Exception"]).filter (fun w => !goodWord w), w ∈ [Cond.castable E E, .declares (Bundle.initS "java/lang/RuntimeException"), .declares (Bundle.initS "java/lang/Exception"), .declares (Bundle.initS "java/lang/Throwable")])
    (hgood : ∀ w ∈ Cond.classLink own ik E :: Cond.initialized E :: vx_atS own ic E ["java/lang/RuntimeException", "java/lang/Exception"], vx_ot w = true)
    (d0 : decode cc pc = .ok (.new ik, 3)) (d3 : decode cc (pc + 3) = .ok (.dup, 1)) (d4 : decode cc (pc + 4) = .ok (.ldc is, 2)) (d6 : decode cc (pc + 6) = .ok (.invokespecial ic, 3)) (d9 : decode cc (pc + 9) = .ok (.athrow, 1))
    (hR : 5 < (xgR G).frames ∧ (st.map fun v => v.category).sum + 82 ≤ (xgR G).locals ∧ cells + 1 ≤ (xgR G).cells ∧ slots + 6 ≤ (xgR G).slots) (hcm : cells + 1 ≤ mc1 ∧ slots + 6 ≤ ms1) :
    XW G (vx_MQ (xgb G) Qc (xk_XC (xgD G) (xgt G) (xgB G) N ad ce (.inr E)) (xga G) (xgs G) mc1 ms1 (fun q => xgB G ≤ q)) nL cells slots N ad ce pc lv st := by
  intro H locs ls hP hS hL
  obtain ⟨sa, hstr⟩ := hstr
  refine vx_throwS C.1 C.2.1 hl C.2.2.2.1 hfit (by decide +kernel) (C.2.2.2.2.1 _ hk) (C.2.2.2.2.1 _ hini) hstr (vx_hat (fun w hw => C.2.2.2.2.1 _ (hat w hw)) hbad (vx_c (va_Nw.use rfl hcast) (vx_c (va_Nw.use rfl C.2.2.2.2.2.2.2.2.2.1.2.2.2.2.2.1) (vx_c (va_Nw.use rfl C.2.2.2.2.2.2.2.2.2.1.2.2.2.2.2.2.1) (vx_c (va_Nw.use rfl C.2.2.2.2.2.2.2.2.2.1.2.2.2.2.2.2.2) vx_n))))) hgood C.2.2.2.2.2.2.2.2.2.2.1.1 C.2.2.2.2.2.2.2.2.2.2.1.2 hS (by rw [hL.1, C.2.2.1]) d0 d3 d4 d6 d9 (fun x hx => (hE x hx).elim) hR.1 hR.2.1 hR.2.2.1 hR.2.2.2 C.2.2.2.2.2.2.2.1 (fun t hal hz hk => ⟨(), trivial, ⟨rfl, ?_⟩, ?_⟩) hS.2.2 hcm.1 hcm.2
  · exact ⟨Nat.le_trans (Nat.le_trans C.2.2.2.2.2.2.1 hS.1) hz, hP.kept (fun k q h => hk q.1 ((hP k q h).lt)), va_K.moved hal C.2.2.2.2.2.1⟩
  · exact ⟨Nat.le_trans hS.1 hz, fun q h1 h2 => by rw [hk q (Nat.lt_of_lt_of_le h1 hS.1)]; exact hS.2.1 q h1 h2⟩
end XF
end
section
/-! ===== the world of this claim: the class's cells (0 .. 417), the reference's (418 .. 429), the law's long[] (430) ===== -/
abbrev xmC : Type := ClassId × ClassId × ClassId × ClassId
abbrev xm_tys (cs : xmC) : List (ClassId × FieldType) := [(cs.1, .int), (cs.2.1, .object RX1), (cs.2.2.1, .array .int), (cs.2.2.2, .long)]
def xm_len (k : Nat) : Nat := if k = 419 then 144 else if k = 420 then 12 else if k < 427 then 144 else if k < 429 then 1728 else 1806
def xm_sh (ad : Nat → Nat) (cs : xmC) (k : Nat) (r : Nat → Int32) : va_E :=
  if k = 0 then .inr (2, [.ref (ad 1), .ref (ad 410)])
  else if k = 1 then .inl (cs.2.1, 12, .inr (.inr (.inr (.inr (fun i => some (ad (2 + 34 * i)))))))
  else if k < 410 then
    (if (k - 2) % 34 = 0 then .inr (1, [.ref (ad (k + 1)), .ref (ad (k + 2)), .ref (ad (k + 3)), .ref (ad (k + 4)), .ref (ad (k + 5)), .ref (ad (k + 6)), .ref (ad (k + 7)), .ref (ad (k + 8)), .ref (ad (k + 21)), .int (r 9)])
    else if (k - 2) % 34 = 8 ∨ (k - 2) % 34 = 21 then .inl (cs.2.2.1, 12, .inr (.inr (.inr (.inr (fun i => some (ad (k + 1 + i)))))))
    else .inl (cs.1, 12, .inl r))
  else if k = 410 then .inr (0, [.ref (ad 411), .int (r 1), .int (r 2), .int (r 3), .int (r 4), .int (r 5)])
  else if k = 411 then .inl (cs.2.2.1, 6, .inr (.inr (.inr (.inr (fun i => some (ad (412 + i)))))))
  else if k < 418 then .inl (cs.1, 300, .inl r)
  else if k = 418 then .inr (3, [.int (r 0), .ref (ad 419), .int (r 2), .ref (ad 420), .ref (ad 421), .ref (ad 422), .ref (ad 423), .ref (ad 424), .ref (ad 425), .ref (ad 426), .ref (ad 427), .ref (ad 428), .ref (ad 429), .int (r 13), .int (r 14), .int (r 15), .int (r 16)])
  else if k < 430 then .inl (cs.1, xm_len k, .inl r)
  else .inl (cs.2.2.2, 1, .inr (.inl (fun j => (r j).toInt64)))
def xm_ce (ad : Nat → Nat) (cs : xmC) (M : xwM) : Nat → va_E := fun k => xm_sh ad cs k (M k)
def ms (M : xwM) (k i : Nat) (x : Int32) : xwM := va_up M k (upd (M k) i x)
theorem ms_at (M : xwM) (k i : Nat) (x : Int32) (a b : Nat) : ms M k i x a b = if a = k ∧ b = i then x else M a b := by
  unfold ms va_up upd
  by_cases h : a = k
  · subst h
    by_cases h2 : b = i <;> simp [h2]
  · simp [h]
def fil (M : xwM) (k n : Nat) (x : Int32) : xwM := va_up M k (fun i => if i < n then x else M k i)
theorem fil_at (M : xwM) (k n : Nat) (x : Int32) (a b : Nat) : fil M k n x a b = if a = k ∧ b < n then x else M a b := by
  unfold fil va_up
  by_cases h : a = k
  · subst h
    by_cases h2 : b < n <;> simp [h2]
  · simp [h]
theorem xm_up {ad : Nat → Nat} {cs : xmC} {M : xwM} {k : Nat} {e : va_E} {r : Nat → Int32} (h : xm_sh ad cs k r = e) : va_up (xm_ce ad cs M) k e = xm_ce ad cs (va_up M k r) := by
  funext j
  unfold xm_ce va_up
  by_cases hj : j = k
  · subst hj
    simp [h]
  · simp [hj]
section XS
variable {ad : Nat → Nat} {cs : xmC} {r : Nat → Int32} {n m : Nat}
theorem xs_0 : xm_sh ad cs 0 r = .inr (2, [.ref (ad 1), .ref (ad 410)]) := rfl
theorem xs_1 : xm_sh ad cs 1 r = .inl (cs.2.1, 12, .inr (.inr (.inr (.inr (fun i => some (ad (2 + 34 * i))))))) := rfl
theorem xs_R (h : n < 12) : xm_sh ad cs (2 + 34 * n) r = .inr (1, [.ref (ad (3 + 34 * n)), .ref (ad (4 + 34 * n)), .ref (ad (5 + 34 * n)), .ref (ad (6 + 34 * n)), .ref (ad (7 + 34 * n)), .ref (ad (8 + 34 * n)), .ref (ad (9 + 34 * n)), .ref (ad (10 + 34 * n)), .ref (ad (23 + 34 * n)), .int (r 9)]) := by
  unfold xm_sh
  rw [if_neg (by omega), if_neg (by omega), if_pos (by omega), if_pos (by omega)]
  rw [show 2 + 34 * n + 1 = 3 + 34 * n by omega, show 2 + 34 * n + 2 = 4 + 34 * n by omega, show 2 + 34 * n + 3 = 5 + 34 * n by omega, show 2 + 34 * n + 4 = 6 + 34 * n by omega, show 2 + 34 * n + 5 = 7 + 34 * n by omega, show 2 + 34 * n + 6 = 8 + 34 * n by omega, show 2 + 34 * n + 7 = 9 + 34 * n by omega, show 2 + 34 * n + 8 = 10 + 34 * n by omega, show 2 + 34 * n + 21 = 23 + 34 * n by omega]
theorem xs_A (j : Nat) (hj : 3 ≤ j ∧ j ≤ 9) (h : n < 12) : xm_sh ad cs (j + 34 * n) r = .inl (cs.1, 12, .inl r) := by
  unfold xm_sh
  rw [if_neg (by omega), if_neg (by omega), if_pos (by omega), if_neg (by omega), if_neg (by omega)]
theorem xs_O (j : Nat) (hj : j = 10 ∨ j = 23) (h : n < 12) : xm_sh ad cs (j + 34 * n) r = .inl (cs.2.2.1, 12, .inr (.inr (.inr (.inr (fun i => some (ad (j + 34 * n + 1 + i))))))) := by
  unfold xm_sh
  rw [if_neg (by omega), if_neg (by omega), if_pos (by omega), if_neg (by omega), if_pos (by omega)]
theorem xs_T (j : Nat) (hj : j = 10 ∨ j = 23) (h : n < 12) (hm : m < 12) : xm_sh ad cs (j + 34 * n + 1 + m) r = .inl (cs.1, 12, .inl r) := by
  unfold xm_sh
  rw [if_neg (by omega), if_neg (by omega), if_pos (by omega), if_neg (by omega), if_neg (by omega)]
theorem xs_L : xm_sh ad cs 410 r = .inr (0, [.ref (ad 411), .int (r 1), .int (r 2), .int (r 3), .int (r 4), .int (r 5)]) := rfl
theorem xs_F : xm_sh ad cs 411 r = .inl (cs.2.2.1, 6, .inr (.inr (.inr (.inr (fun i => some (ad (412 + i))))))) := rfl
theorem xs_W (hm : m < 6) : xm_sh ad cs (412 + m) r = .inl (cs.1, 300, .inl r) := by
  unfold xm_sh
  rw [if_neg (by omega), if_neg (by omega), if_neg (by omega), if_neg (by omega), if_neg (by omega), if_pos (by omega)]
theorem xs_M : xm_sh ad cs 418 r = .inr (3, [.int (r 0), .ref (ad 419), .int (r 2), .ref (ad 420), .ref (ad 421), .ref (ad 422), .ref (ad 423), .ref (ad 424), .ref (ad 425), .ref (ad 426), .ref (ad 427), .ref (ad 428), .ref (ad 429), .int (r 13), .int (r 14), .int (r 15), .int (r 16)]) := rfl
theorem xs_419 : xm_sh ad cs 419 r = .inl (cs.1, 144, .inl r) := rfl
theorem xs_420 : xm_sh ad cs 420 r = .inl (cs.1, 12, .inl r) := rfl
theorem xs_421 : xm_sh ad cs 421 r = .inl (cs.1, 144, .inl r) := rfl
theorem xs_422 : xm_sh ad cs 422 r = .inl (cs.1, 144, .inl r) := rfl
theorem xs_423 : xm_sh ad cs 423 r = .inl (cs.1, 144, .inl r) := rfl
theorem xs_424 : xm_sh ad cs 424 r = .inl (cs.1, 144, .inl r) := rfl
theorem xs_425 : xm_sh ad cs 425 r = .inl (cs.1, 144, .inl r) := rfl
theorem xs_426 : xm_sh ad cs 426 r = .inl (cs.1, 144, .inl r) := rfl
theorem xs_427 : xm_sh ad cs 427 r = .inl (cs.1, 1728, .inl r) := rfl
theorem xs_428 : xm_sh ad cs 428 r = .inl (cs.1, 1728, .inl r) := rfl
theorem xs_429 : xm_sh ad cs 429 r = .inl (cs.1, 1806, .inl r) := rfl
theorem xs_430 : xm_sh ad cs 430 r = .inl (cs.2.2.2, 1, .inr (.inl (fun j => (r j).toInt64))) := rfl
end XS
/-- the machine at pc, the world holding M -/
abbrev XV (G : xwG) (Q : State → Prop) (nL cells slots : Nat) (ad : Nat → Nat) (cs : xmC) (M : xwM) (pc : Nat) (lv : List (Option Value)) (st : List Value) : Prop := XW G Q nL cells slots 431 ad (xm_ce ad cs M) pc lv st
section XV
variable {G : xwG} {Q : State → Prop} {cc : ByteArray} {own : String} {nL cells slots : Nat} {ad : Nat → Nat} {cs : xmC} {M : xwM} {pc : Nat} {lv : List (Option Value)} {st : List Value}
theorem xv_getf (C : xw_C G cc nL own 431 ad) {k9 ci NF index : Nat} {Cn : String} {T : u_T} {fs : List Value} (hk : k9 < 431) (he : xm_sh ad cs k9 (M k9) = .inr (ci, fs)) (hc : vwCl[ci]? = some (Cn, T, NF)) (hin : ∀ w ∈ u_ws Cn T NF, w ∈ xw_big) (j : Nat) (hj : j < NF) (hw : Cond.fieldLink own index (T j).1 (T j).2.1 (T j).2.2.1 ∈ xw_big) {v : Value} (hv : fs[j]? = some v) (hd : decode cc pc = .ok (.getfield index, 3))
    (k : XV G Q nL cells slots ad cs M (pc + 3) lv (v :: st)) : XV G Q nL cells slots ad cs M pc lv (.ref (ad k9) :: st) :=
  xw_getf C hk he hc hin j hj hw hv hd k
theorem xv_putf (C : xw_C G cc nL own 431 ad) {k9 ci NF index : Nat} {Cn : String} {T : u_T} {fs : (Nat → Int32) → List Value} (hk : k9 < 431) (he : ∀ r, xm_sh ad cs k9 r = .inr (ci, fs r)) (hc : vwCl[ci]? = some (Cn, T, NF)) (hin : ∀ w ∈ u_ws Cn T NF, w ∈ xw_big) (ty0 : Nat → FieldType) (hty : ∀ k, k < NF → parseFieldDescriptor (T k).2.2.1 = some (ty0 k)) (hnm : ∀ a, a < NF → ∀ b, b < NF → a ≠ b → (T a).2.1 ≠ (T b).2.1) (j : Nat) (hj : j < NF) (hw : Cond.fieldLink own index (T j).1 (T j).2.1 (T j).2.2.1 ∈ xw_big) (hfin : (T j).2.2.2 = false) {x : Int32} (hty1 : ty0 j = .int) (hl : ∀ r, j < (fs r).length) (hfs : ∀ r, (fs r).set j (.int x) = fs (upd r j x)) (hd : decode cc pc = .ok (.putfield index, 3))
    (k : XV G Q nL cells slots ad cs (ms M k9 j x) (pc + 3) lv st) : XV G Q nL cells slots ad cs M pc lv (.int x :: .ref (ad k9) :: st) := by
  refine xw_putf C hk (he (M k9)) hc hin ty0 hty hnm j hj hw hfin hty1 (hl _) (hfs (M k9)) hd ?_
  rw [xm_up (he (upd (M k9) j x))]
  exact k
theorem xv_iald (C : xw_C G cc nL own 431 ad) (ht : xgt G = xm_tys cs) {k9 n : Nat} {i : Int32} (hk : k9 < 431) (he : xm_sh ad cs k9 (M k9) = .inl (cs.1, n, .inl (M k9))) (hi : ¬ (i < 0 ∨ n ≤ i.toNatClampNeg)) (hd : decode cc pc = .ok (.iaload, 1))
    (k : XV G Q nL cells slots ad cs M (pc + 1) lv (.int (M k9 i.toNatClampNeg) :: st)) : XV G Q nL cells slots ad cs M pc lv (.int i :: .ref (ad k9) :: st) :=
  xw_iald C (t0 := 0) hk he (by rw [ht]; rfl) hi hd k
theorem xv_iast (C : xw_C G cc nL own 431 ad) (ht : xgt G = xm_tys cs) {k9 n : Nat} {i x : Int32} (hk : k9 < 431) (he : ∀ r, xm_sh ad cs k9 r = .inl (cs.1, n, .inl r)) (hi : ¬ (i < 0 ∨ n ≤ i.toNatClampNeg)) (hd : decode cc pc = .ok (.iastore, 1))
    (k : XV G Q nL cells slots ad cs (ms M k9 i.toNatClampNeg x) (pc + 1) lv st) : XV G Q nL cells slots ad cs M pc lv (.int x :: .int i :: .ref (ad k9) :: st) := by
  refine xw_iast C (t0 := 0) hk (he (M k9)) (by rw [ht]; rfl) hi hd ?_
  rw [xm_up (he (upd (M k9) i.toNatClampNeg x))]
  exact k
theorem xv_aldR (C : xw_C G cc nL own 431 ad) (ht : xgt G = xm_tys cs) {i : Int32} (hi : ¬ (i < 0 ∨ 12 ≤ i.toNatClampNeg)) (hd : decode cc pc = .ok (.aaload, 1))
    (k : XV G Q nL cells slots ad cs M (pc + 1) lv (.ref (ad (2 + 34 * i.toNatClampNeg)) :: st)) : XV G Q nL cells slots ad cs M pc lv (.int i :: .ref (ad 1) :: st) :=
  xw_aald C (t0 := 1) (by decide) (show xm_ce ad cs M 1 = _ from xs_1) (by rw [ht]; rfl) rfl hi rfl hd k
theorem xv_aldT (C : xw_C G cc nL own 431 ad) (ht : xgt G = xm_tys cs) {j n : Nat} {i : Int32} (hj : j = 10 ∨ j = 23) (hn : n < 12) (hi : ¬ (i < 0 ∨ 12 ≤ i.toNatClampNeg)) (hd : decode cc pc = .ok (.aaload, 1))
    (k : XV G Q nL cells slots ad cs M (pc + 1) lv (.ref (ad (j + 34 * n + 1 + i.toNatClampNeg)) :: st)) : XV G Q nL cells slots ad cs M pc lv (.int i :: .ref (ad (j + 34 * n)) :: st) :=
  xw_aald C (t0 := 2) (by omega) (show xm_ce ad cs M (j + 34 * n) = _ from xs_O j hj hn) (by rw [ht]; rfl) rfl hi rfl hd k
theorem xv_aldF (C : xw_C G cc nL own 431 ad) (ht : xgt G = xm_tys cs) {i : Int32} (hi : ¬ (i < 0 ∨ 6 ≤ i.toNatClampNeg)) (hd : decode cc pc = .ok (.aaload, 1))
    (k : XV G Q nL cells slots ad cs M (pc + 1) lv (.ref (ad (412 + i.toNatClampNeg)) :: st)) : XV G Q nL cells slots ad cs M pc lv (.int i :: .ref (ad 411) :: st) :=
  xw_aald C (t0 := 2) (by decide) (show xm_ce ad cs M 411 = _ from xs_F) (by rw [ht]; rfl) rfl hi rfl hd k
theorem xv_tab (C : xw_C G cc nL own 431 ad) {dflt lo hi : Int} {offs : Array Int} {len : Nat} {x : Int32} {off : Int} {tgt : Nat} (hd : decode cc pc = .ok (.tableswitch dflt lo hi offs, len)) (h1 : ¬ x.toInt < lo) (h2 : ¬ hi < x.toInt) (ho : offs[(x.toInt - lo).toNat]? = some off) (ht : (pc : Int) + off = (tgt : Int))
    (k : XV G Q nL cells slots ad cs M tgt lv st) : XV G Q nL cells slots ad cs M pc lv (.int x :: st) :=
  fun H locs ls hP hS hL => lv_tableIn C.1 C.2.1 hd h1 h2 ho ht (k H locs ls hP hS hL)
theorem xv_tabO (C : xw_C G cc nL own 431 ad) {dflt lo hi : Int} {offs : Array Int} {len : Nat} {x : Int32} {tgt : Nat} (hd : decode cc pc = .ok (.tableswitch dflt lo hi offs, len)) (h : x.toInt < lo ∨ hi < x.toInt) (ht : (pc : Int) + dflt = (tgt : Int))
    (k : XV G Q nL cells slots ad cs M tgt lv st) : XV G Q nL cells slots ad cs M pc lv (.int x :: st) :=
  fun H locs ls hP hS hL => lv_tableOut C.1 C.2.1 hd h ht (k H locs ls hP hS hL)
theorem xv_min (C : xw_C G cc nL own 431 ad) {index : Nat} {x y : Int32} (h1 : Cond.methodLink own index Lib.Math.min.name ∈ xw_big) (h2 : Cond.static Lib.Math.min.name ∈ xw_big) (h3 : Cond.initialized "java/lang/Math" ∈ xw_big) (h4 : Cond.code Lib.Math.min.name Lib.Math.min.code 2 (some .int) ∈ xw_big) (hR : 1 ≤ (xgR G).frames ∧ (st.map fun v => v.category).sum + 13 ≤ (xgR G).locals ∧ cells ≤ (xgR G).cells ∧ slots ≤ (xgR G).slots) (hd : decode cc pc = .ok (.invokestatic index, 3))
    (k : XV G Q nL cells slots ad cs M (pc + 3) lv (.int (if y < x then y else x) :: st)) : XV G Q nL cells slots ad cs M pc lv (.int y :: .int x :: st) :=
  fun H locs ls hP hS hL => va_mmin C.1 C.2.1 (by rw [C.2.2.1, hL.1]) C.2.2.2.1 (C.2.2.2.2.1 _ h1) (C.2.2.2.2.1 _ h2) (C.2.2.2.2.1 _ h3) (C.2.2.2.2.1 _ h4) hR.1 hR.2.1 hR.2.2.1 hR.2.2.2 hd (k H locs ls hP hS hL)
theorem xv_max (C : xw_C G cc nL own 431 ad) {index : Nat} {x y : Int32} (h1 : Cond.methodLink own index Lib.Math.max.name ∈ xw_big) (h2 : Cond.static Lib.Math.max.name ∈ xw_big) (h3 : Cond.initialized "java/lang/Math" ∈ xw_big) (h4 : Cond.code Lib.Math.max.name Lib.Math.max.code 2 (some .int) ∈ xw_big) (hR : 1 ≤ (xgR G).frames ∧ (st.map fun v => v.category).sum + 13 ≤ (xgR G).locals ∧ cells ≤ (xgR G).cells ∧ slots ≤ (xgR G).slots) (hd : decode cc pc = .ok (.invokestatic index, 3))
    (k : XV G Q nL cells slots ad cs M (pc + 3) lv (.int (if x < y then y else x) :: st)) : XV G Q nL cells slots ad cs M pc lv (.int y :: .int x :: st) :=
  fun H locs ls hP hS hL => va_mmax C.1 C.2.1 (by rw [C.2.2.1, hL.1]) C.2.2.2.1 (C.2.2.2.2.1 _ h1) (C.2.2.2.2.1 _ h2) (C.2.2.2.2.1 _ h3) (C.2.2.2.2.1 _ h4) hR.1 hR.2.1 hR.2.2.1 hR.2.2.2 hd (k H locs ls hP hS hL)
end XV
/-! ===== the programs as functions: none where an index is out of its row, or the fuel is out ===== -/
def ld {α : Type} (M : xwM) (k n : Nat) (i : Int32) (f : Int32 → Option α) : Option α := if i < 0 ∨ n ≤ i.toNatClampNeg then none else f (M k i.toNatClampNeg)
def sto {α : Type} (M : xwM) (k n : Nat) (i x : Int32) (f : xwM → Option α) : Option α := if i < 0 ∨ n ≤ i.toNatClampNeg then none else f (ms M k i.toNatClampNeg x)
def ixr {α : Type} (n : Nat) (i : Int32) (f : Nat → Option α) : Option α := if i < 0 ∨ n ≤ i.toNatClampNeg then none else f i.toNatClampNeg
def bni {α : Type} (o : Option (Int32 × xwM)) (f : Int32 → xwM → Option α) : Option α := match o with
  | none => none
  | some q => f q.1 q.2
def bnv {α : Type} (o : Option xwM) (f : xwM → Option α) : Option α := match o with
  | none => none
  | some q => f q
abbrev xwX : Type := (Int32 ⊕ String) × xwM
def bnx (o : Option xwX) (f : Int32 → xwM → Option xwX) : Option xwX := match o with
  | none => none
  | some (.inl r, M) => f r M
  | some (.inr E, M) => some (.inr E, M)
theorem ld_s {α : Type} {M : xwM} {k n : Nat} {i : Int32} {f : Int32 → Option α} {o : α} (h : ld M k n i f = some o) : ¬ (i < 0 ∨ n ≤ i.toNatClampNeg) ∧ f (M k i.toNatClampNeg) = some o := by
  unfold ld at h
  by_cases c : i < 0 ∨ n ≤ i.toNatClampNeg
  · rw [if_pos c] at h; cases h
  · rw [if_neg c] at h; exact ⟨c, h⟩
theorem sto_s {α : Type} {M : xwM} {k n : Nat} {i x : Int32} {f : xwM → Option α} {o : α} (h : sto M k n i x f = some o) : ¬ (i < 0 ∨ n ≤ i.toNatClampNeg) ∧ f (ms M k i.toNatClampNeg x) = some o := by
  unfold sto at h
  by_cases c : i < 0 ∨ n ≤ i.toNatClampNeg
  · rw [if_pos c] at h; cases h
  · rw [if_neg c] at h; exact ⟨c, h⟩
theorem ixr_s {α : Type} {n : Nat} {i : Int32} {f : Nat → Option α} {o : α} (h : ixr n i f = some o) : ¬ (i < 0 ∨ n ≤ i.toNatClampNeg) ∧ i.toNatClampNeg < n ∧ f i.toNatClampNeg = some o := by
  unfold ixr at h
  by_cases c : i < 0 ∨ n ≤ i.toNatClampNeg
  · rw [if_pos c] at h; cases h
  · rw [if_neg c] at h; exact ⟨c, Nat.not_le.mp (fun q => c (Or.inr q)), h⟩
theorem bni_s {α : Type} {q : Option (Int32 × xwM)} {f : Int32 → xwM → Option α} {o : α} (h : bni q f = some o) : ∃ r M, q = some (r, M) ∧ f r M = some o := by
  match q, h with
  | some (r, M), h => exact ⟨r, M, rfl, h⟩
theorem bnv_s {α : Type} {q : Option xwM} {f : xwM → Option α} {o : α} (h : bnv q f = some o) : ∃ M, q = some M ∧ f M = some o := by
  match q, h with
  | some M, h => exact ⟨M, rfl, h⟩
theorem bnx_s {q : Option xwX} {f : Int32 → xwM → Option xwX} {o : xwX} (h : bnx q f = some o) : (∃ r M, q = some (.inl r, M) ∧ f r M = some o) ∨ (∃ E M, q = some (.inr E, M) ∧ o = (.inr E, M)) := by
  match q, h with
  | some (.inl r, M), h => exact Or.inl ⟨r, M, rfl, h⟩
  | some (.inr E, M), h => exact Or.inr ⟨E, M, rfl, (Option.some.inj h).symm⟩
theorem it_t {α : Type} {c : Prop} [Decidable c] {A B : Option α} {o : α} (h : (if c then A else B) = some o) (hc : c) : A = some o := by
  rw [if_pos hc] at h; exact h
theorem it_f {α : Type} {c : Prop} [Decidable c] {A B : Option α} {o : α} (h : (if c then A else B) = some o) (hc : ¬ c) : B = some o := by
  rw [if_neg hc] at h; exact h
end
section
theorem hw_1 : Cond.selects RX2 yX2_tellEveryWay yX2_tellEveryWay ∈ xw_big := xw_in (List.mem_of_getElem? (i := 1) (by decide +kernel)) (by decide +kernel)
theorem hw_2 : Cond.selects RX2 yX2_tell yX2_tell ∈ xw_big := xw_in (List.mem_of_getElem? (i := 2) (by decide +kernel)) (by decide +kernel)
theorem hw_3 : Cond.selects RX0 yX0_placeOf yX0_placeOf ∈ xw_big := xw_in (List.mem_of_getElem? (i := 3) (by decide +kernel)) (by decide +kernel)
theorem hw_4 : Cond.selects RX2 yX2_chooseEverywhere yX2_chooseEverywhere ∈ xw_big := xw_in (List.mem_of_getElem? (i := 4) (by decide +kernel)) (by decide +kernel)
theorem hw_5 : Cond.selects RX2 yX2_chooseAnew yX2_chooseAnew ∈ xw_big := xw_in (List.mem_of_getElem? (i := 5) (by decide +kernel)) (by decide +kernel)
theorem hw_6 : Cond.selects RX1 yX1_findBestNeighbour yX1_findBestNeighbour ∈ xw_big := xw_in (List.mem_of_getElem? (i := 6) (by decide +kernel)) (by decide +kernel)
theorem hw_7 : Cond.selects RX2 yX2_tellAll yX2_tellAll ∈ xw_big := xw_in (List.mem_of_getElem? (i := 7) (by decide +kernel)) (by decide +kernel)
theorem hw_8 : Cond.selects RX2 yX2_askAll yX2_askAll ∈ xw_big := xw_in (List.mem_of_getElem? (i := 8) (by decide +kernel)) (by decide +kernel)
theorem hw_9 : Cond.selects RX2 yX2_requestAll yX2_requestAll ∈ xw_big := xw_in (List.mem_of_getElem? (i := 9) (by decide +kernel)) (by decide +kernel)
theorem hw_10 : Cond.selects RX0 yX0_put yX0_put ∈ xw_big := xw_in (List.mem_of_getElem? (i := 10) (by decide +kernel)) (by decide +kernel)
theorem hw_11 : Cond.selects RX2 yX2_requireLetter yX2_requireLetter ∈ xw_big := xw_in (List.mem_of_getElem? (i := 11) (by decide +kernel)) (by decide +kernel)
theorem hw_12 : Cond.selects RX2 yX2_handOver yX2_handOver ∈ xw_big := xw_in (List.mem_of_getElem? (i := 12) (by decide +kernel)) (by decide +kernel)
theorem hw_13 : Cond.selects RX2 yX2_hearTelling yX2_hearTelling ∈ xw_big := xw_in (List.mem_of_getElem? (i := 13) (by decide +kernel)) (by decide +kernel)
theorem hw_14 : Cond.selects RX2 yX2_hearRequest yX2_hearRequest ∈ xw_big := xw_in (List.mem_of_getElem? (i := 14) (by decide +kernel)) (by decide +kernel)
theorem hw_15 : Cond.selects RX2 yX2_countAllLinks yX2_countAllLinks ∈ xw_big := xw_in (List.mem_of_getElem? (i := 15) (by decide +kernel)) (by decide +kernel)
theorem hw_16 : Cond.selects RX3 yX3_refuses yX3_refuses ∈ xw_big := xw_in (List.mem_of_getElem? (i := 16) (by decide +kernel)) (by decide +kernel)
theorem hw_17 : Cond.selects RX3 yX3_introduces yX3_introduces ∈ xw_big := xw_in (List.mem_of_getElem? (i := 17) (by decide +kernel)) (by decide +kernel)
theorem hw_18 : Cond.selects RX3 yX3_tells yX3_tells ∈ xw_big := xw_in (List.mem_of_getElem? (i := 18) (by decide +kernel)) (by decide +kernel)
theorem hw_19 : Cond.selects RX3 yX3_send yX3_send ∈ xw_big := xw_in (List.mem_of_getElem? (i := 19) (by decide +kernel)) (by decide +kernel)
theorem hw_20 : Cond.selects RX3 yX3_choosesAll yX3_choosesAll ∈ xw_big := xw_in (List.mem_of_getElem? (i := 20) (by decide +kernel)) (by decide +kernel)
theorem hw_21 : Cond.selects RX3 yX3_chooses yX3_chooses ∈ xw_big := xw_in (List.mem_of_getElem? (i := 21) (by decide +kernel)) (by decide +kernel)
theorem hw_22 : Cond.selects RX3 yX3_by yX3_by ∈ xw_big := xw_in (List.mem_of_getElem? (i := 22) (by decide +kernel)) (by decide +kernel)
theorem hw_23 : Cond.selects RX3 yX3_isGood yX3_isGood ∈ xw_big := xw_in (List.mem_of_getElem? (i := 23) (by decide +kernel)) (by decide +kernel)
theorem hw_24 : Cond.selects RX3 yX3_tellsAll yX3_tellsAll ∈ xw_big := xw_in (List.mem_of_getElem? (i := 24) (by decide +kernel)) (by decide +kernel)
theorem hw_25 : Cond.selects RX3 yX3_wanted yX3_wanted ∈ xw_big := xw_in (List.mem_of_getElem? (i := 25) (by decide +kernel)) (by decide +kernel)
theorem hw_26 : Cond.selects RX3 yX3_asks yX3_asks ∈ xw_big := xw_in (List.mem_of_getElem? (i := 26) (by decide +kernel)) (by decide +kernel)
theorem hw_27 : Cond.selects RX3 yX3_takes yX3_takes ∈ xw_big := xw_in (List.mem_of_getElem? (i := 27) (by decide +kernel)) (by decide +kernel)
theorem hw_28 : Cond.selects RX3 yX3_hands yX3_hands ∈ xw_big := xw_in (List.mem_of_getElem? (i := 28) (by decide +kernel)) (by decide +kernel)
theorem hw_29 : Cond.selects RX3 yX3_requested yX3_requested ∈ xw_big := xw_in (List.mem_of_getElem? (i := 29) (by decide +kernel)) (by decide +kernel)
theorem hw_31 : Cond.initialized RX2 ∈ xw_big := xw_in (List.mem_of_getElem? (i := 31) (by decide +kernel)) (by decide +kernel)
theorem hw_32 : Cond.initialized RX1 ∈ xw_big := xw_in (List.mem_of_getElem? (i := 32) (by decide +kernel)) (by decide +kernel)
theorem hw_33 : Cond.initialized RJ7 ∈ xw_big := xw_in (List.mem_of_getElem? (i := 33) (by decide +kernel)) (by decide +kernel)
theorem hw_34 : Cond.initialized RX0 ∈ xw_big := xw_in (List.mem_of_getElem? (i := 34) (by decide +kernel)) (by decide +kernel)
theorem hw_35 : Cond.initialized RX3 ∈ xw_big := xw_in (List.mem_of_getElem? (i := 35) (by decide +kernel)) (by decide +kernel)
theorem hw_39 : Cond.initialized "java/lang/IllegalArgumentException" ∈ xw_big := xw_in (List.mem_of_getElem? (i := 39) (by decide +kernel)) (by decide +kernel)
theorem hw_40 : Cond.initialized "java/lang/Math" ∈ xw_big := xw_in (List.mem_of_getElem? (i := 40) (by decide +kernel)) (by decide +kernel)
theorem hw_41 : Cond.initialized "java/lang/IllegalStateException" ∈ xw_big := xw_in (List.mem_of_getElem? (i := 41) (by decide +kernel)) (by decide +kernel)
theorem hw_59 : Cond.methodLink RX1 45 yJ7_fill_53178 ∈ xw_big := xw_in (List.mem_of_getElem? (i := 59) (by decide +kernel)) (by decide +kernel)
theorem hw_60 : Cond.static yJ7_fill_53178 ∈ xw_big := xw_in (List.mem_of_getElem? (i := 60) (by decide +kernel)) (by decide +kernel)
theorem hw_61 : Cond.code yJ7_fill_53178 cJ7_fill_53178 4 none ∈ xw_big := xw_in (List.mem_of_getElem? (i := 61) (by decide +kernel)) (by decide +kernel)
theorem hw_62 : Cond.fieldLink RX1 9 "BabelMesh$Radio" "linkCost" "[I" ∈ xw_big := xw_in (List.mem_of_getElem? (i := 62) (by decide +kernel)) (by decide +kernel)
theorem hw_63 : Cond.fieldLink RX2 32 "BabelMesh$Radio" "linkCost" "[I" ∈ xw_big := xw_in (List.mem_of_getElem? (i := 63) (by decide +kernel)) (by decide +kernel)
theorem hw_64 : Cond.fieldLink RX1 15 "BabelMesh$Radio" "boundNumber" "[I" ∈ xw_big := xw_in (List.mem_of_getElem? (i := 64) (by decide +kernel)) (by decide +kernel)
theorem hw_65 : Cond.fieldLink RX2 122 "BabelMesh$Radio" "boundNumber" "[I" ∈ xw_big := xw_in (List.mem_of_getElem? (i := 65) (by decide +kernel)) (by decide +kernel)
theorem hw_66 : Cond.fieldLink RX1 18 "BabelMesh$Radio" "boundMetric" "[I" ∈ xw_big := xw_in (List.mem_of_getElem? (i := 66) (by decide +kernel)) (by decide +kernel)
theorem hw_67 : Cond.fieldLink RX2 125 "BabelMesh$Radio" "boundMetric" "[I" ∈ xw_big := xw_in (List.mem_of_getElem? (i := 67) (by decide +kernel)) (by decide +kernel)
theorem hw_68 : Cond.fieldLink RX1 21 "BabelMesh$Radio" "chosen" "[I" ∈ xw_big := xw_in (List.mem_of_getElem? (i := 68) (by decide +kernel)) (by decide +kernel)
theorem hw_69 : Cond.fieldLink RX2 113 "BabelMesh$Radio" "chosen" "[I" ∈ xw_big := xw_in (List.mem_of_getElem? (i := 69) (by decide +kernel)) (by decide +kernel)
theorem hw_70 : Cond.fieldLink RX1 24 "BabelMesh$Radio" "wayNumber" "[I" ∈ xw_big := xw_in (List.mem_of_getElem? (i := 70) (by decide +kernel)) (by decide +kernel)
theorem hw_71 : Cond.fieldLink RX2 116 "BabelMesh$Radio" "wayNumber" "[I" ∈ xw_big := xw_in (List.mem_of_getElem? (i := 71) (by decide +kernel)) (by decide +kernel)
theorem hw_72 : Cond.fieldLink RX1 27 "BabelMesh$Radio" "wayMetric" "[I" ∈ xw_big := xw_in (List.mem_of_getElem? (i := 72) (by decide +kernel)) (by decide +kernel)
theorem hw_73 : Cond.fieldLink RX2 119 "BabelMesh$Radio" "wayMetric" "[I" ∈ xw_big := xw_in (List.mem_of_getElem? (i := 73) (by decide +kernel)) (by decide +kernel)
theorem hw_74 : Cond.fieldLink RX1 30 "BabelMesh$Radio" "passedNumber" "[I" ∈ xw_big := xw_in (List.mem_of_getElem? (i := 74) (by decide +kernel)) (by decide +kernel)
theorem hw_75 : Cond.fieldLink RX2 181 "BabelMesh$Radio" "passedNumber" "[I" ∈ xw_big := xw_in (List.mem_of_getElem? (i := 75) (by decide +kernel)) (by decide +kernel)
theorem hw_76 : Cond.fieldLink RX1 35 "BabelMesh$Radio" "toldNumber" "[[I" ∈ xw_big := xw_in (List.mem_of_getElem? (i := 76) (by decide +kernel)) (by decide +kernel)
theorem hw_77 : Cond.fieldLink RX2 128 "BabelMesh$Radio" "toldNumber" "[[I" ∈ xw_big := xw_in (List.mem_of_getElem? (i := 77) (by decide +kernel)) (by decide +kernel)
theorem hw_78 : Cond.fieldLink RX1 38 "BabelMesh$Radio" "toldMetric" "[[I" ∈ xw_big := xw_in (List.mem_of_getElem? (i := 78) (by decide +kernel)) (by decide +kernel)
theorem hw_79 : Cond.fieldLink RX2 132 "BabelMesh$Radio" "toldMetric" "[[I" ∈ xw_big := xw_in (List.mem_of_getElem? (i := 79) (by decide +kernel)) (by decide +kernel)
theorem hw_80 : Cond.fieldLink RX1 41 "BabelMesh$Radio" "self" "I" ∈ xw_big := xw_in (List.mem_of_getElem? (i := 80) (by decide +kernel)) (by decide +kernel)
theorem hw_110 : Cond.fieldLink RX0 11 "BabelMesh$LetterRow" "fields" "[[I" ∈ xw_big := xw_in (List.mem_of_getElem? (i := 110) (by decide +kernel)) (by decide +kernel)
theorem hw_111 : Cond.fieldLink RX0 16 "BabelMesh$LetterRow" "first" "I" ∈ xw_big := xw_in (List.mem_of_getElem? (i := 111) (by decide +kernel)) (by decide +kernel)
theorem hw_112 : Cond.fieldLink RX0 27 "BabelMesh$LetterRow" "count" "I" ∈ xw_big := xw_in (List.mem_of_getElem? (i := 112) (by decide +kernel)) (by decide +kernel)
theorem hw_113 : Cond.fieldLink RX2 101 "BabelMesh$LetterRow" "count" "I" ∈ xw_big := xw_in (List.mem_of_getElem? (i := 113) (by decide +kernel)) (by decide +kernel)
theorem hw_114 : Cond.fieldLink RX2 57 "BabelMesh$LetterRow" "sent" "I" ∈ xw_big := xw_in (List.mem_of_getElem? (i := 114) (by decide +kernel)) (by decide +kernel)
theorem hw_115 : Cond.fieldLink RX0 24 "BabelMesh$LetterRow" "sent" "I" ∈ xw_big := xw_in (List.mem_of_getElem? (i := 115) (by decide +kernel)) (by decide +kernel)
theorem hw_116 : Cond.fieldLink RX0 30 "BabelMesh$LetterRow" "lostForRoom" "I" ∈ xw_big := xw_in (List.mem_of_getElem? (i := 116) (by decide +kernel)) (by decide +kernel)
theorem hw_117 : Cond.fieldLink RX2 139 "BabelMesh$LetterRow" "lostForRoom" "I" ∈ xw_big := xw_in (List.mem_of_getElem? (i := 117) (by decide +kernel)) (by decide +kernel)
theorem hw_118 : Cond.fieldLink RX0 41 "BabelMesh$LetterRow" "lostOnTheWay" "I" ∈ xw_big := xw_in (List.mem_of_getElem? (i := 118) (by decide +kernel)) (by decide +kernel)
theorem hw_119 : Cond.fieldLink RX2 142 "BabelMesh$LetterRow" "lostOnTheWay" "I" ∈ xw_big := xw_in (List.mem_of_getElem? (i := 119) (by decide +kernel)) (by decide +kernel)
theorem hw_133 : Cond.fieldLink RX2 11 "BabelMesh" "radios" "[LBabelMesh$Radio;" ∈ xw_big := xw_in (List.mem_of_getElem? (i := 133) (by decide +kernel)) (by decide +kernel)
theorem hw_134 : Cond.fieldLink RX2 21 "BabelMesh" "letters" "LBabelMesh$LetterRow;" ∈ xw_big := xw_in (List.mem_of_getElem? (i := 134) (by decide +kernel)) (by decide +kernel)
theorem hw_148 : Cond.methodLink RX2 25 yX2_requirePair ∈ xw_big := xw_in (List.mem_of_getElem? (i := 148) (by decide +kernel)) (by decide +kernel)
theorem hw_149 : Cond.static yX2_requirePair ∈ xw_big := xw_in (List.mem_of_getElem? (i := 149) (by decide +kernel)) (by decide +kernel)
theorem hw_150 : Cond.code yX2_requirePair cX2_requirePair 2 none ∈ xw_big := xw_in (List.mem_of_getElem? (i := 150) (by decide +kernel)) (by decide +kernel)
theorem hw_151 : Cond.methodLink RX2 54 yX2_requireNode ∈ xw_big := xw_in (List.mem_of_getElem? (i := 151) (by decide +kernel)) (by decide +kernel)
theorem hw_152 : Cond.static yX2_requireNode ∈ xw_big := xw_in (List.mem_of_getElem? (i := 152) (by decide +kernel)) (by decide +kernel)
theorem hw_153 : Cond.code yX2_requireNode cX2_requireNode 1 none ∈ xw_big := xw_in (List.mem_of_getElem? (i := 153) (by decide +kernel)) (by decide +kernel)
theorem hw_154 : Cond.classLink RX2 148 "java/lang/IllegalArgumentException" ∈ xw_big := xw_in (List.mem_of_getElem? (i := 154) (by decide +kernel)) (by decide +kernel)
theorem hw_222 : Cond.methodLink RX2 29 yX2_requireUpTo ∈ xw_big := xw_in (List.mem_of_getElem? (i := 222) (by decide +kernel)) (by decide +kernel)
theorem hw_223 : Cond.static yX2_requireUpTo ∈ xw_big := xw_in (List.mem_of_getElem? (i := 223) (by decide +kernel)) (by decide +kernel)
theorem hw_224 : Cond.code yX2_requireUpTo cX2_requireUpTo 2 none ∈ xw_big := xw_in (List.mem_of_getElem? (i := 224) (by decide +kernel)) (by decide +kernel)
theorem hw_226 : Cond.methodLink RX2 36 Lib.Math.min.name ∈ xw_big := xw_in (List.mem_of_getElem? (i := 226) (by decide +kernel)) (by decide +kernel)
theorem hw_227 : Cond.static Lib.Math.min.name ∈ xw_big := xw_in (List.mem_of_getElem? (i := 227) (by decide +kernel)) (by decide +kernel)
theorem hw_228 : Cond.code Lib.Math.min.name Lib.Math.min.code 2 (some .int) ∈ xw_big := xw_in (List.mem_of_getElem? (i := 228) (by decide +kernel)) (by decide +kernel)
theorem hw_229 : Cond.methodLink RX2 42 Lib.Math.max.name ∈ xw_big := xw_in (List.mem_of_getElem? (i := 229) (by decide +kernel)) (by decide +kernel)
theorem hw_230 : Cond.static Lib.Math.max.name ∈ xw_big := xw_in (List.mem_of_getElem? (i := 230) (by decide +kernel)) (by decide +kernel)
theorem hw_231 : Cond.code Lib.Math.max.name Lib.Math.max.code 2 (some .int) ∈ xw_big := xw_in (List.mem_of_getElem? (i := 231) (by decide +kernel)) (by decide +kernel)
theorem hw_232 : Cond.methodLink RX2 45 yX2_tellEveryWay ∈ xw_big := xw_in (List.mem_of_getElem? (i := 232) (by decide +kernel)) (by decide +kernel)
theorem hw_234 : Cond.instanceMethod yX2_tellEveryWay ∈ xw_big := xw_in (List.mem_of_getElem? (i := 234) (by decide +kernel)) (by decide +kernel)
theorem hw_235 : Cond.code yX2_tellEveryWay cX2_tellEveryWay 4 none ∈ xw_big := xw_in (List.mem_of_getElem? (i := 235) (by decide +kernel)) (by decide +kernel)
theorem hw_236 : Cond.methodLink RX2 61 yX1_hasWay ∈ xw_big := xw_in (List.mem_of_getElem? (i := 236) (by decide +kernel)) (by decide +kernel)
theorem hw_237 : Cond.instanceMethod yX1_hasWay ∈ xw_big := xw_in (List.mem_of_getElem? (i := 237) (by decide +kernel)) (by decide +kernel)
theorem hw_238 : Cond.selects RX1 yX1_hasWay yX1_hasWay ∈ xw_big := xw_in (List.mem_of_getElem? (i := 238) (by decide +kernel)) (by decide +kernel)
theorem hw_239 : Cond.code yX1_hasWay cX1_hasWay 2 (some .boolean) ∈ xw_big := xw_in (List.mem_of_getElem? (i := 239) (by decide +kernel)) (by decide +kernel)
theorem hw_240 : Cond.methodLink RX2 174 yX2_tell ∈ xw_big := xw_in (List.mem_of_getElem? (i := 240) (by decide +kernel)) (by decide +kernel)
theorem hw_242 : Cond.instanceMethod yX2_tell ∈ xw_big := xw_in (List.mem_of_getElem? (i := 242) (by decide +kernel)) (by decide +kernel)
theorem hw_243 : Cond.code yX2_tell cX2_tell 7 none ∈ xw_big := xw_in (List.mem_of_getElem? (i := 243) (by decide +kernel)) (by decide +kernel)
theorem hw_244 : Cond.methodLink RX2 65 yX1_hasBound ∈ xw_big := xw_in (List.mem_of_getElem? (i := 244) (by decide +kernel)) (by decide +kernel)
theorem hw_245 : Cond.instanceMethod yX1_hasBound ∈ xw_big := xw_in (List.mem_of_getElem? (i := 245) (by decide +kernel)) (by decide +kernel)
theorem hw_246 : Cond.selects RX1 yX1_hasBound yX1_hasBound ∈ xw_big := xw_in (List.mem_of_getElem? (i := 246) (by decide +kernel)) (by decide +kernel)
theorem hw_247 : Cond.code yX1_hasBound cX1_hasBound 2 (some .boolean) ∈ xw_big := xw_in (List.mem_of_getElem? (i := 247) (by decide +kernel)) (by decide +kernel)
theorem hw_248 : Cond.constant RX2 159 65535 ∈ xw_big := xw_in (List.mem_of_getElem? (i := 248) (by decide +kernel)) (by decide +kernel)
theorem hw_249 : Cond.methodLink RX2 190 yX0_send ∈ xw_big := xw_in (List.mem_of_getElem? (i := 249) (by decide +kernel)) (by decide +kernel)
theorem hw_250 : Cond.instanceMethod yX0_send ∈ xw_big := xw_in (List.mem_of_getElem? (i := 250) (by decide +kernel)) (by decide +kernel)
theorem hw_251 : Cond.selects RX0 yX0_send yX0_send ∈ xw_big := xw_in (List.mem_of_getElem? (i := 251) (by decide +kernel)) (by decide +kernel)
theorem hw_252 : Cond.code yX0_send cX0_send 8 none ∈ xw_big := xw_in (List.mem_of_getElem? (i := 252) (by decide +kernel)) (by decide +kernel)
theorem hw_253 : Cond.methodLink RX0 20 yX0_placeOf ∈ xw_big := xw_in (List.mem_of_getElem? (i := 253) (by decide +kernel)) (by decide +kernel)
theorem hw_255 : Cond.instanceMethod yX0_placeOf ∈ xw_big := xw_in (List.mem_of_getElem? (i := 255) (by decide +kernel)) (by decide +kernel)
theorem hw_256 : Cond.code yX0_placeOf cX0_placeOf 3 (some .int) ∈ xw_big := xw_in (List.mem_of_getElem? (i := 256) (by decide +kernel)) (by decide +kernel)
theorem hw_257 : Cond.methodLink RX2 135 yX1_isGood ∈ xw_big := xw_in (List.mem_of_getElem? (i := 257) (by decide +kernel)) (by decide +kernel)
theorem hw_258 : Cond.instanceMethod yX1_isGood ∈ xw_big := xw_in (List.mem_of_getElem? (i := 258) (by decide +kernel)) (by decide +kernel)
theorem hw_259 : Cond.selects RX1 yX1_isGood yX1_isGood ∈ xw_big := xw_in (List.mem_of_getElem? (i := 259) (by decide +kernel)) (by decide +kernel)
theorem hw_260 : Cond.code yX1_isGood cX1_isGood 4 (some .boolean) ∈ xw_big := xw_in (List.mem_of_getElem? (i := 260) (by decide +kernel)) (by decide +kernel)
theorem hw_261 : Cond.constant RX1 51 65535 ∈ xw_big := xw_in (List.mem_of_getElem? (i := 261) (by decide +kernel)) (by decide +kernel)
theorem hw_263 : Cond.static yX2_isNewer ∈ xw_big := xw_in (List.mem_of_getElem? (i := 263) (by decide +kernel)) (by decide +kernel)
theorem hw_264 : Cond.code yX2_isNewer cX2_isNewer 3 (some .boolean) ∈ xw_big := xw_in (List.mem_of_getElem? (i := 264) (by decide +kernel)) (by decide +kernel)
theorem hw_265 : Cond.methodLink RX2 48 yX1_forgetNeighbour ∈ xw_big := xw_in (List.mem_of_getElem? (i := 265) (by decide +kernel)) (by decide +kernel)
theorem hw_266 : Cond.instanceMethod yX1_forgetNeighbour ∈ xw_big := xw_in (List.mem_of_getElem? (i := 266) (by decide +kernel)) (by decide +kernel)
theorem hw_267 : Cond.selects RX1 yX1_forgetNeighbour yX1_forgetNeighbour ∈ xw_big := xw_in (List.mem_of_getElem? (i := 267) (by decide +kernel)) (by decide +kernel)
theorem hw_268 : Cond.code yX1_forgetNeighbour cX1_forgetNeighbour 2 none ∈ xw_big := xw_in (List.mem_of_getElem? (i := 268) (by decide +kernel)) (by decide +kernel)
theorem hw_269 : Cond.methodLink RX2 51 yX2_chooseEverywhere ∈ xw_big := xw_in (List.mem_of_getElem? (i := 269) (by decide +kernel)) (by decide +kernel)
theorem hw_271 : Cond.instanceMethod yX2_chooseEverywhere ∈ xw_big := xw_in (List.mem_of_getElem? (i := 271) (by decide +kernel)) (by decide +kernel)
theorem hw_272 : Cond.code yX2_chooseEverywhere cX2_chooseEverywhere 3 none ∈ xw_big := xw_in (List.mem_of_getElem? (i := 272) (by decide +kernel)) (by decide +kernel)
theorem hw_273 : Cond.methodLink RX2 167 yX2_chooseAnew ∈ xw_big := xw_in (List.mem_of_getElem? (i := 273) (by decide +kernel)) (by decide +kernel)
theorem hw_275 : Cond.instanceMethod yX2_chooseAnew ∈ xw_big := xw_in (List.mem_of_getElem? (i := 275) (by decide +kernel)) (by decide +kernel)
theorem hw_276 : Cond.code yX2_chooseAnew cX2_chooseAnew 3 none ∈ xw_big := xw_in (List.mem_of_getElem? (i := 276) (by decide +kernel)) (by decide +kernel)
theorem hw_277 : Cond.methodLink RX2 187 yX1_takeBestWay ∈ xw_big := xw_in (List.mem_of_getElem? (i := 277) (by decide +kernel)) (by decide +kernel)
theorem hw_278 : Cond.instanceMethod yX1_takeBestWay ∈ xw_big := xw_in (List.mem_of_getElem? (i := 278) (by decide +kernel)) (by decide +kernel)
theorem hw_279 : Cond.selects RX1 yX1_takeBestWay yX1_takeBestWay ∈ xw_big := xw_in (List.mem_of_getElem? (i := 279) (by decide +kernel)) (by decide +kernel)
theorem hw_280 : Cond.code yX1_takeBestWay cX1_takeBestWay 6 (some .boolean) ∈ xw_big := xw_in (List.mem_of_getElem? (i := 280) (by decide +kernel)) (by decide +kernel)
theorem hw_281 : Cond.methodLink RX1 60 yX1_findBestNeighbour ∈ xw_big := xw_in (List.mem_of_getElem? (i := 281) (by decide +kernel)) (by decide +kernel)
theorem hw_283 : Cond.instanceMethod yX1_findBestNeighbour ∈ xw_big := xw_in (List.mem_of_getElem? (i := 283) (by decide +kernel)) (by decide +kernel)
theorem hw_284 : Cond.code yX1_findBestNeighbour cX1_findBestNeighbour 8 (some .int) ∈ xw_big := xw_in (List.mem_of_getElem? (i := 284) (by decide +kernel)) (by decide +kernel)
theorem hw_285 : Cond.constant RX1 63 60000 ∈ xw_big := xw_in (List.mem_of_getElem? (i := 285) (by decide +kernel)) (by decide +kernel)
theorem hw_286 : Cond.methodLink RX1 64 yX1_isGood ∈ xw_big := xw_in (List.mem_of_getElem? (i := 286) (by decide +kernel)) (by decide +kernel)
theorem hw_287 : Cond.methodLink RX2 68 yX2_tellAll ∈ xw_big := xw_in (List.mem_of_getElem? (i := 287) (by decide +kernel)) (by decide +kernel)
theorem hw_289 : Cond.instanceMethod yX2_tellAll ∈ xw_big := xw_in (List.mem_of_getElem? (i := 289) (by decide +kernel)) (by decide +kernel)
theorem hw_290 : Cond.code yX2_tellAll cX2_tellAll 4 none ∈ xw_big := xw_in (List.mem_of_getElem? (i := 290) (by decide +kernel)) (by decide +kernel)
theorem hw_291 : Cond.methodLink RX2 75 yX2_askAll ∈ xw_big := xw_in (List.mem_of_getElem? (i := 291) (by decide +kernel)) (by decide +kernel)
theorem hw_293 : Cond.instanceMethod yX2_askAll ∈ xw_big := xw_in (List.mem_of_getElem? (i := 293) (by decide +kernel)) (by decide +kernel)
theorem hw_294 : Cond.code yX2_askAll cX2_askAll 5 none ∈ xw_big := xw_in (List.mem_of_getElem? (i := 294) (by decide +kernel)) (by decide +kernel)
theorem hw_295 : Cond.methodLink RX2 194 yX2_nextNumber ∈ xw_big := xw_in (List.mem_of_getElem? (i := 295) (by decide +kernel)) (by decide +kernel)
theorem hw_296 : Cond.static yX2_nextNumber ∈ xw_big := xw_in (List.mem_of_getElem? (i := 296) (by decide +kernel)) (by decide +kernel)
theorem hw_297 : Cond.code yX2_nextNumber cX2_nextNumber 1 (some .int) ∈ xw_big := xw_in (List.mem_of_getElem? (i := 297) (by decide +kernel)) (by decide +kernel)
theorem hw_298 : Cond.methodLink RX2 184 yX2_requestAll ∈ xw_big := xw_in (List.mem_of_getElem? (i := 298) (by decide +kernel)) (by decide +kernel)
theorem hw_300 : Cond.instanceMethod yX2_requestAll ∈ xw_big := xw_in (List.mem_of_getElem? (i := 300) (by decide +kernel)) (by decide +kernel)
theorem hw_301 : Cond.code yX2_requestAll cX2_requestAll 7 none ∈ xw_big := xw_in (List.mem_of_getElem? (i := 301) (by decide +kernel)) (by decide +kernel)
theorem hw_316 : Cond.methodLink RX2 71 yX1_raiseOwnNumber ∈ xw_big := xw_in (List.mem_of_getElem? (i := 316) (by decide +kernel)) (by decide +kernel)
theorem hw_317 : Cond.instanceMethod yX1_raiseOwnNumber ∈ xw_big := xw_in (List.mem_of_getElem? (i := 317) (by decide +kernel)) (by decide +kernel)
theorem hw_318 : Cond.selects RX1 yX1_raiseOwnNumber yX1_raiseOwnNumber ∈ xw_big := xw_in (List.mem_of_getElem? (i := 318) (by decide +kernel)) (by decide +kernel)
theorem hw_319 : Cond.code yX1_raiseOwnNumber cX1_raiseOwnNumber 1 (some .int) ∈ xw_big := xw_in (List.mem_of_getElem? (i := 319) (by decide +kernel)) (by decide +kernel)
theorem hw_336 : Cond.methodLink RX2 78 yX1_countLinks ∈ xw_big := xw_in (List.mem_of_getElem? (i := 336) (by decide +kernel)) (by decide +kernel)
theorem hw_337 : Cond.instanceMethod yX1_countLinks ∈ xw_big := xw_in (List.mem_of_getElem? (i := 337) (by decide +kernel)) (by decide +kernel)
theorem hw_338 : Cond.selects RX1 yX1_countLinks yX1_countLinks ∈ xw_big := xw_in (List.mem_of_getElem? (i := 338) (by decide +kernel)) (by decide +kernel)
theorem hw_339 : Cond.code yX1_countLinks cX1_countLinks 3 (some .int) ∈ xw_big := xw_in (List.mem_of_getElem? (i := 339) (by decide +kernel)) (by decide +kernel)
theorem hw_340 : Cond.classLink RX2 81 "java/lang/IllegalStateException" ∈ xw_big := xw_in (List.mem_of_getElem? (i := 340) (by decide +kernel)) (by decide +kernel)
theorem hw_356 : Cond.methodLink RX2 88 yX1_forgetBounds ∈ xw_big := xw_in (List.mem_of_getElem? (i := 356) (by decide +kernel)) (by decide +kernel)
theorem hw_357 : Cond.instanceMethod yX1_forgetBounds ∈ xw_big := xw_in (List.mem_of_getElem? (i := 357) (by decide +kernel)) (by decide +kernel)
theorem hw_358 : Cond.selects RX1 yX1_forgetBounds yX1_forgetBounds ∈ xw_big := xw_in (List.mem_of_getElem? (i := 358) (by decide +kernel)) (by decide +kernel)
theorem hw_359 : Cond.code yX1_forgetBounds cX1_forgetBounds 1 none ∈ xw_big := xw_in (List.mem_of_getElem? (i := 359) (by decide +kernel)) (by decide +kernel)
theorem hw_360 : Cond.methodLink RX2 91 yX0_loseAllOf ∈ xw_big := xw_in (List.mem_of_getElem? (i := 360) (by decide +kernel)) (by decide +kernel)
theorem hw_361 : Cond.instanceMethod yX0_loseAllOf ∈ xw_big := xw_in (List.mem_of_getElem? (i := 361) (by decide +kernel)) (by decide +kernel)
theorem hw_362 : Cond.selects RX0 yX0_loseAllOf yX0_loseAllOf ∈ xw_big := xw_in (List.mem_of_getElem? (i := 362) (by decide +kernel)) (by decide +kernel)
theorem hw_363 : Cond.code yX0_loseAllOf cX0_loseAllOf 4 (some .int) ∈ xw_big := xw_in (List.mem_of_getElem? (i := 363) (by decide +kernel)) (by decide +kernel)
theorem hw_364 : Cond.methodLink RX0 37 yX0_read ∈ xw_big := xw_in (List.mem_of_getElem? (i := 364) (by decide +kernel)) (by decide +kernel)
theorem hw_365 : Cond.instanceMethod yX0_read ∈ xw_big := xw_in (List.mem_of_getElem? (i := 365) (by decide +kernel)) (by decide +kernel)
theorem hw_366 : Cond.selects RX0 yX0_read yX0_read ∈ xw_big := xw_in (List.mem_of_getElem? (i := 366) (by decide +kernel)) (by decide +kernel)
theorem hw_367 : Cond.code yX0_read cX0_read 3 (some .int) ∈ xw_big := xw_in (List.mem_of_getElem? (i := 367) (by decide +kernel)) (by decide +kernel)
theorem hw_368 : Cond.methodLink RX0 33 yX0_put ∈ xw_big := xw_in (List.mem_of_getElem? (i := 368) (by decide +kernel)) (by decide +kernel)
theorem hw_370 : Cond.instanceMethod yX0_put ∈ xw_big := xw_in (List.mem_of_getElem? (i := 370) (by decide +kernel)) (by decide +kernel)
theorem hw_371 : Cond.code yX0_put cX0_put 6 none ∈ xw_big := xw_in (List.mem_of_getElem? (i := 371) (by decide +kernel)) (by decide +kernel)
theorem hw_379 : Cond.methodLink RX2 95 yX2_requireLetter ∈ xw_big := xw_in (List.mem_of_getElem? (i := 379) (by decide +kernel)) (by decide +kernel)
theorem hw_381 : Cond.instanceMethod yX2_requireLetter ∈ xw_big := xw_in (List.mem_of_getElem? (i := 381) (by decide +kernel)) (by decide +kernel)
theorem hw_382 : Cond.code yX2_requireLetter cX2_requireLetter 2 none ∈ xw_big := xw_in (List.mem_of_getElem? (i := 382) (by decide +kernel)) (by decide +kernel)
theorem hw_384 : Cond.methodLink RX2 98 yX2_handOver ∈ xw_big := xw_in (List.mem_of_getElem? (i := 384) (by decide +kernel)) (by decide +kernel)
theorem hw_386 : Cond.instanceMethod yX2_handOver ∈ xw_big := xw_in (List.mem_of_getElem? (i := 386) (by decide +kernel)) (by decide +kernel)
theorem hw_387 : Cond.code yX2_handOver cX2_handOver 8 none ∈ xw_big := xw_in (List.mem_of_getElem? (i := 387) (by decide +kernel)) (by decide +kernel)
theorem hw_388 : Cond.methodLink RX2 104 yX0_read ∈ xw_big := xw_in (List.mem_of_getElem? (i := 388) (by decide +kernel)) (by decide +kernel)
theorem hw_389 : Cond.methodLink RX2 107 yX0_takeAway ∈ xw_big := xw_in (List.mem_of_getElem? (i := 389) (by decide +kernel)) (by decide +kernel)
theorem hw_390 : Cond.instanceMethod yX0_takeAway ∈ xw_big := xw_in (List.mem_of_getElem? (i := 390) (by decide +kernel)) (by decide +kernel)
theorem hw_391 : Cond.selects RX0 yX0_takeAway yX0_takeAway ∈ xw_big := xw_in (List.mem_of_getElem? (i := 391) (by decide +kernel)) (by decide +kernel)
theorem hw_392 : Cond.code yX0_takeAway cX0_takeAway 3 none ∈ xw_big := xw_in (List.mem_of_getElem? (i := 392) (by decide +kernel)) (by decide +kernel)
theorem hw_393 : Cond.methodLink RX2 160 yX2_hearTelling ∈ xw_big := xw_in (List.mem_of_getElem? (i := 393) (by decide +kernel)) (by decide +kernel)
theorem hw_395 : Cond.instanceMethod yX2_hearTelling ∈ xw_big := xw_in (List.mem_of_getElem? (i := 395) (by decide +kernel)) (by decide +kernel)
theorem hw_396 : Cond.code yX2_hearTelling cX2_hearTelling 8 none ∈ xw_big := xw_in (List.mem_of_getElem? (i := 396) (by decide +kernel)) (by decide +kernel)
theorem hw_397 : Cond.methodLink RX2 164 yX2_hearRequest ∈ xw_big := xw_in (List.mem_of_getElem? (i := 397) (by decide +kernel)) (by decide +kernel)
theorem hw_399 : Cond.instanceMethod yX2_hearRequest ∈ xw_big := xw_in (List.mem_of_getElem? (i := 399) (by decide +kernel)) (by decide +kernel)
theorem hw_400 : Cond.code yX2_hearRequest cX2_hearRequest 7 none ∈ xw_big := xw_in (List.mem_of_getElem? (i := 400) (by decide +kernel)) (by decide +kernel)
theorem hw_401 : Cond.methodLink RX2 170 yX2_isNewer ∈ xw_big := xw_in (List.mem_of_getElem? (i := 401) (by decide +kernel)) (by decide +kernel)
theorem hw_402 : Cond.methodLink RX2 178 yX1_hasPassedOn ∈ xw_big := xw_in (List.mem_of_getElem? (i := 402) (by decide +kernel)) (by decide +kernel)
theorem hw_403 : Cond.instanceMethod yX1_hasPassedOn ∈ xw_big := xw_in (List.mem_of_getElem? (i := 403) (by decide +kernel)) (by decide +kernel)
theorem hw_404 : Cond.selects RX1 yX1_hasPassedOn yX1_hasPassedOn ∈ xw_big := xw_in (List.mem_of_getElem? (i := 404) (by decide +kernel)) (by decide +kernel)
theorem hw_405 : Cond.code yX1_hasPassedOn cX1_hasPassedOn 4 (some .boolean) ∈ xw_big := xw_in (List.mem_of_getElem? (i := 405) (by decide +kernel)) (by decide +kernel)
theorem hw_427 : Cond.methodLink RX2 110 yX0_repeat ∈ xw_big := xw_in (List.mem_of_getElem? (i := 427) (by decide +kernel)) (by decide +kernel)
theorem hw_428 : Cond.instanceMethod yX0_repeat ∈ xw_big := xw_in (List.mem_of_getElem? (i := 428) (by decide +kernel)) (by decide +kernel)
theorem hw_429 : Cond.selects RX0 yX0_repeat yX0_repeat ∈ xw_big := xw_in (List.mem_of_getElem? (i := 429) (by decide +kernel)) (by decide +kernel)
theorem hw_430 : Cond.code yX0_repeat cX0_repeat 2 (some .boolean) ∈ xw_big := xw_in (List.mem_of_getElem? (i := 430) (by decide +kernel)) (by decide +kernel)
theorem hw_473 : Cond.methodLink RX2 145 yX2_countAllLinks ∈ xw_big := xw_in (List.mem_of_getElem? (i := 473) (by decide +kernel)) (by decide +kernel)
theorem hw_475 : Cond.instanceMethod yX2_countAllLinks ∈ xw_big := xw_in (List.mem_of_getElem? (i := 475) (by decide +kernel)) (by decide +kernel)
theorem hw_476 : Cond.code yX2_countAllLinks cX2_countAllLinks 3 (some .int) ∈ xw_big := xw_in (List.mem_of_getElem? (i := 476) (by decide +kernel)) (by decide +kernel)
theorem hw_483 : Cond.fieldLink RX3 43 "BabelMeshModel" "code" "I" ∈ xw_big := xw_in (List.mem_of_getElem? (i := 483) (by decide +kernel)) (by decide +kernel)
theorem hw_484 : Cond.fieldLink RX3 7 "BabelMeshModel" "costs" "[I" ∈ xw_big := xw_in (List.mem_of_getElem? (i := 484) (by decide +kernel)) (by decide +kernel)
theorem hw_485 : Cond.fieldLink RX3 100 "BabelMeshModel" "links" "I" ∈ xw_big := xw_in (List.mem_of_getElem? (i := 485) (by decide +kernel)) (by decide +kernel)
theorem hw_486 : Cond.fieldLink RX3 13 "BabelMeshModel" "own" "[I" ∈ xw_big := xw_in (List.mem_of_getElem? (i := 486) (by decide +kernel)) (by decide +kernel)
theorem hw_487 : Cond.fieldLink RX3 16 "BabelMeshModel" "boundNumber" "[I" ∈ xw_big := xw_in (List.mem_of_getElem? (i := 487) (by decide +kernel)) (by decide +kernel)
theorem hw_488 : Cond.fieldLink RX3 19 "BabelMeshModel" "boundMetric" "[I" ∈ xw_big := xw_in (List.mem_of_getElem? (i := 488) (by decide +kernel)) (by decide +kernel)
theorem hw_489 : Cond.fieldLink RX3 22 "BabelMeshModel" "chosen" "[I" ∈ xw_big := xw_in (List.mem_of_getElem? (i := 489) (by decide +kernel)) (by decide +kernel)
theorem hw_490 : Cond.fieldLink RX3 25 "BabelMeshModel" "wayNumber" "[I" ∈ xw_big := xw_in (List.mem_of_getElem? (i := 490) (by decide +kernel)) (by decide +kernel)
theorem hw_491 : Cond.fieldLink RX3 28 "BabelMeshModel" "wayMetric" "[I" ∈ xw_big := xw_in (List.mem_of_getElem? (i := 491) (by decide +kernel)) (by decide +kernel)
theorem hw_492 : Cond.fieldLink RX3 31 "BabelMeshModel" "passed" "[I" ∈ xw_big := xw_in (List.mem_of_getElem? (i := 492) (by decide +kernel)) (by decide +kernel)
theorem hw_493 : Cond.fieldLink RX3 34 "BabelMeshModel" "toldNumber" "[I" ∈ xw_big := xw_in (List.mem_of_getElem? (i := 493) (by decide +kernel)) (by decide +kernel)
theorem hw_494 : Cond.fieldLink RX3 37 "BabelMeshModel" "toldMetric" "[I" ∈ xw_big := xw_in (List.mem_of_getElem? (i := 494) (by decide +kernel)) (by decide +kernel)
theorem hw_495 : Cond.fieldLink RX3 40 "BabelMeshModel" "letters" "[I" ∈ xw_big := xw_in (List.mem_of_getElem? (i := 495) (by decide +kernel)) (by decide +kernel)
theorem hw_496 : Cond.fieldLink RX3 51 "BabelMeshModel" "many" "I" ∈ xw_big := xw_in (List.mem_of_getElem? (i := 496) (by decide +kernel)) (by decide +kernel)
theorem hw_497 : Cond.fieldLink RX3 48 "BabelMeshModel" "sent" "I" ∈ xw_big := xw_in (List.mem_of_getElem? (i := 497) (by decide +kernel)) (by decide +kernel)
theorem hw_498 : Cond.fieldLink RX3 54 "BabelMeshModel" "full" "I" ∈ xw_big := xw_in (List.mem_of_getElem? (i := 498) (by decide +kernel)) (by decide +kernel)
theorem hw_499 : Cond.fieldLink RX3 113 "BabelMeshModel" "lost" "I" ∈ xw_big := xw_in (List.mem_of_getElem? (i := 499) (by decide +kernel)) (by decide +kernel)
theorem hw_543 : Cond.methodLink RX3 93 yX3_isNode ∈ xw_big := xw_in (List.mem_of_getElem? (i := 543) (by decide +kernel)) (by decide +kernel)
theorem hw_544 : Cond.static yX3_isNode ∈ xw_big := xw_in (List.mem_of_getElem? (i := 544) (by decide +kernel)) (by decide +kernel)
theorem hw_545 : Cond.code yX3_isNode cX3_isNode 1 (some .boolean) ∈ xw_big := xw_in (List.mem_of_getElem? (i := 545) (by decide +kernel)) (by decide +kernel)
theorem hw_546 : Cond.methodLink RX3 97 yX3_refuses ∈ xw_big := xw_in (List.mem_of_getElem? (i := 546) (by decide +kernel)) (by decide +kernel)
theorem hw_548 : Cond.instanceMethod yX3_refuses ∈ xw_big := xw_in (List.mem_of_getElem? (i := 548) (by decide +kernel)) (by decide +kernel)
theorem hw_549 : Cond.code yX3_refuses cX3_refuses 2 (some .boolean) ∈ xw_big := xw_in (List.mem_of_getElem? (i := 549) (by decide +kernel)) (by decide +kernel)
theorem hw_550 : Cond.methodLink RX3 103 yX3_introduces ∈ xw_big := xw_in (List.mem_of_getElem? (i := 550) (by decide +kernel)) (by decide +kernel)
theorem hw_552 : Cond.instanceMethod yX3_introduces ∈ xw_big := xw_in (List.mem_of_getElem? (i := 552) (by decide +kernel)) (by decide +kernel)
theorem hw_553 : Cond.code yX3_introduces cX3_introduces 4 none ∈ xw_big := xw_in (List.mem_of_getElem? (i := 553) (by decide +kernel)) (by decide +kernel)
theorem hw_554 : Cond.methodLink RX3 65 yX3_tells ∈ xw_big := xw_in (List.mem_of_getElem? (i := 554) (by decide +kernel)) (by decide +kernel)
theorem hw_556 : Cond.instanceMethod yX3_tells ∈ xw_big := xw_in (List.mem_of_getElem? (i := 556) (by decide +kernel)) (by decide +kernel)
theorem hw_557 : Cond.code yX3_tells cX3_tells 7 none ∈ xw_big := xw_in (List.mem_of_getElem? (i := 557) (by decide +kernel)) (by decide +kernel)
theorem hw_558 : Cond.methodLink RX3 57 yX3_send ∈ xw_big := xw_in (List.mem_of_getElem? (i := 558) (by decide +kernel)) (by decide +kernel)
theorem hw_560 : Cond.instanceMethod yX3_send ∈ xw_big := xw_in (List.mem_of_getElem? (i := 560) (by decide +kernel)) (by decide +kernel)
theorem hw_561 : Cond.code yX3_send cX3_send 8 none ∈ xw_big := xw_in (List.mem_of_getElem? (i := 561) (by decide +kernel)) (by decide +kernel)
theorem hw_562 : Cond.constant RX3 47 65535 ∈ xw_big := xw_in (List.mem_of_getElem? (i := 562) (by decide +kernel)) (by decide +kernel)
theorem hw_563 : Cond.methodLink RX3 61 yX3_newer ∈ xw_big := xw_in (List.mem_of_getElem? (i := 563) (by decide +kernel)) (by decide +kernel)
theorem hw_564 : Cond.static yX3_newer ∈ xw_big := xw_in (List.mem_of_getElem? (i := 564) (by decide +kernel)) (by decide +kernel)
theorem hw_565 : Cond.code yX3_newer cX3_newer 3 (some .boolean) ∈ xw_big := xw_in (List.mem_of_getElem? (i := 565) (by decide +kernel)) (by decide +kernel)
theorem hw_566 : Cond.methodLink RX3 106 yX3_choosesAll ∈ xw_big := xw_in (List.mem_of_getElem? (i := 566) (by decide +kernel)) (by decide +kernel)
theorem hw_568 : Cond.instanceMethod yX3_choosesAll ∈ xw_big := xw_in (List.mem_of_getElem? (i := 568) (by decide +kernel)) (by decide +kernel)
theorem hw_569 : Cond.code yX3_choosesAll cX3_choosesAll 3 none ∈ xw_big := xw_in (List.mem_of_getElem? (i := 569) (by decide +kernel)) (by decide +kernel)
theorem hw_570 : Cond.methodLink RX3 90 yX3_chooses ∈ xw_big := xw_in (List.mem_of_getElem? (i := 570) (by decide +kernel)) (by decide +kernel)
theorem hw_572 : Cond.instanceMethod yX3_chooses ∈ xw_big := xw_in (List.mem_of_getElem? (i := 572) (by decide +kernel)) (by decide +kernel)
theorem hw_573 : Cond.code yX3_chooses cX3_chooses 8 none ∈ xw_big := xw_in (List.mem_of_getElem? (i := 573) (by decide +kernel)) (by decide +kernel)
theorem hw_574 : Cond.methodLink RX3 74 yX3_by ∈ xw_big := xw_in (List.mem_of_getElem? (i := 574) (by decide +kernel)) (by decide +kernel)
theorem hw_576 : Cond.instanceMethod yX3_by ∈ xw_big := xw_in (List.mem_of_getElem? (i := 576) (by decide +kernel)) (by decide +kernel)
theorem hw_577 : Cond.code yX3_by cX3_by 6 (some .int) ∈ xw_big := xw_in (List.mem_of_getElem? (i := 577) (by decide +kernel)) (by decide +kernel)
theorem hw_578 : Cond.methodLink RX3 69 yX3_isGood ∈ xw_big := xw_in (List.mem_of_getElem? (i := 578) (by decide +kernel)) (by decide +kernel)
theorem hw_580 : Cond.instanceMethod yX3_isGood ∈ xw_big := xw_in (List.mem_of_getElem? (i := 580) (by decide +kernel)) (by decide +kernel)
theorem hw_581 : Cond.code yX3_isGood cX3_isGood 6 (some .boolean) ∈ xw_big := xw_in (List.mem_of_getElem? (i := 581) (by decide +kernel)) (by decide +kernel)
theorem hw_582 : Cond.constant RX3 73 60000 ∈ xw_big := xw_in (List.mem_of_getElem? (i := 582) (by decide +kernel)) (by decide +kernel)
theorem hw_583 : Cond.methodLink RX3 78 yX3_tellsAll ∈ xw_big := xw_in (List.mem_of_getElem? (i := 583) (by decide +kernel)) (by decide +kernel)
theorem hw_585 : Cond.instanceMethod yX3_tellsAll ∈ xw_big := xw_in (List.mem_of_getElem? (i := 585) (by decide +kernel)) (by decide +kernel)
theorem hw_586 : Cond.code yX3_tellsAll cX3_tellsAll 4 none ∈ xw_big := xw_in (List.mem_of_getElem? (i := 586) (by decide +kernel)) (by decide +kernel)
theorem hw_587 : Cond.methodLink RX3 82 yX3_wanted ∈ xw_big := xw_in (List.mem_of_getElem? (i := 587) (by decide +kernel)) (by decide +kernel)
theorem hw_589 : Cond.instanceMethod yX3_wanted ∈ xw_big := xw_in (List.mem_of_getElem? (i := 589) (by decide +kernel)) (by decide +kernel)
theorem hw_590 : Cond.code yX3_wanted cX3_wanted 4 (some .int) ∈ xw_big := xw_in (List.mem_of_getElem? (i := 590) (by decide +kernel)) (by decide +kernel)
theorem hw_591 : Cond.methodLink RX3 86 yX3_asks ∈ xw_big := xw_in (List.mem_of_getElem? (i := 591) (by decide +kernel)) (by decide +kernel)
theorem hw_593 : Cond.instanceMethod yX3_asks ∈ xw_big := xw_in (List.mem_of_getElem? (i := 593) (by decide +kernel)) (by decide +kernel)
theorem hw_594 : Cond.code yX3_asks cX3_asks 7 none ∈ xw_big := xw_in (List.mem_of_getElem? (i := 594) (by decide +kernel)) (by decide +kernel)
theorem hw_611 : Cond.methodLink RX3 110 yX3_takes ∈ xw_big := xw_in (List.mem_of_getElem? (i := 611) (by decide +kernel)) (by decide +kernel)
theorem hw_613 : Cond.instanceMethod yX3_takes ∈ xw_big := xw_in (List.mem_of_getElem? (i := 613) (by decide +kernel)) (by decide +kernel)
theorem hw_614 : Cond.code yX3_takes cX3_takes 3 none ∈ xw_big := xw_in (List.mem_of_getElem? (i := 614) (by decide +kernel)) (by decide +kernel)
theorem hw_619 : Cond.methodLink RX3 116 yX3_hands ∈ xw_big := xw_in (List.mem_of_getElem? (i := 619) (by decide +kernel)) (by decide +kernel)
theorem hw_621 : Cond.instanceMethod yX3_hands ∈ xw_big := xw_in (List.mem_of_getElem? (i := 621) (by decide +kernel)) (by decide +kernel)
theorem hw_622 : Cond.code yX3_hands cX3_hands 8 (some .int) ∈ xw_big := xw_in (List.mem_of_getElem? (i := 622) (by decide +kernel)) (by decide +kernel)
theorem hw_623 : Cond.methodLink RX3 120 yX3_requested ∈ xw_big := xw_in (List.mem_of_getElem? (i := 623) (by decide +kernel)) (by decide +kernel)
theorem hw_625 : Cond.instanceMethod yX3_requested ∈ xw_big := xw_in (List.mem_of_getElem? (i := 625) (by decide +kernel)) (by decide +kernel)
theorem hw_626 : Cond.code yX3_requested cX3_requested 7 none ∈ xw_big := xw_in (List.mem_of_getElem? (i := 626) (by decide +kernel)) (by decide +kernel)
theorem FX0_loseAllOf : xf_V yX0_loseAllOf cX0_loseAllOf 4 (some .int) RX0 1 := ⟨hw_361, hw_362, hw_34, hw_363, by decide +kernel⟩
theorem FX0_placeOf : xf_V yX0_placeOf cX0_placeOf 3 (some .int) RX0 1 := ⟨hw_255, hw_3, hw_34, hw_256, by decide +kernel⟩
theorem FX0_put : xf_V yX0_put cX0_put 6 none RX0 2 := ⟨hw_370, hw_10, hw_34, hw_371, by decide +kernel⟩
theorem FX0_read : xf_V yX0_read cX0_read 3 (some .int) RX0 2 := ⟨hw_365, hw_366, hw_34, hw_367, by decide +kernel⟩
theorem FX0_repeat : xf_V yX0_repeat cX0_repeat 2 (some .boolean) RX0 1 := ⟨hw_428, hw_429, hw_34, hw_430, by decide +kernel⟩
theorem FX0_send : xf_V yX0_send cX0_send 8 none RX0 6 := ⟨hw_250, hw_251, hw_34, hw_252, by decide +kernel⟩
theorem FX0_takeAway : xf_V yX0_takeAway cX0_takeAway 3 none RX0 1 := ⟨hw_390, hw_391, hw_34, hw_392, by decide +kernel⟩
theorem FX1_countLinks : xf_V yX1_countLinks cX1_countLinks 3 (some .int) RX1 0 := ⟨hw_337, hw_338, hw_32, hw_339, by decide +kernel⟩
theorem FX1_findBestNeighbour : xf_V yX1_findBestNeighbour cX1_findBestNeighbour 8 (some .int) RX1 1 := ⟨hw_283, hw_6, hw_32, hw_284, by decide +kernel⟩
theorem FX1_forgetBounds : xf_V yX1_forgetBounds cX1_forgetBounds 1 none RX1 0 := ⟨hw_357, hw_358, hw_32, hw_359, by decide +kernel⟩
theorem FX1_forgetNeighbour : xf_V yX1_forgetNeighbour cX1_forgetNeighbour 2 none RX1 1 := ⟨hw_266, hw_267, hw_32, hw_268, by decide +kernel⟩
theorem FX1_hasBound : xf_V yX1_hasBound cX1_hasBound 2 (some .boolean) RX1 1 := ⟨hw_245, hw_246, hw_32, hw_247, by decide +kernel⟩
theorem FX1_hasPassedOn : xf_V yX1_hasPassedOn cX1_hasPassedOn 4 (some .boolean) RX1 2 := ⟨hw_403, hw_404, hw_32, hw_405, by decide +kernel⟩
theorem FX1_hasWay : xf_V yX1_hasWay cX1_hasWay 2 (some .boolean) RX1 1 := ⟨hw_237, hw_238, hw_32, hw_239, by decide +kernel⟩
theorem FX1_isGood : xf_V yX1_isGood cX1_isGood 4 (some .boolean) RX1 3 := ⟨hw_258, hw_259, hw_32, hw_260, by decide +kernel⟩
theorem FX1_raiseOwnNumber : xf_V yX1_raiseOwnNumber cX1_raiseOwnNumber 1 (some .int) RX1 0 := ⟨hw_317, hw_318, hw_32, hw_319, by decide +kernel⟩
theorem FX1_takeBestWay : xf_V yX1_takeBestWay cX1_takeBestWay 6 (some .boolean) RX1 1 := ⟨hw_278, hw_279, hw_32, hw_280, by decide +kernel⟩
theorem FX2_askAll : xf_V yX2_askAll cX2_askAll 5 none RX2 2 := ⟨hw_293, hw_8, hw_31, hw_294, by decide +kernel⟩
theorem FX2_chooseAnew : xf_V yX2_chooseAnew cX2_chooseAnew 3 none RX2 2 := ⟨hw_275, hw_5, hw_31, hw_276, by decide +kernel⟩
theorem FX2_chooseEverywhere : xf_V yX2_chooseEverywhere cX2_chooseEverywhere 3 none RX2 1 := ⟨hw_271, hw_4, hw_31, hw_272, by decide +kernel⟩
theorem FX2_countAllLinks : xf_V yX2_countAllLinks cX2_countAllLinks 3 (some .int) RX2 0 := ⟨hw_475, hw_15, hw_31, hw_476, by decide +kernel⟩
theorem FX2_handOver : xf_V yX2_handOver cX2_handOver 8 none RX2 1 := ⟨hw_386, hw_12, hw_31, hw_387, by decide +kernel⟩
theorem FX2_hearRequest : xf_V yX2_hearRequest cX2_hearRequest 7 none RX2 5 := ⟨hw_399, hw_14, hw_31, hw_400, by decide +kernel⟩
theorem FX2_hearTelling : xf_V yX2_hearTelling cX2_hearTelling 8 none RX2 5 := ⟨hw_395, hw_13, hw_31, hw_396, by decide +kernel⟩
theorem FX2_isNewer : xf_S yX2_isNewer cX2_isNewer 3 (some .boolean) 2 := ⟨hw_263, hw_31, hw_264, by decide +kernel⟩
theorem FX2_nextNumber : xf_S yX2_nextNumber cX2_nextNumber 1 (some .int) 1 := ⟨hw_296, hw_31, hw_297, by decide +kernel⟩
theorem FX2_requestAll : xf_V yX2_requestAll cX2_requestAll 7 none RX2 5 := ⟨hw_300, hw_9, hw_31, hw_301, by decide +kernel⟩
theorem FX2_requireLetter : xf_V yX2_requireLetter cX2_requireLetter 2 none RX2 1 := ⟨hw_381, hw_11, hw_31, hw_382, by decide +kernel⟩
theorem FX2_requireNode : xf_S yX2_requireNode cX2_requireNode 1 none 1 := ⟨hw_152, hw_31, hw_153, by decide +kernel⟩
theorem FX2_requirePair : xf_S yX2_requirePair cX2_requirePair 2 none 2 := ⟨hw_149, hw_31, hw_150, by decide +kernel⟩
theorem FX2_requireUpTo : xf_S yX2_requireUpTo cX2_requireUpTo 2 none 2 := ⟨hw_223, hw_31, hw_224, by decide +kernel⟩
theorem FX2_tell : xf_V yX2_tell cX2_tell 7 none RX2 3 := ⟨hw_242, hw_2, hw_31, hw_243, by decide +kernel⟩
theorem FX2_tellAll : xf_V yX2_tellAll cX2_tellAll 4 none RX2 2 := ⟨hw_289, hw_7, hw_31, hw_290, by decide +kernel⟩
theorem FX2_tellEveryWay : xf_V yX2_tellEveryWay cX2_tellEveryWay 4 none RX2 2 := ⟨hw_234, hw_1, hw_31, hw_235, by decide +kernel⟩
theorem FX3_asks : xf_V yX3_asks cX3_asks 7 none RX3 5 := ⟨hw_593, hw_26, hw_35, hw_594, by decide +kernel⟩
theorem FX3_by : xf_V yX3_by cX3_by 6 (some .int) RX3 3 := ⟨hw_576, hw_22, hw_35, hw_577, by decide +kernel⟩
theorem FX3_chooses : xf_V yX3_chooses cX3_chooses 8 none RX3 2 := ⟨hw_572, hw_21, hw_35, hw_573, by decide +kernel⟩
theorem FX3_choosesAll : xf_V yX3_choosesAll cX3_choosesAll 3 none RX3 1 := ⟨hw_568, hw_20, hw_35, hw_569, by decide +kernel⟩
theorem FX3_hands : xf_V yX3_hands cX3_hands 8 (some .int) RX3 1 := ⟨hw_621, hw_28, hw_35, hw_622, by decide +kernel⟩
theorem FX3_introduces : xf_V yX3_introduces cX3_introduces 4 none RX3 2 := ⟨hw_552, hw_17, hw_35, hw_553, by decide +kernel⟩
theorem FX3_isGood : xf_V yX3_isGood cX3_isGood 6 (some .boolean) RX3 4 := ⟨hw_580, hw_23, hw_35, hw_581, by decide +kernel⟩
theorem FX3_isNode : xf_S yX3_isNode cX3_isNode 1 (some .boolean) 1 := ⟨hw_544, hw_35, hw_545, by decide +kernel⟩
theorem FX3_newer : xf_S yX3_newer cX3_newer 3 (some .boolean) 2 := ⟨hw_564, hw_35, hw_565, by decide +kernel⟩
theorem FX3_refuses : xf_V yX3_refuses cX3_refuses 2 (some .boolean) RX3 1 := ⟨hw_548, hw_16, hw_35, hw_549, by decide +kernel⟩
theorem FX3_requested : xf_V yX3_requested cX3_requested 7 none RX3 5 := ⟨hw_625, hw_29, hw_35, hw_626, by decide +kernel⟩
theorem FX3_send : xf_V yX3_send cX3_send 8 none RX3 6 := ⟨hw_560, hw_19, hw_35, hw_561, by decide +kernel⟩
theorem FX3_takes : xf_V yX3_takes cX3_takes 3 none RX3 1 := ⟨hw_613, hw_27, hw_35, hw_614, by decide +kernel⟩
theorem FX3_tells : xf_V yX3_tells cX3_tells 7 none RX3 3 := ⟨hw_556, hw_18, hw_35, hw_557, by decide +kernel⟩
theorem FX3_tellsAll : xf_V yX3_tellsAll cX3_tellsAll 4 none RX3 2 := ⟨hw_585, hw_24, hw_35, hw_586, by decide +kernel⟩
theorem FX3_wanted : xf_V yX3_wanted cX3_wanted 4 (some .int) RX3 2 := ⟨hw_589, hw_25, hw_35, hw_590, by decide +kernel⟩
theorem FJ7_fill : xf_S yJ7_fill_53178 cJ7_fill_53178 4 none 2 := ⟨hw_60, hw_33, hw_61, by decide +kernel⟩
end
section
/-! ===== rows for the printed walks ===== -/
def xlet {α : Type} (M : xwM) (f : xwM → Option α) : Option α := f M
theorem xlet_s {α : Type} {M : xwM} {f : xwM → Option α} {o : α} (h : xlet M f = some o) : f M = some o := h
theorem xl_z {α : Type} {v : Int32} {A : Option α} {o : α} (h : (if v = 0 ∨ v = 1 then A else none) = some o) : (v = 0 ∨ v = 1) ∧ A = some o := by
  by_cases c : v = 0 ∨ v = 1
  · rw [if_pos c] at h; exact ⟨c, h⟩
  · rw [if_neg c] at h; cases h
def xl_le : List (Option Value) → List (Option Value) → Prop
  | [], _ => True
  | _ :: _, [] => False
  | none :: a, _ :: b => xl_le a b
  | some v :: a, w :: b => w = some v ∧ xl_le a b
theorem xl_e {b : List (Option Value)} : xl_le [] b := trivial
theorem xl_n {a b : List (Option Value)} {w : Option Value} (h : xl_le a b) : xl_le (none :: a) (w :: b) := h
theorem xl_c {a b : List (Option Value)} {v : Value} {w : Option Value} (e : w = some v) (h : xl_le a b) : xl_le (some v :: a) (w :: b) := ⟨e, h⟩
theorem xl_go : ∀ (a b : List (Option Value)), xl_le a b → ∀ (i : Nat) (v : Value), a[i]? = some (some v) → b[i]? = some (some v)
  | [], _, _, i, v, h => by simp at h
  | _ :: _, [], h, _, _, _ => h.elim
  | none :: a, w :: b, h, 0, v, hv => by simp at hv
  | none :: a, w :: b, h, i + 1, v, hv => by
    have := xl_go a b h i v (by simpa using hv)
    simpa using this
  | some x :: a, w :: b, h, 0, v, hv => by
    simp at hv
    subst hv
    simp [h.1]
  | some x :: a, w :: b, h, i + 1, v, hv => by
    have := xl_go a b h.2 i v (by simpa using hv)
    simpa using this
abbrev xl_X0 (ad : Nat → Nat) (r : Nat → Int32) : List Value := [.ref (ad 411), .int (r 1), .int (r 2), .int (r 3), .int (r 4), .int (r 5)]
abbrev xl_X3 (ad : Nat → Nat) (r : Nat → Int32) : List Value := [.int (r 0), .ref (ad 419), .int (r 2), .ref (ad 420), .ref (ad 421), .ref (ad 422), .ref (ad 423), .ref (ad 424), .ref (ad 425), .ref (ad 426), .ref (ad 427), .ref (ad 428), .ref (ad 429), .int (r 13), .int (r 14), .int (r 15), .int (r 16)]
theorem xl_ne {x : Int32} (k : Nat) (hk : k < 2 ^ 31) (h : ¬ x = nI k) : x.toInt ≠ (k : Int) := fun e => h (Int32.toInt_inj.mp (by rw [e, nI_toInt hk]))
theorem xl_tab4 {x : Int32} (h0 : ¬ x = 0) (h1 : ¬ x = 1) (h2 : ¬ x = 2) (h3 : ¬ x = 3) : x.toInt < 0 ∨ 3 < x.toInt := by
  have e0 := xl_ne 0 (by decide) h0
  have e1 := xl_ne 1 (by decide) h1
  have e2 := xl_ne 2 (by decide) h2
  have e3 := xl_ne 3 (by decide) h3
  omega
section XC
variable {G : xwG} {Q : State → Prop} {cc : ByteArray} {own : String} {nL cells slots N : Nat} {ad : Nat → Nat} {ce : Nat → va_E} {pc : Nat} {lv lv' : List (Option Value)} {st st0 : List Value}
variable {y : MethodName} {cc' : ByteArray} {nL' : Nat} {ret' : Option FieldType} {rm' : Room} {As : List Value} {ce' : Nat → va_E} {r : Int32} {k9 ci NF index n mc ms : Nat} {Cn : String} {T : u_T} {fs : List Value}
theorem xl_sub (h : xl_le lv lv') (k : XW G Q nL cells slots N ad ce pc lv st) : XW G Q nL cells slots N ad ce pc lv' st := xw_sub (xl_go lv lv' h) k
theorem xc_Vi (C : xw_C G cc nL own N ad) (hM : xk_i (xgl G) y cc' nL' ret' rm' (xgD G) (xgt G) (xgB G) N ad (.ref (ad k9) :: As) ce ce' r) (F : xf_V y cc' nL' ret' Cn n) (hl : Cond.methodLink own index y ∈ xw_big) (hk : k9 < N) (he : ce k9 = .inr (ci, fs)) (hc : vwCl[ci]? = some (Cn, T, NF)) (hR : xf_R rm' nL' (xgR G) 0 0) (hcs : cells ≤ (xgR G).cells ∧ slots ≤ (xgR G).slots) (hn : As.length = n) (hst : (st.map fun v => v.category).sum ≤ 8) (hd : decode cc pc = .ok (.invokevirtual index, 3)) (hs : st0 = As.reverse ++ .ref (ad k9) :: st)
    (k : XW G Q nL cells slots N ad ce' (pc + 3) lv (.int r :: st)) : XW G Q nL cells slots N ad ce pc lv st0 := by
  subst hs; exact xw_callVi C hM F hl hk he hc hR hcs hn hst hd k
theorem xc_Vv (C : xw_C G cc nL own N ad) (hM : xk_v (xgl G) y cc' nL' ret' rm' (xgD G) (xgt G) (xgB G) N ad (.ref (ad k9) :: As) ce ce') (F : xf_V y cc' nL' ret' Cn n) (hl : Cond.methodLink own index y ∈ xw_big) (hk : k9 < N) (he : ce k9 = .inr (ci, fs)) (hc : vwCl[ci]? = some (Cn, T, NF)) (hR : xf_R rm' nL' (xgR G) 0 0) (hcs : cells ≤ (xgR G).cells ∧ slots ≤ (xgR G).slots) (hn : As.length = n) (hst : (st.map fun v => v.category).sum ≤ 8) (hd : decode cc pc = .ok (.invokevirtual index, 3)) (hs : st0 = As.reverse ++ .ref (ad k9) :: st)
    (k : XW G Q nL cells slots N ad ce' (pc + 3) lv st) : XW G Q nL cells slots N ad ce pc lv st0 := by
  subst hs; exact xw_callVv C hM F hl hk he hc hR hcs hn hst hd k
theorem xc_Si (C : xw_C G cc nL own N ad) (hM : xk_i (xgl G) y cc' nL' ret' rm' (xgD G) (xgt G) (xgB G) N ad As ce ce' r) (F : xf_S y cc' nL' ret' n) (hl : Cond.methodLink own index y ∈ xw_big) (hR : xf_R rm' nL' (xgR G) 0 0) (hcs : cells ≤ (xgR G).cells ∧ slots ≤ (xgR G).slots) (hn : As.length = n) (hst : (st.map fun v => v.category).sum ≤ 8) (hd : decode cc pc = .ok (.invokestatic index, 3)) (hs : st0 = As.reverse ++ st)
    (k : XW G Q nL cells slots N ad ce' (pc + 3) lv (.int r :: st)) : XW G Q nL cells slots N ad ce pc lv st0 := by
  subst hs; exact xw_callSi C hM F hl hR hcs hn hst hd k
theorem xc_Sv (C : xw_C G cc nL own N ad) (hM : xk_v (xgl G) y cc' nL' ret' rm' (xgD G) (xgt G) (xgB G) N ad As ce ce') (F : xf_S y cc' nL' ret' n) (hl : Cond.methodLink own index y ∈ xw_big) (hR : xf_R rm' nL' (xgR G) 0 0) (hcs : cells ≤ (xgR G).cells ∧ slots ≤ (xgR G).slots) (hn : As.length = n) (hst : (st.map fun v => v.category).sum ≤ 8) (hd : decode cc pc = .ok (.invokestatic index, 3)) (hs : st0 = As.reverse ++ st)
    (k : XW G Q nL cells slots N ad ce' (pc + 3) lv st) : XW G Q nL cells slots N ad ce pc lv st0 := by
  subst hs; exact xw_callSv C hM F hl hR hcs hn hst hd k
theorem xc_Ni {host : String} (C : xw_C G cc nL own N ad) (hM : xk_i (xgl G) y cc' nL' ret' rm' (xgD G) (xgt G) (xgB G) N ad As ce ce' r) (F : xf_S y cc' nL' ret' n) (hl : va_Nw (.methodLinkNest own index y host) (xgs G)) (hR : xf_R rm' nL' (xgR G) 0 0) (hcs : cells ≤ (xgR G).cells ∧ slots ≤ (xgR G).slots) (hn : As.length = n) (hst : (st.map fun v => v.category).sum ≤ 8) (hd : decode cc pc = .ok (.invokestatic index, 3)) (hs : st0 = As.reverse ++ st)
    (k : XW G Q nL cells slots N ad ce' (pc + 3) lv (.int r :: st)) : XW G Q nL cells slots N ad ce pc lv st0 := by
  subst hs; exact xw_callNi C hM F hl hR hcs hn hst hd k
theorem xc_Sxv (C : xw_C G cc nL own N ad) (hM : xk_xv (xgl G) y cc' nL' ret' rm' (xgD G) (xgt G) (xgB G) N ad As ce ce' (.inl r) mc ms) (F : xf_S y cc' nL' ret' n) (hl : Cond.methodLink own index y ∈ xw_big) (hR : xf_R rm' nL' (xgR G) mc ms) (hcs : cells + mc ≤ (xgR G).cells ∧ slots + ms ≤ (xgR G).slots) (hn : As.length = n) (hst : (st.map fun v => v.category).sum ≤ 8) (hd : decode cc pc = .ok (.invokestatic index, 3)) (hs : st0 = As.reverse ++ st)
    (k : XW G Q nL (cells + mc) (slots + ms) N ad ce' (pc + 3) lv st) : XW G Q nL cells slots N ad ce pc lv st0 := by
  subst hs; exact xw_callSxv C hM F hl hR hcs hn hst hd k
theorem xc_Vxv (C : xw_C G cc nL own N ad) (hM : xk_xv (xgl G) y cc' nL' ret' rm' (xgD G) (xgt G) (xgB G) N ad (.ref (ad k9) :: As) ce ce' (.inl r) mc ms) (F : xf_V y cc' nL' ret' Cn n) (hl : Cond.methodLink own index y ∈ xw_big) (hk : k9 < N) (he : ce k9 = .inr (ci, fs)) (hc : vwCl[ci]? = some (Cn, T, NF)) (hR : xf_R rm' nL' (xgR G) mc ms) (hcs : cells + mc ≤ (xgR G).cells ∧ slots + ms ≤ (xgR G).slots) (hn : As.length = n) (hst : (st.map fun v => v.category).sum ≤ 8) (hd : decode cc pc = .ok (.invokevirtual index, 3)) (hs : st0 = As.reverse ++ .ref (ad k9) :: st)
    (k : XW G Q nL (cells + mc) (slots + ms) N ad ce' (pc + 3) lv st) : XW G Q nL cells slots N ad ce pc lv st0 := by
  subst hs; exact xw_callVxv C hM F hl hk he hc hR hcs hn hst hd k
theorem xc_outS {E0 : String} {mc1 ms1 : Nat} {Qc : Array Value → State → Outcome → State → Prop} (C : xw_C G cc nL own N ad) (hE : ∀ x ∈ (xgc G).exceptionTable.toList, False) (hM : xk_xv (xgl G) y cc' nL' ret' rm' (xgD G) (xgt G) (xgB G) N ad As ce ce' (.inr E0) mc ms) (F : xf_S y cc' nL' ret' n) (hl : Cond.methodLink own index y ∈ xw_big) (hR : xf_R rm' nL' (xgR G) mc ms) (hcs : cells + mc ≤ (xgR G).cells ∧ slots + ms ≤ (xgR G).slots) (hcm : cells + mc ≤ mc1 ∧ slots + ms ≤ ms1) (hn : As.length = n) (hst : (st.map fun v => v.category).sum ≤ 8) (hd : decode cc pc = .ok (.invokestatic index, 3)) (hs : st0 = As.reverse ++ st) :
    XW G (vx_MQ (xgb G) Qc (xk_XC (xgD G) (xgt G) (xgB G) N ad ce' (.inr E0)) (xga G) (xgs G) mc1 ms1 (fun q => xgB G ≤ q)) nL cells slots N ad ce pc lv st0 := by
  subst hs; exact xw_outS C hE hM F hl hR hcs hcm hn hst hd
theorem xc_outV {E0 : String} {mc1 ms1 : Nat} {Qc : Array Value → State → Outcome → State → Prop} (C : xw_C G cc nL own N ad) (hE : ∀ x ∈ (xgc G).exceptionTable.toList, False) (hM : xk_xv (xgl G) y cc' nL' ret' rm' (xgD G) (xgt G) (xgB G) N ad (.ref (ad k9) :: As) ce ce' (.inr E0) mc ms) (F : xf_V y cc' nL' ret' Cn n) (hl : Cond.methodLink own index y ∈ xw_big) (hk : k9 < N) (he : ce k9 = .inr (ci, fs)) (hc : vwCl[ci]? = some (Cn, T, NF)) (hR : xf_R rm' nL' (xgR G) mc ms) (hcs : cells + mc ≤ (xgR G).cells ∧ slots + ms ≤ (xgR G).slots) (hcm : cells + mc ≤ mc1 ∧ slots + ms ≤ ms1) (hn : As.length = n) (hst : (st.map fun v => v.category).sum ≤ 8) (hd : decode cc pc = .ok (.invokevirtual index, 3)) (hs : st0 = As.reverse ++ .ref (ad k9) :: st) :
    XW G (vx_MQ (xgb G) Qc (xk_XC (xgD G) (xgt G) (xgB G) N ad ce' (.inr E0)) (xga G) (xgs G) mc1 ms1 (fun q => xgB G ≤ q)) nL cells slots N ad ce pc lv st0 := by
  subst hs; exact xw_outV C hE hM F hl hk he hc hR hcs hcm hn hst hd
theorem xw_alen {t0 : Nat} {cA : ClassId} {x : vp_A} {ty : FieldType} (C : xw_C G cc nL own N ad) (hk : k9 < N) (he : ce k9 = .inl (cA, x)) (ht : (xgt G)[t0]? = some (cA, ty)) (hd : decode cc pc = .ok (.arraylength, 1))
    (k : XW G Q nL cells slots N ad ce (pc + 1) lv (.int (nI x.1) :: st)) : XW G Q nL cells slots N ad ce pc lv (.ref (ad k9) :: st) :=
  fun H locs ls hP hS hL => va_alen C.1 C.2.1 C.2.2.2.2.2.1 hP k9 t0 (by rw [xw_at hk, he]) ht rfl hd (k H locs ls hP hS hL)
end XC
/-! Arrays.fill(int[], int) -/
abbrev rJ7_fill : Room := { frames := 0, cells := 0, slots := 0, locals := 0 }
theorem fill_loop {G : xwG} {N : Nat} {ad : Nat → Nat} {ce : Nat → va_E} {k9 n : Nat} {cI : ClassId} {f : Nat → Int32} {v : Int32} (C : xw_C G cJ7_fill_53178 4 RJ7 N ad) (hr : (xgM G).sig.returnType = none) (hk : k9 < N) (ht : (xgt G)[0]? = some (cI, .int)) (hn : n ≤ 2000) :
    ∀ (d i : Nat) (g : Nat → Int32), i + d = n → (∀ j, g j = if j < i then v else f j) → XW G (xw_qv G N ad (va_up ce k9 (.inl (cI, n, .inl (fun j => if j < n then v else f j))))) 4 0 0 N ad (va_up ce k9 (.inl (cI, n, .inl g))) 5 [some (.ref (ad k9)), some (.int v), some (.int (nI i)), some (.int (nI n))] [] := by
  intro d
  induction d with
  | zero =>
    intro i g hi hg
    have e : i = n := by omega
    subst e
    refine xw_iload_n C dJ7_fill_53178_5 2 rfl rfl ?_
    refine xw_iload_n C dJ7_fill_53178_6 3 rfl rfl ?_
    refine xw_icmp_ge (tgt := 20) C dJ7_fill_53178_7 (by decide) (fun _ => ?_) (fun c => absurd (nI_le (Nat.le_refl i) (by omega)) c)
    have e2 : g = (fun j => if j < i then v else f j) := funext hg
    subst e2
    exact xw_retv C hr dJ7_fill_53178_20
  | succ d ih =>
    intro i g hi hg
    refine xw_iload_n C dJ7_fill_53178_5 2 rfl rfl ?_
    refine xw_iload_n C dJ7_fill_53178_6 3 rfl rfl ?_
    refine xw_icmp_ge (tgt := 20) C dJ7_fill_53178_7 (by decide) (fun c => absurd c (nI_ge (show i < n by omega) (by omega))) (fun _ => ?_)
    refine xw_aload_n C dJ7_fill_53178_10 0 rfl rfl ?_
    refine xw_iload_n C dJ7_fill_53178_11 2 rfl rfl ?_
    refine xw_iload_n C dJ7_fill_53178_12 1 rfl rfl ?_
    refine xw_iast C (t0 := 0) hk (va_up_self _ _ _) ht (vp_in_nI (show i < n by omega) (by omega)) dJ7_fill_53178_13 ?_
    rw [bx_uu, nI_clamp (show i < 2 ^ 31 by omega)]
    refine xw_iinc (v := nI (i + 1)) C dJ7_fill_53178_14 rfl (nI_succ i).symm (by decide) ?_
    refine xw_goto (tgt := 5) C dJ7_fill_53178_17 (by decide) ?_
    refine ih (i + 1) (upd g i v) (by omega) (fun j => ?_)
    unfold upd
    by_cases h1 : j = i
    · rw [if_pos h1, if_pos (by omega)]
    · rw [if_neg h1, hg j]
      by_cases h2 : j < i
      · rw [if_pos h2, if_pos (by omega)]
      · rw [if_neg h2, if_neg (by omega)]
theorem mJ7_fill (l : Launch) {D : va_G} {tys : List (ClassId × FieldType)} {base N : Nat} {ad : Nat → Nat} {ce : Nat → va_E} {k9 n : Nat} {cI : ClassId} {f : Nat → Int32} {v : Int32} (hJ : xw_J N ad base) (hk : k9 < N) (he : ce k9 = .inl (cI, n, .inl f)) (ht : tys[0]? = some (cI, .int)) (hn : n ≤ 2000) :
    xk_v l yJ7_fill_53178 cJ7_fill_53178 4 none rJ7_fill D tys base N ad [.ref (ad k9), .int v] ce (va_up ce k9 (.inl (cI, n, .inl (fun j => if j < n then v else f j)))) := by
  refine xk_ofv 2 (by decide) hJ (List.forall_mem_cons.mpr ⟨rfl, List.forall_mem_cons.mpr ⟨rfl, List.forall_mem_nil _⟩⟩) (Nat.le_of_ble_eq_true rfl) (fun G e1 e2 e3 e4 e5 hr C => ?_)
  have ht' : (xgt G)[0]? = some (cI, .int) := by rw [e4]; exact ht
  refine xw_iconst (v := 0) C dJ7_fill_53178_0 (by decide) ?_
  refine xw_istore_n C dJ7_fill_53178_1 2 rfl (by decide) ?_
  refine xw_aload_n C dJ7_fill_53178_2 0 rfl rfl ?_
  refine xw_alen (t0 := 0) C hk he ht' dJ7_fill_53178_3 ?_
  refine xw_istore_n C dJ7_fill_53178_4 3 rfl (by decide) ?_
  have h0 : va_up ce k9 (.inl (cI, n, .inl f)) = ce := by
    funext j
    unfold va_up
    by_cases h : j = k9
    · rw [if_pos h, h, he]
    · rw [if_neg h]
  have h := fill_loop (ce := ce) (f := f) (v := v) C hr hk ht' hn n 0 f (by omega) (fun j => by simp)
  rw [h0] at h
  exact h
theorem xl_fill {G : xwG} {Q : State → Prop} {cc : ByteArray} {own : String} {nL cells slots : Nat} {ad : Nat → Nat} {cs : xmC} {M : xwM} {pc : Nat} {lv : List (Option Value)} {st : List Value} {k9 n index : Nat} {x : Int32} (C : xw_C G cc nL own 431 ad) (ht : xgt G = xm_tys cs) (hk : k9 < 431) (he : ∀ r, xm_sh ad cs k9 r = .inl (cs.1, n, .inl r)) (hn : n ≤ 2000) (hl : Cond.methodLink own index yJ7_fill_53178 ∈ xw_big) (hR : xf_R rJ7_fill 4 (xgR G) 0 0) (hcs : cells ≤ (xgR G).cells ∧ slots ≤ (xgR G).slots) (hst : (st.map fun v => v.category).sum ≤ 8) (hd : decode cc pc = .ok (.invokestatic index, 3))
    (k : XV G Q nL cells slots ad cs (fil M k9 n x) (pc + 3) lv st) : XV G Q nL cells slots ad cs M pc lv (.int x :: .ref (ad k9) :: st) := by
  refine xc_Sv (As := [.ref (ad k9), .int x]) C (mJ7_fill (xgl G) C.2.2.2.2.2.2.2.2.1 hk (he (M k9)) (by rw [ht]; rfl) hn) FJ7_fill hl hR hcs rfl hst hd rfl ?_
  rw [xm_up (he (fun j => if j < n then x else M k9 j))]
  exact k
theorem xl_atA : ∀ w ∈ (vx_atS RX2 152 xIAE ["java/lang/RuntimeException", "java/lang/Exception"]).filter goodWord, w ∈ xw_big := fun w h => xw_in ((by decide +kernel : ∀ w ∈ (vx_atS RX2 152 xIAE ["java/lang/RuntimeException", "java/lang/Exception"]).filter goodWord, w ∈ lw_tbl) w h) (List.mem_filter.mp h).2
theorem xl_badA : ∀ w ∈ (vx_atS RX2 152 xIAE ["java/lang/RuntimeException", "java/lang/Exception"]).filter (fun w => !goodWord w), w ∈ [Cond.castable xIAE xIAE, .declares (Bundle.initS "java/lang/RuntimeException"), .declares (Bundle.initS "java/lang/Exception"), .declares (Bundle.initS "java/lang/Throwable")] := by decide +kernel
theorem xl_goodA : ∀ w ∈ Cond.classLink RX2 148 xIAE :: Cond.initialized xIAE :: vx_atS RX2 152 xIAE ["java/lang/RuntimeException", "java/lang/Exception"], vx_ot w = true := by decide +kernel
theorem xl_atS : ∀ w ∈ (vx_atS RX2 85 xISE ["java/lang/RuntimeException", "java/lang/Exception"]).filter goodWord, w ∈ xw_big := fun w h => xw_in ((by decide +kernel : ∀ w ∈ (vx_atS RX2 85 xISE ["java/lang/RuntimeException", "java/lang/Exception"]).filter goodWord, w ∈ lw_tbl) w h) (List.mem_filter.mp h).2
theorem xl_badS : ∀ w ∈ (vx_atS RX2 85 xISE ["java/lang/RuntimeException", "java/lang/Exception"]).filter (fun w => !goodWord w), w ∈ [Cond.castable xISE xISE, .declares (Bundle.initS "java/lang/RuntimeException"), .declares (Bundle.initS "java/lang/Exception"), .declares (Bundle.initS "java/lang/Throwable")] := by decide +kernel
theorem xl_goodS : ∀ w ∈ Cond.classLink RX2 81 xISE :: Cond.initialized xISE :: vx_atS RX2 85 xISE ["java/lang/RuntimeException", "java/lang/Exception"], vx_ot w = true := by decide +kernel
end
section
abbrev rX2_isNewer : Room := { frames := 0, cells := 0, slots := 0, locals := 0 }
def fX2_isNewer_24 (s0 : Int32) (M : xwM) : Option (Int32 × xwM) :=
  if s0 = 0 ∨ s0 = 1 then some (s0, M) else none
set_option maxHeartbeats 4000000 in
set_option maxRecDepth 100000 in
theorem kX2_isNewer_24 {G : xwG} {ad : Nat → Nat} {cs : xmC} (C : xw_C G cX2_isNewer 3 RX2 431 ad) (hR : xgR G = rX2_isNewer) (ht : xgt G = xm_tys cs) (hr : (xgM G).sig.returnType = (some .boolean)) {M' : xwM} {o : Int32} {s0 : Int32} {M : xwM} (hf : fX2_isNewer_24 s0 M = some (o, M')) : XV G (xw_qi G 431 ad (xm_ce ad cs M') o) 3 0 0 ad cs M 24 [none, none, none] [.int s0] := by
  unfold fX2_isNewer_24 at hf
  obtain ⟨hz, hf⟩ := xl_z hf
  cases hf
  exact xw_retz C hr hz dX2_isNewer_24
def fX2_isNewer_23 (M : xwM) : Option (Int32 × xwM) :=
  fX2_isNewer_24 0 M
set_option maxHeartbeats 4000000 in
set_option maxRecDepth 100000 in
theorem kX2_isNewer_23 {G : xwG} {ad : Nat → Nat} {cs : xmC} (C : xw_C G cX2_isNewer 3 RX2 431 ad) (hR : xgR G = rX2_isNewer) (ht : xgt G = xm_tys cs) (hr : (xgM G).sig.returnType = (some .boolean)) {M' : xwM} {o : Int32} {M : xwM} (hf : fX2_isNewer_23  M = some (o, M')) : XV G (xw_qi G 431 ad (xm_ce ad cs M') o) 3 0 0 ad cs M 23 [none, none, none] [] := by
  unfold fX2_isNewer_23 at hf
  refine xw_iconst (v := 0) C dX2_isNewer_23 (by decide) ?_
  exact xl_sub (xl_n (xl_n (xl_n xl_e))) (kX2_isNewer_24 C hR ht hr  hf)
def fX2_isNewer (x0 : Int32) (x1 : Int32) (M : xwM) : Option (Int32 × xwM) :=
  if ((x0 - x1) &&& 65535) < 1 then
    (fX2_isNewer_23  M)
  else
    (if 32767 < ((x0 - x1) &&& 65535) then
        (fX2_isNewer_23  M)
      else
        (fX2_isNewer_24 1 M))
set_option maxHeartbeats 4000000 in
set_option maxRecDepth 100000 in
theorem kX2_isNewer_0 {G : xwG} {ad : Nat → Nat} {cs : xmC} (C : xw_C G cX2_isNewer 3 RX2 431 ad) (hR : xgR G = rX2_isNewer) (ht : xgt G = xm_tys cs) (hr : (xgM G).sig.returnType = (some .boolean)) {M' : xwM} {o : Int32} {x0 : Int32} {x1 : Int32} {M : xwM} (hf : fX2_isNewer x0 x1 M = some (o, M')) : XV G (xw_qi G 431 ad (xm_ce ad cs M') o) 3 0 0 ad cs M 0 [some (.int x0), some (.int x1), none] [] := by
  unfold fX2_isNewer at hf
  refine xw_iload_n C dX2_isNewer_0 0 rfl rfl ?_
  refine xw_iload_n C dX2_isNewer_1 1 rfl rfl ?_
  refine xw_isub C dX2_isNewer_2 ?_
  refine xw_ldc C hw_248 dX2_isNewer_3 ?_
  refine xw_iand C dX2_isNewer_5 ?_
  refine xw_istore_n C dX2_isNewer_6 2 rfl (by decide) ?_
  refine xw_iload_n C dX2_isNewer_7 2 rfl rfl ?_
  refine xw_iconst (v := 1) C dX2_isNewer_8 (by decide) ?_
  refine xw_icmp_lt (tgt := 23) C dX2_isNewer_9 (by decide) (fun c_1 => ?_) (fun c_1 => ?_)
  · have hf := it_t hf c_1
    exact xl_sub (xl_n (xl_n (xl_n xl_e))) (kX2_isNewer_23 C hR ht hr  hf)
  · have hf := it_f hf c_1
    refine xw_iload_n C dX2_isNewer_12 2 rfl rfl ?_
    refine xw_sipush (v := 32767) C dX2_isNewer_13 (by decide) ?_
    refine xw_icmp_gt (tgt := 23) C dX2_isNewer_16 (by decide) (fun c_2 => ?_) (fun c_2 => ?_)
    · have hf := it_t hf c_2
      exact xl_sub (xl_n (xl_n (xl_n xl_e))) (kX2_isNewer_23 C hR ht hr  hf)
    · have hf := it_f hf c_2
      refine xw_iconst (v := 1) C dX2_isNewer_19 (by decide) ?_
      refine xw_goto (tgt := 24) C dX2_isNewer_20 (by decide) ?_
      exact xl_sub (xl_n (xl_n (xl_n xl_e))) (kX2_isNewer_24 C hR ht hr  hf)
theorem mX2_isNewer (l : Launch) {D : va_G} {tys : List (ClassId × FieldType)} {base : Nat} {ad : Nat → Nat} {cs : xmC} (hJ : xw_J 431 ad base) (ht : tys = xm_tys cs) {x0 : Int32} {x1 : Int32} {M M' : xwM} {o : Int32} (hf : fX2_isNewer x0 x1 M = some (o, M')) : xk_i l yX2_isNewer cX2_isNewer 3 (some .boolean) rX2_isNewer D tys base 431 ad [.int x0, .int x1] (xm_ce ad cs M) (xm_ce ad cs M') o :=
  xk_ofi 1 (by decide) hJ (List.forall_mem_cons.mpr ⟨rfl, List.forall_mem_cons.mpr ⟨rfl, List.forall_mem_nil _⟩⟩) (Nat.le_of_ble_eq_true rfl) (fun G e1 e2 e3 e4 e5 hr C => kX2_isNewer_0 C e2 (e4.trans ht) hr  hf)

abbrev rX2_nextNumber : Room := { frames := 0, cells := 0, slots := 0, locals := 0 }
def fX2_nextNumber (x0 : Int32) (M : xwM) : Option (Int32 × xwM) :=
  some (((x0 + 1) &&& 65535), M)
set_option maxHeartbeats 4000000 in
set_option maxRecDepth 100000 in
theorem kX2_nextNumber_0 {G : xwG} {ad : Nat → Nat} {cs : xmC} (C : xw_C G cX2_nextNumber 1 RX2 431 ad) (hR : xgR G = rX2_nextNumber) (ht : xgt G = xm_tys cs) (hr : (xgM G).sig.returnType = (some .int)) {M' : xwM} {o : Int32} {x0 : Int32} {M : xwM} (hf : fX2_nextNumber x0 M = some (o, M')) : XV G (xw_qi G 431 ad (xm_ce ad cs M') o) 1 0 0 ad cs M 0 [some (.int x0)] [] := by
  unfold fX2_nextNumber at hf
  refine xw_iload_n C dX2_nextNumber_0 0 rfl rfl ?_
  refine xw_iconst (v := 1) C dX2_nextNumber_1 (by decide) ?_
  refine xw_iadd C dX2_nextNumber_2 ?_
  refine xw_ldc C hw_248 dX2_nextNumber_3 ?_
  refine xw_iand C dX2_nextNumber_5 ?_
  cases hf
  exact xw_reti C hr dX2_nextNumber_6
theorem mX2_nextNumber (l : Launch) {D : va_G} {tys : List (ClassId × FieldType)} {base : Nat} {ad : Nat → Nat} {cs : xmC} (hJ : xw_J 431 ad base) (ht : tys = xm_tys cs) {x0 : Int32} {M M' : xwM} {o : Int32} (hf : fX2_nextNumber x0 M = some (o, M')) : xk_i l yX2_nextNumber cX2_nextNumber 1 (some .int) rX2_nextNumber D tys base 431 ad [.int x0] (xm_ce ad cs M) (xm_ce ad cs M') o :=
  xk_ofi 0 (by decide) hJ (List.forall_mem_cons.mpr ⟨rfl, List.forall_mem_nil _⟩) (Nat.le_of_ble_eq_true rfl) (fun G e1 e2 e3 e4 e5 hr C => kX2_nextNumber_0 C e2 (e4.trans ht) hr  hf)
end
section
abbrev rX0_placeOf : Room := { frames := 0, cells := 0, slots := 0, locals := 0 }
def fX0_placeOf_23 (s0 : Int32) (M : xwM) : Option (Int32 × xwM) :=
  some (s0, M)
set_option maxHeartbeats 4000000 in
set_option maxRecDepth 100000 in
theorem kX0_placeOf_23 {G : xwG} {ad : Nat → Nat} {cs : xmC} (C : xw_C G cX0_placeOf 3 RX0 431 ad) (hR : xgR G = rX0_placeOf) (ht : xgt G = xm_tys cs) (hr : (xgM G).sig.returnType = (some .int)) {M' : xwM} {o : Int32} {s0 : Int32} {M : xwM} (hf : fX0_placeOf_23 s0 M = some (o, M')) : XV G (xw_qi G 431 ad (xm_ce ad cs M') o) 3 0 0 ad cs M 23 [none, none, none] [.int s0] := by
  unfold fX0_placeOf_23 at hf
  cases hf
  exact xw_reti C hr dX0_placeOf_23
def fX0_placeOf (x1 : Int32) (M : xwM) : Option (Int32 × xwM) :=
  if ((M 410 1) + x1) < 300 then
    (fX0_placeOf_23 (((M 410 1) + x1)) M)
  else
    (fX0_placeOf_23 ((((M 410 1) + x1) - 300)) M)
set_option maxHeartbeats 4000000 in
set_option maxRecDepth 100000 in
theorem kX0_placeOf_0 {G : xwG} {ad : Nat → Nat} {cs : xmC} (C : xw_C G cX0_placeOf 3 RX0 431 ad) (hR : xgR G = rX0_placeOf) (ht : xgt G = xm_tys cs) (hr : (xgM G).sig.returnType = (some .int)) {M' : xwM} {o : Int32} {x1 : Int32} {M : xwM} (hf : fX0_placeOf x1 M = some (o, M')) : XV G (xw_qi G 431 ad (xm_ce ad cs M') o) 3 0 0 ad cs M 0 [some (.ref (ad 410)), some (.int x1), none] [] := by
  unfold fX0_placeOf at hf
  refine xw_aload_n C dX0_placeOf_0 0 rfl rfl ?_
  refine xv_getf C (by decide) xs_L rfl inB0 1 (by decide) hw_111 rfl dX0_placeOf_1 ?_
  refine xw_iload_n C dX0_placeOf_4 1 rfl rfl ?_
  refine xw_iadd C dX0_placeOf_5 ?_
  refine xw_istore_n C dX0_placeOf_6 2 rfl (by decide) ?_
  refine xw_iload_n C dX0_placeOf_7 2 rfl rfl ?_
  refine xw_sipush (v := 300) C dX0_placeOf_8 (by decide) ?_
  refine xw_icmp_lt (tgt := 22) C dX0_placeOf_11 (by decide) (fun c_1 => ?_) (fun c_1 => ?_)
  · have hf := it_t hf c_1
    refine xw_iload_n C dX0_placeOf_22 2 rfl rfl ?_
    exact xl_sub (xl_n (xl_n (xl_n xl_e))) (kX0_placeOf_23 C hR ht hr  hf)
  · have hf := it_f hf c_1
    refine xw_iload_n C dX0_placeOf_14 2 rfl rfl ?_
    refine xw_sipush (v := 300) C dX0_placeOf_15 (by decide) ?_
    refine xw_isub C dX0_placeOf_18 ?_
    refine xw_goto (tgt := 23) C dX0_placeOf_19 (by decide) ?_
    exact xl_sub (xl_n (xl_n (xl_n xl_e))) (kX0_placeOf_23 C hR ht hr  hf)
theorem mX0_placeOf (l : Launch) {D : va_G} {tys : List (ClassId × FieldType)} {base : Nat} {ad : Nat → Nat} {cs : xmC} (hJ : xw_J 431 ad base) (ht : tys = xm_tys cs) {x1 : Int32} {M M' : xwM} {o : Int32} (hf : fX0_placeOf x1 M = some (o, M')) : xk_i l yX0_placeOf cX0_placeOf 3 (some .int) rX0_placeOf D tys base 431 ad [.ref (ad 410), .int x1] (xm_ce ad cs M) (xm_ce ad cs M') o :=
  xk_ofi 1 (by decide) hJ (List.forall_mem_cons.mpr ⟨rfl, List.forall_mem_cons.mpr ⟨rfl, List.forall_mem_nil _⟩⟩) (Nat.le_of_ble_eq_true rfl) (fun G e1 e2 e3 e4 e5 hr C => kX0_placeOf_0 C e2 (e4.trans ht) hr  hf)

abbrev rX0_read : Room := { frames := 1, cells := 0, slots := 0, locals := 22 }
def fX0_read (x1 : Int32) (x2 : Int32) (M : xwM) : Option (Int32 × xwM) :=
  ixr 6 x2 fun n1 =>
  bni (fX0_placeOf x1 M) fun v4 M5 =>
  ld M5 (412 + n1) 300 v4 fun v7 =>
  some (v7, M5)
set_option maxHeartbeats 4000000 in
set_option maxRecDepth 100000 in
theorem kX0_read_0 {G : xwG} {ad : Nat → Nat} {cs : xmC} (C : xw_C G cX0_read 3 RX0 431 ad) (hR : xgR G = rX0_read) (ht : xgt G = xm_tys cs) (hr : (xgM G).sig.returnType = (some .int)) {M' : xwM} {o : Int32} {x1 : Int32} {x2 : Int32} {M : xwM} (hf : fX0_read x1 x2 M = some (o, M')) : XV G (xw_qi G 431 ad (xm_ce ad cs M') o) 3 0 0 ad cs M 0 [some (.ref (ad 410)), some (.int x1), some (.int x2)] [] := by
  unfold fX0_read at hf
  refine xw_aload_n C dX0_read_0 0 rfl rfl ?_
  refine xv_getf C (by decide) xs_L rfl inB0 0 (by decide) hw_110 rfl dX0_read_1 ?_
  refine xw_iload_n C dX0_read_4 2 rfl rfl ?_
  obtain ⟨i_2, q_3, hf⟩ := ixr_s hf
  refine xv_aldF C ht i_2 dX0_read_5 ?_
  refine xw_aload_n C dX0_read_6 0 rfl rfl ?_
  refine xw_iload_n C dX0_read_7 1 rfl rfl ?_
  obtain ⟨r_v4, M_M5, g_6, hf⟩ := bni_s hf
  refine xc_Vi C (mX0_placeOf (xgl G) C.2.2.2.2.2.2.2.2.1 ht  g_6) FX0_placeOf hw_253 (by decide) xs_L rfl (by rw [hR]; decide) (by rw [hR]; decide) rfl (Nat.le_of_ble_eq_true rfl) dX0_read_8 rfl ?_
  obtain ⟨i_8, hf⟩ := ld_s hf
  refine xv_iald C ht (by omega) ((fun _ => xs_W q_3) _) i_8 dX0_read_11 ?_
  cases hf
  exact xw_reti C hr dX0_read_12
theorem mX0_read (l : Launch) {D : va_G} {tys : List (ClassId × FieldType)} {base : Nat} {ad : Nat → Nat} {cs : xmC} (hJ : xw_J 431 ad base) (ht : tys = xm_tys cs) {x1 : Int32} {x2 : Int32} {M M' : xwM} {o : Int32} (hf : fX0_read x1 x2 M = some (o, M')) : xk_i l yX0_read cX0_read 3 (some .int) rX0_read D tys base 431 ad [.ref (ad 410), .int x1, .int x2] (xm_ce ad cs M) (xm_ce ad cs M') o :=
  xk_ofi 0 (by decide) hJ (List.forall_mem_cons.mpr ⟨rfl, List.forall_mem_cons.mpr ⟨rfl, List.forall_mem_cons.mpr ⟨rfl, List.forall_mem_nil _⟩⟩⟩) (Nat.le_of_ble_eq_true rfl) (fun G e1 e2 e3 e4 e5 hr C => kX0_read_0 C e2 (e4.trans ht) hr  hf)

abbrev rX0_send : Room := { frames := 1, cells := 0, slots := 0, locals := 22 }
def fX0_send (x1 : Int32) (x2 : Int32) (x3 : Int32) (x4 : Int32) (x5 : Int32) (x6 : Int32) (M : xwM) : Option (xwM) :=
  xlet (ms M 410 3 ((M 410 3) + 1)) fun M1 =>
  if (M1 410 2) < 300 then
    (bni (fX0_placeOf (M1 410 2) M1) fun v3 M4 =>
      ixr 6 0 fun n6 =>
      sto M4 (412 + n6) 300 v3 x1 fun M9 =>
      ixr 6 1 fun n11 =>
      sto M9 (412 + n11) 300 v3 x2 fun M14 =>
      ixr 6 2 fun n16 =>
      sto M14 (412 + n16) 300 v3 x3 fun M19 =>
      ixr 6 3 fun n21 =>
      sto M19 (412 + n21) 300 v3 x4 fun M24 =>
      ixr 6 4 fun n26 =>
      sto M24 (412 + n26) 300 v3 x5 fun M29 =>
      ixr 6 5 fun n31 =>
      sto M29 (412 + n31) 300 v3 x6 fun M34 =>
      xlet (ms M34 410 2 ((M34 410 2) + 1)) fun M36 =>
      some M36)
  else
    (xlet (ms M1 410 4 ((M1 410 4) + 1)) fun M37 =>
      some M37)
set_option maxHeartbeats 4000000 in
set_option maxRecDepth 100000 in
theorem kX0_send_0 {G : xwG} {ad : Nat → Nat} {cs : xmC} (C : xw_C G cX0_send 8 RX0 431 ad) (hR : xgR G = rX0_send) (ht : xgt G = xm_tys cs) (hr : (xgM G).sig.returnType = none) {M' : xwM} {x1 : Int32} {x2 : Int32} {x3 : Int32} {x4 : Int32} {x5 : Int32} {x6 : Int32} {M : xwM} (hf : fX0_send x1 x2 x3 x4 x5 x6 M = some M') : XV G (xw_qv G 431 ad (xm_ce ad cs M')) 8 0 0 ad cs M 0 [some (.ref (ad 410)), some (.int x1), some (.int x2), some (.int x3), some (.int x4), some (.int x5), some (.int x6), none] [] := by
  unfold fX0_send at hf
  refine xw_aload_n C dX0_send_0 0 rfl rfl ?_
  refine xw_dup C dX0_send_1 rfl ?_
  refine xv_getf C (by decide) xs_L rfl inB0 3 (by decide) hw_115 rfl dX0_send_2 ?_
  refine xw_iconst (v := 1) C dX0_send_5 (by decide) ?_
  refine xw_iadd C dX0_send_6 ?_
  refine xv_putf (fs := xl_X0 ad) C (by decide) (fun _ => xs_L) rfl inB0 tyX0 tyX0_ok nmX0 3 (by decide) hw_115 rfl rfl (fun _ => by simp [xl_X0]) (fun _ => rfl) dX0_send_7 ?_
  have hf := xlet_s hf
  refine xw_aload_n C dX0_send_10 0 rfl rfl ?_
  refine xv_getf C (by decide) xs_L rfl inB0 2 (by decide) hw_112 rfl dX0_send_11 ?_
  refine xw_sipush (v := 300) C dX0_send_14 (by decide) ?_
  refine xw_icmp_lt (tgt := 31) C dX0_send_17 (by decide) (fun c_2 => ?_) (fun c_2 => ?_)
  · have hf := it_t hf c_2
    refine xw_aload_n C dX0_send_31 0 rfl rfl ?_
    refine xw_aload_n C dX0_send_32 0 rfl rfl ?_
    refine xv_getf C (by decide) xs_L rfl inB0 2 (by decide) hw_112 rfl dX0_send_33 ?_
    obtain ⟨r_v3, M_M4, g_5, hf⟩ := bni_s hf
    refine xc_Vi C (mX0_placeOf (xgl G) C.2.2.2.2.2.2.2.2.1 ht  g_5) FX0_placeOf hw_253 (by decide) xs_L rfl (by rw [hR]; decide) (by rw [hR]; decide) rfl (Nat.le_of_ble_eq_true rfl) dX0_send_36 rfl ?_
    refine xw_istore C dX0_send_39 (by decide) ?_
    refine xw_aload_n C dX0_send_41 0 rfl rfl ?_
    refine xv_getf C (by decide) xs_L rfl inB0 0 (by decide) hw_110 rfl dX0_send_42 ?_
    refine xw_iconst (v := 0) C dX0_send_45 (by decide) ?_
    obtain ⟨i_7, q_8, hf⟩ := ixr_s hf
    refine xv_aldF C ht i_7 dX0_send_46 ?_
    refine xw_iload C dX0_send_47 rfl ?_
    refine xw_iload_n C dX0_send_49 1 rfl rfl ?_
    obtain ⟨i_10, hf⟩ := sto_s hf
    refine xv_iast C ht (by omega) (fun _ => xs_W q_8) i_10 dX0_send_50 ?_
    refine xw_aload_n C dX0_send_51 0 rfl rfl ?_
    refine xv_getf C (by decide) xs_L rfl inB0 0 (by decide) hw_110 rfl dX0_send_52 ?_
    refine xw_iconst (v := 1) C dX0_send_55 (by decide) ?_
    obtain ⟨i_12, q_13, hf⟩ := ixr_s hf
    refine xv_aldF C ht i_12 dX0_send_56 ?_
    refine xw_iload C dX0_send_57 rfl ?_
    refine xw_iload_n C dX0_send_59 2 rfl rfl ?_
    obtain ⟨i_15, hf⟩ := sto_s hf
    refine xv_iast C ht (by omega) (fun _ => xs_W q_13) i_15 dX0_send_60 ?_
    refine xw_aload_n C dX0_send_61 0 rfl rfl ?_
    refine xv_getf C (by decide) xs_L rfl inB0 0 (by decide) hw_110 rfl dX0_send_62 ?_
    refine xw_iconst (v := 2) C dX0_send_65 (by decide) ?_
    obtain ⟨i_17, q_18, hf⟩ := ixr_s hf
    refine xv_aldF C ht i_17 dX0_send_66 ?_
    refine xw_iload C dX0_send_67 rfl ?_
    refine xw_iload_n C dX0_send_69 3 rfl rfl ?_
    obtain ⟨i_20, hf⟩ := sto_s hf
    refine xv_iast C ht (by omega) (fun _ => xs_W q_18) i_20 dX0_send_70 ?_
    refine xw_aload_n C dX0_send_71 0 rfl rfl ?_
    refine xv_getf C (by decide) xs_L rfl inB0 0 (by decide) hw_110 rfl dX0_send_72 ?_
    refine xw_iconst (v := 3) C dX0_send_75 (by decide) ?_
    obtain ⟨i_22, q_23, hf⟩ := ixr_s hf
    refine xv_aldF C ht i_22 dX0_send_76 ?_
    refine xw_iload C dX0_send_77 rfl ?_
    refine xw_iload C dX0_send_79 rfl ?_
    obtain ⟨i_25, hf⟩ := sto_s hf
    refine xv_iast C ht (by omega) (fun _ => xs_W q_23) i_25 dX0_send_81 ?_
    refine xw_aload_n C dX0_send_82 0 rfl rfl ?_
    refine xv_getf C (by decide) xs_L rfl inB0 0 (by decide) hw_110 rfl dX0_send_83 ?_
    refine xw_iconst (v := 4) C dX0_send_86 (by decide) ?_
    obtain ⟨i_27, q_28, hf⟩ := ixr_s hf
    refine xv_aldF C ht i_27 dX0_send_87 ?_
    refine xw_iload C dX0_send_88 rfl ?_
    refine xw_iload C dX0_send_90 rfl ?_
    obtain ⟨i_30, hf⟩ := sto_s hf
    refine xv_iast C ht (by omega) (fun _ => xs_W q_28) i_30 dX0_send_92 ?_
    refine xw_aload_n C dX0_send_93 0 rfl rfl ?_
    refine xv_getf C (by decide) xs_L rfl inB0 0 (by decide) hw_110 rfl dX0_send_94 ?_
    refine xw_iconst (v := 5) C dX0_send_97 (by decide) ?_
    obtain ⟨i_32, q_33, hf⟩ := ixr_s hf
    refine xv_aldF C ht i_32 dX0_send_98 ?_
    refine xw_iload C dX0_send_99 rfl ?_
    refine xw_iload C dX0_send_101 rfl ?_
    obtain ⟨i_35, hf⟩ := sto_s hf
    refine xv_iast C ht (by omega) (fun _ => xs_W q_33) i_35 dX0_send_103 ?_
    refine xw_aload_n C dX0_send_104 0 rfl rfl ?_
    refine xw_dup C dX0_send_105 rfl ?_
    refine xv_getf C (by decide) xs_L rfl inB0 2 (by decide) hw_112 rfl dX0_send_106 ?_
    refine xw_iconst (v := 1) C dX0_send_109 (by decide) ?_
    refine xw_iadd C dX0_send_110 ?_
    refine xv_putf (fs := xl_X0 ad) C (by decide) (fun _ => xs_L) rfl inB0 tyX0 tyX0_ok nmX0 2 (by decide) hw_112 rfl rfl (fun _ => by simp [xl_X0]) (fun _ => rfl) dX0_send_111 ?_
    have hf := xlet_s hf
    cases hf
    exact xw_retv C hr dX0_send_114
  · have hf := it_f hf c_2
    refine xw_aload_n C dX0_send_20 0 rfl rfl ?_
    refine xw_dup C dX0_send_21 rfl ?_
    refine xv_getf C (by decide) xs_L rfl inB0 4 (by decide) hw_116 rfl dX0_send_22 ?_
    refine xw_iconst (v := 1) C dX0_send_25 (by decide) ?_
    refine xw_iadd C dX0_send_26 ?_
    refine xv_putf (fs := xl_X0 ad) C (by decide) (fun _ => xs_L) rfl inB0 tyX0 tyX0_ok nmX0 4 (by decide) hw_116 rfl rfl (fun _ => by simp [xl_X0]) (fun _ => rfl) dX0_send_27 ?_
    have hf := xlet_s hf
    cases hf
    exact xw_retv C hr dX0_send_30
theorem mX0_send (l : Launch) {D : va_G} {tys : List (ClassId × FieldType)} {base : Nat} {ad : Nat → Nat} {cs : xmC} (hJ : xw_J 431 ad base) (ht : tys = xm_tys cs) {x1 : Int32} {x2 : Int32} {x3 : Int32} {x4 : Int32} {x5 : Int32} {x6 : Int32} {M M' : xwM} (hf : fX0_send x1 x2 x3 x4 x5 x6 M = some M') : xk_v l yX0_send cX0_send 8 none rX0_send D tys base 431 ad [.ref (ad 410), .int x1, .int x2, .int x3, .int x4, .int x5, .int x6] (xm_ce ad cs M) (xm_ce ad cs M') :=
  xk_ofv 1 (by decide) hJ (List.forall_mem_cons.mpr ⟨rfl, List.forall_mem_cons.mpr ⟨rfl, List.forall_mem_cons.mpr ⟨rfl, List.forall_mem_cons.mpr ⟨rfl, List.forall_mem_cons.mpr ⟨rfl, List.forall_mem_cons.mpr ⟨rfl, List.forall_mem_cons.mpr ⟨rfl, List.forall_mem_nil _⟩⟩⟩⟩⟩⟩⟩) (Nat.le_of_ble_eq_true rfl) (fun G e1 e2 e3 e4 e5 hr C => kX0_send_0 C e2 (e4.trans ht) hr  hf)

abbrev rX0_put : Room := { frames := 1, cells := 0, slots := 0, locals := 22 }
def fX0_put_16 : Nat → Int32 → Int32 → Int32 →  xwM → Option (xwM)
  | 0, _, _, _, _ => none
  | fu + 1, x3, x4, x5, M =>
  if 6 ≤ x5 then
    (some M)
  else
    (ixr 6 x5 fun n8 =>
      ixr 6 x5 fun n11 =>
      ld M (412 + n11) 300 x3 fun v14 =>
      sto M (412 + n8) 300 x4 v14 fun M16 =>
      fX0_put_16 fu x3 x4 ((x5 + 1)) M16)
set_option maxHeartbeats 4000000 in
set_option maxRecDepth 100000 in
theorem kX0_put_16 {G : xwG} {ad : Nat → Nat} {cs : xmC} (C : xw_C G cX0_put 6 RX0 431 ad) (hR : xgR G = rX0_put) (ht : xgt G = xm_tys cs) (hr : (xgM G).sig.returnType = none) {M' : xwM} : ∀ (fu : Nat) (x3 : Int32) (x4 : Int32) (x5 : Int32) (M : xwM), fX0_put_16 fu x3 x4 x5 M = some M' → XV G (xw_qv G 431 ad (xm_ce ad cs M')) 6 0 0 ad cs M 16 [some (.ref (ad 410)), none, none, some (.int x3), some (.int x4), some (.int x5)] [] := by
  intro fu
  induction fu with
  | zero =>
    intro x3 x4 x5 M  hf
    cases hf
  | succ fu ih =>
    intro x3 x4 x5 M  hf
    rw [fX0_put_16] at hf
    refine xw_iload C dX0_put_16 rfl ?_
    refine xw_bipush (v := 6) C dX0_put_18 (by decide) ?_
    refine xw_icmp_ge (tgt := 48) C dX0_put_20 (by decide) (fun c_7 => ?_) (fun c_7 => ?_)
    · have hf := it_t hf c_7
      cases hf
      exact xw_retv C hr dX0_put_48
    · have hf := it_f hf c_7
      refine xw_aload_n C dX0_put_23 0 rfl rfl ?_
      refine xv_getf C (by decide) xs_L rfl inB0 0 (by decide) hw_110 rfl dX0_put_24 ?_
      refine xw_iload C dX0_put_27 rfl ?_
      obtain ⟨i_9, q_10, hf⟩ := ixr_s hf
      refine xv_aldF C ht i_9 dX0_put_29 ?_
      refine xw_iload C dX0_put_30 rfl ?_
      refine xw_aload_n C dX0_put_32 0 rfl rfl ?_
      refine xv_getf C (by decide) xs_L rfl inB0 0 (by decide) hw_110 rfl dX0_put_33 ?_
      refine xw_iload C dX0_put_36 rfl ?_
      obtain ⟨i_12, q_13, hf⟩ := ixr_s hf
      refine xv_aldF C ht i_12 dX0_put_38 ?_
      refine xw_iload_n C dX0_put_39 3 rfl rfl ?_
      obtain ⟨i_15, hf⟩ := ld_s hf
      refine xv_iald C ht (by omega) ((fun _ => xs_W q_13) _) i_15 dX0_put_40 ?_
      obtain ⟨i_17, hf⟩ := sto_s hf
      refine xv_iast C ht (by omega) (fun _ => xs_W q_10) i_17 dX0_put_41 ?_
      refine xw_iinc C dX0_put_42 rfl (show _ + Int32.ofInt (1) = _ + (1) from congrArg _ (by decide)) (by decide) ?_
      refine xw_goto (tgt := 16) C dX0_put_45 (by decide) ?_
      exact xl_sub (xl_c rfl (xl_n (xl_n (xl_c rfl (xl_c rfl (xl_c rfl xl_e)))))) (ih _ _ _ _ hf)
def fX0_put (x1 : Int32) (x2 : Int32) (M : xwM) : Option (xwM) :=
  bni (fX0_placeOf x1 M) fun v1 M2 =>
  bni (fX0_placeOf x2 M2) fun v4 M5 =>
  fX0_put_16 2001 v1 v4 0 M5
set_option maxHeartbeats 4000000 in
set_option maxRecDepth 100000 in
theorem kX0_put_0 {G : xwG} {ad : Nat → Nat} {cs : xmC} (C : xw_C G cX0_put 6 RX0 431 ad) (hR : xgR G = rX0_put) (ht : xgt G = xm_tys cs) (hr : (xgM G).sig.returnType = none) {M' : xwM} {x1 : Int32} {x2 : Int32} {M : xwM} (hf : fX0_put x1 x2 M = some M') : XV G (xw_qv G 431 ad (xm_ce ad cs M')) 6 0 0 ad cs M 0 [some (.ref (ad 410)), some (.int x1), some (.int x2), none, none, none] [] := by
  unfold fX0_put at hf
  refine xw_aload_n C dX0_put_0 0 rfl rfl ?_
  refine xw_iload_n C dX0_put_1 1 rfl rfl ?_
  obtain ⟨r_v1, M_M2, g_3, hf⟩ := bni_s hf
  refine xc_Vi C (mX0_placeOf (xgl G) C.2.2.2.2.2.2.2.2.1 ht  g_3) FX0_placeOf hw_253 (by decide) xs_L rfl (by rw [hR]; decide) (by rw [hR]; decide) rfl (Nat.le_of_ble_eq_true rfl) dX0_put_2 rfl ?_
  refine xw_istore_n C dX0_put_5 3 rfl (by decide) ?_
  refine xw_aload_n C dX0_put_6 0 rfl rfl ?_
  refine xw_iload_n C dX0_put_7 2 rfl rfl ?_
  obtain ⟨r_v4, M_M5, g_6, hf⟩ := bni_s hf
  refine xc_Vi C (mX0_placeOf (xgl G) C.2.2.2.2.2.2.2.2.1 ht  g_6) FX0_placeOf hw_253 (by decide) xs_L rfl (by rw [hR]; decide) (by rw [hR]; decide) rfl (Nat.le_of_ble_eq_true rfl) dX0_put_8 rfl ?_
  refine xw_istore C dX0_put_11 (by decide) ?_
  refine xw_iconst (v := 0) C dX0_put_13 (by decide) ?_
  refine xw_istore C dX0_put_14 (by decide) ?_
  exact xl_sub (xl_c rfl (xl_n (xl_n (xl_c rfl (xl_c rfl (xl_c rfl xl_e)))))) (kX0_put_16 C hR ht hr 2001 _ _ _ _ hf)
theorem mX0_put (l : Launch) {D : va_G} {tys : List (ClassId × FieldType)} {base : Nat} {ad : Nat → Nat} {cs : xmC} (hJ : xw_J 431 ad base) (ht : tys = xm_tys cs) {x1 : Int32} {x2 : Int32} {M M' : xwM} (hf : fX0_put x1 x2 M = some M') : xk_v l yX0_put cX0_put 6 none rX0_put D tys base 431 ad [.ref (ad 410), .int x1, .int x2] (xm_ce ad cs M) (xm_ce ad cs M') :=
  xk_ofv 3 (by decide) hJ (List.forall_mem_cons.mpr ⟨rfl, List.forall_mem_cons.mpr ⟨rfl, List.forall_mem_cons.mpr ⟨rfl, List.forall_mem_nil _⟩⟩⟩) (Nat.le_of_ble_eq_true rfl) (fun G e1 e2 e3 e4 e5 hr C => kX0_put_0 C e2 (e4.trans ht) hr  hf)

abbrev rX0_repeat : Room := { frames := 2, cells := 0, slots := 0, locals := 47 }
def fX0_repeat (x1 : Int32) (M : xwM) : Option (Int32 × xwM) :=
  if (M 410 2) < 300 then
    (bnv (fX0_put x1 (M 410 2) M) fun M2 =>
      xlet (ms M2 410 2 ((M2 410 2) + 1)) fun M4 =>
      some (1, M4))
  else
    (some (0, M))
set_option maxHeartbeats 4000000 in
set_option maxRecDepth 100000 in
theorem kX0_repeat_0 {G : xwG} {ad : Nat → Nat} {cs : xmC} (C : xw_C G cX0_repeat 2 RX0 431 ad) (hR : xgR G = rX0_repeat) (ht : xgt G = xm_tys cs) (hr : (xgM G).sig.returnType = (some .boolean)) {M' : xwM} {o : Int32} {x1 : Int32} {M : xwM} (hf : fX0_repeat x1 M = some (o, M')) : XV G (xw_qi G 431 ad (xm_ce ad cs M') o) 2 0 0 ad cs M 0 [some (.ref (ad 410)), some (.int x1)] [] := by
  unfold fX0_repeat at hf
  refine xw_aload_n C dX0_repeat_0 0 rfl rfl ?_
  refine xv_getf C (by decide) xs_L rfl inB0 2 (by decide) hw_112 rfl dX0_repeat_1 ?_
  refine xw_sipush (v := 300) C dX0_repeat_4 (by decide) ?_
  refine xw_icmp_lt (tgt := 12) C dX0_repeat_7 (by decide) (fun c_1 => ?_) (fun c_1 => ?_)
  · have hf := it_t hf c_1
    refine xw_aload_n C dX0_repeat_12 0 rfl rfl ?_
    refine xw_iload_n C dX0_repeat_13 1 rfl rfl ?_
    refine xw_aload_n C dX0_repeat_14 0 rfl rfl ?_
    refine xv_getf C (by decide) xs_L rfl inB0 2 (by decide) hw_112 rfl dX0_repeat_15 ?_
    obtain ⟨M_M2, g_3, hf⟩ := bnv_s hf
    refine xc_Vv C (mX0_put (xgl G) C.2.2.2.2.2.2.2.2.1 ht  g_3) FX0_put hw_368 (by decide) xs_L rfl (by rw [hR]; decide) (by rw [hR]; decide) rfl (Nat.le_of_ble_eq_true rfl) dX0_repeat_18 rfl ?_
    refine xw_aload_n C dX0_repeat_21 0 rfl rfl ?_
    refine xw_dup C dX0_repeat_22 rfl ?_
    refine xv_getf C (by decide) xs_L rfl inB0 2 (by decide) hw_112 rfl dX0_repeat_23 ?_
    refine xw_iconst (v := 1) C dX0_repeat_26 (by decide) ?_
    refine xw_iadd C dX0_repeat_27 ?_
    refine xv_putf (fs := xl_X0 ad) C (by decide) (fun _ => xs_L) rfl inB0 tyX0 tyX0_ok nmX0 2 (by decide) hw_112 rfl rfl (fun _ => by simp [xl_X0]) (fun _ => rfl) dX0_repeat_28 ?_
    have hf := xlet_s hf
    refine xw_iconst (v := 1) C dX0_repeat_31 (by decide) ?_
    cases hf
    exact xw_retz C hr (by decide) dX0_repeat_32
  · have hf := it_f hf c_1
    refine xw_iconst (v := 0) C dX0_repeat_10 (by decide) ?_
    cases hf
    exact xw_retz C hr (by decide) dX0_repeat_11
theorem mX0_repeat (l : Launch) {D : va_G} {tys : List (ClassId × FieldType)} {base : Nat} {ad : Nat → Nat} {cs : xmC} (hJ : xw_J 431 ad base) (ht : tys = xm_tys cs) {x1 : Int32} {M M' : xwM} {o : Int32} (hf : fX0_repeat x1 M = some (o, M')) : xk_i l yX0_repeat cX0_repeat 2 (some .boolean) rX0_repeat D tys base 431 ad [.ref (ad 410), .int x1] (xm_ce ad cs M) (xm_ce ad cs M') o :=
  xk_ofi 0 (by decide) hJ (List.forall_mem_cons.mpr ⟨rfl, List.forall_mem_cons.mpr ⟨rfl, List.forall_mem_nil _⟩⟩) (Nat.le_of_ble_eq_true rfl) (fun G e1 e2 e3 e4 e5 hr C => kX0_repeat_0 C e2 (e4.trans ht) hr  hf)

abbrev rX0_takeAway : Room := { frames := 2, cells := 0, slots := 0, locals := 47 }
def fX0_takeAway_2 : Nat → Int32 →  xwM → Option (xwM)
  | 0, _, _ => none
  | fu + 1, x2, M =>
  if x2 ≤ 0 then
    (bni (fX0_placeOf 1 M) fun v2 M3 =>
      xlet (ms M3 410 1 v2) fun M5 =>
      xlet (ms M5 410 2 ((M5 410 2) - 1)) fun M6 =>
      some M6)
  else
    (bnv (fX0_put (x2 - 1) x2 M) fun M7 =>
      fX0_takeAway_2 fu ((x2 + (-1))) M7)
set_option maxHeartbeats 4000000 in
set_option maxRecDepth 100000 in
theorem kX0_takeAway_2 {G : xwG} {ad : Nat → Nat} {cs : xmC} (C : xw_C G cX0_takeAway 3 RX0 431 ad) (hR : xgR G = rX0_takeAway) (ht : xgt G = xm_tys cs) (hr : (xgM G).sig.returnType = none) {M' : xwM} : ∀ (fu : Nat) (x2 : Int32) (M : xwM), fX0_takeAway_2 fu x2 M = some M' → XV G (xw_qv G 431 ad (xm_ce ad cs M')) 3 0 0 ad cs M 2 [some (.ref (ad 410)), none, some (.int x2)] [] := by
  intro fu
  induction fu with
  | zero =>
    intro x2 M  hf
    cases hf
  | succ fu ih =>
    intro x2 M  hf
    rw [fX0_takeAway_2] at hf
    refine xw_iload_n C dX0_takeAway_2 2 rfl rfl ?_
    refine xw_if_le (tgt := 20) C dX0_takeAway_3 (by decide) (fun c_1 => ?_) (fun c_1 => ?_)
    · have hf := it_t hf c_1
      refine xw_aload_n C dX0_takeAway_20 0 rfl rfl ?_
      refine xw_aload_n C dX0_takeAway_21 0 rfl rfl ?_
      refine xw_iconst (v := 1) C dX0_takeAway_22 (by decide) ?_
      obtain ⟨r_v2, M_M3, g_4, hf⟩ := bni_s hf
      refine xc_Vi C (mX0_placeOf (xgl G) C.2.2.2.2.2.2.2.2.1 ht  g_4) FX0_placeOf hw_253 (by decide) xs_L rfl (by rw [hR]; decide) (by rw [hR]; decide) rfl (Nat.le_of_ble_eq_true rfl) dX0_takeAway_23 rfl ?_
      refine xv_putf (fs := xl_X0 ad) C (by decide) (fun _ => xs_L) rfl inB0 tyX0 tyX0_ok nmX0 1 (by decide) hw_111 rfl rfl (fun _ => by simp [xl_X0]) (fun _ => rfl) dX0_takeAway_26 ?_
      have hf := xlet_s hf
      refine xw_aload_n C dX0_takeAway_29 0 rfl rfl ?_
      refine xw_dup C dX0_takeAway_30 rfl ?_
      refine xv_getf C (by decide) xs_L rfl inB0 2 (by decide) hw_112 rfl dX0_takeAway_31 ?_
      refine xw_iconst (v := 1) C dX0_takeAway_34 (by decide) ?_
      refine xw_isub C dX0_takeAway_35 ?_
      refine xv_putf (fs := xl_X0 ad) C (by decide) (fun _ => xs_L) rfl inB0 tyX0 tyX0_ok nmX0 2 (by decide) hw_112 rfl rfl (fun _ => by simp [xl_X0]) (fun _ => rfl) dX0_takeAway_36 ?_
      have hf := xlet_s hf
      cases hf
      exact xw_retv C hr dX0_takeAway_39
    · have hf := it_f hf c_1
      refine xw_aload_n C dX0_takeAway_6 0 rfl rfl ?_
      refine xw_iload_n C dX0_takeAway_7 2 rfl rfl ?_
      refine xw_iconst (v := 1) C dX0_takeAway_8 (by decide) ?_
      refine xw_isub C dX0_takeAway_9 ?_
      refine xw_iload_n C dX0_takeAway_10 2 rfl rfl ?_
      obtain ⟨M_M7, g_8, hf⟩ := bnv_s hf
      refine xc_Vv C (mX0_put (xgl G) C.2.2.2.2.2.2.2.2.1 ht  g_8) FX0_put hw_368 (by decide) xs_L rfl (by rw [hR]; decide) (by rw [hR]; decide) rfl (Nat.le_of_ble_eq_true rfl) dX0_takeAway_11 rfl ?_
      refine xw_iinc C dX0_takeAway_14 rfl (show _ + Int32.ofInt (-1) = _ + (-1) from congrArg _ (by decide)) (by decide) ?_
      refine xw_goto (tgt := 2) C dX0_takeAway_17 (by decide) ?_
      exact xl_sub (xl_c rfl (xl_n (xl_c rfl xl_e))) (ih _ _ hf)
def fX0_takeAway (x1 : Int32) (M : xwM) : Option (xwM) :=
  fX0_takeAway_2 2001 x1 M
set_option maxHeartbeats 4000000 in
set_option maxRecDepth 100000 in
theorem kX0_takeAway_0 {G : xwG} {ad : Nat → Nat} {cs : xmC} (C : xw_C G cX0_takeAway 3 RX0 431 ad) (hR : xgR G = rX0_takeAway) (ht : xgt G = xm_tys cs) (hr : (xgM G).sig.returnType = none) {M' : xwM} {x1 : Int32} {M : xwM} (hf : fX0_takeAway x1 M = some M') : XV G (xw_qv G 431 ad (xm_ce ad cs M')) 3 0 0 ad cs M 0 [some (.ref (ad 410)), some (.int x1), none] [] := by
  unfold fX0_takeAway at hf
  refine xw_iload_n C dX0_takeAway_0 1 rfl rfl ?_
  refine xw_istore_n C dX0_takeAway_1 2 rfl (by decide) ?_
  exact xl_sub (xl_c rfl (xl_n (xl_c rfl xl_e))) (kX0_takeAway_2 C hR ht hr 2001 _ _ hf)
theorem mX0_takeAway (l : Launch) {D : va_G} {tys : List (ClassId × FieldType)} {base : Nat} {ad : Nat → Nat} {cs : xmC} (hJ : xw_J 431 ad base) (ht : tys = xm_tys cs) {x1 : Int32} {M M' : xwM} (hf : fX0_takeAway x1 M = some M') : xk_v l yX0_takeAway cX0_takeAway 3 none rX0_takeAway D tys base 431 ad [.ref (ad 410), .int x1] (xm_ce ad cs M) (xm_ce ad cs M') :=
  xk_ofv 1 (by decide) hJ (List.forall_mem_cons.mpr ⟨rfl, List.forall_mem_cons.mpr ⟨rfl, List.forall_mem_nil _⟩⟩) (Nat.le_of_ble_eq_true rfl) (fun G e1 e2 e3 e4 e5 hr C => kX0_takeAway_0 C e2 (e4.trans ht) hr  hf)

abbrev rX0_loseAllOf : Room := { frames := 2, cells := 0, slots := 0, locals := 47 }
def fX0_loseAllOf_41 (kf : Int32 → Int32 → Int32 → xwM → Option (Int32 × xwM)) (x1 : Int32) (x2 : Int32) (x3 : Int32) (M : xwM) : Option (Int32 × xwM) :=
  kf x1 x2 ((x3 + 1)) M
set_option maxHeartbeats 4000000 in
set_option maxRecDepth 100000 in
theorem kX0_loseAllOf_41 {G : xwG} {ad : Nat → Nat} {cs : xmC} (C : xw_C G cX0_loseAllOf 4 RX0 431 ad) (hR : xgR G = rX0_loseAllOf) (ht : xgt G = xm_tys cs) (hr : (xgM G).sig.returnType = (some .int)) {M' : xwM} {o : Int32} {kf : Int32 → Int32 → Int32 → xwM → Option (Int32 × xwM)} (hk : ∀ (yx1 : Int32) (yx2 : Int32) (yx3 : Int32) (M : xwM), kf yx1 yx2 yx3 M = some (o, M') → XV G (xw_qi G 431 ad (xm_ce ad cs M') o) 4 0 0 ad cs M 4 [some (.ref (ad 410)), some (.int yx1), some (.int yx2), some (.int yx3)] []) {x1 : Int32} {x2 : Int32} {x3 : Int32} {M : xwM} (hf : fX0_loseAllOf_41 kf x1 x2 x3 M = some (o, M')) : XV G (xw_qi G 431 ad (xm_ce ad cs M') o) 4 0 0 ad cs M 41 [some (.ref (ad 410)), some (.int x1), some (.int x2), some (.int x3)] [] := by
  unfold fX0_loseAllOf_41 at hf
  refine xw_iinc C dX0_loseAllOf_41 rfl (show _ + Int32.ofInt (1) = _ + (1) from congrArg _ (by decide)) (by decide) ?_
  refine xw_goto (tgt := 4) C dX0_loseAllOf_44 (by decide) ?_
  exact xl_sub (xl_c rfl (xl_c rfl (xl_c rfl (xl_c rfl xl_e)))) (hk _ _ _ _ hf)
def fX0_loseAllOf_4 : Nat → Int32 → Int32 → Int32 →  xwM → Option (Int32 × xwM)
  | 0, _, _, _, _ => none
  | fu + 1, x1, x2, x3, M =>
  if (M 410 2) ≤ x3 then
    (xlet (ms M 410 2 x2) fun M2 =>
      xlet (ms M2 410 5 ((M2 410 5) + ((M 410 2) - x2))) fun M3 =>
      some (((M 410 2) - x2), M3))
  else
    (bni (fX0_read x3 1 M) fun v4 M5 =>
      if v4 = x1 then
        (fX0_loseAllOf_41 (fX0_loseAllOf_4 fu) x1 x2 x3 M5)
      else
        (bni (fX0_read x3 2 M5) fun v8 M9 =>
          if v8 = x1 then
            (fX0_loseAllOf_41 (fX0_loseAllOf_4 fu) x1 x2 x3 M9)
          else
            (bnv (fX0_put x3 x2 M9) fun M12 =>
              fX0_loseAllOf_41 (fX0_loseAllOf_4 fu) x1 ((x2 + 1)) x3 M12)))
set_option maxHeartbeats 4000000 in
set_option maxRecDepth 100000 in
theorem kX0_loseAllOf_4 {G : xwG} {ad : Nat → Nat} {cs : xmC} (C : xw_C G cX0_loseAllOf 4 RX0 431 ad) (hR : xgR G = rX0_loseAllOf) (ht : xgt G = xm_tys cs) (hr : (xgM G).sig.returnType = (some .int)) {M' : xwM} {o : Int32} : ∀ (fu : Nat) (x1 : Int32) (x2 : Int32) (x3 : Int32) (M : xwM), fX0_loseAllOf_4 fu x1 x2 x3 M = some (o, M') → XV G (xw_qi G 431 ad (xm_ce ad cs M') o) 4 0 0 ad cs M 4 [some (.ref (ad 410)), some (.int x1), some (.int x2), some (.int x3)] [] := by
  intro fu
  induction fu with
  | zero =>
    intro x1 x2 x3 M  hf
    cases hf
  | succ fu ih =>
    intro x1 x2 x3 M  hf
    rw [fX0_loseAllOf_4] at hf
    refine xw_iload_n C dX0_loseAllOf_4 3 rfl rfl ?_
    refine xw_aload_n C dX0_loseAllOf_5 0 rfl rfl ?_
    refine xv_getf C (by decide) xs_L rfl inB0 2 (by decide) hw_112 rfl dX0_loseAllOf_6 ?_
    refine xw_icmp_ge (tgt := 47) C dX0_loseAllOf_9 (by decide) (fun c_1 => ?_) (fun c_1 => ?_)
    · have hf := it_t hf c_1
      refine xw_aload_n C dX0_loseAllOf_47 0 rfl rfl ?_
      refine xv_getf C (by decide) xs_L rfl inB0 2 (by decide) hw_112 rfl dX0_loseAllOf_48 ?_
      refine xw_iload_n C dX0_loseAllOf_51 2 rfl rfl ?_
      refine xw_isub C dX0_loseAllOf_52 ?_
      refine xw_istore_n C dX0_loseAllOf_53 3 rfl (by decide) ?_
      refine xw_aload_n C dX0_loseAllOf_54 0 rfl rfl ?_
      refine xw_iload_n C dX0_loseAllOf_55 2 rfl rfl ?_
      refine xv_putf (fs := xl_X0 ad) C (by decide) (fun _ => xs_L) rfl inB0 tyX0 tyX0_ok nmX0 2 (by decide) hw_112 rfl rfl (fun _ => by simp [xl_X0]) (fun _ => rfl) dX0_loseAllOf_56 ?_
      have hf := xlet_s hf
      refine xw_aload_n C dX0_loseAllOf_59 0 rfl rfl ?_
      refine xw_dup C dX0_loseAllOf_60 rfl ?_
      refine xv_getf C (by decide) xs_L rfl inB0 5 (by decide) hw_118 rfl dX0_loseAllOf_61 ?_
      refine xw_iload_n C dX0_loseAllOf_64 3 rfl rfl ?_
      refine xw_iadd C dX0_loseAllOf_65 ?_
      refine xv_putf (fs := xl_X0 ad) C (by decide) (fun _ => xs_L) rfl inB0 tyX0 tyX0_ok nmX0 5 (by decide) hw_118 rfl rfl (fun _ => by simp [xl_X0]) (fun _ => rfl) dX0_loseAllOf_66 ?_
      have hf := xlet_s hf
      refine xw_iload_n C dX0_loseAllOf_69 3 rfl rfl ?_
      cases hf
      exact xw_reti C hr dX0_loseAllOf_70
    · have hf := it_f hf c_1
      refine xw_aload_n C dX0_loseAllOf_12 0 rfl rfl ?_
      refine xw_iload_n C dX0_loseAllOf_13 3 rfl rfl ?_
      refine xw_iconst (v := 1) C dX0_loseAllOf_14 (by decide) ?_
      obtain ⟨r_v4, M_M5, g_6, hf⟩ := bni_s hf
      refine xc_Vi C (mX0_read (xgl G) C.2.2.2.2.2.2.2.2.1 ht  g_6) FX0_read hw_364 (by decide) xs_L rfl (by rw [hR]; decide) (by rw [hR]; decide) rfl (Nat.le_of_ble_eq_true rfl) dX0_loseAllOf_15 rfl ?_
      refine xw_iload_n C dX0_loseAllOf_18 1 rfl rfl ?_
      refine xw_icmp_eq (tgt := 41) C dX0_loseAllOf_19 (by decide) (fun c_7 => ?_) (fun c_7 => ?_)
      · have hf := it_t hf c_7
        exact xl_sub (xl_c rfl (xl_c rfl (xl_c rfl (xl_c rfl xl_e)))) (kX0_loseAllOf_41 C hR ht hr ih  hf)
      · have hf := it_f hf c_7
        refine xw_aload_n C dX0_loseAllOf_22 0 rfl rfl ?_
        refine xw_iload_n C dX0_loseAllOf_23 3 rfl rfl ?_
        refine xw_iconst (v := 2) C dX0_loseAllOf_24 (by decide) ?_
        obtain ⟨r_v8, M_M9, g_10, hf⟩ := bni_s hf
        refine xc_Vi C (mX0_read (xgl G) C.2.2.2.2.2.2.2.2.1 ht  g_10) FX0_read hw_364 (by decide) xs_L rfl (by rw [hR]; decide) (by rw [hR]; decide) rfl (Nat.le_of_ble_eq_true rfl) dX0_loseAllOf_25 rfl ?_
        refine xw_iload_n C dX0_loseAllOf_28 1 rfl rfl ?_
        refine xw_icmp_eq (tgt := 41) C dX0_loseAllOf_29 (by decide) (fun c_11 => ?_) (fun c_11 => ?_)
        · have hf := it_t hf c_11
          exact xl_sub (xl_c rfl (xl_c rfl (xl_c rfl (xl_c rfl xl_e)))) (kX0_loseAllOf_41 C hR ht hr ih  hf)
        · have hf := it_f hf c_11
          refine xw_aload_n C dX0_loseAllOf_32 0 rfl rfl ?_
          refine xw_iload_n C dX0_loseAllOf_33 3 rfl rfl ?_
          refine xw_iload_n C dX0_loseAllOf_34 2 rfl rfl ?_
          obtain ⟨M_M12, g_13, hf⟩ := bnv_s hf
          refine xc_Vv C (mX0_put (xgl G) C.2.2.2.2.2.2.2.2.1 ht  g_13) FX0_put hw_368 (by decide) xs_L rfl (by rw [hR]; decide) (by rw [hR]; decide) rfl (Nat.le_of_ble_eq_true rfl) dX0_loseAllOf_35 rfl ?_
          refine xw_iinc C dX0_loseAllOf_38 rfl (show _ + Int32.ofInt (1) = _ + (1) from congrArg _ (by decide)) (by decide) ?_
          exact xl_sub (xl_c rfl (xl_c rfl (xl_c rfl (xl_c rfl xl_e)))) (kX0_loseAllOf_41 C hR ht hr ih  hf)
def fX0_loseAllOf (x1 : Int32) (M : xwM) : Option (Int32 × xwM) :=
  fX0_loseAllOf_4 2001 x1 0 0 M
set_option maxHeartbeats 4000000 in
set_option maxRecDepth 100000 in
theorem kX0_loseAllOf_0 {G : xwG} {ad : Nat → Nat} {cs : xmC} (C : xw_C G cX0_loseAllOf 4 RX0 431 ad) (hR : xgR G = rX0_loseAllOf) (ht : xgt G = xm_tys cs) (hr : (xgM G).sig.returnType = (some .int)) {M' : xwM} {o : Int32} {x1 : Int32} {M : xwM} (hf : fX0_loseAllOf x1 M = some (o, M')) : XV G (xw_qi G 431 ad (xm_ce ad cs M') o) 4 0 0 ad cs M 0 [some (.ref (ad 410)), some (.int x1), none, none] [] := by
  unfold fX0_loseAllOf at hf
  refine xw_iconst (v := 0) C dX0_loseAllOf_0 (by decide) ?_
  refine xw_istore_n C dX0_loseAllOf_1 2 rfl (by decide) ?_
  refine xw_iconst (v := 0) C dX0_loseAllOf_2 (by decide) ?_
  refine xw_istore_n C dX0_loseAllOf_3 3 rfl (by decide) ?_
  exact xl_sub (xl_c rfl (xl_c rfl (xl_c rfl (xl_c rfl xl_e)))) (kX0_loseAllOf_4 C hR ht hr 2001 _ _ _ _ hf)
theorem mX0_loseAllOf (l : Launch) {D : va_G} {tys : List (ClassId × FieldType)} {base : Nat} {ad : Nat → Nat} {cs : xmC} (hJ : xw_J 431 ad base) (ht : tys = xm_tys cs) {x1 : Int32} {M M' : xwM} {o : Int32} (hf : fX0_loseAllOf x1 M = some (o, M')) : xk_i l yX0_loseAllOf cX0_loseAllOf 4 (some .int) rX0_loseAllOf D tys base 431 ad [.ref (ad 410), .int x1] (xm_ce ad cs M) (xm_ce ad cs M') o :=
  xk_ofi 2 (by decide) hJ (List.forall_mem_cons.mpr ⟨rfl, List.forall_mem_cons.mpr ⟨rfl, List.forall_mem_nil _⟩⟩) (Nat.le_of_ble_eq_true rfl) (fun G e1 e2 e3 e4 e5 hr C => kX0_loseAllOf_0 C e2 (e4.trans ht) hr  hf)
end
section
abbrev rX1_hasWay : Room := { frames := 0, cells := 0, slots := 0, locals := 0 }
def fX1_hasWay_15 (s0 : Int32) (M : xwM) : Option (Int32 × xwM) :=
  if s0 = 0 ∨ s0 = 1 then some (s0, M) else none
set_option maxHeartbeats 4000000 in
set_option maxRecDepth 100000 in
theorem kX1_hasWay_15 {G : xwG} {ad : Nat → Nat} {cs : xmC} (C : xw_C G cX1_hasWay 2 RX1 431 ad) (hR : xgR G = rX1_hasWay) (ht : xgt G = xm_tys cs) (hr : (xgM G).sig.returnType = (some .boolean)) {M' : xwM} {o : Int32} {s0 : Int32} {M : xwM} (hf : fX1_hasWay_15 s0 M = some (o, M')) : XV G (xw_qi G 431 ad (xm_ce ad cs M') o) 2 0 0 ad cs M 15 [none, none] [.int s0] := by
  unfold fX1_hasWay_15 at hf
  obtain ⟨hz, hf⟩ := xl_z hf
  cases hf
  exact xw_retz C hr hz dX1_hasWay_15
def fX1_hasWay (x0 : Nat) (x1 : Int32) (M : xwM) : Option (Int32 × xwM) :=
  ld M (6 + 34 * x0) 12 x1 fun v1 =>
  if v1 = (-1) then
    (fX1_hasWay_15 0 M)
  else
    (fX1_hasWay_15 1 M)
set_option maxHeartbeats 4000000 in
set_option maxRecDepth 100000 in
theorem kX1_hasWay_0 {G : xwG} {ad : Nat → Nat} {cs : xmC} (C : xw_C G cX1_hasWay 2 RX1 431 ad) (hR : xgR G = rX1_hasWay) (ht : xgt G = xm_tys cs) (hr : (xgM G).sig.returnType = (some .boolean)) {M' : xwM} {o : Int32} {x0 : Nat} {x1 : Int32} (h0 : x0 < 12) {M : xwM} (hf : fX1_hasWay x0 x1 M = some (o, M')) : XV G (xw_qi G 431 ad (xm_ce ad cs M') o) 2 0 0 ad cs M 0 [some (.ref (ad (2 + 34 * x0))), some (.int x1)] [] := by
  unfold fX1_hasWay at hf
  refine xw_aload_n C dX1_hasWay_0 0 rfl rfl ?_
  refine xv_getf C (by omega) (xs_R h0) rfl inB1 3 (by decide) hw_68 rfl dX1_hasWay_1 ?_
  refine xw_iload_n C dX1_hasWay_4 1 rfl rfl ?_
  obtain ⟨i_2, hf⟩ := ld_s hf
  refine xv_iald C ht (by omega) ((fun _ => xs_A 6 (by decide) h0) _) i_2 dX1_hasWay_5 ?_
  refine xw_iconst (v := -1) C dX1_hasWay_6 (by decide) ?_
  refine xw_icmp_eq (tgt := 14) C dX1_hasWay_7 (by decide) (fun c_3 => ?_) (fun c_3 => ?_)
  · have hf := it_t hf c_3
    refine xw_iconst (v := 0) C dX1_hasWay_14 (by decide) ?_
    exact xl_sub (xl_n (xl_n xl_e)) (kX1_hasWay_15 C hR ht hr  hf)
  · have hf := it_f hf c_3
    refine xw_iconst (v := 1) C dX1_hasWay_10 (by decide) ?_
    refine xw_goto (tgt := 15) C dX1_hasWay_11 (by decide) ?_
    exact xl_sub (xl_n (xl_n xl_e)) (kX1_hasWay_15 C hR ht hr  hf)
theorem mX1_hasWay (l : Launch) {D : va_G} {tys : List (ClassId × FieldType)} {base : Nat} {ad : Nat → Nat} {cs : xmC} (hJ : xw_J 431 ad base) (ht : tys = xm_tys cs) {x0 : Nat} {x1 : Int32} (h0 : x0 < 12) {M M' : xwM} {o : Int32} (hf : fX1_hasWay x0 x1 M = some (o, M')) : xk_i l yX1_hasWay cX1_hasWay 2 (some .boolean) rX1_hasWay D tys base 431 ad [.ref (ad (2 + 34 * x0)), .int x1] (xm_ce ad cs M) (xm_ce ad cs M') o :=
  xk_ofi 0 (by decide) hJ (List.forall_mem_cons.mpr ⟨rfl, List.forall_mem_cons.mpr ⟨rfl, List.forall_mem_nil _⟩⟩) (Nat.le_of_ble_eq_true rfl) (fun G e1 e2 e3 e4 e5 hr C => kX1_hasWay_0 C e2 (e4.trans ht) hr h0 hf)

abbrev rX1_hasBound : Room := { frames := 0, cells := 0, slots := 0, locals := 0 }
def fX1_hasBound_15 (s0 : Int32) (M : xwM) : Option (Int32 × xwM) :=
  if s0 = 0 ∨ s0 = 1 then some (s0, M) else none
set_option maxHeartbeats 4000000 in
set_option maxRecDepth 100000 in
theorem kX1_hasBound_15 {G : xwG} {ad : Nat → Nat} {cs : xmC} (C : xw_C G cX1_hasBound 2 RX1 431 ad) (hR : xgR G = rX1_hasBound) (ht : xgt G = xm_tys cs) (hr : (xgM G).sig.returnType = (some .boolean)) {M' : xwM} {o : Int32} {s0 : Int32} {M : xwM} (hf : fX1_hasBound_15 s0 M = some (o, M')) : XV G (xw_qi G 431 ad (xm_ce ad cs M') o) 2 0 0 ad cs M 15 [none, none] [.int s0] := by
  unfold fX1_hasBound_15 at hf
  obtain ⟨hz, hf⟩ := xl_z hf
  cases hf
  exact xw_retz C hr hz dX1_hasBound_15
def fX1_hasBound (x0 : Nat) (x1 : Int32) (M : xwM) : Option (Int32 × xwM) :=
  ld M (4 + 34 * x0) 12 x1 fun v1 =>
  if v1 = (-1) then
    (fX1_hasBound_15 0 M)
  else
    (fX1_hasBound_15 1 M)
set_option maxHeartbeats 4000000 in
set_option maxRecDepth 100000 in
theorem kX1_hasBound_0 {G : xwG} {ad : Nat → Nat} {cs : xmC} (C : xw_C G cX1_hasBound 2 RX1 431 ad) (hR : xgR G = rX1_hasBound) (ht : xgt G = xm_tys cs) (hr : (xgM G).sig.returnType = (some .boolean)) {M' : xwM} {o : Int32} {x0 : Nat} {x1 : Int32} (h0 : x0 < 12) {M : xwM} (hf : fX1_hasBound x0 x1 M = some (o, M')) : XV G (xw_qi G 431 ad (xm_ce ad cs M') o) 2 0 0 ad cs M 0 [some (.ref (ad (2 + 34 * x0))), some (.int x1)] [] := by
  unfold fX1_hasBound at hf
  refine xw_aload_n C dX1_hasBound_0 0 rfl rfl ?_
  refine xv_getf C (by omega) (xs_R h0) rfl inB1 1 (by decide) hw_64 rfl dX1_hasBound_1 ?_
  refine xw_iload_n C dX1_hasBound_4 1 rfl rfl ?_
  obtain ⟨i_2, hf⟩ := ld_s hf
  refine xv_iald C ht (by omega) ((fun _ => xs_A 4 (by decide) h0) _) i_2 dX1_hasBound_5 ?_
  refine xw_iconst (v := -1) C dX1_hasBound_6 (by decide) ?_
  refine xw_icmp_eq (tgt := 14) C dX1_hasBound_7 (by decide) (fun c_3 => ?_) (fun c_3 => ?_)
  · have hf := it_t hf c_3
    refine xw_iconst (v := 0) C dX1_hasBound_14 (by decide) ?_
    exact xl_sub (xl_n (xl_n xl_e)) (kX1_hasBound_15 C hR ht hr  hf)
  · have hf := it_f hf c_3
    refine xw_iconst (v := 1) C dX1_hasBound_10 (by decide) ?_
    refine xw_goto (tgt := 15) C dX1_hasBound_11 (by decide) ?_
    exact xl_sub (xl_n (xl_n xl_e)) (kX1_hasBound_15 C hR ht hr  hf)
theorem mX1_hasBound (l : Launch) {D : va_G} {tys : List (ClassId × FieldType)} {base : Nat} {ad : Nat → Nat} {cs : xmC} (hJ : xw_J 431 ad base) (ht : tys = xm_tys cs) {x0 : Nat} {x1 : Int32} (h0 : x0 < 12) {M M' : xwM} {o : Int32} (hf : fX1_hasBound x0 x1 M = some (o, M')) : xk_i l yX1_hasBound cX1_hasBound 2 (some .boolean) rX1_hasBound D tys base 431 ad [.ref (ad (2 + 34 * x0)), .int x1] (xm_ce ad cs M) (xm_ce ad cs M') o :=
  xk_ofi 0 (by decide) hJ (List.forall_mem_cons.mpr ⟨rfl, List.forall_mem_cons.mpr ⟨rfl, List.forall_mem_nil _⟩⟩) (Nat.le_of_ble_eq_true rfl) (fun G e1 e2 e3 e4 e5 hr C => kX1_hasBound_0 C e2 (e4.trans ht) hr h0 hf)

abbrev rX1_isGood : Room := { frames := 1, cells := 0, slots := 0, locals := 22 }
def fX1_isGood_56 (s0 : Int32) (M : xwM) : Option (Int32 × xwM) :=
  if s0 = 0 ∨ s0 = 1 then some (s0, M) else none
set_option maxHeartbeats 4000000 in
set_option maxRecDepth 100000 in
theorem kX1_isGood_56 {G : xwG} {ad : Nat → Nat} {cs : xmC} (C : xw_C G cX1_isGood 4 RX1 431 ad) (hR : xgR G = rX1_isGood) (ht : xgt G = xm_tys cs) (hr : (xgM G).sig.returnType = (some .boolean)) {M' : xwM} {o : Int32} {s0 : Int32} {M : xwM} (hf : fX1_isGood_56 s0 M = some (o, M')) : XV G (xw_qi G 431 ad (xm_ce ad cs M') o) 4 0 0 ad cs M 56 [none, none, none, none] [.int s0] := by
  unfold fX1_isGood_56 at hf
  obtain ⟨hz, hf⟩ := xl_z hf
  cases hf
  exact xw_retz C hr hz dX1_isGood_56
def fX1_isGood_51 (M : xwM) : Option (Int32 × xwM) :=
  fX1_isGood_56 1 M
set_option maxHeartbeats 4000000 in
set_option maxRecDepth 100000 in
theorem kX1_isGood_51 {G : xwG} {ad : Nat → Nat} {cs : xmC} (C : xw_C G cX1_isGood 4 RX1 431 ad) (hR : xgR G = rX1_isGood) (ht : xgt G = xm_tys cs) (hr : (xgM G).sig.returnType = (some .boolean)) {M' : xwM} {o : Int32} {M : xwM} (hf : fX1_isGood_51  M = some (o, M')) : XV G (xw_qi G 431 ad (xm_ce ad cs M') o) 4 0 0 ad cs M 51 [none, none, none, none] [] := by
  unfold fX1_isGood_51 at hf
  refine xw_iconst (v := 1) C dX1_isGood_51 (by decide) ?_
  refine xw_goto (tgt := 56) C dX1_isGood_52 (by decide) ?_
  exact xl_sub (xl_n (xl_n (xl_n (xl_n xl_e)))) (kX1_isGood_56 C hR ht hr  hf)
def fX1_isGood_55 (M : xwM) : Option (Int32 × xwM) :=
  fX1_isGood_56 0 M
set_option maxHeartbeats 4000000 in
set_option maxRecDepth 100000 in
theorem kX1_isGood_55 {G : xwG} {ad : Nat → Nat} {cs : xmC} (C : xw_C G cX1_isGood 4 RX1 431 ad) (hR : xgR G = rX1_isGood) (ht : xgt G = xm_tys cs) (hr : (xgM G).sig.returnType = (some .boolean)) {M' : xwM} {o : Int32} {M : xwM} (hf : fX1_isGood_55  M = some (o, M')) : XV G (xw_qi G 431 ad (xm_ce ad cs M') o) 4 0 0 ad cs M 55 [none, none, none, none] [] := by
  unfold fX1_isGood_55 at hf
  refine xw_iconst (v := 0) C dX1_isGood_55 (by decide) ?_
  exact xl_sub (xl_n (xl_n (xl_n (xl_n xl_e)))) (kX1_isGood_56 C hR ht hr  hf)
def fX1_isGood (x0 : Nat) (x1 : Int32) (x2 : Int32) (x3 : Int32) (M : xwM) : Option (Int32 × xwM) :=
  if x3 = 65535 then
    (some (0, M))
  else
    (ld M (4 + 34 * x0) 12 x1 fun v2 =>
      if v2 = (-1) then
        (fX1_isGood_51  M)
      else
        (ld M (4 + 34 * x0) 12 x1 fun v5 =>
          bni (fX2_isNewer x2 v5 M) fun v7 M8 =>
          if v7 = 0 then
            (ld M8 (4 + 34 * x0) 12 x1 fun v11 =>
              if x2 = v11 then
                (ld M8 (5 + 34 * x0) 12 x1 fun v14 =>
                  if v14 ≤ x3 then
                    (fX1_isGood_55  M8)
                  else
                    (fX1_isGood_51  M8))
              else
                (fX1_isGood_55  M8))
          else
            (fX1_isGood_51  M8)))
set_option maxHeartbeats 4000000 in
set_option maxRecDepth 100000 in
theorem kX1_isGood_0 {G : xwG} {ad : Nat → Nat} {cs : xmC} (C : xw_C G cX1_isGood 4 RX1 431 ad) (hR : xgR G = rX1_isGood) (ht : xgt G = xm_tys cs) (hr : (xgM G).sig.returnType = (some .boolean)) {M' : xwM} {o : Int32} {x0 : Nat} {x1 : Int32} {x2 : Int32} {x3 : Int32} (h0 : x0 < 12) {M : xwM} (hf : fX1_isGood x0 x1 x2 x3 M = some (o, M')) : XV G (xw_qi G 431 ad (xm_ce ad cs M') o) 4 0 0 ad cs M 0 [some (.ref (ad (2 + 34 * x0))), some (.int x1), some (.int x2), some (.int x3)] [] := by
  unfold fX1_isGood at hf
  refine xw_iload_n C dX1_isGood_0 3 rfl rfl ?_
  refine xw_ldc C hw_261 dX1_isGood_1 ?_
  refine xw_icmp_ne (tgt := 8) C dX1_isGood_3 (by decide) (fun c_1 => ?_) (fun c_1 => ?_)
  · have hf := it_f hf c_1
    refine xw_aload_n C dX1_isGood_8 0 rfl rfl ?_
    refine xv_getf C (by omega) (xs_R h0) rfl inB1 1 (by decide) hw_64 rfl dX1_isGood_9 ?_
    refine xw_iload_n C dX1_isGood_12 1 rfl rfl ?_
    obtain ⟨i_3, hf⟩ := ld_s hf
    refine xv_iald C ht (by omega) ((fun _ => xs_A 4 (by decide) h0) _) i_3 dX1_isGood_13 ?_
    refine xw_iconst (v := -1) C dX1_isGood_14 (by decide) ?_
    refine xw_icmp_eq (tgt := 51) C dX1_isGood_15 (by decide) (fun c_4 => ?_) (fun c_4 => ?_)
    · have hf := it_t hf c_4
      exact xl_sub (xl_n (xl_n (xl_n (xl_n xl_e)))) (kX1_isGood_51 C hR ht hr  hf)
    · have hf := it_f hf c_4
      refine xw_iload_n C dX1_isGood_18 2 rfl rfl ?_
      refine xw_aload_n C dX1_isGood_19 0 rfl rfl ?_
      refine xv_getf C (by omega) (xs_R h0) rfl inB1 1 (by decide) hw_64 rfl dX1_isGood_20 ?_
      refine xw_iload_n C dX1_isGood_23 1 rfl rfl ?_
      obtain ⟨i_6, hf⟩ := ld_s hf
      refine xv_iald C ht (by omega) ((fun _ => xs_A 4 (by decide) h0) _) i_6 dX1_isGood_24 ?_
      obtain ⟨r_v7, M_M8, g_9, hf⟩ := bni_s hf
      refine xc_Ni C (mX2_isNewer (xgl G) C.2.2.2.2.2.2.2.2.1 ht  g_9) FX2_isNewer C.2.2.2.2.2.2.2.2.2.1.1 (by rw [hR]; decide) (by rw [hR]; decide) rfl (Nat.le_of_ble_eq_true rfl) dX1_isGood_25 rfl ?_
      refine xw_if_ne (tgt := 51) C dX1_isGood_28 (by decide) (fun c_10 => ?_) (fun c_10 => ?_)
      · have hf := it_f hf c_10
        exact xl_sub (xl_n (xl_n (xl_n (xl_n xl_e)))) (kX1_isGood_51 C hR ht hr  hf)
      · have hf := it_t hf c_10
        refine xw_iload_n C dX1_isGood_31 2 rfl rfl ?_
        refine xw_aload_n C dX1_isGood_32 0 rfl rfl ?_
        refine xv_getf C (by omega) (xs_R h0) rfl inB1 1 (by decide) hw_64 rfl dX1_isGood_33 ?_
        refine xw_iload_n C dX1_isGood_36 1 rfl rfl ?_
        obtain ⟨i_12, hf⟩ := ld_s hf
        refine xv_iald C ht (by omega) ((fun _ => xs_A 4 (by decide) h0) _) i_12 dX1_isGood_37 ?_
        refine xw_icmp_ne (tgt := 55) C dX1_isGood_38 (by decide) (fun c_13 => ?_) (fun c_13 => ?_)
        · have hf := it_f hf c_13
          exact xl_sub (xl_n (xl_n (xl_n (xl_n xl_e)))) (kX1_isGood_55 C hR ht hr  hf)
        · have hf := it_t hf c_13
          refine xw_iload_n C dX1_isGood_41 3 rfl rfl ?_
          refine xw_aload_n C dX1_isGood_42 0 rfl rfl ?_
          refine xv_getf C (by omega) (xs_R h0) rfl inB1 2 (by decide) hw_66 rfl dX1_isGood_43 ?_
          refine xw_iload_n C dX1_isGood_46 1 rfl rfl ?_
          obtain ⟨i_15, hf⟩ := ld_s hf
          refine xv_iald C ht (by omega) ((fun _ => xs_A 5 (by decide) h0) _) i_15 dX1_isGood_47 ?_
          refine xw_icmp_ge (tgt := 55) C dX1_isGood_48 (by decide) (fun c_16 => ?_) (fun c_16 => ?_)
          · have hf := it_t hf c_16
            exact xl_sub (xl_n (xl_n (xl_n (xl_n xl_e)))) (kX1_isGood_55 C hR ht hr  hf)
          · have hf := it_f hf c_16
            exact xl_sub (xl_n (xl_n (xl_n (xl_n xl_e)))) (kX1_isGood_51 C hR ht hr  hf)
  · have hf := it_t hf c_1
    refine xw_iconst (v := 0) C dX1_isGood_6 (by decide) ?_
    cases hf
    exact xw_retz C hr (by decide) dX1_isGood_7
theorem mX1_isGood (l : Launch) {D : va_G} {tys : List (ClassId × FieldType)} {base : Nat} {ad : Nat → Nat} {cs : xmC} (hJ : xw_J 431 ad base) (ht : tys = xm_tys cs) {x0 : Nat} {x1 : Int32} {x2 : Int32} {x3 : Int32} (h0 : x0 < 12) {M M' : xwM} {o : Int32} (hf : fX1_isGood x0 x1 x2 x3 M = some (o, M')) : xk_i l yX1_isGood cX1_isGood 4 (some .boolean) rX1_isGood D tys base 431 ad [.ref (ad (2 + 34 * x0)), .int x1, .int x2, .int x3] (xm_ce ad cs M) (xm_ce ad cs M') o :=
  xk_ofi 0 (by decide) hJ (List.forall_mem_cons.mpr ⟨rfl, List.forall_mem_cons.mpr ⟨rfl, List.forall_mem_cons.mpr ⟨rfl, List.forall_mem_cons.mpr ⟨rfl, List.forall_mem_nil _⟩⟩⟩⟩) (Nat.le_of_ble_eq_true rfl) (fun G e1 e2 e3 e4 e5 hr C => kX1_isGood_0 C e2 (e4.trans ht) hr h0 hf)

abbrev rX1_hasPassedOn : Room := { frames := 1, cells := 0, slots := 0, locals := 22 }
def fX1_hasPassedOn_30 (s0 : Int32) (M : xwM) : Option (Int32 × xwM) :=
  if s0 = 0 ∨ s0 = 1 then some (s0, M) else none
set_option maxHeartbeats 4000000 in
set_option maxRecDepth 100000 in
theorem kX1_hasPassedOn_30 {G : xwG} {ad : Nat → Nat} {cs : xmC} (C : xw_C G cX1_hasPassedOn 4 RX1 431 ad) (hR : xgR G = rX1_hasPassedOn) (ht : xgt G = xm_tys cs) (hr : (xgM G).sig.returnType = (some .boolean)) {M' : xwM} {o : Int32} {s0 : Int32} {M : xwM} (hf : fX1_hasPassedOn_30 s0 M = some (o, M')) : XV G (xw_qi G 431 ad (xm_ce ad cs M') o) 4 0 0 ad cs M 30 [none, none, none, none] [.int s0] := by
  unfold fX1_hasPassedOn_30 at hf
  obtain ⟨hz, hf⟩ := xl_z hf
  cases hf
  exact xw_retz C hr hz dX1_hasPassedOn_30
def fX1_hasPassedOn_25 (M : xwM) : Option (Int32 × xwM) :=
  fX1_hasPassedOn_30 1 M
set_option maxHeartbeats 4000000 in
set_option maxRecDepth 100000 in
theorem kX1_hasPassedOn_25 {G : xwG} {ad : Nat → Nat} {cs : xmC} (C : xw_C G cX1_hasPassedOn 4 RX1 431 ad) (hR : xgR G = rX1_hasPassedOn) (ht : xgt G = xm_tys cs) (hr : (xgM G).sig.returnType = (some .boolean)) {M' : xwM} {o : Int32} {M : xwM} (hf : fX1_hasPassedOn_25  M = some (o, M')) : XV G (xw_qi G 431 ad (xm_ce ad cs M') o) 4 0 0 ad cs M 25 [none, none, none, none] [] := by
  unfold fX1_hasPassedOn_25 at hf
  refine xw_iconst (v := 1) C dX1_hasPassedOn_25 (by decide) ?_
  refine xw_goto (tgt := 30) C dX1_hasPassedOn_26 (by decide) ?_
  exact xl_sub (xl_n (xl_n (xl_n (xl_n xl_e)))) (kX1_hasPassedOn_30 C hR ht hr  hf)
def fX1_hasPassedOn_29 (M : xwM) : Option (Int32 × xwM) :=
  fX1_hasPassedOn_30 0 M
set_option maxHeartbeats 4000000 in
set_option maxRecDepth 100000 in
theorem kX1_hasPassedOn_29 {G : xwG} {ad : Nat → Nat} {cs : xmC} (C : xw_C G cX1_hasPassedOn 4 RX1 431 ad) (hR : xgR G = rX1_hasPassedOn) (ht : xgt G = xm_tys cs) (hr : (xgM G).sig.returnType = (some .boolean)) {M' : xwM} {o : Int32} {M : xwM} (hf : fX1_hasPassedOn_29  M = some (o, M')) : XV G (xw_qi G 431 ad (xm_ce ad cs M') o) 4 0 0 ad cs M 29 [none, none, none, none] [] := by
  unfold fX1_hasPassedOn_29 at hf
  refine xw_iconst (v := 0) C dX1_hasPassedOn_29 (by decide) ?_
  exact xl_sub (xl_n (xl_n (xl_n (xl_n xl_e)))) (kX1_hasPassedOn_30 C hR ht hr  hf)
def fX1_hasPassedOn (x0 : Nat) (x1 : Int32) (x2 : Int32) (M : xwM) : Option (Int32 × xwM) :=
  ld M (9 + 34 * x0) 12 x1 fun v1 =>
  if v1 = (-1) then
    (fX1_hasPassedOn_29  M)
  else
    (if v1 = x2 then
        (fX1_hasPassedOn_25  M)
      else
        (bni (fX2_isNewer v1 x2 M) fun v5 M6 =>
          if v5 = 0 then
            (fX1_hasPassedOn_29  M6)
          else
            (fX1_hasPassedOn_25  M6)))
set_option maxHeartbeats 4000000 in
set_option maxRecDepth 100000 in
theorem kX1_hasPassedOn_0 {G : xwG} {ad : Nat → Nat} {cs : xmC} (C : xw_C G cX1_hasPassedOn 4 RX1 431 ad) (hR : xgR G = rX1_hasPassedOn) (ht : xgt G = xm_tys cs) (hr : (xgM G).sig.returnType = (some .boolean)) {M' : xwM} {o : Int32} {x0 : Nat} {x1 : Int32} {x2 : Int32} (h0 : x0 < 12) {M : xwM} (hf : fX1_hasPassedOn x0 x1 x2 M = some (o, M')) : XV G (xw_qi G 431 ad (xm_ce ad cs M') o) 4 0 0 ad cs M 0 [some (.ref (ad (2 + 34 * x0))), some (.int x1), some (.int x2), none] [] := by
  unfold fX1_hasPassedOn at hf
  refine xw_aload_n C dX1_hasPassedOn_0 0 rfl rfl ?_
  refine xv_getf C (by omega) (xs_R h0) rfl inB1 6 (by decide) hw_74 rfl dX1_hasPassedOn_1 ?_
  refine xw_iload_n C dX1_hasPassedOn_4 1 rfl rfl ?_
  obtain ⟨i_2, hf⟩ := ld_s hf
  refine xv_iald C ht (by omega) ((fun _ => xs_A 9 (by decide) h0) _) i_2 dX1_hasPassedOn_5 ?_
  refine xw_istore_n C dX1_hasPassedOn_6 3 rfl (by decide) ?_
  refine xw_iload_n C dX1_hasPassedOn_7 3 rfl rfl ?_
  refine xw_iconst (v := -1) C dX1_hasPassedOn_8 (by decide) ?_
  refine xw_icmp_eq (tgt := 29) C dX1_hasPassedOn_9 (by decide) (fun c_3 => ?_) (fun c_3 => ?_)
  · have hf := it_t hf c_3
    exact xl_sub (xl_n (xl_n (xl_n (xl_n xl_e)))) (kX1_hasPassedOn_29 C hR ht hr  hf)
  · have hf := it_f hf c_3
    refine xw_iload_n C dX1_hasPassedOn_12 3 rfl rfl ?_
    refine xw_iload_n C dX1_hasPassedOn_13 2 rfl rfl ?_
    refine xw_icmp_eq (tgt := 25) C dX1_hasPassedOn_14 (by decide) (fun c_4 => ?_) (fun c_4 => ?_)
    · have hf := it_t hf c_4
      exact xl_sub (xl_n (xl_n (xl_n (xl_n xl_e)))) (kX1_hasPassedOn_25 C hR ht hr  hf)
    · have hf := it_f hf c_4
      refine xw_iload_n C dX1_hasPassedOn_17 3 rfl rfl ?_
      refine xw_iload_n C dX1_hasPassedOn_18 2 rfl rfl ?_
      obtain ⟨r_v5, M_M6, g_7, hf⟩ := bni_s hf
      refine xc_Ni C (mX2_isNewer (xgl G) C.2.2.2.2.2.2.2.2.1 ht  g_7) FX2_isNewer C.2.2.2.2.2.2.2.2.2.1.1 (by rw [hR]; decide) (by rw [hR]; decide) rfl (Nat.le_of_ble_eq_true rfl) dX1_hasPassedOn_19 rfl ?_
      refine xw_if_eq (tgt := 29) C dX1_hasPassedOn_22 (by decide) (fun c_8 => ?_) (fun c_8 => ?_)
      · have hf := it_t hf c_8
        exact xl_sub (xl_n (xl_n (xl_n (xl_n xl_e)))) (kX1_hasPassedOn_29 C hR ht hr  hf)
      · have hf := it_f hf c_8
        exact xl_sub (xl_n (xl_n (xl_n (xl_n xl_e)))) (kX1_hasPassedOn_25 C hR ht hr  hf)
theorem mX1_hasPassedOn (l : Launch) {D : va_G} {tys : List (ClassId × FieldType)} {base : Nat} {ad : Nat → Nat} {cs : xmC} (hJ : xw_J 431 ad base) (ht : tys = xm_tys cs) {x0 : Nat} {x1 : Int32} {x2 : Int32} (h0 : x0 < 12) {M M' : xwM} {o : Int32} (hf : fX1_hasPassedOn x0 x1 x2 M = some (o, M')) : xk_i l yX1_hasPassedOn cX1_hasPassedOn 4 (some .boolean) rX1_hasPassedOn D tys base 431 ad [.ref (ad (2 + 34 * x0)), .int x1, .int x2] (xm_ce ad cs M) (xm_ce ad cs M') o :=
  xk_ofi 1 (by decide) hJ (List.forall_mem_cons.mpr ⟨rfl, List.forall_mem_cons.mpr ⟨rfl, List.forall_mem_cons.mpr ⟨rfl, List.forall_mem_nil _⟩⟩⟩) (Nat.le_of_ble_eq_true rfl) (fun G e1 e2 e3 e4 e5 hr C => kX1_hasPassedOn_0 C e2 (e4.trans ht) hr h0 hf)

abbrev rX1_raiseOwnNumber : Room := { frames := 1, cells := 0, slots := 0, locals := 20 }
def fX1_raiseOwnNumber (x0 : Nat) (M : xwM) : Option (Int32 × xwM) :=
  ld M (7 + 34 * x0) 12 (M (2 + 34 * x0) 9) fun v1 =>
  bni (fX2_nextNumber v1 M) fun v3 M4 =>
  sto M4 (7 + 34 * x0) 12 (M (2 + 34 * x0) 9) v3 fun M6 =>
  ld M6 (7 + 34 * x0) 12 (M6 (2 + 34 * x0) 9) fun v8 =>
  some (v8, M6)
set_option maxHeartbeats 4000000 in
set_option maxRecDepth 100000 in
theorem kX1_raiseOwnNumber_0 {G : xwG} {ad : Nat → Nat} {cs : xmC} (C : xw_C G cX1_raiseOwnNumber 1 RX1 431 ad) (hR : xgR G = rX1_raiseOwnNumber) (ht : xgt G = xm_tys cs) (hr : (xgM G).sig.returnType = (some .int)) {M' : xwM} {o : Int32} {x0 : Nat} (h0 : x0 < 12) {M : xwM} (hf : fX1_raiseOwnNumber x0 M = some (o, M')) : XV G (xw_qi G 431 ad (xm_ce ad cs M') o) 1 0 0 ad cs M 0 [some (.ref (ad (2 + 34 * x0)))] [] := by
  unfold fX1_raiseOwnNumber at hf
  refine xw_aload_n C dX1_raiseOwnNumber_0 0 rfl rfl ?_
  refine xv_getf C (by omega) (xs_R h0) rfl inB1 4 (by decide) hw_70 rfl dX1_raiseOwnNumber_1 ?_
  refine xw_aload_n C dX1_raiseOwnNumber_4 0 rfl rfl ?_
  refine xv_getf C (by omega) (xs_R h0) rfl inB1 9 (by decide) hw_80 rfl dX1_raiseOwnNumber_5 ?_
  refine xw_aload_n C dX1_raiseOwnNumber_8 0 rfl rfl ?_
  refine xv_getf C (by omega) (xs_R h0) rfl inB1 4 (by decide) hw_70 rfl dX1_raiseOwnNumber_9 ?_
  refine xw_aload_n C dX1_raiseOwnNumber_12 0 rfl rfl ?_
  refine xv_getf C (by omega) (xs_R h0) rfl inB1 9 (by decide) hw_80 rfl dX1_raiseOwnNumber_13 ?_
  obtain ⟨i_2, hf⟩ := ld_s hf
  refine xv_iald C ht (by omega) ((fun _ => xs_A 7 (by decide) h0) _) i_2 dX1_raiseOwnNumber_16 ?_
  obtain ⟨r_v3, M_M4, g_5, hf⟩ := bni_s hf
  refine xc_Ni C (mX2_nextNumber (xgl G) C.2.2.2.2.2.2.2.2.1 ht  g_5) FX2_nextNumber C.2.2.2.2.2.2.2.2.2.1.2.1 (by rw [hR]; decide) (by rw [hR]; decide) rfl (Nat.le_of_ble_eq_true rfl) dX1_raiseOwnNumber_17 rfl ?_
  obtain ⟨i_7, hf⟩ := sto_s hf
  refine xv_iast C ht (by omega) (fun _ => xs_A 7 (by decide) h0) i_7 dX1_raiseOwnNumber_20 ?_
  refine xw_aload_n C dX1_raiseOwnNumber_21 0 rfl rfl ?_
  refine xv_getf C (by omega) (xs_R h0) rfl inB1 4 (by decide) hw_70 rfl dX1_raiseOwnNumber_22 ?_
  refine xw_aload_n C dX1_raiseOwnNumber_25 0 rfl rfl ?_
  refine xv_getf C (by omega) (xs_R h0) rfl inB1 9 (by decide) hw_80 rfl dX1_raiseOwnNumber_26 ?_
  obtain ⟨i_9, hf⟩ := ld_s hf
  refine xv_iald C ht (by omega) ((fun _ => xs_A 7 (by decide) h0) _) i_9 dX1_raiseOwnNumber_29 ?_
  cases hf
  exact xw_reti C hr dX1_raiseOwnNumber_30
theorem mX1_raiseOwnNumber (l : Launch) {D : va_G} {tys : List (ClassId × FieldType)} {base : Nat} {ad : Nat → Nat} {cs : xmC} (hJ : xw_J 431 ad base) (ht : tys = xm_tys cs) {x0 : Nat} (h0 : x0 < 12) {M M' : xwM} {o : Int32} (hf : fX1_raiseOwnNumber x0 M = some (o, M')) : xk_i l yX1_raiseOwnNumber cX1_raiseOwnNumber 1 (some .int) rX1_raiseOwnNumber D tys base 431 ad [.ref (ad (2 + 34 * x0))] (xm_ce ad cs M) (xm_ce ad cs M') o :=
  xk_ofi 0 (by decide) hJ (List.forall_mem_cons.mpr ⟨rfl, List.forall_mem_nil _⟩) (Nat.le_of_ble_eq_true rfl) (fun G e1 e2 e3 e4 e5 hr C => kX1_raiseOwnNumber_0 C e2 (e4.trans ht) hr h0 hf)

abbrev rX1_countLinks : Room := { frames := 0, cells := 0, slots := 0, locals := 0 }
def fX1_countLinks_22 (kf : Nat → Int32 → Int32 → xwM → Option (Int32 × xwM)) (x0 : Nat) (x1 : Int32) (x2 : Int32) (M : xwM) : Option (Int32 × xwM) :=
  kf x0 x1 ((x2 + 1)) M
set_option maxHeartbeats 4000000 in
set_option maxRecDepth 100000 in
theorem kX1_countLinks_22 {G : xwG} {ad : Nat → Nat} {cs : xmC} (C : xw_C G cX1_countLinks 3 RX1 431 ad) (hR : xgR G = rX1_countLinks) (ht : xgt G = xm_tys cs) (hr : (xgM G).sig.returnType = (some .int)) {M' : xwM} {o : Int32} {kf : Nat → Int32 → Int32 → xwM → Option (Int32 × xwM)} (hk : ∀ (yx0 : Nat) (yx1 : Int32) (yx2 : Int32) (M : xwM) (_ : yx0 < 12), kf yx0 yx1 yx2 M = some (o, M') → XV G (xw_qi G 431 ad (xm_ce ad cs M') o) 3 0 0 ad cs M 4 [some (.ref (ad (2 + 34 * yx0))), some (.int yx1), some (.int yx2)] []) {x0 : Nat} {x1 : Int32} {x2 : Int32} (h0 : x0 < 12) {M : xwM} (hf : fX1_countLinks_22 kf x0 x1 x2 M = some (o, M')) : XV G (xw_qi G 431 ad (xm_ce ad cs M') o) 3 0 0 ad cs M 22 [some (.ref (ad (2 + 34 * x0))), some (.int x1), some (.int x2)] [] := by
  unfold fX1_countLinks_22 at hf
  refine xw_iinc C dX1_countLinks_22 rfl (show _ + Int32.ofInt (1) = _ + (1) from congrArg _ (by decide)) (by decide) ?_
  refine xw_goto (tgt := 4) C dX1_countLinks_25 (by decide) ?_
  exact xl_sub (xl_c rfl (xl_c rfl (xl_c rfl xl_e))) (hk _ _ _ _ h0 hf)
def fX1_countLinks_4 : Nat → Nat → Int32 → Int32 →  xwM → Option (Int32 × xwM)
  | 0, _, _, _, _ => none
  | fu + 1, x0, x1, x2, M =>
  if 12 ≤ x2 then
    (some (x1, M))
  else
    (ld M (3 + 34 * x0) 12 x2 fun v2 =>
      if v2 = 0 then
        (fX1_countLinks_22 (fX1_countLinks_4 fu) x0 x1 x2 M)
      else
        (fX1_countLinks_22 (fX1_countLinks_4 fu) x0 ((x1 + 1)) x2 M))
set_option maxHeartbeats 4000000 in
set_option maxRecDepth 100000 in
theorem kX1_countLinks_4 {G : xwG} {ad : Nat → Nat} {cs : xmC} (C : xw_C G cX1_countLinks 3 RX1 431 ad) (hR : xgR G = rX1_countLinks) (ht : xgt G = xm_tys cs) (hr : (xgM G).sig.returnType = (some .int)) {M' : xwM} {o : Int32} : ∀ (fu : Nat) (x0 : Nat) (x1 : Int32) (x2 : Int32) (M : xwM) (h0 : x0 < 12), fX1_countLinks_4 fu x0 x1 x2 M = some (o, M') → XV G (xw_qi G 431 ad (xm_ce ad cs M') o) 3 0 0 ad cs M 4 [some (.ref (ad (2 + 34 * x0))), some (.int x1), some (.int x2)] [] := by
  intro fu
  induction fu with
  | zero =>
    intro x0 x1 x2 M h0 hf
    cases hf
  | succ fu ih =>
    intro x0 x1 x2 M h0 hf
    rw [fX1_countLinks_4] at hf
    refine xw_iload_n C dX1_countLinks_4 2 rfl rfl ?_
    refine xw_bipush (v := 12) C dX1_countLinks_5 (by decide) ?_
    refine xw_icmp_ge (tgt := 28) C dX1_countLinks_7 (by decide) (fun c_1 => ?_) (fun c_1 => ?_)
    · have hf := it_t hf c_1
      refine xw_iload_n C dX1_countLinks_28 1 rfl rfl ?_
      cases hf
      exact xw_reti C hr dX1_countLinks_29
    · have hf := it_f hf c_1
      refine xw_aload_n C dX1_countLinks_10 0 rfl rfl ?_
      refine xv_getf C (by omega) (xs_R h0) rfl inB1 0 (by decide) hw_62 rfl dX1_countLinks_11 ?_
      refine xw_iload_n C dX1_countLinks_14 2 rfl rfl ?_
      obtain ⟨i_3, hf⟩ := ld_s hf
      refine xv_iald C ht (by omega) ((fun _ => xs_A 3 (by decide) h0) _) i_3 dX1_countLinks_15 ?_
      refine xw_if_eq (tgt := 22) C dX1_countLinks_16 (by decide) (fun c_4 => ?_) (fun c_4 => ?_)
      · have hf := it_t hf c_4
        exact xl_sub (xl_c rfl (xl_c rfl (xl_c rfl xl_e))) (kX1_countLinks_22 C hR ht hr ih h0 hf)
      · have hf := it_f hf c_4
        refine xw_iinc C dX1_countLinks_19 rfl (show _ + Int32.ofInt (1) = _ + (1) from congrArg _ (by decide)) (by decide) ?_
        exact xl_sub (xl_c rfl (xl_c rfl (xl_c rfl xl_e))) (kX1_countLinks_22 C hR ht hr ih h0 hf)
def fX1_countLinks (x0 : Nat) (M : xwM) : Option (Int32 × xwM) :=
  fX1_countLinks_4 2001 x0 0 0 M
set_option maxHeartbeats 4000000 in
set_option maxRecDepth 100000 in
theorem kX1_countLinks_0 {G : xwG} {ad : Nat → Nat} {cs : xmC} (C : xw_C G cX1_countLinks 3 RX1 431 ad) (hR : xgR G = rX1_countLinks) (ht : xgt G = xm_tys cs) (hr : (xgM G).sig.returnType = (some .int)) {M' : xwM} {o : Int32} {x0 : Nat} (h0 : x0 < 12) {M : xwM} (hf : fX1_countLinks x0 M = some (o, M')) : XV G (xw_qi G 431 ad (xm_ce ad cs M') o) 3 0 0 ad cs M 0 [some (.ref (ad (2 + 34 * x0))), none, none] [] := by
  unfold fX1_countLinks at hf
  refine xw_iconst (v := 0) C dX1_countLinks_0 (by decide) ?_
  refine xw_istore_n C dX1_countLinks_1 1 rfl (by decide) ?_
  refine xw_iconst (v := 0) C dX1_countLinks_2 (by decide) ?_
  refine xw_istore_n C dX1_countLinks_3 2 rfl (by decide) ?_
  exact xl_sub (xl_c rfl (xl_c rfl (xl_c rfl xl_e))) (kX1_countLinks_4 C hR ht hr 2001 _ _ _ _ h0 hf)
theorem mX1_countLinks (l : Launch) {D : va_G} {tys : List (ClassId × FieldType)} {base : Nat} {ad : Nat → Nat} {cs : xmC} (hJ : xw_J 431 ad base) (ht : tys = xm_tys cs) {x0 : Nat} (h0 : x0 < 12) {M M' : xwM} {o : Int32} (hf : fX1_countLinks x0 M = some (o, M')) : xk_i l yX1_countLinks cX1_countLinks 3 (some .int) rX1_countLinks D tys base 431 ad [.ref (ad (2 + 34 * x0))] (xm_ce ad cs M) (xm_ce ad cs M') o :=
  xk_ofi 2 (by decide) hJ (List.forall_mem_cons.mpr ⟨rfl, List.forall_mem_nil _⟩) (Nat.le_of_ble_eq_true rfl) (fun G e1 e2 e3 e4 e5 hr C => kX1_countLinks_0 C e2 (e4.trans ht) hr h0 hf)

abbrev rX1_forgetNeighbour : Room := { frames := 1, cells := 0, slots := 0, locals := 23 }
def fX1_forgetNeighbour (x0 : Nat) (x1 : Int32) (M : xwM) : Option (xwM) :=
  ixr 12 x1 fun n1 =>
  xlet (fil M (10 + 34 * x0 + 1 + n1) 12 (-1)) fun M4 =>
  ixr 12 x1 fun n5 =>
  xlet (fil M4 (23 + 34 * x0 + 1 + n5) 12 (-1)) fun M8 =>
  some M8
set_option maxHeartbeats 4000000 in
set_option maxRecDepth 100000 in
theorem kX1_forgetNeighbour_0 {G : xwG} {ad : Nat → Nat} {cs : xmC} (C : xw_C G cX1_forgetNeighbour 2 RX1 431 ad) (hR : xgR G = rX1_forgetNeighbour) (ht : xgt G = xm_tys cs) (hr : (xgM G).sig.returnType = none) {M' : xwM} {x0 : Nat} {x1 : Int32} (h0 : x0 < 12) {M : xwM} (hf : fX1_forgetNeighbour x0 x1 M = some M') : XV G (xw_qv G 431 ad (xm_ce ad cs M')) 2 0 0 ad cs M 0 [some (.ref (ad (2 + 34 * x0))), some (.int x1)] [] := by
  unfold fX1_forgetNeighbour at hf
  refine xw_aload_n C dX1_forgetNeighbour_0 0 rfl rfl ?_
  refine xv_getf C (by omega) (xs_R h0) rfl inB1 7 (by decide) hw_76 rfl dX1_forgetNeighbour_1 ?_
  refine xw_iload_n C dX1_forgetNeighbour_4 1 rfl rfl ?_
  obtain ⟨i_2, q_3, hf⟩ := ixr_s hf
  refine xv_aldT (j := 10) C ht (by decide) h0 i_2 dX1_forgetNeighbour_5 ?_
  refine xw_iconst (v := -1) C dX1_forgetNeighbour_6 (by decide) ?_
  refine xl_fill C ht (by omega) (fun _ => xs_T 10 (by decide) h0 q_3) (by decide) hw_59 (by rw [hR]; decide) (by rw [hR]; decide) (Nat.le_of_ble_eq_true rfl) dX1_forgetNeighbour_7 ?_
  have hf := xlet_s hf
  refine xw_aload_n C dX1_forgetNeighbour_10 0 rfl rfl ?_
  refine xv_getf C (by omega) (xs_R h0) rfl inB1 8 (by decide) hw_78 rfl dX1_forgetNeighbour_11 ?_
  refine xw_iload_n C dX1_forgetNeighbour_14 1 rfl rfl ?_
  obtain ⟨i_6, q_7, hf⟩ := ixr_s hf
  refine xv_aldT (j := 23) C ht (by decide) h0 i_6 dX1_forgetNeighbour_15 ?_
  refine xw_iconst (v := -1) C dX1_forgetNeighbour_16 (by decide) ?_
  refine xl_fill C ht (by omega) (fun _ => xs_T 23 (by decide) h0 q_7) (by decide) hw_59 (by rw [hR]; decide) (by rw [hR]; decide) (Nat.le_of_ble_eq_true rfl) dX1_forgetNeighbour_17 ?_
  have hf := xlet_s hf
  cases hf
  exact xw_retv C hr dX1_forgetNeighbour_20
theorem mX1_forgetNeighbour (l : Launch) {D : va_G} {tys : List (ClassId × FieldType)} {base : Nat} {ad : Nat → Nat} {cs : xmC} (hJ : xw_J 431 ad base) (ht : tys = xm_tys cs) {x0 : Nat} {x1 : Int32} (h0 : x0 < 12) {M M' : xwM} (hf : fX1_forgetNeighbour x0 x1 M = some M') : xk_v l yX1_forgetNeighbour cX1_forgetNeighbour 2 none rX1_forgetNeighbour D tys base 431 ad [.ref (ad (2 + 34 * x0)), .int x1] (xm_ce ad cs M) (xm_ce ad cs M') :=
  xk_ofv 0 (by decide) hJ (List.forall_mem_cons.mpr ⟨rfl, List.forall_mem_cons.mpr ⟨rfl, List.forall_mem_nil _⟩⟩) (Nat.le_of_ble_eq_true rfl) (fun G e1 e2 e3 e4 e5 hr C => kX1_forgetNeighbour_0 C e2 (e4.trans ht) hr h0 hf)

abbrev rX1_forgetBounds : Room := { frames := 1, cells := 0, slots := 0, locals := 23 }
def fX1_forgetBounds (x0 : Nat) (M : xwM) : Option (xwM) :=
  xlet (fil M (4 + 34 * x0) 12 (-1)) fun M1 =>
  xlet (fil M1 (5 + 34 * x0) 12 (-1)) fun M2 =>
  xlet (fil M2 (9 + 34 * x0) 12 (-1)) fun M3 =>
  some M3
set_option maxHeartbeats 4000000 in
set_option maxRecDepth 100000 in
theorem kX1_forgetBounds_0 {G : xwG} {ad : Nat → Nat} {cs : xmC} (C : xw_C G cX1_forgetBounds 1 RX1 431 ad) (hR : xgR G = rX1_forgetBounds) (ht : xgt G = xm_tys cs) (hr : (xgM G).sig.returnType = none) {M' : xwM} {x0 : Nat} (h0 : x0 < 12) {M : xwM} (hf : fX1_forgetBounds x0 M = some M') : XV G (xw_qv G 431 ad (xm_ce ad cs M')) 1 0 0 ad cs M 0 [some (.ref (ad (2 + 34 * x0)))] [] := by
  unfold fX1_forgetBounds at hf
  refine xw_aload_n C dX1_forgetBounds_0 0 rfl rfl ?_
  refine xv_getf C (by omega) (xs_R h0) rfl inB1 1 (by decide) hw_64 rfl dX1_forgetBounds_1 ?_
  refine xw_iconst (v := -1) C dX1_forgetBounds_4 (by decide) ?_
  refine xl_fill C ht (by omega) (fun _ => xs_A 4 (by decide) h0) (by decide) hw_59 (by rw [hR]; decide) (by rw [hR]; decide) (Nat.le_of_ble_eq_true rfl) dX1_forgetBounds_5 ?_
  have hf := xlet_s hf
  refine xw_aload_n C dX1_forgetBounds_8 0 rfl rfl ?_
  refine xv_getf C (by omega) (xs_R h0) rfl inB1 2 (by decide) hw_66 rfl dX1_forgetBounds_9 ?_
  refine xw_iconst (v := -1) C dX1_forgetBounds_12 (by decide) ?_
  refine xl_fill C ht (by omega) (fun _ => xs_A 5 (by decide) h0) (by decide) hw_59 (by rw [hR]; decide) (by rw [hR]; decide) (Nat.le_of_ble_eq_true rfl) dX1_forgetBounds_13 ?_
  have hf := xlet_s hf
  refine xw_aload_n C dX1_forgetBounds_16 0 rfl rfl ?_
  refine xv_getf C (by omega) (xs_R h0) rfl inB1 6 (by decide) hw_74 rfl dX1_forgetBounds_17 ?_
  refine xw_iconst (v := -1) C dX1_forgetBounds_20 (by decide) ?_
  refine xl_fill C ht (by omega) (fun _ => xs_A 9 (by decide) h0) (by decide) hw_59 (by rw [hR]; decide) (by rw [hR]; decide) (Nat.le_of_ble_eq_true rfl) dX1_forgetBounds_21 ?_
  have hf := xlet_s hf
  cases hf
  exact xw_retv C hr dX1_forgetBounds_24
theorem mX1_forgetBounds (l : Launch) {D : va_G} {tys : List (ClassId × FieldType)} {base : Nat} {ad : Nat → Nat} {cs : xmC} (hJ : xw_J 431 ad base) (ht : tys = xm_tys cs) {x0 : Nat} (h0 : x0 < 12) {M M' : xwM} (hf : fX1_forgetBounds x0 M = some M') : xk_v l yX1_forgetBounds cX1_forgetBounds 1 none rX1_forgetBounds D tys base 431 ad [.ref (ad (2 + 34 * x0))] (xm_ce ad cs M) (xm_ce ad cs M') :=
  xk_ofv 0 (by decide) hJ (List.forall_mem_cons.mpr ⟨rfl, List.forall_mem_nil _⟩) (Nat.le_of_ble_eq_true rfl) (fun G e1 e2 e3 e4 e5 hr C => kX1_forgetBounds_0 C e2 (e4.trans ht) hr h0 hf)

abbrev rX1_findBestNeighbour : Room := { frames := 2, cells := 0, slots := 0, locals := 45 }
def fX1_findBestNeighbour_106 (kf : Nat → Int32 → Int32 → Int32 → Int32 → xwM → Option (Int32 × xwM)) (x0 : Nat) (x1 : Int32) (x2 : Int32) (x3 : Int32) (x4 : Int32) (M : xwM) : Option (Int32 × xwM) :=
  kf x0 x1 x2 x3 ((x4 + 1)) M
set_option maxHeartbeats 4000000 in
set_option maxRecDepth 100000 in
theorem kX1_findBestNeighbour_106 {G : xwG} {ad : Nat → Nat} {cs : xmC} (C : xw_C G cX1_findBestNeighbour 8 RX1 431 ad) (hR : xgR G = rX1_findBestNeighbour) (ht : xgt G = xm_tys cs) (hr : (xgM G).sig.returnType = (some .int)) {M' : xwM} {o : Int32} {kf : Nat → Int32 → Int32 → Int32 → Int32 → xwM → Option (Int32 × xwM)} (hk : ∀ (yx0 : Nat) (yx1 : Int32) (yx2 : Int32) (yx3 : Int32) (yx4 : Int32) (M : xwM) (_ : yx0 < 12), kf yx0 yx1 yx2 yx3 yx4 M = some (o, M') → XV G (xw_qi G 431 ad (xm_ce ad cs M') o) 8 0 0 ad cs M 8 [some (.ref (ad (2 + 34 * yx0))), some (.int yx1), some (.int yx2), some (.int yx3), some (.int yx4), none, none, none] []) {x0 : Nat} {x1 : Int32} {x2 : Int32} {x3 : Int32} {x4 : Int32} (h0 : x0 < 12) {M : xwM} (hf : fX1_findBestNeighbour_106 kf x0 x1 x2 x3 x4 M = some (o, M')) : XV G (xw_qi G 431 ad (xm_ce ad cs M') o) 8 0 0 ad cs M 106 [some (.ref (ad (2 + 34 * x0))), some (.int x1), some (.int x2), some (.int x3), some (.int x4), none, none, none] [] := by
  unfold fX1_findBestNeighbour_106 at hf
  refine xw_iinc C dX1_findBestNeighbour_106 rfl (show _ + Int32.ofInt (1) = _ + (1) from congrArg _ (by decide)) (by decide) ?_
  refine xw_goto (tgt := 8) C dX1_findBestNeighbour_109 (by decide) ?_
  exact xl_sub (xl_c rfl (xl_c rfl (xl_c rfl (xl_c rfl (xl_c rfl (xl_n (xl_n (xl_n xl_e)))))))) (hk _ _ _ _ _ _ h0 hf)
def fX1_findBestNeighbour_100 (kf : Nat → Int32 → Int32 → Int32 → Int32 → xwM → Option (Int32 × xwM)) (x0 : Nat) (x1 : Int32) (x4 : Int32) (x7 : Int32) (M : xwM) : Option (Int32 × xwM) :=
  fX1_findBestNeighbour_106 kf x0 x1 x4 x7 x4 M
set_option maxHeartbeats 4000000 in
set_option maxRecDepth 100000 in
theorem kX1_findBestNeighbour_100 {G : xwG} {ad : Nat → Nat} {cs : xmC} (C : xw_C G cX1_findBestNeighbour 8 RX1 431 ad) (hR : xgR G = rX1_findBestNeighbour) (ht : xgt G = xm_tys cs) (hr : (xgM G).sig.returnType = (some .int)) {M' : xwM} {o : Int32} {kf : Nat → Int32 → Int32 → Int32 → Int32 → xwM → Option (Int32 × xwM)} (hk : ∀ (yx0 : Nat) (yx1 : Int32) (yx2 : Int32) (yx3 : Int32) (yx4 : Int32) (M : xwM) (_ : yx0 < 12), kf yx0 yx1 yx2 yx3 yx4 M = some (o, M') → XV G (xw_qi G 431 ad (xm_ce ad cs M') o) 8 0 0 ad cs M 8 [some (.ref (ad (2 + 34 * yx0))), some (.int yx1), some (.int yx2), some (.int yx3), some (.int yx4), none, none, none] []) {x0 : Nat} {x1 : Int32} {x4 : Int32} {x7 : Int32} (h0 : x0 < 12) {M : xwM} (hf : fX1_findBestNeighbour_100 kf x0 x1 x4 x7 M = some (o, M')) : XV G (xw_qi G 431 ad (xm_ce ad cs M') o) 8 0 0 ad cs M 100 [some (.ref (ad (2 + 34 * x0))), some (.int x1), none, none, some (.int x4), none, none, some (.int x7)] [] := by
  unfold fX1_findBestNeighbour_100 at hf
  refine xw_iload C dX1_findBestNeighbour_100 rfl ?_
  refine xw_istore_n C dX1_findBestNeighbour_102 2 rfl (by decide) ?_
  refine xw_iload C dX1_findBestNeighbour_103 rfl ?_
  refine xw_istore_n C dX1_findBestNeighbour_105 3 rfl (by decide) ?_
  exact xl_sub (xl_c rfl (xl_c rfl (xl_c rfl (xl_c rfl (xl_c rfl (xl_n (xl_n (xl_n xl_e)))))))) (kX1_findBestNeighbour_106 C hR ht hr hk h0 hf)
def fX1_findBestNeighbour_8 : Nat → Nat → Int32 → Int32 → Int32 → Int32 →  xwM → Option (Int32 × xwM)
  | 0, _, _, _, _, _, _ => none
  | fu + 1, x0, x1, x2, x3, x4, M =>
  if 12 ≤ x4 then
    (some (x2, M))
  else
    (ixr 12 x4 fun n2 =>
      ld M (10 + 34 * x0 + 1 + n2) 12 x1 fun v5 =>
      ixr 12 x4 fun n7 =>
      ld M (23 + 34 * x0 + 1 + n7) 12 x1 fun v10 =>
      ld M (3 + 34 * x0) 12 x4 fun v12 =>
      if v5 = (-1) then
        (fX1_findBestNeighbour_106 (fX1_findBestNeighbour_8 fu) x0 x1 x2 x3 x4 M)
      else
        (if 60000 < (v10 + v12) then
            (fX1_findBestNeighbour_106 (fX1_findBestNeighbour_8 fu) x0 x1 x2 x3 x4 M)
          else
            (bni (fX1_isGood x0 x1 v5 v10 M) fun v16 M17 =>
              if v16 = 0 then
                (fX1_findBestNeighbour_106 (fX1_findBestNeighbour_8 fu) x0 x1 x2 x3 x4 M17)
              else
                (if (v10 + v12) < x3 then
                    (fX1_findBestNeighbour_100 (fX1_findBestNeighbour_8 fu) x0 x1 x4 ((v10 + v12)) M17)
                  else
                    (if (v10 + v12) = x3 then
                        (ld M17 (6 + 34 * x0) 12 x1 fun v22 =>
                          if x4 = v22 then
                            (fX1_findBestNeighbour_100 (fX1_findBestNeighbour_8 fu) x0 x1 x4 ((v10 + v12)) M17)
                          else
                            (fX1_findBestNeighbour_106 (fX1_findBestNeighbour_8 fu) x0 x1 x2 x3 x4 M17))
                      else
                        (fX1_findBestNeighbour_106 (fX1_findBestNeighbour_8 fu) x0 x1 x2 x3 x4 M17))))))
set_option maxHeartbeats 4000000 in
set_option maxRecDepth 100000 in
theorem kX1_findBestNeighbour_8 {G : xwG} {ad : Nat → Nat} {cs : xmC} (C : xw_C G cX1_findBestNeighbour 8 RX1 431 ad) (hR : xgR G = rX1_findBestNeighbour) (ht : xgt G = xm_tys cs) (hr : (xgM G).sig.returnType = (some .int)) {M' : xwM} {o : Int32} : ∀ (fu : Nat) (x0 : Nat) (x1 : Int32) (x2 : Int32) (x3 : Int32) (x4 : Int32) (M : xwM) (h0 : x0 < 12), fX1_findBestNeighbour_8 fu x0 x1 x2 x3 x4 M = some (o, M') → XV G (xw_qi G 431 ad (xm_ce ad cs M') o) 8 0 0 ad cs M 8 [some (.ref (ad (2 + 34 * x0))), some (.int x1), some (.int x2), some (.int x3), some (.int x4), none, none, none] [] := by
  intro fu
  induction fu with
  | zero =>
    intro x0 x1 x2 x3 x4 M h0 hf
    cases hf
  | succ fu ih =>
    intro x0 x1 x2 x3 x4 M h0 hf
    rw [fX1_findBestNeighbour_8] at hf
    refine xw_iload C dX1_findBestNeighbour_8 rfl ?_
    refine xw_bipush (v := 12) C dX1_findBestNeighbour_10 (by decide) ?_
    refine xw_icmp_ge (tgt := 112) C dX1_findBestNeighbour_12 (by decide) (fun c_1 => ?_) (fun c_1 => ?_)
    · have hf := it_t hf c_1
      refine xw_iload_n C dX1_findBestNeighbour_112 2 rfl rfl ?_
      cases hf
      exact xw_reti C hr dX1_findBestNeighbour_113
    · have hf := it_f hf c_1
      refine xw_aload_n C dX1_findBestNeighbour_15 0 rfl rfl ?_
      refine xv_getf C (by omega) (xs_R h0) rfl inB1 7 (by decide) hw_76 rfl dX1_findBestNeighbour_16 ?_
      refine xw_iload C dX1_findBestNeighbour_19 rfl ?_
      obtain ⟨i_3, q_4, hf⟩ := ixr_s hf
      refine xv_aldT (j := 10) C ht (by decide) h0 i_3 dX1_findBestNeighbour_21 ?_
      refine xw_iload_n C dX1_findBestNeighbour_22 1 rfl rfl ?_
      obtain ⟨i_6, hf⟩ := ld_s hf
      refine xv_iald C ht (by omega) ((fun _ => xs_T 10 (by decide) h0 q_4) _) i_6 dX1_findBestNeighbour_23 ?_
      refine xw_istore C dX1_findBestNeighbour_24 (by decide) ?_
      refine xw_aload_n C dX1_findBestNeighbour_26 0 rfl rfl ?_
      refine xv_getf C (by omega) (xs_R h0) rfl inB1 8 (by decide) hw_78 rfl dX1_findBestNeighbour_27 ?_
      refine xw_iload C dX1_findBestNeighbour_30 rfl ?_
      obtain ⟨i_8, q_9, hf⟩ := ixr_s hf
      refine xv_aldT (j := 23) C ht (by decide) h0 i_8 dX1_findBestNeighbour_32 ?_
      refine xw_iload_n C dX1_findBestNeighbour_33 1 rfl rfl ?_
      obtain ⟨i_11, hf⟩ := ld_s hf
      refine xv_iald C ht (by omega) ((fun _ => xs_T 23 (by decide) h0 q_9) _) i_11 dX1_findBestNeighbour_34 ?_
      refine xw_istore C dX1_findBestNeighbour_35 (by decide) ?_
      refine xw_iload C dX1_findBestNeighbour_37 rfl ?_
      refine xw_aload_n C dX1_findBestNeighbour_39 0 rfl rfl ?_
      refine xv_getf C (by omega) (xs_R h0) rfl inB1 0 (by decide) hw_62 rfl dX1_findBestNeighbour_40 ?_
      refine xw_iload C dX1_findBestNeighbour_43 rfl ?_
      obtain ⟨i_13, hf⟩ := ld_s hf
      refine xv_iald C ht (by omega) ((fun _ => xs_A 3 (by decide) h0) _) i_13 dX1_findBestNeighbour_45 ?_
      refine xw_iadd C dX1_findBestNeighbour_46 ?_
      refine xw_istore C dX1_findBestNeighbour_47 (by decide) ?_
      refine xw_iload C dX1_findBestNeighbour_49 rfl ?_
      refine xw_iconst (v := -1) C dX1_findBestNeighbour_51 (by decide) ?_
      refine xw_icmp_eq (tgt := 106) C dX1_findBestNeighbour_52 (by decide) (fun c_14 => ?_) (fun c_14 => ?_)
      · have hf := it_t hf c_14
        exact xl_sub (xl_c rfl (xl_c rfl (xl_c rfl (xl_c rfl (xl_c rfl (xl_n (xl_n (xl_n xl_e)))))))) (kX1_findBestNeighbour_106 C hR ht hr ih h0 hf)
      · have hf := it_f hf c_14
        refine xw_iload C dX1_findBestNeighbour_55 rfl ?_
        refine xw_ldc C hw_285 dX1_findBestNeighbour_57 ?_
        refine xw_icmp_gt (tgt := 106) C dX1_findBestNeighbour_59 (by decide) (fun c_15 => ?_) (fun c_15 => ?_)
        · have hf := it_t hf c_15
          exact xl_sub (xl_c rfl (xl_c rfl (xl_c rfl (xl_c rfl (xl_c rfl (xl_n (xl_n (xl_n xl_e)))))))) (kX1_findBestNeighbour_106 C hR ht hr ih h0 hf)
        · have hf := it_f hf c_15
          refine xw_aload_n C dX1_findBestNeighbour_62 0 rfl rfl ?_
          refine xw_iload_n C dX1_findBestNeighbour_63 1 rfl rfl ?_
          refine xw_iload C dX1_findBestNeighbour_64 rfl ?_
          refine xw_iload C dX1_findBestNeighbour_66 rfl ?_
          obtain ⟨r_v16, M_M17, g_18, hf⟩ := bni_s hf
          refine xc_Vi C (mX1_isGood (xgl G) C.2.2.2.2.2.2.2.2.1 ht h0 g_18) FX1_isGood hw_286 (by omega) (xs_R h0) rfl (by rw [hR]; decide) (by rw [hR]; decide) rfl (Nat.le_of_ble_eq_true rfl) dX1_findBestNeighbour_68 rfl ?_
          refine xw_if_ne (tgt := 77) C dX1_findBestNeighbour_71 (by decide) (fun c_19 => ?_) (fun c_19 => ?_)
          · have hf := it_f hf c_19
            refine xw_iload C dX1_findBestNeighbour_77 rfl ?_
            refine xw_iload_n C dX1_findBestNeighbour_79 3 rfl rfl ?_
            refine xw_icmp_lt (tgt := 100) C dX1_findBestNeighbour_80 (by decide) (fun c_20 => ?_) (fun c_20 => ?_)
            · have hf := it_t hf c_20
              exact xl_sub (xl_c rfl (xl_c rfl (xl_n (xl_n (xl_c rfl (xl_n (xl_n (xl_c rfl xl_e)))))))) (kX1_findBestNeighbour_100 C hR ht hr ih h0 hf)
            · have hf := it_f hf c_20
              refine xw_iload C dX1_findBestNeighbour_83 rfl ?_
              refine xw_iload_n C dX1_findBestNeighbour_85 3 rfl rfl ?_
              refine xw_icmp_ne (tgt := 106) C dX1_findBestNeighbour_86 (by decide) (fun c_21 => ?_) (fun c_21 => ?_)
              · have hf := it_f hf c_21
                exact xl_sub (xl_c rfl (xl_c rfl (xl_c rfl (xl_c rfl (xl_c rfl (xl_n (xl_n (xl_n xl_e)))))))) (kX1_findBestNeighbour_106 C hR ht hr ih h0 hf)
              · have hf := it_t hf c_21
                refine xw_iload C dX1_findBestNeighbour_89 rfl ?_
                refine xw_aload_n C dX1_findBestNeighbour_91 0 rfl rfl ?_
                refine xv_getf C (by omega) (xs_R h0) rfl inB1 3 (by decide) hw_68 rfl dX1_findBestNeighbour_92 ?_
                refine xw_iload_n C dX1_findBestNeighbour_95 1 rfl rfl ?_
                obtain ⟨i_23, hf⟩ := ld_s hf
                refine xv_iald C ht (by omega) ((fun _ => xs_A 6 (by decide) h0) _) i_23 dX1_findBestNeighbour_96 ?_
                refine xw_icmp_ne (tgt := 106) C dX1_findBestNeighbour_97 (by decide) (fun c_24 => ?_) (fun c_24 => ?_)
                · have hf := it_f hf c_24
                  exact xl_sub (xl_c rfl (xl_c rfl (xl_c rfl (xl_c rfl (xl_c rfl (xl_n (xl_n (xl_n xl_e)))))))) (kX1_findBestNeighbour_106 C hR ht hr ih h0 hf)
                · have hf := it_t hf c_24
                  exact xl_sub (xl_c rfl (xl_c rfl (xl_n (xl_n (xl_c rfl (xl_n (xl_n (xl_c rfl xl_e)))))))) (kX1_findBestNeighbour_100 C hR ht hr ih h0 hf)
          · have hf := it_t hf c_19
            refine xw_goto (tgt := 106) C dX1_findBestNeighbour_74 (by decide) ?_
            exact xl_sub (xl_c rfl (xl_c rfl (xl_c rfl (xl_c rfl (xl_c rfl (xl_n (xl_n (xl_n xl_e)))))))) (kX1_findBestNeighbour_106 C hR ht hr ih h0 hf)
def fX1_findBestNeighbour (x0 : Nat) (x1 : Int32) (M : xwM) : Option (Int32 × xwM) :=
  fX1_findBestNeighbour_8 2001 x0 x1 (-1) 65535 0 M
set_option maxHeartbeats 4000000 in
set_option maxRecDepth 100000 in
theorem kX1_findBestNeighbour_0 {G : xwG} {ad : Nat → Nat} {cs : xmC} (C : xw_C G cX1_findBestNeighbour 8 RX1 431 ad) (hR : xgR G = rX1_findBestNeighbour) (ht : xgt G = xm_tys cs) (hr : (xgM G).sig.returnType = (some .int)) {M' : xwM} {o : Int32} {x0 : Nat} {x1 : Int32} (h0 : x0 < 12) {M : xwM} (hf : fX1_findBestNeighbour x0 x1 M = some (o, M')) : XV G (xw_qi G 431 ad (xm_ce ad cs M') o) 8 0 0 ad cs M 0 [some (.ref (ad (2 + 34 * x0))), some (.int x1), none, none, none, none, none, none] [] := by
  unfold fX1_findBestNeighbour at hf
  refine xw_iconst (v := -1) C dX1_findBestNeighbour_0 (by decide) ?_
  refine xw_istore_n C dX1_findBestNeighbour_1 2 rfl (by decide) ?_
  refine xw_ldc C hw_261 dX1_findBestNeighbour_2 ?_
  refine xw_istore_n C dX1_findBestNeighbour_4 3 rfl (by decide) ?_
  refine xw_iconst (v := 0) C dX1_findBestNeighbour_5 (by decide) ?_
  refine xw_istore C dX1_findBestNeighbour_6 (by decide) ?_
  exact xl_sub (xl_c rfl (xl_c rfl (xl_c rfl (xl_c rfl (xl_c rfl (xl_n (xl_n (xl_n xl_e)))))))) (kX1_findBestNeighbour_8 C hR ht hr 2001 _ _ _ _ _ _ h0 hf)
theorem mX1_findBestNeighbour (l : Launch) {D : va_G} {tys : List (ClassId × FieldType)} {base : Nat} {ad : Nat → Nat} {cs : xmC} (hJ : xw_J 431 ad base) (ht : tys = xm_tys cs) {x0 : Nat} {x1 : Int32} (h0 : x0 < 12) {M M' : xwM} {o : Int32} (hf : fX1_findBestNeighbour x0 x1 M = some (o, M')) : xk_i l yX1_findBestNeighbour cX1_findBestNeighbour 8 (some .int) rX1_findBestNeighbour D tys base 431 ad [.ref (ad (2 + 34 * x0)), .int x1] (xm_ce ad cs M) (xm_ce ad cs M') o :=
  xk_ofi 6 (by decide) hJ (List.forall_mem_cons.mpr ⟨rfl, List.forall_mem_cons.mpr ⟨rfl, List.forall_mem_nil _⟩⟩) (Nat.le_of_ble_eq_true rfl) (fun G e1 e2 e3 e4 e5 hr C => kX1_findBestNeighbour_0 C e2 (e4.trans ht) hr h0 hf)

abbrev rX1_takeBestWay : Room := { frames := 3, cells := 0, slots := 0, locals := 72 }
def fX1_takeBestWay_86 (x0 : Nat) (x1 : Int32) (x2 : Int32) (x3 : Int32) (x4 : Int32) (s0 : Int32) (M : xwM) : Option (Int32 × xwM) :=
  sto M (6 + 34 * x0) 12 x1 x2 fun M27 =>
  sto M27 (7 + 34 * x0) 12 x1 x3 fun M29 =>
  sto M29 (8 + 34 * x0) 12 x1 x4 fun M31 =>
  if s0 = 0 ∨ s0 = 1 then some (s0, M31) else none
set_option maxHeartbeats 4000000 in
set_option maxRecDepth 100000 in
theorem kX1_takeBestWay_86 {G : xwG} {ad : Nat → Nat} {cs : xmC} (C : xw_C G cX1_takeBestWay 6 RX1 431 ad) (hR : xgR G = rX1_takeBestWay) (ht : xgt G = xm_tys cs) (hr : (xgM G).sig.returnType = (some .boolean)) {M' : xwM} {o : Int32} {x0 : Nat} {x1 : Int32} {x2 : Int32} {x3 : Int32} {x4 : Int32} {s0 : Int32} (h0 : x0 < 12) {M : xwM} (hf : fX1_takeBestWay_86 x0 x1 x2 x3 x4 s0 M = some (o, M')) : XV G (xw_qi G 431 ad (xm_ce ad cs M') o) 6 0 0 ad cs M 86 [some (.ref (ad (2 + 34 * x0))), some (.int x1), some (.int x2), some (.int x3), some (.int x4), none] [.int s0] := by
  unfold fX1_takeBestWay_86 at hf
  refine xw_istore C dX1_takeBestWay_86 (by decide) ?_
  refine xw_aload_n C dX1_takeBestWay_88 0 rfl rfl ?_
  refine xv_getf C (by omega) (xs_R h0) rfl inB1 3 (by decide) hw_68 rfl dX1_takeBestWay_89 ?_
  refine xw_iload_n C dX1_takeBestWay_92 1 rfl rfl ?_
  refine xw_iload_n C dX1_takeBestWay_93 2 rfl rfl ?_
  obtain ⟨i_28, hf⟩ := sto_s hf
  refine xv_iast C ht (by omega) (fun _ => xs_A 6 (by decide) h0) i_28 dX1_takeBestWay_94 ?_
  refine xw_aload_n C dX1_takeBestWay_95 0 rfl rfl ?_
  refine xv_getf C (by omega) (xs_R h0) rfl inB1 4 (by decide) hw_70 rfl dX1_takeBestWay_96 ?_
  refine xw_iload_n C dX1_takeBestWay_99 1 rfl rfl ?_
  refine xw_iload_n C dX1_takeBestWay_100 3 rfl rfl ?_
  obtain ⟨i_30, hf⟩ := sto_s hf
  refine xv_iast C ht (by omega) (fun _ => xs_A 7 (by decide) h0) i_30 dX1_takeBestWay_101 ?_
  refine xw_aload_n C dX1_takeBestWay_102 0 rfl rfl ?_
  refine xv_getf C (by omega) (xs_R h0) rfl inB1 5 (by decide) hw_72 rfl dX1_takeBestWay_103 ?_
  refine xw_iload_n C dX1_takeBestWay_106 1 rfl rfl ?_
  refine xw_iload C dX1_takeBestWay_107 rfl ?_
  obtain ⟨i_32, hf⟩ := sto_s hf
  refine xv_iast C ht (by omega) (fun _ => xs_A 8 (by decide) h0) i_32 dX1_takeBestWay_109 ?_
  refine xw_iload C dX1_takeBestWay_110 rfl ?_
  obtain ⟨hz, hf⟩ := xl_z hf
  cases hf
  exact xw_retz C hr hz dX1_takeBestWay_112
def fX1_takeBestWay_81 (x0 : Nat) (x1 : Int32) (x2 : Int32) (x3 : Int32) (x4 : Int32) (M : xwM) : Option (Int32 × xwM) :=
  fX1_takeBestWay_86 x0 x1 x2 x3 x4 1 M
set_option maxHeartbeats 4000000 in
set_option maxRecDepth 100000 in
theorem kX1_takeBestWay_81 {G : xwG} {ad : Nat → Nat} {cs : xmC} (C : xw_C G cX1_takeBestWay 6 RX1 431 ad) (hR : xgR G = rX1_takeBestWay) (ht : xgt G = xm_tys cs) (hr : (xgM G).sig.returnType = (some .boolean)) {M' : xwM} {o : Int32} {x0 : Nat} {x1 : Int32} {x2 : Int32} {x3 : Int32} {x4 : Int32} (h0 : x0 < 12) {M : xwM} (hf : fX1_takeBestWay_81 x0 x1 x2 x3 x4 M = some (o, M')) : XV G (xw_qi G 431 ad (xm_ce ad cs M') o) 6 0 0 ad cs M 81 [some (.ref (ad (2 + 34 * x0))), some (.int x1), some (.int x2), some (.int x3), some (.int x4), none] [] := by
  unfold fX1_takeBestWay_81 at hf
  refine xw_iconst (v := 1) C dX1_takeBestWay_81 (by decide) ?_
  refine xw_goto (tgt := 86) C dX1_takeBestWay_82 (by decide) ?_
  exact xl_sub (xl_c rfl (xl_c rfl (xl_c rfl (xl_c rfl (xl_c rfl (xl_n xl_e)))))) (kX1_takeBestWay_86 C hR ht hr h0 hf)
def fX1_takeBestWay_48 (x0 : Nat) (x1 : Int32) (x2 : Int32) (x3 : Int32) (s0 : Int32) (M : xwM) : Option (Int32 × xwM) :=
  ld M (6 + 34 * x0) 12 x1 fun v18 =>
  if x2 = v18 then
    (ld M (7 + 34 * x0) 12 x1 fun v21 =>
      if x3 = v21 then
        (ld M (8 + 34 * x0) 12 x1 fun v24 =>
          if s0 = v24 then
            (fX1_takeBestWay_86 x0 x1 x2 x3 s0 0 M)
          else
            (fX1_takeBestWay_81 x0 x1 x2 x3 s0 M))
      else
        (fX1_takeBestWay_81 x0 x1 x2 x3 s0 M))
  else
    (fX1_takeBestWay_81 x0 x1 x2 x3 s0 M)
set_option maxHeartbeats 4000000 in
set_option maxRecDepth 100000 in
theorem kX1_takeBestWay_48 {G : xwG} {ad : Nat → Nat} {cs : xmC} (C : xw_C G cX1_takeBestWay 6 RX1 431 ad) (hR : xgR G = rX1_takeBestWay) (ht : xgt G = xm_tys cs) (hr : (xgM G).sig.returnType = (some .boolean)) {M' : xwM} {o : Int32} {x0 : Nat} {x1 : Int32} {x2 : Int32} {x3 : Int32} {s0 : Int32} (h0 : x0 < 12) {M : xwM} (hf : fX1_takeBestWay_48 x0 x1 x2 x3 s0 M = some (o, M')) : XV G (xw_qi G 431 ad (xm_ce ad cs M') o) 6 0 0 ad cs M 48 [some (.ref (ad (2 + 34 * x0))), some (.int x1), some (.int x2), some (.int x3), none, none] [.int s0] := by
  unfold fX1_takeBestWay_48 at hf
  refine xw_istore C dX1_takeBestWay_48 (by decide) ?_
  refine xw_iload_n C dX1_takeBestWay_50 2 rfl rfl ?_
  refine xw_aload_n C dX1_takeBestWay_51 0 rfl rfl ?_
  refine xv_getf C (by omega) (xs_R h0) rfl inB1 3 (by decide) hw_68 rfl dX1_takeBestWay_52 ?_
  refine xw_iload_n C dX1_takeBestWay_55 1 rfl rfl ?_
  obtain ⟨i_19, hf⟩ := ld_s hf
  refine xv_iald C ht (by omega) ((fun _ => xs_A 6 (by decide) h0) _) i_19 dX1_takeBestWay_56 ?_
  refine xw_icmp_ne (tgt := 81) C dX1_takeBestWay_57 (by decide) (fun c_20 => ?_) (fun c_20 => ?_)
  · have hf := it_f hf c_20
    exact xl_sub (xl_c rfl (xl_c rfl (xl_c rfl (xl_c rfl (xl_c rfl (xl_n xl_e)))))) (kX1_takeBestWay_81 C hR ht hr h0 hf)
  · have hf := it_t hf c_20
    refine xw_iload_n C dX1_takeBestWay_60 3 rfl rfl ?_
    refine xw_aload_n C dX1_takeBestWay_61 0 rfl rfl ?_
    refine xv_getf C (by omega) (xs_R h0) rfl inB1 4 (by decide) hw_70 rfl dX1_takeBestWay_62 ?_
    refine xw_iload_n C dX1_takeBestWay_65 1 rfl rfl ?_
    obtain ⟨i_22, hf⟩ := ld_s hf
    refine xv_iald C ht (by omega) ((fun _ => xs_A 7 (by decide) h0) _) i_22 dX1_takeBestWay_66 ?_
    refine xw_icmp_ne (tgt := 81) C dX1_takeBestWay_67 (by decide) (fun c_23 => ?_) (fun c_23 => ?_)
    · have hf := it_f hf c_23
      exact xl_sub (xl_c rfl (xl_c rfl (xl_c rfl (xl_c rfl (xl_c rfl (xl_n xl_e)))))) (kX1_takeBestWay_81 C hR ht hr h0 hf)
    · have hf := it_t hf c_23
      refine xw_iload C dX1_takeBestWay_70 rfl ?_
      refine xw_aload_n C dX1_takeBestWay_72 0 rfl rfl ?_
      refine xv_getf C (by omega) (xs_R h0) rfl inB1 5 (by decide) hw_72 rfl dX1_takeBestWay_73 ?_
      refine xw_iload_n C dX1_takeBestWay_76 1 rfl rfl ?_
      obtain ⟨i_25, hf⟩ := ld_s hf
      refine xv_iald C ht (by omega) ((fun _ => xs_A 8 (by decide) h0) _) i_25 dX1_takeBestWay_77 ?_
      refine xw_icmp_eq (tgt := 85) C dX1_takeBestWay_78 (by decide) (fun c_26 => ?_) (fun c_26 => ?_)
      · have hf := it_t hf c_26
        refine xw_iconst (v := 0) C dX1_takeBestWay_85 (by decide) ?_
        exact xl_sub (xl_c rfl (xl_c rfl (xl_c rfl (xl_c rfl (xl_c rfl (xl_n xl_e)))))) (kX1_takeBestWay_86 C hR ht hr h0 hf)
      · have hf := it_f hf c_26
        exact xl_sub (xl_c rfl (xl_c rfl (xl_c rfl (xl_c rfl (xl_c rfl (xl_n xl_e)))))) (kX1_takeBestWay_81 C hR ht hr h0 hf)
def fX1_takeBestWay_23 (x0 : Nat) (x1 : Int32) (x2 : Int32) (s0 : Int32) (M : xwM) : Option (Int32 × xwM) :=
  if x2 = (-1) then
    (fX1_takeBestWay_48 x0 x1 x2 s0 (-1) M)
  else
    (ixr 12 x2 fun n11 =>
      ld M (23 + 34 * x0 + 1 + n11) 12 x1 fun v14 =>
      ld M (3 + 34 * x0) 12 x2 fun v16 =>
      fX1_takeBestWay_48 x0 x1 x2 s0 ((v14 + v16)) M)
set_option maxHeartbeats 4000000 in
set_option maxRecDepth 100000 in
theorem kX1_takeBestWay_23 {G : xwG} {ad : Nat → Nat} {cs : xmC} (C : xw_C G cX1_takeBestWay 6 RX1 431 ad) (hR : xgR G = rX1_takeBestWay) (ht : xgt G = xm_tys cs) (hr : (xgM G).sig.returnType = (some .boolean)) {M' : xwM} {o : Int32} {x0 : Nat} {x1 : Int32} {x2 : Int32} {s0 : Int32} (h0 : x0 < 12) {M : xwM} (hf : fX1_takeBestWay_23 x0 x1 x2 s0 M = some (o, M')) : XV G (xw_qi G 431 ad (xm_ce ad cs M') o) 6 0 0 ad cs M 23 [some (.ref (ad (2 + 34 * x0))), some (.int x1), some (.int x2), none, none, none] [.int s0] := by
  unfold fX1_takeBestWay_23 at hf
  refine xw_istore_n C dX1_takeBestWay_23 3 rfl (by decide) ?_
  refine xw_iload_n C dX1_takeBestWay_24 2 rfl rfl ?_
  refine xw_iconst (v := -1) C dX1_takeBestWay_25 (by decide) ?_
  refine xw_icmp_ne (tgt := 33) C dX1_takeBestWay_26 (by decide) (fun c_10 => ?_) (fun c_10 => ?_)
  · have hf := it_f hf c_10
    refine xw_aload_n C dX1_takeBestWay_33 0 rfl rfl ?_
    refine xv_getf C (by omega) (xs_R h0) rfl inB1 8 (by decide) hw_78 rfl dX1_takeBestWay_34 ?_
    refine xw_iload_n C dX1_takeBestWay_37 2 rfl rfl ?_
    obtain ⟨i_12, q_13, hf⟩ := ixr_s hf
    refine xv_aldT (j := 23) C ht (by decide) h0 i_12 dX1_takeBestWay_38 ?_
    refine xw_iload_n C dX1_takeBestWay_39 1 rfl rfl ?_
    obtain ⟨i_15, hf⟩ := ld_s hf
    refine xv_iald C ht (by omega) ((fun _ => xs_T 23 (by decide) h0 q_13) _) i_15 dX1_takeBestWay_40 ?_
    refine xw_aload_n C dX1_takeBestWay_41 0 rfl rfl ?_
    refine xv_getf C (by omega) (xs_R h0) rfl inB1 0 (by decide) hw_62 rfl dX1_takeBestWay_42 ?_
    refine xw_iload_n C dX1_takeBestWay_45 2 rfl rfl ?_
    obtain ⟨i_17, hf⟩ := ld_s hf
    refine xv_iald C ht (by omega) ((fun _ => xs_A 3 (by decide) h0) _) i_17 dX1_takeBestWay_46 ?_
    refine xw_iadd C dX1_takeBestWay_47 ?_
    exact xl_sub (xl_c rfl (xl_c rfl (xl_c rfl (xl_c rfl (xl_n (xl_n xl_e)))))) (kX1_takeBestWay_48 C hR ht hr h0 hf)
  · have hf := it_t hf c_10
    refine xw_iconst (v := -1) C dX1_takeBestWay_29 (by decide) ?_
    refine xw_goto (tgt := 48) C dX1_takeBestWay_30 (by decide) ?_
    exact xl_sub (xl_c rfl (xl_c rfl (xl_c rfl (xl_c rfl (xl_n (xl_n xl_e)))))) (kX1_takeBestWay_48 C hR ht hr h0 hf)
def fX1_takeBestWay (x0 : Nat) (x1 : Int32) (M : xwM) : Option (Int32 × xwM) :=
  bni (fX1_findBestNeighbour x0 x1 M) fun v1 M2 =>
  if v1 = (-1) then
    (fX1_takeBestWay_23 x0 x1 v1 (-1) M2)
  else
    (ixr 12 v1 fun n5 =>
      ld M2 (10 + 34 * x0 + 1 + n5) 12 x1 fun v8 =>
      fX1_takeBestWay_23 x0 x1 v1 v8 M2)
set_option maxHeartbeats 4000000 in
set_option maxRecDepth 100000 in
theorem kX1_takeBestWay_0 {G : xwG} {ad : Nat → Nat} {cs : xmC} (C : xw_C G cX1_takeBestWay 6 RX1 431 ad) (hR : xgR G = rX1_takeBestWay) (ht : xgt G = xm_tys cs) (hr : (xgM G).sig.returnType = (some .boolean)) {M' : xwM} {o : Int32} {x0 : Nat} {x1 : Int32} (h0 : x0 < 12) {M : xwM} (hf : fX1_takeBestWay x0 x1 M = some (o, M')) : XV G (xw_qi G 431 ad (xm_ce ad cs M') o) 6 0 0 ad cs M 0 [some (.ref (ad (2 + 34 * x0))), some (.int x1), none, none, none, none] [] := by
  unfold fX1_takeBestWay at hf
  refine xw_aload_n C dX1_takeBestWay_0 0 rfl rfl ?_
  refine xw_iload_n C dX1_takeBestWay_1 1 rfl rfl ?_
  obtain ⟨r_v1, M_M2, g_3, hf⟩ := bni_s hf
  refine xc_Vi C (mX1_findBestNeighbour (xgl G) C.2.2.2.2.2.2.2.2.1 ht h0 g_3) FX1_findBestNeighbour hw_281 (by omega) (xs_R h0) rfl (by rw [hR]; decide) (by rw [hR]; decide) rfl (Nat.le_of_ble_eq_true rfl) dX1_takeBestWay_2 rfl ?_
  refine xw_istore_n C dX1_takeBestWay_5 2 rfl (by decide) ?_
  refine xw_iload_n C dX1_takeBestWay_6 2 rfl rfl ?_
  refine xw_iconst (v := -1) C dX1_takeBestWay_7 (by decide) ?_
  refine xw_icmp_ne (tgt := 15) C dX1_takeBestWay_8 (by decide) (fun c_4 => ?_) (fun c_4 => ?_)
  · have hf := it_f hf c_4
    refine xw_aload_n C dX1_takeBestWay_15 0 rfl rfl ?_
    refine xv_getf C (by omega) (xs_R h0) rfl inB1 7 (by decide) hw_76 rfl dX1_takeBestWay_16 ?_
    refine xw_iload_n C dX1_takeBestWay_19 2 rfl rfl ?_
    obtain ⟨i_6, q_7, hf⟩ := ixr_s hf
    refine xv_aldT (j := 10) C ht (by decide) h0 i_6 dX1_takeBestWay_20 ?_
    refine xw_iload_n C dX1_takeBestWay_21 1 rfl rfl ?_
    obtain ⟨i_9, hf⟩ := ld_s hf
    refine xv_iald C ht (by omega) ((fun _ => xs_T 10 (by decide) h0 q_7) _) i_9 dX1_takeBestWay_22 ?_
    exact xl_sub (xl_c rfl (xl_c rfl (xl_c rfl (xl_n (xl_n (xl_n xl_e)))))) (kX1_takeBestWay_23 C hR ht hr h0 hf)
  · have hf := it_t hf c_4
    refine xw_iconst (v := -1) C dX1_takeBestWay_11 (by decide) ?_
    refine xw_goto (tgt := 23) C dX1_takeBestWay_12 (by decide) ?_
    exact xl_sub (xl_c rfl (xl_c rfl (xl_c rfl (xl_n (xl_n (xl_n xl_e)))))) (kX1_takeBestWay_23 C hR ht hr h0 hf)
theorem mX1_takeBestWay (l : Launch) {D : va_G} {tys : List (ClassId × FieldType)} {base : Nat} {ad : Nat → Nat} {cs : xmC} (hJ : xw_J 431 ad base) (ht : tys = xm_tys cs) {x0 : Nat} {x1 : Int32} (h0 : x0 < 12) {M M' : xwM} {o : Int32} (hf : fX1_takeBestWay x0 x1 M = some (o, M')) : xk_i l yX1_takeBestWay cX1_takeBestWay 6 (some .boolean) rX1_takeBestWay D tys base 431 ad [.ref (ad (2 + 34 * x0)), .int x1] (xm_ce ad cs M) (xm_ce ad cs M') o :=
  xk_ofi 4 (by decide) hJ (List.forall_mem_cons.mpr ⟨rfl, List.forall_mem_cons.mpr ⟨rfl, List.forall_mem_nil _⟩⟩) (Nat.le_of_ble_eq_true rfl) (fun G e1 e2 e3 e4 e5 hr C => kX1_takeBestWay_0 C e2 (e4.trans ht) hr h0 hf)
end
