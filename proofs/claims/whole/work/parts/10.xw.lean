/-! ===== the world by codes: cell k lies at ad k and holds ce k ===== -/
abbrev xwM : Type := Nat → Nat → Int32
def xw_wd (N : Nat) (ad : Nat → Nat) (ce : Nat → va_E) : va_W := (List.range N).map (fun k => (ad k, ce k))
theorem xw_at {N : Nat} {ad : Nat → Nat} {ce : Nat → va_E} {k : Nat} (h : k < N) : (xw_wd N ad ce)[k]? = some (ad k, ce k) := by
  simp [xw_wd, h]
theorem xw_len {N : Nat} {ad : Nat → Nat} {ce : Nat → va_E} : (xw_wd N ad ce).length = N := by simp [xw_wd]
theorem xw_of {N : Nat} {ad : Nat → Nat} {ce : Nat → va_E} {k : Nat} {q : Nat × va_E} (h : (xw_wd N ad ce)[k]? = some q) : k < N ∧ q = (ad k, ce k) := by
  have hl : k < (xw_wd N ad ce).length := (List.getElem?_eq_some_iff.mp h).1
  rw [xw_len] at hl
  rw [xw_at hl] at h
  exact ⟨hl, (Option.some.inj h).symm⟩
theorem xw_set {N : Nat} {ad : Nat → Nat} {ce : Nat → va_E} {k : Nat} {e : va_E} : (xw_wd N ad ce).set k (ad k, e) = xw_wd N ad (va_up ce k e) := by
  apply List.ext_getElem?
  intro i
  rw [List.getElem?_set]
  by_cases hk : k = i
  · subst hk
    by_cases hN : k < N
    · rw [if_pos rfl, if_pos (by rw [xw_len]; exact hN), xw_at hN, va_up_self]
    · rw [if_pos rfl, if_neg (by rw [xw_len]; exact hN), List.getElem?_eq_none (by rw [xw_len]; omega)]
  · rw [if_neg hk]
    by_cases hN : i < N
    · rw [xw_at hN, xw_at hN, va_up_ne _ _ (fun h => hk h.symm)]
    · rw [List.getElem?_eq_none (by rw [xw_len]; omega), List.getElem?_eq_none (by rw [xw_len]; omega)]
def xw_J (N : Nat) (ad : Nat → Nat) (base : Nat) : Prop := (∀ i j : Nat, i < N → j < N → ad i = ad j → i = j) ∧ ∀ k : Nat, k < N → base ≤ ad k
theorem xw_D {N : Nat} {ad : Nat → Nat} {base : Nat} (hJ : xw_J N ad base) (ce : Nat → va_E) : va_D (fun q => base ≤ q) (xw_wd N ad ce) :=
  ⟨fun i j p q hi hj h => by
    obtain ⟨h1, rfl⟩ := xw_of hi
    obtain ⟨h2, rfl⟩ := xw_of hj
    exact hJ.1 i j h1 h2 h, fun k q hk => by
    obtain ⟨h1, rfl⟩ := xw_of hk
    exact hJ.2 k h1⟩
/-! the locals -/
def xw_L (ls : Array Slot) (nL : Nat) (lv : List (Option Value)) : Prop := ls.size = nL ∧ lv_wf ls ∧ ∀ (i : Nat) (v : Value), lv[i]? = some (some v) → ls[i]? = some (.val v) ∧ v.category = 1
theorem xw_store {ls : Array Slot} {nL : Nat} {lv : List (Option Value)} {i : Nat} {v : Value} (h : xw_L ls nL lv) (hi : i < nL) (hc : v.category = 1) : ∃ ls', storeLocals ls i v = some ls' ∧ xw_L ls' nL (lv.set i (some v)) := by
  obtain ⟨ls', e1, h1⟩ := lv_store1 (l := []) (i := i) (v := v) ⟨h.1, h.2.1, fun q hq => by cases hq⟩ hi hc
  refine ⟨ls', e1, h1.1, h1.2.1, fun j w hj => ?_⟩
  rw [List.getElem?_set] at hj
  by_cases hji : i = j
  · subst hji
    rw [if_pos rfl] at hj
    by_cases hl : i < lv.length
    · rw [if_pos hl] at hj
      cases hj
      exact ⟨h1.2.2 (i, v) List.mem_cons_self, hc⟩
    · rw [if_neg hl] at hj
      cases hj
  · rw [if_neg hji] at hj
    obtain ⟨g1, g2⟩ := h.2.2 j w hj
    obtain ⟨ls2, e2, h2⟩ := lv_store1 (l := [(j, w)]) (i := i) (v := v) ⟨h.1, h.2.1, fun q hq => by rw [List.mem_singleton.mp hq]; exact g1⟩ hi hc
    cases Option.some.inj (e2.symm.trans e1)
    refine ⟨h2.2.2 (j, w) (List.mem_cons_of_mem _ (List.mem_filter.mpr ⟨List.mem_singleton_self _, ?_⟩)), g2⟩
    simp [g2, Ne.symm hji]
theorem xw_has {ls : Array Slot} {nL : Nat} {l : List (Nat × Value)} {lv : List (Option Value)} (h : lv_has ls nL l) (hl : ∀ (i : Nat) (v : Value), lv[i]? = some (some v) → (i, v) ∈ l ∧ v.category = 1) : xw_L ls nL lv :=
  ⟨h.1, h.2.1, fun i v hv => ⟨h.2.2 (i, v) (hl i v hv).1, (hl i v hv).2⟩⟩
theorem xw_args : ∀ (vs : List Value) (k : Nat), (∀ v ∈ vs, v.category = 1) → ∀ (i : Nat) (v : Value), (vs.map some)[i]? = some (some v) → (k + i, v) ∈ lv_args k vs ∧ v.category = 1
  | [], _, _, i, v, h => by simp at h
  | w :: vs, k, hc, 0, v, h => by
    simp at h
    subst h
    exact ⟨List.mem_cons_self, hc _ List.mem_cons_self⟩
  | w :: vs, k, hc, i + 1, v, h => by
    have h1 : (vs.map some)[i]? = some (some v) := by simpa using h
    have hw : w.category = 1 := hc _ List.mem_cons_self
    have h2 := xw_args vs (k + 1) (fun x hx => hc x (List.mem_cons_of_mem _ hx)) i v h1
    refine ⟨?_, h2.2⟩
    show (k + (i + 1), v) ∈ (k, w) :: lv_args (if w.category = 2 then k + 2 else k + 1) vs
    rw [hw]
    refine List.mem_cons_of_mem _ ?_
    have e : k + (i + 1) = k + 1 + i := by omega
    rw [e]
    exact h2.1
theorem xw_entry (vs : List Value) {n : Nat} (r : Nat) (h : (lg_sl vs).length ≤ n) (hc : ∀ v ∈ vs, v.category = 1) : xw_L ((lg_sl vs ++ List.replicate (n - (lg_sl vs).length) Slot.unset).toArray) n (vs.map some ++ List.replicate r none) := by
  refine xw_has (lv_entry vs h) (fun i v hv => ?_)
  by_cases hi : i < (vs.map some).length
  · rw [List.getElem?_append_left hi] at hv
    have := xw_args vs 0 hc i v hv
    simpa using this
  · rw [List.getElem?_append_right (by omega)] at hv
    have := List.mem_of_getElem? hv
    simp at this
/-! the words: one list for all methods -/
def xw_big : List Cond := lw_tbl.filter goodWord
theorem xw_in {w : Cond} (h : w ∈ lw_tbl) (hg : goodWord w = true) : w ∈ xw_big := List.mem_filter.mpr ⟨h, hg⟩
theorem xw_gb {w : Cond} (hw : w ∈ xw_big) : w ∈ xw_big ∧ ((w.onTables && w.keeps) = true ∨ ∃ ty, w = .arrayClass ty) := ⟨hw, good_of_word (List.mem_filter.mp hw).2⟩
theorem xw_gs {ws : List Cond} (h : ∀ w ∈ ws, w ∈ xw_big) : GoodIn xw_big ws := fun w hw => xw_gb (h w hw)
theorem xw_gcode {y : MethodName} {cc : ByteArray} {nL : Nat} {ret : Option FieldType} (h : Cond.code y cc nL ret ∈ xw_big) : ∀ w ∈ Cond.code y cc nL ret :: xw_big, w ∈ xw_big := fun w hw => (List.mem_cons.mp hw).elim (fun e => e ▸ h) id
theorem inB0 : ∀ w ∈ wsX00, w ∈ xw_big := fun w h => xw_in (inX0 w h) ((by decide +kernel : ∀ w ∈ wsX00, goodWord w = true) w h)
theorem inB1 : ∀ w ∈ wsX10, w ∈ xw_big := fun w h => xw_in (inX1 w h) ((by decide +kernel : ∀ w ∈ wsX10, goodWord w = true) w h)
theorem inB2 : ∀ w ∈ wsX20, w ∈ xw_big := fun w h => xw_in (inX2 w h) ((by decide +kernel : ∀ w ∈ wsX20, goodWord w = true) w h)
theorem inB3 : ∀ w ∈ wsX30, w ∈ xw_big := fun w h => xw_in (inX3 w h) ((by decide +kernel : ∀ w ∈ wsX30, goodWord w = true) w h)
/-! the machine's context as one thing -/
abbrev xwG := Program × Launch × Env × Room × State × MethodId × Array Value × List Frame × Method × Code × va_G × List (ClassId × FieldType) × Nat
abbrev xgp (G : xwG) : Program := G.1
abbrev xgl (G : xwG) : Launch := G.2.1
abbrev xge (G : xwG) : Env := G.2.2.1
abbrev xgR (G : xwG) : Room := G.2.2.2.1
abbrev xgs (G : xwG) : State := G.2.2.2.2.1
abbrev xgm (G : xwG) : MethodId := G.2.2.2.2.2.1
abbrev xga (G : xwG) : Array Value := G.2.2.2.2.2.2.1
abbrev xgb (G : xwG) : List Frame := G.2.2.2.2.2.2.2.1
abbrev xgM (G : xwG) : Method := G.2.2.2.2.2.2.2.2.1
abbrev xgc (G : xwG) : Code := G.2.2.2.2.2.2.2.2.2.1
abbrev xgD (G : xwG) : va_G := G.2.2.2.2.2.2.2.2.2.2.1
abbrev xgt (G : xwG) : List (ClassId × FieldType) := G.2.2.2.2.2.2.2.2.2.2.2.1
abbrev xgB (G : xwG) : Nat := G.2.2.2.2.2.2.2.2.2.2.2.2
abbrev xgW (G : xwG) (H : Heap) (locs : List Loc) (cells slots : Nat) (Q : State → Prop) (g : JFrame) : Prop := W (xgp G) (xgl G) (xge G) (xgR G) (xgs G) (xgm G) (xga G) (xgb G) (xgM G) (xgc G) H locs cells slots Q g
abbrev xIAE : String := "java/lang/IllegalArgumentException"
abbrev xISE : String := "java/lang/IllegalStateException"
/-- what else a method's start must bring: links across the nest, the throws' statics and texts -/
def xw_Z (base : Nat) (U : State) : Prop :=
  (va_Nw (.methodLinkNest RX1 52 yX2_isNewer RX2) U ∧ va_Nw (.methodLinkNest RX1 56 yX2_nextNumber RX2) U ∧ va_Nw (.methodLinkNest RX2 20 yX0_init RX2) U ∧ va_Nw (.castable xIAE xIAE) U ∧ va_Nw (.castable xISE xISE) U ∧ va_Nw (.declares (Bundle.initS "java/lang/RuntimeException")) U ∧ va_Nw (.declares (Bundle.initS "java/lang/Exception")) U ∧ va_Nw (.declares (Bundle.initS "java/lang/Throwable")) U) ∧
  (vx_Zq Bundle.tN "UNASSIGNED_STACK" Bundle.steD (fun q => base ≤ q) U U.heap ∧ vx_Zq Bundle.tN "SUPPRESSED_SENTINEL" Bundle.listD (fun q => base ≤ q) U U.heap) ∧
  ((∃ a, vk_R RX2 150 "there is no such node" a U) ∧ (∃ a, vk_R RX2 153 "both nodes are the same" a U) ∧ (∃ a, vk_R RX2 155 "a number is not as it may be" a U) ∧ (∃ a, vk_R RX2 157 "there is no such letter" a U) ∧ (∃ a, vk_R RX2 83 "the node has links" a U))
theorem xw_Z.go {base : Nat} {s U : State} (hW : s.WarmedH U.vm) (hk : ∀ a : Nat, a < s.heap.size → ¬ base ≤ a → U.heap[a]? = s.heap[a]?) (h : xw_Z base s) : xw_Z base U := by
  obtain ⟨⟨h1, h2, h3, h4, h5, d1, d2, d3⟩, ⟨h6, h7⟩, ⟨a1, h8⟩, ⟨a2, h9⟩, ⟨a3, h10⟩, ⟨a4, h11⟩, ⟨a5, h12⟩⟩ := h
  exact ⟨⟨va_Nw.warmM hW h1, va_Nw.warmM hW h2, va_Nw.warmM hW h3, va_Nw.warmC hW h4, va_Nw.warmC hW h5, va_Nw.warmD hW d1, va_Nw.warmD hW d2, va_Nw.warmD hW d3⟩, ⟨vx_Zq.moved hW.alike (h6.kept hk), vx_Zq.moved hW.alike (h7.kept hk)⟩, ⟨a1, vk_R.warm hW h8⟩, ⟨a2, vk_R.warm hW h9⟩, ⟨a3, vk_R.warm hW h10⟩, ⟨a4, vk_R.warm hW h11⟩, ⟨a5, vk_R.warm hW h12⟩⟩
/-- what stands throughout a method's body -/
def xw_C (G : xwG) (cc : ByteArray) (nL : Nat) (own : String) (N : Nat) (ad : Nat → Nat) : Prop :=
  (xgp G).tables.exec = Jvm.exec ∧ (xgc G).code = cc ∧ (xgc G).maxLocals = nL ∧ (xgs G).vm.findClass own = some (xgm G).cls ∧ (∀ w ∈ xw_big, w.before (xga G) (xgs G) = true) ∧ va_K (xgD G) vwCl (xgt G) (xgs G) ∧ xgB G ≤ (xgs G).heap.size ∧ (xgM G).locks = false ∧ xw_J N ad (xgB G) ∧ xw_Z (xgB G) (xgs G)
/-- the machine stands at pc with locals lv and stack st, the world's cells at ad hold ce: it comes to Q -/
def XW (G : xwG) (Q : State → Prop) (nL cells slots N : Nat) (ad : Nat → Nat) (ce : Nat → va_E) (pc : Nat) (lv : List (Option Value)) (st : List Value) : Prop :=
  ∀ (H : Heap) (locs : List Loc) (ls : Array Slot), va_P (xgD G) vwCl (xw_wd N ad ce) H → va_S (fun q => xgB G ≤ q) (xgs G).heap H locs → xw_L ls nL lv → xgW G H locs cells slots Q (F0 (xgm G) pc ls st)
section XR
variable {G : xwG} {Q : State → Prop} {cc : ByteArray} {own : String} {nL cells slots N : Nat} {ad : Nat → Nat} {ce : Nat → va_E} {pc : Nat} {lv : List (Option Value)} {st : List Value}
theorem xw_iconst (C : xw_C G cc nL own N ad) {n : Int} {v : Int32} (hd : decode cc pc = .ok (.iconst n, 1)) (hv : Int32.ofInt n = v)
    (k : XW G Q nL cells slots N ad ce (pc + 1) (lv) (.int v :: st)) : XW G Q nL cells slots N ad ce (pc) (lv) (st) :=
  fun H locs ls hP hS hL => lv_iconst C.1 C.2.1 hd hv (k H locs ls hP hS hL)
theorem xw_bipush (C : xw_C G cc nL own N ad) {n : Int} {v : Int32} (hd : decode cc pc = .ok (.bipush n, 2)) (hv : (Int8.ofInt n).toInt32 = v)
    (k : XW G Q nL cells slots N ad ce (pc + 2) (lv) (.int v :: st)) : XW G Q nL cells slots N ad ce (pc) (lv) (st) :=
  fun H locs ls hP hS hL => lv_bipush C.1 C.2.1 hd hv (k H locs ls hP hS hL)
theorem xw_sipush (C : xw_C G cc nL own N ad) {n : Int} {v : Int32} (hd : decode cc pc = .ok (.sipush n, 3)) (hv : (Int16.ofInt n).toInt32 = v)
    (k : XW G Q nL cells slots N ad ce (pc + 3) (lv) (.int v :: st)) : XW G Q nL cells slots N ad ce (pc) (lv) (st) :=
  fun H locs ls hP hS hL => lv_sipush C.1 C.2.1 hd hv (k H locs ls hP hS hL)
theorem xw_ldc (C : xw_C G cc nL own N ad) {index : Nat} {v : Int32} (hw : Cond.constant own index v ∈ xw_big) (hd : decode cc pc = .ok (.ldc index, 2))
    (k : XW G Q nL cells slots N ad ce (pc + 2) (lv) (.int v :: st)) : XW G Q nL cells slots N ad ce (pc) (lv) (st) :=
  fun H locs ls hP hS hL => lv_ldc C.1 C.2.1 C.2.2.2.1 (C.2.2.2.2.1 _ hw) hd (k H locs ls hP hS hL)
theorem xw_iload_n (C : xw_C G cc nL own N ad) {j : Fin 4} {x : Int32} (hd : decode cc pc = .ok (.iload_n j, 1)) (i : Nat) (hi : (j : Nat) = i) (hl : lv[i]? = some (some (.int x)))
    (k : XW G Q nL cells slots N ad ce (pc + 1) (lv) (.int x :: st)) : XW G Q nL cells slots N ad ce (pc) (lv) (st) :=
  fun H locs ls hP hS hL => lv_iload_n C.1 C.2.1 hd hi (hL.2.2 _ _ hl).1 (k H locs ls hP hS hL)
theorem xw_iload (C : xw_C G cc nL own N ad) {i : Nat} {x : Int32} (hd : decode cc pc = .ok (.iload i, 2)) (hl : lv[i]? = some (some (.int x)))
    (k : XW G Q nL cells slots N ad ce (pc + 2) (lv) (.int x :: st)) : XW G Q nL cells slots N ad ce (pc) (lv) (st) :=
  fun H locs ls hP hS hL => lv_iload C.1 C.2.1 hd (hL.2.2 _ _ hl).1 (k H locs ls hP hS hL)
theorem xw_aload_n (C : xw_C G cc nL own N ad) {j : Fin 4} {x : Nat} (hd : decode cc pc = .ok (.aload_n j, 1)) (i : Nat) (hi : (j : Nat) = i) (hl : lv[i]? = some (some (.ref x)))
    (k : XW G Q nL cells slots N ad ce (pc + 1) (lv) (.ref x :: st)) : XW G Q nL cells slots N ad ce (pc) (lv) (st) :=
  fun H locs ls hP hS hL => lv_aload_n C.1 C.2.1 hd hi (hL.2.2 _ _ hl).1 (k H locs ls hP hS hL)
theorem xw_aload (C : xw_C G cc nL own N ad) {i : Nat} {x : Nat} (hd : decode cc pc = .ok (.aload i, 2)) (hl : lv[i]? = some (some (.ref x)))
    (k : XW G Q nL cells slots N ad ce (pc + 2) (lv) (.ref x :: st)) : XW G Q nL cells slots N ad ce (pc) (lv) (st) :=
  fun H locs ls hP hS hL => lv_aload C.1 C.2.1 hd (hL.2.2 _ _ hl).1 (k H locs ls hP hS hL)
theorem xw_istore_n (C : xw_C G cc nL own N ad) {j : Fin 4} {x : Int32} (hd : decode cc pc = .ok (.istore_n j, 1)) (i : Nat) (hi : (j : Nat) = i) (hn : i < nL)
    (k : XW G Q nL cells slots N ad ce (pc + 1) (lv.set i (some (.int x))) (st)) : XW G Q nL cells slots N ad ce (pc) (lv) (.int x :: st) := by
  intro H locs ls hP hS hL T hT X
  subst hi
  obtain ⟨ls', e', h'⟩ := xw_store (v := .int x) hL hn rfl
  obtain ⟨t, a, b⟩ := k H locs ls' hP hS h' T hT X
  refine ⟨t, ?_, b⟩
  have hexec := C.1
  have hb := C.2.1
  jvm_step X.here [X.here.top, ↓top_set X.here.top, hexec, hb, hd, e']
  exact a
theorem xw_istore (C : xw_C G cc nL own N ad) {i : Nat} {x : Int32} (hd : decode cc pc = .ok (.istore i, 2)) (hn : i < nL)
    (k : XW G Q nL cells slots N ad ce (pc + 2) (lv.set i (some (.int x))) (st)) : XW G Q nL cells slots N ad ce (pc) (lv) (.int x :: st) := by
  intro H locs ls hP hS hL T hT X
  skip
  obtain ⟨ls', e', h'⟩ := xw_store (v := .int x) hL hn rfl
  obtain ⟨t, a, b⟩ := k H locs ls' hP hS h' T hT X
  refine ⟨t, ?_, b⟩
  have hexec := C.1
  have hb := C.2.1
  jvm_step X.here [X.here.top, ↓top_set X.here.top, hexec, hb, hd, e']
  exact a
theorem xw_astore_n (C : xw_C G cc nL own N ad) {j : Fin 4} {x : Nat} (hd : decode cc pc = .ok (.astore_n j, 1)) (i : Nat) (hi : (j : Nat) = i) (hn : i < nL)
    (k : XW G Q nL cells slots N ad ce (pc + 1) (lv.set i (some (.ref x))) (st)) : XW G Q nL cells slots N ad ce (pc) (lv) (.ref x :: st) := by
  intro H locs ls hP hS hL T hT X
  subst hi
  obtain ⟨ls', e', h'⟩ := xw_store (v := .ref x) hL hn rfl
  obtain ⟨t, a, b⟩ := k H locs ls' hP hS h' T hT X
  refine ⟨t, ?_, b⟩
  have hexec := C.1
  have hb := C.2.1
  jvm_step X.here [X.here.top, ↓top_set X.here.top, hexec, hb, hd, e', Value.isRef]
  exact a
theorem xw_astore (C : xw_C G cc nL own N ad) {i : Nat} {x : Nat} (hd : decode cc pc = .ok (.astore i, 2)) (hn : i < nL)
    (k : XW G Q nL cells slots N ad ce (pc + 2) (lv.set i (some (.ref x))) (st)) : XW G Q nL cells slots N ad ce (pc) (lv) (.ref x :: st) := by
  intro H locs ls hP hS hL T hT X
  skip
  obtain ⟨ls', e', h'⟩ := xw_store (v := .ref x) hL hn rfl
  obtain ⟨t, a, b⟩ := k H locs ls' hP hS h' T hT X
  refine ⟨t, ?_, b⟩
  have hexec := C.1
  have hb := C.2.1
  jvm_step X.here [X.here.top, ↓top_set X.here.top, hexec, hb, hd, e', Value.isRef]
  exact a
theorem xw_iinc (C : xw_C G cc nL own N ad) {i : Nat} {n : Int} {x v : Int32} (hd : decode cc pc = .ok (.iinc i n, 3)) (hl : lv[i]? = some (some (.int x))) (hv : x + Int32.ofInt n = v) (hn : i < nL)
    (k : XW G Q nL cells slots N ad ce (pc + 3) (lv.set i (some (.int v))) (st)) : XW G Q nL cells slots N ad ce (pc) (lv) (st) := by
  intro H locs ls hP hS hL T hT X
  subst hv
  have hg := (hL.2.2 _ _ hl).1
  obtain ⟨ls', e', h'⟩ := xw_store (v := .int (x + Int32.ofInt n)) hL hn rfl
  obtain ⟨t, a, b⟩ := k H locs ls' hP hS h' T hT X
  refine ⟨t, ?_, b⟩
  have hexec := C.1
  have hb := C.2.1
  jvm_step X.here [X.here.top, ↓top_set X.here.top, hexec, hb, hd, hg, e']
  exact a
theorem xw_iadd (C : xw_C G cc nL own N ad) {x y : Int32} (hd : decode cc pc = .ok (.iadd, 1))
    (k : XW G Q nL cells slots N ad ce (pc + 1) (lv) (.int (x + y) :: st)) : XW G Q nL cells slots N ad ce (pc) (lv) (.int y :: .int x :: st) :=
  fun H locs ls hP hS hL => lv_iadd C.1 C.2.1 hd (k H locs ls hP hS hL)
theorem xw_isub (C : xw_C G cc nL own N ad) {x y : Int32} (hd : decode cc pc = .ok (.isub, 1))
    (k : XW G Q nL cells slots N ad ce (pc + 1) (lv) (.int (x - y) :: st)) : XW G Q nL cells slots N ad ce (pc) (lv) (.int y :: .int x :: st) :=
  fun H locs ls hP hS hL => lv_isub C.1 C.2.1 hd (k H locs ls hP hS hL)
theorem xw_imul (C : xw_C G cc nL own N ad) {x y : Int32} (hd : decode cc pc = .ok (.imul, 1))
    (k : XW G Q nL cells slots N ad ce (pc + 1) (lv) (.int (x * y) :: st)) : XW G Q nL cells slots N ad ce (pc) (lv) (.int y :: .int x :: st) :=
  fun H locs ls hP hS hL => lv_imul C.1 C.2.1 hd (k H locs ls hP hS hL)
theorem xw_iand (C : xw_C G cc nL own N ad) {x y : Int32} (hd : decode cc pc = .ok (.iand, 1))
    (k : XW G Q nL cells slots N ad ce (pc + 1) (lv) (.int (x &&& y) :: st)) : XW G Q nL cells slots N ad ce (pc) (lv) (.int y :: .int x :: st) :=
  fun H locs ls hP hS hL => lv_iand C.1 C.2.1 hd (k H locs ls hP hS hL)
theorem xw_idiv (C : xw_C G cc nL own N ad) {x y : Int32} (hd : decode cc pc = .ok (.idiv, 1)) (hne : ¬ y = 0)
    (k : XW G Q nL cells slots N ad ce (pc + 1) (lv) (.int (x / y) :: st)) : XW G Q nL cells slots N ad ce (pc) (lv) (.int y :: .int x :: st) :=
  fun H locs ls hP hS hL => lv_idiv C.1 C.2.1 hd hne (k H locs ls hP hS hL)
theorem xw_dup (C : xw_C G cc nL own N ad) {v : Value} (hd : decode cc pc = .ok (.dup, 1)) (hv : v.category = 1)
    (k : XW G Q nL cells slots N ad ce (pc + 1) (lv) (v :: v :: st)) : XW G Q nL cells slots N ad ce (pc) (lv) (v :: st) :=
  fun H locs ls hP hS hL => lv_dup C.1 C.2.1 hd hv (k H locs ls hP hS hL)
theorem xw_pop (C : xw_C G cc nL own N ad) {v : Value} (hd : decode cc pc = .ok (.pop, 1)) (hv : v.category = 1)
    (k : XW G Q nL cells slots N ad ce (pc + 1) (lv) (st)) : XW G Q nL cells slots N ad ce (pc) (lv) (v :: st) :=
  fun H locs ls hP hS hL => lv_pop C.1 C.2.1 hd hv (k H locs ls hP hS hL)
theorem xw_goto (C : xw_C G cc nL own N ad) {off : Int} {tgt : Nat} (hd : decode cc pc = .ok (.goto off, 3)) (ht : (pc : Int) + off = (tgt : Int))
    (k : XW G Q nL cells slots N ad ce (tgt) (lv) (st)) : XW G Q nL cells slots N ad ce (pc) (lv) (st) :=
  fun H locs ls hP hS hL => lv_goto C.1 C.2.1 hd ht (k H locs ls hP hS hL)
theorem xw_if_eq (C : xw_C G cc nL own N ad) {x : Int32} {off : Int} {tgt : Nat} (hd : decode cc pc = .ok (.ifCond .eq off, 3)) (ht : (pc : Int) + off = (tgt : Int))
    (kt : x = 0 → XW G Q nL cells slots N ad ce (tgt) (lv) (st)) (kf : ¬ x = 0 → XW G Q nL cells slots N ad ce (pc + 3) (lv) (st)) : XW G Q nL cells slots N ad ce (pc) (lv) (.int x :: st) :=
  fun H locs ls hP hS hL => lv_if_eq C.1 C.2.1 hd ht (fun q => kt q H locs ls hP hS hL) (fun q => kf q H locs ls hP hS hL)
theorem xw_icmp_eq (C : xw_C G cc nL own N ad) {x y : Int32} {off : Int} {tgt : Nat} (hd : decode cc pc = .ok (.if_icmp .eq off, 3)) (ht : (pc : Int) + off = (tgt : Int))
    (kt : x = y → XW G Q nL cells slots N ad ce (tgt) (lv) (st)) (kf : ¬ x = y → XW G Q nL cells slots N ad ce (pc + 3) (lv) (st)) : XW G Q nL cells slots N ad ce (pc) (lv) (.int y :: .int x :: st) :=
  fun H locs ls hP hS hL => lv_icmp_eq C.1 C.2.1 hd ht (fun q => kt q H locs ls hP hS hL) (fun q => kf q H locs ls hP hS hL)
theorem xw_if_ne (C : xw_C G cc nL own N ad) {x : Int32} {off : Int} {tgt : Nat} (hd : decode cc pc = .ok (.ifCond .ne off, 3)) (ht : (pc : Int) + off = (tgt : Int))
    (kt : ¬ x = 0 → XW G Q nL cells slots N ad ce (tgt) (lv) (st)) (kf : x = 0 → XW G Q nL cells slots N ad ce (pc + 3) (lv) (st)) : XW G Q nL cells slots N ad ce (pc) (lv) (.int x :: st) :=
  fun H locs ls hP hS hL => lv_if_ne C.1 C.2.1 hd ht (fun q => kt q H locs ls hP hS hL) (fun q => kf q H locs ls hP hS hL)
theorem xw_icmp_ne (C : xw_C G cc nL own N ad) {x y : Int32} {off : Int} {tgt : Nat} (hd : decode cc pc = .ok (.if_icmp .ne off, 3)) (ht : (pc : Int) + off = (tgt : Int))
    (kt : ¬ x = y → XW G Q nL cells slots N ad ce (tgt) (lv) (st)) (kf : x = y → XW G Q nL cells slots N ad ce (pc + 3) (lv) (st)) : XW G Q nL cells slots N ad ce (pc) (lv) (.int y :: .int x :: st) :=
  fun H locs ls hP hS hL => lv_icmp_ne C.1 C.2.1 hd ht (fun q => kt q H locs ls hP hS hL) (fun q => kf q H locs ls hP hS hL)
theorem xw_if_lt (C : xw_C G cc nL own N ad) {x : Int32} {off : Int} {tgt : Nat} (hd : decode cc pc = .ok (.ifCond .lt off, 3)) (ht : (pc : Int) + off = (tgt : Int))
    (kt : x < 0 → XW G Q nL cells slots N ad ce (tgt) (lv) (st)) (kf : ¬ x < 0 → XW G Q nL cells slots N ad ce (pc + 3) (lv) (st)) : XW G Q nL cells slots N ad ce (pc) (lv) (.int x :: st) :=
  fun H locs ls hP hS hL => lv_if_lt C.1 C.2.1 hd ht (fun q => kt q H locs ls hP hS hL) (fun q => kf q H locs ls hP hS hL)
theorem xw_icmp_lt (C : xw_C G cc nL own N ad) {x y : Int32} {off : Int} {tgt : Nat} (hd : decode cc pc = .ok (.if_icmp .lt off, 3)) (ht : (pc : Int) + off = (tgt : Int))
    (kt : x < y → XW G Q nL cells slots N ad ce (tgt) (lv) (st)) (kf : ¬ x < y → XW G Q nL cells slots N ad ce (pc + 3) (lv) (st)) : XW G Q nL cells slots N ad ce (pc) (lv) (.int y :: .int x :: st) :=
  fun H locs ls hP hS hL => lv_icmp_lt C.1 C.2.1 hd ht (fun q => kt q H locs ls hP hS hL) (fun q => kf q H locs ls hP hS hL)
theorem xw_if_ge (C : xw_C G cc nL own N ad) {x : Int32} {off : Int} {tgt : Nat} (hd : decode cc pc = .ok (.ifCond .ge off, 3)) (ht : (pc : Int) + off = (tgt : Int))
    (kt : 0 ≤ x → XW G Q nL cells slots N ad ce (tgt) (lv) (st)) (kf : ¬ 0 ≤ x → XW G Q nL cells slots N ad ce (pc + 3) (lv) (st)) : XW G Q nL cells slots N ad ce (pc) (lv) (.int x :: st) :=
  fun H locs ls hP hS hL => lv_if_ge C.1 C.2.1 hd ht (fun q => kt q H locs ls hP hS hL) (fun q => kf q H locs ls hP hS hL)
theorem xw_icmp_ge (C : xw_C G cc nL own N ad) {x y : Int32} {off : Int} {tgt : Nat} (hd : decode cc pc = .ok (.if_icmp .ge off, 3)) (ht : (pc : Int) + off = (tgt : Int))
    (kt : y ≤ x → XW G Q nL cells slots N ad ce (tgt) (lv) (st)) (kf : ¬ y ≤ x → XW G Q nL cells slots N ad ce (pc + 3) (lv) (st)) : XW G Q nL cells slots N ad ce (pc) (lv) (.int y :: .int x :: st) :=
  fun H locs ls hP hS hL => lv_icmp_ge C.1 C.2.1 hd ht (fun q => kt q H locs ls hP hS hL) (fun q => kf q H locs ls hP hS hL)
theorem xw_if_gt (C : xw_C G cc nL own N ad) {x : Int32} {off : Int} {tgt : Nat} (hd : decode cc pc = .ok (.ifCond .gt off, 3)) (ht : (pc : Int) + off = (tgt : Int))
    (kt : 0 < x → XW G Q nL cells slots N ad ce (tgt) (lv) (st)) (kf : ¬ 0 < x → XW G Q nL cells slots N ad ce (pc + 3) (lv) (st)) : XW G Q nL cells slots N ad ce (pc) (lv) (.int x :: st) :=
  fun H locs ls hP hS hL => lv_if_gt C.1 C.2.1 hd ht (fun q => kt q H locs ls hP hS hL) (fun q => kf q H locs ls hP hS hL)
theorem xw_icmp_gt (C : xw_C G cc nL own N ad) {x y : Int32} {off : Int} {tgt : Nat} (hd : decode cc pc = .ok (.if_icmp .gt off, 3)) (ht : (pc : Int) + off = (tgt : Int))
    (kt : y < x → XW G Q nL cells slots N ad ce (tgt) (lv) (st)) (kf : ¬ y < x → XW G Q nL cells slots N ad ce (pc + 3) (lv) (st)) : XW G Q nL cells slots N ad ce (pc) (lv) (.int y :: .int x :: st) :=
  fun H locs ls hP hS hL => lv_icmp_gt C.1 C.2.1 hd ht (fun q => kt q H locs ls hP hS hL) (fun q => kf q H locs ls hP hS hL)
theorem xw_if_le (C : xw_C G cc nL own N ad) {x : Int32} {off : Int} {tgt : Nat} (hd : decode cc pc = .ok (.ifCond .le off, 3)) (ht : (pc : Int) + off = (tgt : Int))
    (kt : x ≤ 0 → XW G Q nL cells slots N ad ce (tgt) (lv) (st)) (kf : ¬ x ≤ 0 → XW G Q nL cells slots N ad ce (pc + 3) (lv) (st)) : XW G Q nL cells slots N ad ce (pc) (lv) (.int x :: st) :=
  fun H locs ls hP hS hL => lv_if_le C.1 C.2.1 hd ht (fun q => kt q H locs ls hP hS hL) (fun q => kf q H locs ls hP hS hL)
theorem xw_icmp_le (C : xw_C G cc nL own N ad) {x y : Int32} {off : Int} {tgt : Nat} (hd : decode cc pc = .ok (.if_icmp .le off, 3)) (ht : (pc : Int) + off = (tgt : Int))
    (kt : x ≤ y → XW G Q nL cells slots N ad ce (tgt) (lv) (st)) (kf : ¬ x ≤ y → XW G Q nL cells slots N ad ce (pc + 3) (lv) (st)) : XW G Q nL cells slots N ad ce (pc) (lv) (.int y :: .int x :: st) :=
  fun H locs ls hP hS hL => lv_icmp_le C.1 C.2.1 hd ht (fun q => kt q H locs ls hP hS hL) (fun q => kf q H locs ls hP hS hL)
/-! cells -/
theorem xw_getf (C : xw_C G cc nL own N ad) {k9 ci NF index : Nat} {Cn : String} {T : u_T} {fs : List Value} (hk : k9 < N) (he : ce k9 = .inr (ci, fs)) (hc : vwCl[ci]? = some (Cn, T, NF)) (hin : ∀ w ∈ u_ws Cn T NF, w ∈ xw_big) (j : Nat) (hj : j < NF) (hw : Cond.fieldLink own index (T j).1 (T j).2.1 (T j).2.2.1 ∈ xw_big) {v : Value} (hv : fs[j]? = some v) (hd : decode cc pc = .ok (.getfield index, 3))
    (k : XW G Q nL cells slots N ad ce (pc + 3) (lv) (v :: st)) : XW G Q nL cells slots N ad ce (pc) (lv) (.ref (ad k9) :: st) :=
  fun H locs ls hP hS hL => va_get C.1 C.2.1 C.2.2.2.2.1 hin C.2.2.2.1 C.2.2.2.2.2.1 hP k9 (by rw [xw_at hk, he]) hc j hj (C.2.2.2.2.1 _ hw) (fun _ h => h) hv hd (k H locs ls hP hS hL)
theorem xw_putf (C : xw_C G cc nL own N ad) {k9 ci NF index : Nat} {Cn : String} {T : u_T} {fs fs' : List Value} (hk : k9 < N) (he : ce k9 = .inr (ci, fs)) (hc : vwCl[ci]? = some (Cn, T, NF)) (hin : ∀ w ∈ u_ws Cn T NF, w ∈ xw_big) (ty0 : Nat → FieldType) (hty : ∀ k, k < NF → parseFieldDescriptor (T k).2.2.1 = some (ty0 k)) (hnm : ∀ a, a < NF → ∀ b, b < NF → a ≠ b → (T a).2.1 ≠ (T b).2.1) (j : Nat) (hj : j < NF) (hw : Cond.fieldLink own index (T j).1 (T j).2.1 (T j).2.2.1 ∈ xw_big) (hfin : (T j).2.2.2 = false) {x : Int32} (hty1 : ty0 j = .int) (hl : j < fs.length) (hfs : fs.set j (.int x) = fs') (hd : decode cc pc = .ok (.putfield index, 3))
    (k : XW G Q nL cells slots N ad (va_up ce k9 (.inr (ci, fs'))) (pc + 3) (lv) (st)) : XW G Q nL cells slots N ad ce (pc) (lv) (.int x :: .ref (ad k9) :: st) := by
  intro H locs ls hP hS hL
  subst hfs
  refine va_put (ty := .int) C.1 C.2.1 C.2.2.2.2.1 hin ty0 hty hnm C.2.2.2.1 C.2.2.2.2.2.1 hP (xw_D C.2.2.2.2.2.2.2.2.1 ce) hS k9 (by rw [xw_at hk, he]) hc j hj (C.2.2.2.2.1 _ hw) (fun _ h => h) hfin (by rw [hty j hj, hty1]) rfl rfl hl hd (fun H1 locs1 hP1 hD1 hS1 => ?_)
  rw [xw_set] at hP1
  exact k H1 locs1 ls hP1 hS1 hL
theorem xw_iald (C : xw_C G cc nL own N ad) {k9 t0 n : Nat} {cA : ClassId} {f : Nat → Int32} {i : Int32} (hk : k9 < N) (he : ce k9 = .inl (cA, n, .inl f)) (ht : (xgt G)[t0]? = some (cA, .int)) (hi : vp_in i n) (hd : decode cc pc = .ok (.iaload, 1))
    (k : XW G Q nL cells slots N ad ce (pc + 1) (lv) (.int (f i.toNatClampNeg) :: st)) : XW G Q nL cells slots N ad ce (pc) (lv) (.int i :: .ref (ad k9) :: st) :=
  fun H locs ls hP hS hL => va_iald C.1 C.2.1 C.2.2.2.2.2.1 hP k9 t0 (by rw [xw_at hk, he]) ht hi hd (k H locs ls hP hS hL)
theorem xw_iast (C : xw_C G cc nL own N ad) {k9 t0 n : Nat} {cA : ClassId} {f : Nat → Int32} {i x : Int32} (hk : k9 < N) (he : ce k9 = .inl (cA, n, .inl f)) (ht : (xgt G)[t0]? = some (cA, .int)) (hi : vp_in i n) (hd : decode cc pc = .ok (.iastore, 1))
    (k : XW G Q nL cells slots N ad (va_up ce k9 (.inl (cA, n, .inl (upd f i.toNatClampNeg x)))) (pc + 1) (lv) (st)) : XW G Q nL cells slots N ad ce (pc) (lv) (.int x :: .int i :: .ref (ad k9) :: st) := by
  intro H locs ls hP hS hL
  refine va_iast C.1 C.2.1 C.2.2.2.2.2.1 hP (xw_D C.2.2.2.2.2.2.2.2.1 ce) hS k9 t0 (by rw [xw_at hk, he]) ht hi hd (fun H1 locs1 hP1 hD1 hS1 => ?_)
  rw [xw_set] at hP1
  exact k H1 locs1 ls hP1 hS1 hL
theorem xw_aald (C : xw_C G cc nL own N ad) {k9 t0 n : Nat} {cA : ClassId} {ty : FieldType} {f : Nat → Option Nat} {i : Int32} {q : Nat} (hk : k9 < N) (he : ce k9 = .inl (cA, n, .inr (.inr (.inr (.inr f))))) (ht : (xgt G)[t0]? = some (cA, ty)) (hty : ty.isReference = true) (hi : vp_in i n) (hq : f i.toNatClampNeg = some q) (hd : decode cc pc = .ok (.aaload, 1))
    (k : XW G Q nL cells slots N ad ce (pc + 1) (lv) (.ref q :: st)) : XW G Q nL cells slots N ad ce (pc) (lv) (.int i :: .ref (ad k9) :: st) := by
  intro H locs ls hP hS hL
  have hlt : i.toNatClampNeg < n := Nat.not_le.mp fun q => hi (Or.inr q)
  have h0 : va_rf (f i.toNatClampNeg) = .ref q := by rw [hq]; rfl
  have h1 : H[ad k9]? = some (vp_cell cA (n, .inr (.inr (.inr (.inr f))))) := by
    have := hP k9 _ (xw_at hk)
    rw [he] at this
    exact this
  exact W.aald (v := .ref q) (ty := ty) C.1 C.2.1 h1 ((C.2.2.2.2.2.1.2 t0 _ ht).1 n (fun j => va_rf (f j))) hty (fun q => by cases q) (by show ¬ (i < 0 ∨ (arrV _ _ _).slots.size ≤ _); rw [arrV_size]; exact hi) (by show (arrV _ _ _).slots[_]? = _; rw [arrV_read _ _ hlt, h0]) rfl rfl hd (k H locs ls hP hS hL)
theorem xw_eq {pc' : Nat} {lv' : List (Option Value)} {st' : List Value} {ce' : Nat → va_E} (h1 : pc' = pc) (h2 : lv' = lv) (h3 : st' = st) (h4 : ce' = ce) (k : XW G Q nL cells slots N ad ce (pc) (lv) (st)) : XW G Q nL cells slots N ad ce' pc' lv' st' := by
  subst h1; subst h2; subst h3; subst h4; exact k
theorem xw_sub {lv' : List (Option Value)} (h : ∀ (i : Nat) (v : Value), lv[i]? = some (some v) → lv'[i]? = some (some v)) (k : XW G Q nL cells slots N ad ce (pc) (lv) (st)) : XW G Q nL cells slots N ad ce (pc) (lv') (st) :=
  fun H locs ls hP hS hL => k H locs ls hP hS ⟨hL.1, hL.2.1, fun i v hv => hL.2.2 i v (h i v hv)⟩
end XR
