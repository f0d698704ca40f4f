/-! ===== making cells: the cell of code k comes to lie at base + k ===== -/
def xa (base k : Nat) : Nat := base + k
theorem xa_J (N base : Nat) : xw_J N (xa base) base := ⟨fun i j _ _ h => by unfold xa at h; omega, fun k _ => by unfold xa; omega⟩
theorem xa_C {G : xwG} {cc : ByteArray} {nL : Nat} {own : String} {N : Nat} (C : xw_C G cc nL own N (xa (xgB G))) {N' : Nat} : xw_C G cc nL own N' (xa (xgB G)) :=
  ⟨C.1, C.2.1, C.2.2.1, C.2.2.2.1, C.2.2.2.2.1, C.2.2.2.2.2.1, C.2.2.2.2.2.2.1, C.2.2.2.2.2.2.2.1, xa_J N' (xgB G), C.2.2.2.2.2.2.2.2.2⟩
section XN
variable {G : xwG} {Q : State → Prop} {cc : ByteArray} {own : String} {nL cells slots N : Nat} {ce ce' : Nat → va_E} {cs : xmC} {pc : Nat} {lv : List (Option Value)} {st : List Value}
theorem xn_sz (C : xw_C G cc nL own N (xa (xgB G))) (hcnt : (xgs G).heap.size + cells = xgB G + N) {H : Heap} {locs : List Loc} (hP : va_P (xgD G) vwCl (xw_wd N (xa (xgB G)) ce) H) (hS : va_S (fun q => xgB G ≤ q) (xgs G).heap H locs) {T : State} (hT : T.heap = H) (X : Stand (xgp G) (xgl G) (xge G) (xgR G) (xgs G) (xgm G) (xga G) (xgb G) (xgM G) (xgc G) T locs cells slots) : H.size = xa (xgB G) N := by
  have h1 := X.heapSize
  rw [hT] at h1
  have h2 : xgB G + N ≤ H.size := by
    cases N with
    | zero => exact Nat.le_trans C.2.2.2.2.2.2.1 hS.1
    | succ k =>
      have h3 := (hP k _ (xw_at (Nat.lt_succ_self k))).lt
      exact h3
  unfold xa
  omega
theorem xn_P {H H1 : Heap} {h : Nat} (hh : H.size = h) (hN : h = xa (xgB G) N) (hP : va_P (xgD G) vwCl (xw_wd N (xa (xgB G)) ce) H) (hce : ∀ k, k < N → ce' k = ce k) (o1 : ∀ q, q < h → H1[q]? = H[q]?) (hnew : va_at (xgD G) vwCl (xa (xgB G) N, ce' N) H1) : va_P (xgD G) vwCl (xw_wd (N + 1) (xa (xgB G)) ce') H1 := by
  intro k q hk
  obtain ⟨hk1, rfl⟩ := xw_of hk
  by_cases h2 : k < N
  · have h3 := hP k _ (xw_at h2)
    rw [hce k h2]
    exact h3.kept (o1 _ (by rw [← hh]; exact h3.lt))
  · have : k = N := by omega
    subst this
    exact hnew
theorem xn_S {H H1 : Heap} {locs : List Loc} {h : Nat} (hh : H.size = h) (z1 : h ≤ H1.size) (o1 : ∀ q, q < h → H1[q]? = H[q]?) (hS : va_S (fun q => xgB G ≤ q) (xgs G).heap H locs) : va_S (fun q => xgB G ≤ q) (xgs G).heap H1 locs :=
  ⟨Nat.le_trans hS.1 (by omega), fun x h1 h2 => (o1 x (by have := hS.1; omega)).trans (hS.2.1 x h1 h2), hS.2.2⟩
theorem xn_new (C : xw_C G cc nL own N (xa (xgB G))) (hcnt : (xgs G).heap.size + cells = xgB G + N) (hce : ∀ k, k < N → ce' k = ce k) {ci NF index : Nat} {Cn : String} {T : u_T} {fs : List Value} (he : ce' N = .inr (ci, fs)) (hc : vwCl[ci]? = some (Cn, T, NF)) (hin : ∀ w ∈ u_ws Cn T NF, w ∈ xw_big) (ty : Nat → FieldType) (hty : ∀ k, k < NF → parseFieldDescriptor (T k).2.2.1 = some (ty k)) (h1 : Cond.classLink own index Cn ∈ xw_big) (h2 : Cond.instantiable Cn NF ∈ xw_big) (h3 : Cond.initialized Cn ∈ xw_big) (hfs : ∀ j, j < NF → defaultValue (ty j) = vp_V fs j) (hR : cells + 1 ≤ (xgR G).cells ∧ slots + NF ≤ (xgR G).slots) (hd : decode cc pc = .ok (.new index, 3))
    (k : XW G Q nL (cells + 1) (slots + NF) (N + 1) (xa (xgB G)) ce' (pc + 3) lv (.ref (xa (xgB G) N) :: st)) : XW G Q nL cells slots N (xa (xgB G)) ce pc lv st := by
  intro H locs ls hP hS hL T0 hT X
  have hsz := xn_sz C hcnt hP hS hT X
  have hKn := C.2.2.2.2.2.1.1 ci _ hc
  have key : xgW G H locs cells slots Q (F0 (xgm G) pc ls st) := by
    refine W.newcK C.1 C.2.1 C.2.2.2.1 (C.2.2.2.2.1 _ h1) (C.2.2.2.2.1 _ h2) (C.2.2.2.2.1 _ h3) rfl hd hR.1 hR.2 hKn.2.1 hsz fun H1 kC hkC e1 z1 o1 => ?_
    refine k H1 locs ls (xn_P hsz rfl hP hce o1 ?_) (xn_S hsz (by omega) o1 hS) hL
    rw [he]
    exact ⟨_, hc, (u_born ty C.2.2.2.2.1 hin hKn hkC e1 hty).to hfs⟩
  exact key T0 hT X
theorem xn_arr (C : xw_C G cc nL own N (xa (xgB G))) (ht : xgt G = xm_tys cs) (hcnt : (xgs G).heap.size + cells = xgB G + N) {n : Int32} {len : Nat} (hn : ¬ n < 0) (hlen : n.toNatClampNeg = len) (hbytes : len * componentBytes .int ≤ 536870912) (hce : ∀ k, k < N → ce' k = ce k) (he : ce' N = .inl (cs.1, len, .inl (fun _ => 0))) (hw : Cond.arrayClass .int ∈ xw_big) (hR : cells + 1 ≤ (xgR G).cells ∧ slots + len ≤ (xgR G).slots) (hd : decode cc pc = .ok (.newarray .int, 2))
    (k : XW G Q nL (cells + 1) (slots + len) (N + 1) (xa (xgB G)) ce' (pc + 2) lv (.ref (xa (xgB G) N) :: st)) : XW G Q nL cells slots N (xa (xgB G)) ce pc lv (.int n :: st) := by
  intro H locs ls hP hS hL T0 hT X
  have hsz := xn_sz C hcnt hP hS hT X
  have hI := (C.2.2.2.2.2.1.2 0 (cs.1, .int) (by rw [ht]; rfl)).2
  have key : xgW G H locs cells slots Q (F0 (xgm G) pc ls (.int n :: st)) := by
    refine va_newaK C.1 C.2.1 (atype := .int) (C.2.2.2.2.1 _ hw) rfl hd rfl hn hlen hbytes hR.1 hR.2 hsz fun H1 cA e1 z1 o1 hAr hNm => ?_
    cases Option.some.inj (hNm.symm.trans hI)
    refine k H1 locs ls (xn_P hsz rfl hP hce o1 ?_) (xn_S hsz (by omega) o1 hS) hL
    rw [he]
    exact e1
  exact key T0 hT X
theorem xn_arrJ (C : xw_C G cc nL own N (xa (xgB G))) (ht : xgt G = xm_tys cs) (hcnt : (xgs G).heap.size + cells = xgB G + N) {n : Int32} {len : Nat} (hn : ¬ n < 0) (hlen : n.toNatClampNeg = len) (hbytes : len * componentBytes .long ≤ 536870912) (hce : ∀ k, k < N → ce' k = ce k) (he : ce' N = .inl (cs.2.2.2, len, .inr (.inl (fun _ => 0)))) (hw : Cond.arrayClass .long ∈ xw_big) (hR : cells + 1 ≤ (xgR G).cells ∧ slots + len ≤ (xgR G).slots) (hd : decode cc pc = .ok (.newarray .long, 2))
    (k : XW G Q nL (cells + 1) (slots + len) (N + 1) (xa (xgB G)) ce' (pc + 2) lv (.ref (xa (xgB G) N) :: st)) : XW G Q nL cells slots N (xa (xgB G)) ce pc lv (.int n :: st) := by
  intro H locs ls hP hS hL T0 hT X
  have hsz := xn_sz C hcnt hP hS hT X
  have hI := (C.2.2.2.2.2.1.2 3 (cs.2.2.2, .long) (by rw [ht]; rfl)).2
  have key : xgW G H locs cells slots Q (F0 (xgm G) pc ls (.int n :: st)) := by
    refine va_newaK C.1 C.2.1 (atype := .long) (C.2.2.2.2.1 _ hw) rfl hd rfl hn hlen hbytes hR.1 hR.2 hsz fun H1 cA e1 z1 o1 hAr hNm => ?_
    cases Option.some.inj (hNm.symm.trans hI)
    refine k H1 locs ls (xn_P hsz rfl hP hce o1 ?_) (xn_S hsz (by omega) o1 hS) hL
    rw [he]
    exact e1
  exact key T0 hT X
theorem xn_anew (C : xw_C G cc nL own N (xa (xgB G))) (ht : xgt G = xm_tys cs) (hcnt : (xgs G).heap.size + cells = xgB G + N) (hover : va_AO RX1 (xgs G)) {n : Int32} {len index : Nat} (hn : ¬ n < 0) (hlen : n.toNatClampNeg = len) (hbytes : len * 4 ≤ 536870912) (hce : ∀ k, k < N → ce' k = ce k) (he : ce' N = .inl (cs.2.1, len, .inr (.inr (.inr (.inr (fun _ => none)))))) (hw : Cond.classLink own index RX1 ∈ xw_big) (hR : cells + 1 ≤ (xgR G).cells ∧ slots + len ≤ (xgR G).slots) (hd : decode cc pc = .ok (.anewarray index, 3))
    (k : XW G Q nL (cells + 1) (slots + len) (N + 1) (xa (xgB G)) ce' (pc + 3) lv (.ref (xa (xgB G) N) :: st)) : XW G Q nL cells slots N (xa (xgB G)) ce pc lv (.int n :: st) := by
  intro H locs ls hP hS hL T0 hT X
  have hsz := xn_sz C hcnt hP hS hT X
  subst hlen
  obtain ⟨kA0, comp0, -, -, -, hI⟩ := (C.2.2.2.2.2.1.2 1 (cs.2.1, .object RX1) (by rw [ht]; rfl)).2
  have key : xgW G H locs cells slots Q (F0 (xgm G) pc ls (.int n :: st)) := by
   refine W.anew C.1 C.2.1 C.2.2.2.1 (C.2.2.2.2.1 _ hw) (va_AO.use hover) rfl hd rfl hn hbytes hR.1 hR.2 fun cA kA comp f1 f2 f3 f4 => ?_
   cases Option.some.inj (f1.symm.trans hI)
   generalize hH1 : H.push ({ cls := cs.2.1, slots := Array.replicate n.toNatClampNeg .null, vm := .none } : Cell) = H1
   have z1 : H1.size = H.size + 1 := by rw [← hH1, Array.size_push]
   have e1 : H1[H.size]? = some (arrV cs.2.1 n.toNatClampNeg (fun _ => .null)) := by rw [← hH1, Array.getElem?_push_size, ← arrV_new]
   have o1 : ∀ q : Nat, q < H.size → H1[q]? = H[q]? := fun q hq => by rw [← hH1, Array.getElem?_push, if_neg (Nat.ne_of_lt hq)]
   have k2 := k H1 locs ls (xn_P hsz rfl hP hce (by rw [← hsz]; exact o1) (by
     rw [he]
     show H1[xa (xgB G) N]? = some (vp_cell _ _)
     rw [← hsz, vp_cell_q]
     exact e1)) (xn_S rfl (by omega) o1 hS) hL
   rw [← hsz] at k2
   exact k2
  exact key T0 hT X
/-- new int[n][m]: the outer array's code N, the rows' codes N + 1 .. -/
theorem xn_mna (C : xw_C G cc nL own N (xa (xgB G))) (ht : xgt G = xm_tys cs) (hcnt : (xgs G).heap.size + cells = xgB G + N) (hover : (Cond.arrayOver (.array .int)).before (xga G) (xgs G) = true) {n m : Int32} {n' m' index : Nat} (hn : ¬ n < 0) (hm : ¬ m < 0) (hn' : n.toNatClampNeg = n') (hm' : m.toNatClampNeg = m') (hb1 : n' * 4 ≤ 536870912) (hb2 : m' * componentBytes .int ≤ 536870912) (hb3 : m' ≤ 536870912)
    (hce : ∀ k, k < N → ce' k = ce k) (he : ce' N = .inl (cs.2.2.1, n', .inr (.inr (.inr (.inr (fun i => some (xa (xgB G) (N + 1 + i)))))))) (her : ∀ i, i < n' → ce' (N + 1 + i) = .inl (cs.1, m', .inl (fun _ => 0))) (hw : Cond.classLink own index "[[I" ∈ xw_big) (hw2 : Cond.arrayClass .int ∈ xw_big) (hR : cells + (1 + n') ≤ (xgR G).cells ∧ slots + (n' + n' * m') ≤ (xgR G).slots) (hd : decode cc pc = .ok (.multianewarray index 2, 4))
    (k : XW G Q nL (cells + 1 + n') (slots + n' + n' * m') (N + 1 + n') (xa (xgB G)) ce' (pc + 4) lv (.ref (xa (xgB G) N) :: st)) : XW G Q nL cells slots N (xa (xgB G)) ce pc lv (.int m :: .int n :: st) := by
  intro H locs ls hP hS hL T hT X
  have hsz := xn_sz C hcnt hP hS hT X
  subst hn'
  subst hm'
  have hI := (C.2.2.2.2.2.1.2 0 (cs.1, .int) (by rw [ht]; rfl)).2
  have hII := (C.2.2.2.2.2.1.2 2 (cs.2.2.1, .array .int) (by rw [ht]; rfl)).2
  obtain ⟨vm₁, cA, comp, -, fA, fC, hO, -, X', step⟩ := Jvm.Stand.multianewarray2F X C.1 C.2.2.2.1 (ty := .int) (C.2.2.2.2.1 _ hw) hover (C.2.2.2.2.1 _ hw2) (g := F0 (xgm G) pc ls (.int m :: .int n :: st)) rfl (by rw [C.2.1]; exact hd) rfl hn hm hb1 hb2 hb3 rfl rfl hR.1 hR.2
  cases Option.some.inj (fA.symm.trans hII)
  cases Option.some.inj (fC.symm.trans hI)
  generalize hF : Jvm.Free.Multi.fill (T.setVm vm₁) cs.2.2.1 cs.1 n.toNatClampNeg m.toNatClampNeg (defaultValue .int) n.toNatClampNeg = F at X' step
  have hTh : (T.setVm vm₁).heap = H := hT
  obtain ⟨f1, f2, -, -⟩ := Jvm.Free.Multi.fill_facts (T.setVm vm₁) cs.2.2.1 cs.1 n.toNatClampNeg m.toNatClampNeg (defaultValue .int) n.toNatClampNeg
  rw [hF, hTh] at f1 f2
  have hold : ∀ x : Nat, x < H.size → F.heap[x]? = H[x]? := fun x hx => by
    have := Jvm.Free.Multi.fill_old (T.setVm vm₁) cs.2.2.1 cs.1 n.toNatClampNeg m.toNatClampNeg (defaultValue .int) (a := x) (by rw [hTh]; exact hx) n.toNatClampNeg
    rw [hF, hTh] at this
    exact this
  have hrow : ∀ j : Nat, j < n.toNatClampNeg → F.heap[H.size + 1 + j]? = some (vp_cell cs.1 (m.toNatClampNeg, .inl (fun _ => 0))) := fun j hj => by
    have := Jvm.Free.Multi.fill_inner (T.setVm vm₁) cs.2.2.1 cs.1 n.toNatClampNeg m.toNatClampNeg (defaultValue .int) n.toNatClampNeg j hj
    rw [hF, hTh] at this
    rw [this]
    show some ({ cls := cs.1, slots := Array.replicate m.toNatClampNeg (defaultValue .int), vm := .none } : Cell) = _
    rw [arrV_new]
    rfl
  have hout : ∀ i : Nat, Jvm.Free.Multi.outerC cs.2.2.1 n.toNatClampNeg H.size i = arrV cs.2.2.1 n.toNatClampNeg (fun j => va_rf (if j < i then some (H.size + 1 + j) else none)) := fun i => by
    induction i with
    | zero =>
      show ({ cls := cs.2.2.1, slots := Array.replicate n.toNatClampNeg .null, vm := .none } : Cell) = _
      rw [arrV_new]
      refine congrArg (arrV cs.2.2.1 n.toNatClampNeg) (funext fun j => ?_)
      simp [va_rf]
    | succ i ih =>
      show (Jvm.Free.Multi.outerC cs.2.2.1 n.toNatClampNeg H.size i).setSlot i (.ref (H.size + 1 + i)) = _
      rw [ih, arrV_store]
      refine congrArg (arrV cs.2.2.1 n.toNatClampNeg) (funext fun j => ?_)
      by_cases e : j = i
      · subst e
        simp [updV, va_rf]
      · by_cases h : j < i
        · simp [updV, e, h, Nat.lt_succ_of_lt h]
        · simp [updV, e, h, show ¬ j < i + 1 by omega]
  rw [hout] at f2
  have hPn : va_P (xgD G) vwCl (xw_wd (N + 1 + n.toNatClampNeg) (xa (xgB G)) ce') F.heap := by
    intro k9 q hk
    obtain ⟨hk1, rfl⟩ := xw_of hk
    by_cases h2 : k9 < N
    · have h3 := hP k9 _ (xw_at h2)
      rw [hce k9 h2]
      exact h3.kept (hold _ h3.lt)
    · by_cases h4 : k9 = N
      · subst h4
        rw [he]
        show F.heap[xa (xgB G) k9]? = some (vp_cell _ _)
        rw [← hsz, f2, vp_cell_q]
        have hfun : ∀ (z : Nat → Value) (w : Nat → Value), (∀ j, j < n.toNatClampNeg → z j = w j) → arrV cs.2.2.1 n.toNatClampNeg z = arrV cs.2.2.1 n.toNatClampNeg w := fun z w h => by
          unfold arrV
          congr 1
          apply congrArg
          funext j
          exact h j.val j.isLt
        refine congrArg some (hfun _ _ (fun j hj => ?_))
        rw [if_pos hj]
        show va_rf (some (H.size + 1 + j)) = va_rf (some (xa (xgB G) (k9 + 1 + j)))
        rw [hsz]
        unfold xa
        rw [show xgB G + k9 + 1 + j = xgB G + (k9 + 1 + j) by omega]
      · obtain ⟨j, rfl⟩ : ∃ j, k9 = N + 1 + j := ⟨k9 - (N + 1), by omega⟩
        rw [her j (by omega)]
        show F.heap[xa (xgB G) (N + 1 + j)]? = some (vp_cell _ _)
        have := hrow j (by omega)
        rw [hsz] at this
        unfold xa at this ⊢
        rw [show xgB G + (N + 1 + j) = xgB G + N + 1 + j by omega]
        exact this
  obtain ⟨t, a1, b1⟩ := k F.heap locs ls hPn (xn_S rfl (by omega) hold hS) hL F rfl X'
  refine ⟨t, step t ?_, b1⟩
  rw [hT, hsz]
  exact a1
theorem xw_obj (C : xw_C G cc nL own N (xa (xgB G))) {idx : Nat} {a : Nat} (h1 : Cond.methodLink own idx Lib.objectInit ∈ xw_big) (h2 : Cond.instanceMethod Lib.objectInit ∈ xw_big) (h3 : Cond.code Lib.objectInit ⟨#[0xb1]⟩ 1 none ∈ xw_big) (hR : 1 ≤ (xgR G).frames ∧ (st.map fun v => v.category).sum + 12 ≤ (xgR G).locals) (hd : decode cc pc = .ok (.invokespecial idx, 3))
    (k : XW G Q nL cells slots N (xa (xgB G)) ce (pc + 3) lv st) : XW G Q nL cells slots N (xa (xgB G)) ce pc lv (.ref a :: st) :=
  fun H locs ls hP hS hL => W.objInit C.1 C.2.1 C.2.2.2.1 (C.2.2.2.2.1 _ h1) (C.2.2.2.2.1 _ h2) (C.2.2.2.2.1 _ h3) rfl (by rw [C.2.2.1]; exact hL.1) rfl hd hR.1 (by show 2 * 0 + _ + 12 ≤ _; have := hR.2; omega) (k H locs ls hP hS hL)
theorem xw_putR (C : xw_C G cc nL own N (xa (xgB G))) (hini : (xgM G).name = "<init>") {k9 ci NF index : Nat} {T : u_T} {fs fs' : List Value} {v : Value} {ty : FieldType} (hk : k9 < N) (he : ce k9 = .inr (ci, fs)) (hc : vwCl[ci]? = some (own, T, NF)) (hin : ∀ w ∈ u_ws own T NF, w ∈ xw_big) (ty0 : Nat → FieldType) (hty : ∀ k, k < NF → parseFieldDescriptor (T k).2.2.1 = some (ty0 k)) (hnm : ∀ a, a < NF → ∀ b, b < NF → a ≠ b → (T a).2.1 ≠ (T b).2.1) (j : Nat) (hj : j < NF) (hw : Cond.fieldLink own index (T j).1 (T j).2.1 (T j).2.2.1 ∈ xw_big) (hfin : (T j).2.2.2 = true) (hdecl : (T j).1 = own) (hty1 : ty0 j = ty) (hnv : narrow ty v = v) (hfit : fits ty v = true) (hl : j < fs.length) (hfs : fs.set j v = fs') (hd : decode cc pc = .ok (.putfield index, 3))
    (k : XW G Q nL cells slots N (xa (xgB G)) (va_up ce k9 (.inr (ci, fs'))) (pc + 3) lv st) : XW G Q nL cells slots N (xa (xgB G)) ce pc lv (v :: .ref (xa (xgB G) k9) :: st) := by
  intro H locs ls hP hS hL
  subst hfs
  refine va_putF (ty := ty) C.1 C.2.1 C.2.2.2.2.1 hin ty0 hty hnm C.2.2.2.1 C.2.2.2.2.2.1 hP (xw_D C.2.2.2.2.2.2.2.2.1 ce) hS k9 (by rw [xw_at hk, he]) hc j hj (C.2.2.2.2.1 _ hw) (fun _ h => h) hfin hini hdecl (by rw [hty j hj, hty1]) hnv hfit hl hd (fun H1 locs1 hP1 hD1 hS1 => ?_)
  rw [xw_set] at hP1
  exact k H1 locs1 ls hP1 hS1 hL
theorem xw_aast (C : xw_C G cc nL own N (xa (xgB G))) (ht : xgt G = xm_tys cs) {k9 k8 n : Nat} {f : Nat → Option Nat} {vs : List Value} {i : Int32} (hk : k9 < N) (he : ce k9 = .inl (cs.2.1, n, .inr (.inr (.inr (.inr f))))) (hk8 : k8 < N) (he8 : ce k8 = .inr (1, vs)) (hi : vp_in i n) (hd : decode cc pc = .ok (.aastore, 1))
    (k : XW G Q nL cells slots N (xa (xgB G)) (va_up ce k9 (.inl (cs.2.1, n, .inr (.inr (.inr (.inr (va_up f i.toNatClampNeg (some (xa (xgB G) k8))))))))) (pc + 1) lv st) : XW G Q nL cells slots N (xa (xgB G)) ce pc lv (.ref (xa (xgB G) k8) :: .int i :: .ref (xa (xgB G) k9) :: st) := by
  intro H locs ls hP hS hL
  refine va_astq C.1 C.2.1 C.2.2.2.2.2.1 hP (xw_D C.2.2.2.2.2.2.2.2.1 ce) hS k9 1 k8 1 (r := (RX1, TX1, 10)) (by rw [xw_at hk, he]) (by rw [ht]; rfl) (by rw [xw_at hk8, he8]) rfl hi hd (fun H1 locs1 hP1 hD1 hS1 => ?_)
  rw [xw_set] at hP1
  exact k H1 locs1 ls hP1 hS1 hL
theorem xw_cong {ad : Nat → Nat} (h : ∀ k, k < N → ce' k = ce k) (k : XW G Q nL cells slots N ad ce' pc lv st) : XW G Q nL cells slots N ad ce pc lv st :=
  fun H locs ls hP hS hL => k H locs ls (fun j q hq => by
    obtain ⟨hj, rfl⟩ := xw_of hq
    rw [h j hj]
    exact hP j _ (xw_at hj)) hS hL
end XN
/-! constructors -/
def xw_Y (U : State) : Prop := va_AO RX1 U ∧ (Cond.arrayOver (.array .int)).before #[] U = true
theorem xw_Y.moved {u U : State} (hvm : u.vm.Alike U.vm) (h : xw_Y u) : xw_Y U := by
  refine ⟨va_AO.moved hvm h.1, ?_⟩
  have h2 : (Cond.arrayOver (.array .int)).before #[] (u.setVm U.vm) = true := Cond.overAtom_setVm (args := #[]) (s := u) hvm _ rfl h.2
  exact h2
/-- a constructor: from N cells that hold ce to N' cells that hold ce' -/
def xk_n (l : Launch) (y : MethodName) (cc : ByteArray) (nL : Nat) (rm : Room) (D : va_G) (tys : List (ClassId × FieldType)) (base N N' : Nat) (av : List Value) (ce ce' : Nat → va_E) (mc ms : Nat) : Prop :=
  Met l y (Cond.code y cc nL none :: xw_big) rm (va_Pc av (fun U => (U.heap.size = base + N ∧ xw_Y U) ∧ xw_B D tys base N (xa base) ce U ∧ xw_Z base U)) (xk_Qv D tys base N' (xa base) ce') mc ms (fun q => base ≤ q)
abbrev xw_qn (G : xwG) (N' : Nat) (ce' : Nat → va_E) (mc ms : Nat) : State → Prop := MQ (xgb G) (xk_Qv (xgD G) (xgt G) (xgB G) N' (xa (xgB G)) ce') (xga G) (xgs G) mc ms (fun q => xgB G ≤ q)
theorem xk_ofn {l : Launch} {y : MethodName} {cc : ByteArray} {nL : Nat} {rm : Room} {D : va_G} {tys : List (ClassId × FieldType)} {base N N' : Nat} {av : List Value} {ce ce' : Nat → va_E} {mc ms : Nat} (q : Nat) (hy : plainName y.cls = true) (hn : y.name = "<init>") (hc : ∀ v ∈ av, v.category = 1) (hlen : (lg_sl av).length ≤ nL)
    (body : ∀ G : xwG, xgl G = l → xgR G = rm → xgD G = D → xgt G = tys → xgB G = base → (xgM G).sig.returnType = none → (xgM G).name = "<init>" → (xgs G).heap.size = xgB G + N → xw_Y (xgs G) → xw_C G cc nL y.cls N (xa (xgB G)) → XW G (xw_qn G N' ce' mc ms) nL 0 0 N (xa (xgB G)) ce 0 (av.map some ++ List.replicate q none) []) : xk_n l y cc nL rm D tys base N N' av ce ce' mc ms := by
  refine Met.ofW (cc := cc) (maxL := nL) (ret := none) hy rfl ?_
  intro p e s m args below meth c s₁ B hml hv
  obtain ⟨rfl, ⟨hsz, hY⟩, ⟨hb0, hP, hK⟩, hZ⟩ := hv
  have h := body (p, l, e, rm, s, m, av.toArray, below, meth, c, D, tys, base) rfl rfl rfl rfl rfl B.returns ((name_of_methodNamed B.named B.method).1.trans hn) hsz hY ⟨B.exec, B.bytes, hml, findClass_of_methodNamed B.named, fun w hw => atoms_spec B.pre w (List.mem_cons_of_mem _ hw), hK, hb0, B.notSynchronized, xa_J N base, hZ⟩
  rw [lg_entry_eq]
  exact h s.heap [] _ hP va_S.rf (xw_entry av q hlen hc)
section XO
variable {G : xwG} {Q : State → Prop} {cc : ByteArray} {own : String} {nL cells slots N : Nat} {ce ce' : Nat → va_E} {pc : Nat} {lv : List (Option Value)} {st st0 : List Value}
variable {y : MethodName} {cc' : ByteArray} {nL' : Nat} {rm' : Room} {As : List Value} {k9 index n mc ms N' : Nat}
theorem xw_retn (C : xw_C G cc nL own N (xa (xgB G))) (hr : (xgM G).sig.returnType = none) {mc ms : Nat} (hc : cells ≤ mc) (hs : slots ≤ ms) (hd : decode cc pc = .ok (.return_, 1)) : XW G (xw_qn G N ce mc ms) nL cells slots N (xa (xgB G)) ce pc lv [] :=
  fun H locs ls hP hS hL => W.widen hc hs (W.vret C.1 C.2.1 hr (fun t ht hW => ⟨⟨(), rfl, trivial, xw_Bof C hP hS ht hW.alike⟩, hS.F ht⟩) hS.2.2 hd C.2.2.2.2.2.2.2.1)
def xf_I (y : MethodName) (cc' : ByteArray) (nL' : Nat) (n : Nat) : Prop :=
  Cond.instanceMethod y ∈ xw_big ∧ Cond.initialized y.cls ∈ xw_big ∧ Cond.code y cc' nL' none ∈ xw_big ∧ y.name = "<init>" ∧ y.cls ≠ "java/lang/invoke/MethodHandle" ∧ y.cls ≠ "java/lang/invoke/VarHandle" ∧ (parseMethodDescriptor y.desc).map (fun d => d.parameters.length) = some n
theorem xn_blind {D : va_G} {tys : List (ClassId × FieldType)} {base : Nat} {av : List Value} : FrameBlind (va_Pc av (fun U => (U.heap.size = base + N ∧ xw_Y U) ∧ xw_B D tys base N (xa base) ce U ∧ xw_Z base U)) := fun a U g mk q => by
  obtain ⟨q0, ⟨q1, q2⟩, q3⟩ := q
  obtain ⟨z0, z1⟩ := xf_blind (ce := ce) a U g mk ⟨q0, q3⟩
  exact ⟨z0, ⟨q1, xw_Y.moved (u := U) (U := U.calling g mk a) (Vm.Alike.refl U.vm) q2⟩, z1⟩
theorem xn_call (C : xw_C G cc nL own N (xa (xgB G))) (hY : xw_Y (xgs G)) (hcnt : (xgs G).heap.size + cells = xgB G + N) (hM : xk_n (xgl G) y cc' nL' rm' (xgD G) (xgt G) (xgB G) N N' (.ref (xa (xgB G) k9) :: As) ce ce' mc ms) (F : xf_I y cc' nL' n) (hl : Cond.methodLink own index y ∈ xw_big) (hR : xf_R rm' nL' (xgR G) mc ms) (hcs : cells + mc ≤ (xgR G).cells ∧ slots + ms ≤ (xgR G).slots) (hn : As.length = n) (hst : (st.map fun v => v.category).sum ≤ 8) (hd : decode cc pc = .ok (.invokespecial index, 3)) (hs : st0 = As.reverse ++ .ref (xa (xgB G) k9) :: st)
    (k : XW G Q nL (cells + mc) (slots + ms) N' (xa (xgB G)) ce' (pc + 3) lv st) : XW G Q nL cells slots N (xa (xgB G)) ce pc lv st0 := by
  subst hs
  intro H locs ls hP hS hL T0 hT X
  have hsz := xn_sz C hcnt hP hS hT X
  have key : xgW G H locs cells slots Q (F0 (xgm G) pc ls (As.reverse ++ .ref (xa (xgB G) k9) :: st)) := by
    refine va_callv (va_runI (As := As) (rest := st) ⟨C.1, C.2.1, C.2.2.1, C.2.2.2.1, C.2.2.2.2.1⟩ hM (cwI n C.2.2.2.2.1 (xw_gs (xw_gcode F.2.2.1)) rfl hR.1 hR.2.1 (C.2.2.2.2.1 _ F.2.1) (C.2.2.2.2.1 _ hl) (C.2.2.2.2.1 _ F.1) F.2.2.2.1 F.2.2.2.2 ⟨hR.2.2.1, hR.2.2.2⟩) ⟨xn_blind, fun U hU hW => ?_⟩ rfl hn hL.1 rfl (lv_room hst) hd hcs) hS (fun q _ h => h) (fun q h => h) (fun u t H1 locs1 ht hvm hw hB hz hk1 hS1 => ?_)
    · obtain ⟨z0, z1⟩ := xf_pre (av := .ref (xa (xgB G) k9) :: As) C hP hS U hU hW
      exact ⟨z0, ⟨by rw [hU]; exact hsz, xw_Y.moved hW.alike hY⟩, z1⟩
    · exact k H1 locs1 ls (by rw [← ht]; exact hB.2.1) hS1 hL
  exact key T0 hT X
/-- a private constructor of a nest mate -/
theorem xn_callN {host : String} (C : xw_C G cc nL own N (xa (xgB G))) (hY : xw_Y (xgs G)) (hcnt : (xgs G).heap.size + cells = xgB G + N) (hM : xk_n (xgl G) y cc' nL' rm' (xgD G) (xgt G) (xgB G) N N' (.ref (xa (xgB G) k9) :: As) ce ce' mc ms) (F : xf_I y cc' nL' n) (hl : va_Nw (.methodLinkNest own index y host) (xgs G)) (hR : xf_R rm' nL' (xgR G) mc ms) (hcs : cells + mc ≤ (xgR G).cells ∧ slots + ms ≤ (xgR G).slots) (hn : As.length = n) (hst : (st.map fun v => v.category).sum ≤ 8) (hd : decode cc pc = .ok (.invokespecial index, 3)) (hs : st0 = As.reverse ++ .ref (xa (xgB G) k9) :: st)
    (k : XW G Q nL (cells + mc) (slots + ms) N' (xa (xgB G)) ce' (pc + 3) lv st) : XW G Q nL cells slots N (xa (xgB G)) ce pc lv st0 := by
  subst hs
  intro H locs ls hP hS hL T0 hT X
  have hsz := xn_sz C hcnt hP hS hT X
  have key : xgW G H locs cells slots Q (F0 (xgm G) pc ls (As.reverse ++ .ref (xa (xgB G) k9) :: st)) := by
    refine va_callv (va_runIN (As := As) (rest := st) (host := host) ⟨C.1, C.2.1, C.2.2.1, C.2.2.2.1, C.2.2.2.2.1⟩ hM ⟨va_cnB n C.2.2.2.2.1 (xw_gs (xw_gcode F.2.2.1)) rfl hR.1 hR.2.1 hl (C.2.2.2.2.1 _ F.2.1) F.2.2.2.2 ⟨hR.2.2.1, hR.2.2.2⟩, F.2.2.2.1, C.2.2.2.2.1 _ F.1⟩ ⟨xn_blind, fun U hU hW => ?_⟩ rfl hn hL.1 rfl (lv_room hst) hd hcs) hS (fun q _ h => h) (fun q h => h) (fun u t H1 locs1 ht hvm hw hB hz hk1 hS1 => ?_)
    · obtain ⟨z0, z1⟩ := xf_pre (av := .ref (xa (xgB G) k9) :: As) C hP hS U hU hW
      exact ⟨z0, ⟨by rw [hU]; exact hsz, xw_Y.moved hW.alike hY⟩, z1⟩
    · exact k H1 locs1 ls (by rw [← ht]; exact hB.2.1) hS1 hL
  exact key T0 hT X
end XO
