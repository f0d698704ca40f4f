/-! ===== the world of this claim: the class's cells (0 .. 417), the reference's (418 .. 429), the law's long[] (430) ===== -/
abbrev xmC : Type := ClassId × ClassId × ClassId × ClassId
abbrev xm_tys (cs : xmC) : List (ClassId × FieldType) := [(cs.1, .int), (cs.2.1, .object RX1), (cs.2.2.1, .array .int), (cs.2.2.2, .long)]
def xm_len (k : Nat) : Nat := if k = 419 then 144 else if k = 420 then 12 else if k < 427 then 144 else if k < 429 then 1728 else 1806
def xm_sh (ad : Nat → Nat) (cs : xmC) (k : Nat) (r : Nat → Int32) : va_E :=
  if k = 0 then .inr (2, [.ref (ad 1), .ref (ad 410)])
  else if k = 1 then .inl (cs.2.1, 12, .inr (.inr (.inr (.inr (fun i => some (ad (2 + 34 * i)))))))
  else if k < 410 then
    (if (k - 2) % 34 = 0 then .inr (1, [.ref (ad (k + 1)), .ref (ad (k + 2)), .ref (ad (k + 3)), .ref (ad (k + 4)), .ref (ad (k + 5)), .ref (ad (k + 6)), .ref (ad (k + 7)), .ref (ad (k + 8)), .ref (ad (k + 21)), .int (r 9)])
    else if (k - 2) % 34 = 8 ∨ (k - 2) % 34 = 21 then .inl (cs.2.2.1, 12, .inr (.inr (.inr (.inr (fun i => some (ad (k + 1 + i)))))))
    else .inl (cs.1, 12, .inl r))
  else if k = 410 then .inr (0, [.ref (ad 411), .int (r 1), .int (r 2), .int (r 3), .int (r 4), .int (r 5)])
  else if k = 411 then .inl (cs.2.2.1, 6, .inr (.inr (.inr (.inr (fun i => some (ad (412 + i)))))))
  else if k < 418 then .inl (cs.1, 300, .inl r)
  else if k = 418 then .inr (3, [.int (r 0), .ref (ad 419), .int (r 2), .ref (ad 420), .ref (ad 421), .ref (ad 422), .ref (ad 423), .ref (ad 424), .ref (ad 425), .ref (ad 426), .ref (ad 427), .ref (ad 428), .ref (ad 429), .int (r 13), .int (r 14), .int (r 15), .int (r 16)])
  else if k < 430 then .inl (cs.1, xm_len k, .inl r)
  else .inl (cs.2.2.2, 1, .inr (.inl (fun j => (r j).toInt64)))
def xm_ce (ad : Nat → Nat) (cs : xmC) (M : xwM) : Nat → va_E := fun k => xm_sh ad cs k (M k)
def ms (M : xwM) (k i : Nat) (x : Int32) : xwM := va_up M k (upd (M k) i x)
theorem ms_at (M : xwM) (k i : Nat) (x : Int32) (a b : Nat) : ms M k i x a b = if a = k ∧ b = i then x else M a b := by
  unfold ms va_up upd
  by_cases h : a = k
  · subst h
    by_cases h2 : b = i <;> simp [h2]
  · simp [h]
def fil (M : xwM) (k n : Nat) (x : Int32) : xwM := va_up M k (fun i => if i < n then x else M k i)
theorem fil_at (M : xwM) (k n : Nat) (x : Int32) (a b : Nat) : fil M k n x a b = if a = k ∧ b < n then x else M a b := by
  unfold fil va_up
  by_cases h : a = k
  · subst h
    by_cases h2 : b < n <;> simp [h2]
  · simp [h]
theorem xm_up {ad : Nat → Nat} {cs : xmC} {M : xwM} {k : Nat} {e : va_E} {r : Nat → Int32} (h : xm_sh ad cs k r = e) : va_up (xm_ce ad cs M) k e = xm_ce ad cs (va_up M k r) := by
  funext j
  unfold xm_ce va_up
  by_cases hj : j = k
  · subst hj
    simp [h]
  · simp [hj]
section XS
variable {ad : Nat → Nat} {cs : xmC} {r : Nat → Int32} {n m : Nat}
theorem xs_0 : xm_sh ad cs 0 r = .inr (2, [.ref (ad 1), .ref (ad 410)]) := rfl
theorem xs_1 : xm_sh ad cs 1 r = .inl (cs.2.1, 12, .inr (.inr (.inr (.inr (fun i => some (ad (2 + 34 * i))))))) := rfl
theorem xs_R (h : n < 12) : xm_sh ad cs (2 + 34 * n) r = .inr (1, [.ref (ad (3 + 34 * n)), .ref (ad (4 + 34 * n)), .ref (ad (5 + 34 * n)), .ref (ad (6 + 34 * n)), .ref (ad (7 + 34 * n)), .ref (ad (8 + 34 * n)), .ref (ad (9 + 34 * n)), .ref (ad (10 + 34 * n)), .ref (ad (23 + 34 * n)), .int (r 9)]) := by
  unfold xm_sh
  rw [if_neg (by omega), if_neg (by omega), if_pos (by omega), if_pos (by omega)]
  rw [show 2 + 34 * n + 1 = 3 + 34 * n by omega, show 2 + 34 * n + 2 = 4 + 34 * n by omega, show 2 + 34 * n + 3 = 5 + 34 * n by omega, show 2 + 34 * n + 4 = 6 + 34 * n by omega, show 2 + 34 * n + 5 = 7 + 34 * n by omega, show 2 + 34 * n + 6 = 8 + 34 * n by omega, show 2 + 34 * n + 7 = 9 + 34 * n by omega, show 2 + 34 * n + 8 = 10 + 34 * n by omega, show 2 + 34 * n + 21 = 23 + 34 * n by omega]
theorem xs_A (j : Nat) (hj : 3 ≤ j ∧ j ≤ 9) (h : n < 12) : xm_sh ad cs (j + 34 * n) r = .inl (cs.1, 12, .inl r) := by
  unfold xm_sh
  rw [if_neg (by omega), if_neg (by omega), if_pos (by omega), if_neg (by omega), if_neg (by omega)]
theorem xs_O (j : Nat) (hj : j = 10 ∨ j = 23) (h : n < 12) : xm_sh ad cs (j + 34 * n) r = .inl (cs.2.2.1, 12, .inr (.inr (.inr (.inr (fun i => some (ad (j + 34 * n + 1 + i))))))) := by
  unfold xm_sh
  rw [if_neg (by omega), if_neg (by omega), if_pos (by omega), if_neg (by omega), if_pos (by omega)]
theorem xs_T (j : Nat) (hj : j = 10 ∨ j = 23) (h : n < 12) (hm : m < 12) : xm_sh ad cs (j + 34 * n + 1 + m) r = .inl (cs.1, 12, .inl r) := by
  unfold xm_sh
  rw [if_neg (by omega), if_neg (by omega), if_pos (by omega), if_neg (by omega), if_neg (by omega)]
theorem xs_L : xm_sh ad cs 410 r = .inr (0, [.ref (ad 411), .int (r 1), .int (r 2), .int (r 3), .int (r 4), .int (r 5)]) := rfl
theorem xs_F : xm_sh ad cs 411 r = .inl (cs.2.2.1, 6, .inr (.inr (.inr (.inr (fun i => some (ad (412 + i))))))) := rfl
theorem xs_W (hm : m < 6) : xm_sh ad cs (412 + m) r = .inl (cs.1, 300, .inl r) := by
  unfold xm_sh
  rw [if_neg (by omega), if_neg (by omega), if_neg (by omega), if_neg (by omega), if_neg (by omega), if_pos (by omega)]
theorem xs_M : xm_sh ad cs 418 r = .inr (3, [.int (r 0), .ref (ad 419), .int (r 2), .ref (ad 420), .ref (ad 421), .ref (ad 422), .ref (ad 423), .ref (ad 424), .ref (ad 425), .ref (ad 426), .ref (ad 427), .ref (ad 428), .ref (ad 429), .int (r 13), .int (r 14), .int (r 15), .int (r 16)]) := rfl
theorem xs_419 : xm_sh ad cs 419 r = .inl (cs.1, 144, .inl r) := rfl
theorem xs_420 : xm_sh ad cs 420 r = .inl (cs.1, 12, .inl r) := rfl
theorem xs_421 : xm_sh ad cs 421 r = .inl (cs.1, 144, .inl r) := rfl
theorem xs_422 : xm_sh ad cs 422 r = .inl (cs.1, 144, .inl r) := rfl
theorem xs_423 : xm_sh ad cs 423 r = .inl (cs.1, 144, .inl r) := rfl
theorem xs_424 : xm_sh ad cs 424 r = .inl (cs.1, 144, .inl r) := rfl
theorem xs_425 : xm_sh ad cs 425 r = .inl (cs.1, 144, .inl r) := rfl
theorem xs_426 : xm_sh ad cs 426 r = .inl (cs.1, 144, .inl r) := rfl
theorem xs_427 : xm_sh ad cs 427 r = .inl (cs.1, 1728, .inl r) := rfl
theorem xs_428 : xm_sh ad cs 428 r = .inl (cs.1, 1728, .inl r) := rfl
theorem xs_429 : xm_sh ad cs 429 r = .inl (cs.1, 1806, .inl r) := rfl
theorem xs_430 : xm_sh ad cs 430 r = .inl (cs.2.2.2, 1, .inr (.inl (fun j => (r j).toInt64))) := rfl
end XS
/-- the machine at pc, the world holding M -/
abbrev XV (G : xwG) (Q : State → Prop) (nL cells slots : Nat) (ad : Nat → Nat) (cs : xmC) (M : xwM) (pc : Nat) (lv : List (Option Value)) (st : List Value) : Prop := XW G Q nL cells slots 431 ad (xm_ce ad cs M) pc lv st
section XV
variable {G : xwG} {Q : State → Prop} {cc : ByteArray} {own : String} {nL cells slots : Nat} {ad : Nat → Nat} {cs : xmC} {M : xwM} {pc : Nat} {lv : List (Option Value)} {st : List Value}
theorem xv_getf (C : xw_C G cc nL own 431 ad) {k9 ci NF index : Nat} {Cn : String} {T : u_T} {fs : List Value} (hk : k9 < 431) (he : xm_sh ad cs k9 (M k9) = .inr (ci, fs)) (hc : vwCl[ci]? = some (Cn, T, NF)) (hin : ∀ w ∈ u_ws Cn T NF, w ∈ xw_big) (j : Nat) (hj : j < NF) (hw : Cond.fieldLink own index (T j).1 (T j).2.1 (T j).2.2.1 ∈ xw_big) {v : Value} (hv : fs[j]? = some v) (hd : decode cc pc = .ok (.getfield index, 3))
    (k : XV G Q nL cells slots ad cs M (pc + 3) lv (v :: st)) : XV G Q nL cells slots ad cs M pc lv (.ref (ad k9) :: st) :=
  xw_getf C hk he hc hin j hj hw hv hd k
theorem xv_putf (C : xw_C G cc nL own 431 ad) {k9 ci NF index : Nat} {Cn : String} {T : u_T} {fs : (Nat → Int32) → List Value} (hk : k9 < 431) (he : ∀ r, xm_sh ad cs k9 r = .inr (ci, fs r)) (hc : vwCl[ci]? = some (Cn, T, NF)) (hin : ∀ w ∈ u_ws Cn T NF, w ∈ xw_big) (ty0 : Nat → FieldType) (hty : ∀ k, k < NF → parseFieldDescriptor (T k).2.2.1 = some (ty0 k)) (hnm : ∀ a, a < NF → ∀ b, b < NF → a ≠ b → (T a).2.1 ≠ (T b).2.1) (j : Nat) (hj : j < NF) (hw : Cond.fieldLink own index (T j).1 (T j).2.1 (T j).2.2.1 ∈ xw_big) (hfin : (T j).2.2.2 = false) {x : Int32} (hty1 : ty0 j = .int) (hl : ∀ r, j < (fs r).length) (hfs : ∀ r, (fs r).set j (.int x) = fs (upd r j x)) (hd : decode cc pc = .ok (.putfield index, 3))
    (k : XV G Q nL cells slots ad cs (ms M k9 j x) (pc + 3) lv st) : XV G Q nL cells slots ad cs M pc lv (.int x :: .ref (ad k9) :: st) := by
  refine xw_putf C hk (he (M k9)) hc hin ty0 hty hnm j hj hw hfin hty1 (hl _) (hfs (M k9)) hd ?_
  rw [xm_up (he (upd (M k9) j x))]
  exact k
theorem xv_iald (C : xw_C G cc nL own 431 ad) (ht : xgt G = xm_tys cs) {k9 n : Nat} {i : Int32} (hk : k9 < 431) (he : xm_sh ad cs k9 (M k9) = .inl (cs.1, n, .inl (M k9))) (hi : ¬ (i < 0 ∨ n ≤ i.toNatClampNeg)) (hd : decode cc pc = .ok (.iaload, 1))
    (k : XV G Q nL cells slots ad cs M (pc + 1) lv (.int (M k9 i.toNatClampNeg) :: st)) : XV G Q nL cells slots ad cs M pc lv (.int i :: .ref (ad k9) :: st) :=
  xw_iald C (t0 := 0) hk he (by rw [ht]; rfl) hi hd k
theorem xv_iast (C : xw_C G cc nL own 431 ad) (ht : xgt G = xm_tys cs) {k9 n : Nat} {i x : Int32} (hk : k9 < 431) (he : ∀ r, xm_sh ad cs k9 r = .inl (cs.1, n, .inl r)) (hi : ¬ (i < 0 ∨ n ≤ i.toNatClampNeg)) (hd : decode cc pc = .ok (.iastore, 1))
    (k : XV G Q nL cells slots ad cs (ms M k9 i.toNatClampNeg x) (pc + 1) lv st) : XV G Q nL cells slots ad cs M pc lv (.int x :: .int i :: .ref (ad k9) :: st) := by
  refine xw_iast C (t0 := 0) hk (he (M k9)) (by rw [ht]; rfl) hi hd ?_
  rw [xm_up (he (upd (M k9) i.toNatClampNeg x))]
  exact k
theorem xv_aldR (C : xw_C G cc nL own 431 ad) (ht : xgt G = xm_tys cs) {i : Int32} (hi : ¬ (i < 0 ∨ 12 ≤ i.toNatClampNeg)) (hd : decode cc pc = .ok (.aaload, 1))
    (k : XV G Q nL cells slots ad cs M (pc + 1) lv (.ref (ad (2 + 34 * i.toNatClampNeg)) :: st)) : XV G Q nL cells slots ad cs M pc lv (.int i :: .ref (ad 1) :: st) :=
  xw_aald C (t0 := 1) (by decide) (show xm_ce ad cs M 1 = _ from xs_1) (by rw [ht]; rfl) rfl hi rfl hd k
theorem xv_aldT (C : xw_C G cc nL own 431 ad) (ht : xgt G = xm_tys cs) {j n : Nat} {i : Int32} (hj : j = 10 ∨ j = 23) (hn : n < 12) (hi : ¬ (i < 0 ∨ 12 ≤ i.toNatClampNeg)) (hd : decode cc pc = .ok (.aaload, 1))
    (k : XV G Q nL cells slots ad cs M (pc + 1) lv (.ref (ad (j + 34 * n + 1 + i.toNatClampNeg)) :: st)) : XV G Q nL cells slots ad cs M pc lv (.int i :: .ref (ad (j + 34 * n)) :: st) :=
  xw_aald C (t0 := 2) (by omega) (show xm_ce ad cs M (j + 34 * n) = _ from xs_O j hj hn) (by rw [ht]; rfl) rfl hi rfl hd k
theorem xv_aldF (C : xw_C G cc nL own 431 ad) (ht : xgt G = xm_tys cs) {i : Int32} (hi : ¬ (i < 0 ∨ 6 ≤ i.toNatClampNeg)) (hd : decode cc pc = .ok (.aaload, 1))
    (k : XV G Q nL cells slots ad cs M (pc + 1) lv (.ref (ad (412 + i.toNatClampNeg)) :: st)) : XV G Q nL cells slots ad cs M pc lv (.int i :: .ref (ad 411) :: st) :=
  xw_aald C (t0 := 2) (by decide) (show xm_ce ad cs M 411 = _ from xs_F) (by rw [ht]; rfl) rfl hi rfl hd k
theorem xv_tab (C : xw_C G cc nL own 431 ad) {dflt lo hi : Int} {offs : Array Int} {len : Nat} {x : Int32} {off : Int} {tgt : Nat} (hd : decode cc pc = .ok (.tableswitch dflt lo hi offs, len)) (h1 : ¬ x.toInt < lo) (h2 : ¬ hi < x.toInt) (ho : offs[(x.toInt - lo).toNat]? = some off) (ht : (pc : Int) + off = (tgt : Int))
    (k : XV G Q nL cells slots ad cs M tgt lv st) : XV G Q nL cells slots ad cs M pc lv (.int x :: st) :=
  fun H locs ls hP hS hL => lv_tableIn C.1 C.2.1 hd h1 h2 ho ht (k H locs ls hP hS hL)
theorem xv_tabO (C : xw_C G cc nL own 431 ad) {dflt lo hi : Int} {offs : Array Int} {len : Nat} {x : Int32} {tgt : Nat} (hd : decode cc pc = .ok (.tableswitch dflt lo hi offs, len)) (h : x.toInt < lo ∨ hi < x.toInt) (ht : (pc : Int) + dflt = (tgt : Int))
    (k : XV G Q nL cells slots ad cs M tgt lv st) : XV G Q nL cells slots ad cs M pc lv (.int x :: st) :=
  fun H locs ls hP hS hL => lv_tableOut C.1 C.2.1 hd h ht (k H locs ls hP hS hL)
theorem xv_min (C : xw_C G cc nL own 431 ad) {index : Nat} {x y : Int32} (h1 : Cond.methodLink own index Lib.Math.min.name ∈ xw_big) (h2 : Cond.static Lib.Math.min.name ∈ xw_big) (h3 : Cond.initialized "java/lang/Math" ∈ xw_big) (h4 : Cond.code Lib.Math.min.name Lib.Math.min.code 2 (some .int) ∈ xw_big) (hR : 1 ≤ (xgR G).frames ∧ (st.map fun v => v.category).sum + 13 ≤ (xgR G).locals ∧ cells ≤ (xgR G).cells ∧ slots ≤ (xgR G).slots) (hd : decode cc pc = .ok (.invokestatic index, 3))
    (k : XV G Q nL cells slots ad cs M (pc + 3) lv (.int (if y < x then y else x) :: st)) : XV G Q nL cells slots ad cs M pc lv (.int y :: .int x :: st) :=
  fun H locs ls hP hS hL => va_mmin C.1 C.2.1 (by rw [C.2.2.1, hL.1]) C.2.2.2.1 (C.2.2.2.2.1 _ h1) (C.2.2.2.2.1 _ h2) (C.2.2.2.2.1 _ h3) (C.2.2.2.2.1 _ h4) hR.1 hR.2.1 hR.2.2.1 hR.2.2.2 hd (k H locs ls hP hS hL)
theorem xv_max (C : xw_C G cc nL own 431 ad) {index : Nat} {x y : Int32} (h1 : Cond.methodLink own index Lib.Math.max.name ∈ xw_big) (h2 : Cond.static Lib.Math.max.name ∈ xw_big) (h3 : Cond.initialized "java/lang/Math" ∈ xw_big) (h4 : Cond.code Lib.Math.max.name Lib.Math.max.code 2 (some .int) ∈ xw_big) (hR : 1 ≤ (xgR G).frames ∧ (st.map fun v => v.category).sum + 13 ≤ (xgR G).locals ∧ cells ≤ (xgR G).cells ∧ slots ≤ (xgR G).slots) (hd : decode cc pc = .ok (.invokestatic index, 3))
    (k : XV G Q nL cells slots ad cs M (pc + 3) lv (.int (if x < y then y else x) :: st)) : XV G Q nL cells slots ad cs M pc lv (.int y :: .int x :: st) :=
  fun H locs ls hP hS hL => va_mmax C.1 C.2.1 (by rw [C.2.2.1, hL.1]) C.2.2.2.1 (C.2.2.2.2.1 _ h1) (C.2.2.2.2.1 _ h2) (C.2.2.2.2.1 _ h3) (C.2.2.2.2.1 _ h4) hR.1 hR.2.1 hR.2.2.1 hR.2.2.2 hd (k H locs ls hP hS hL)
end XV
/-! ===== the programs as functions: none where an index is out of its row, or the fuel is out ===== -/
def ld {α : Type} (M : xwM) (k n : Nat) (i : Int32) (f : Int32 → Option α) : Option α := if i < 0 ∨ n ≤ i.toNatClampNeg then none else f (M k i.toNatClampNeg)
def sto {α : Type} (M : xwM) (k n : Nat) (i x : Int32) (f : xwM → Option α) : Option α := if i < 0 ∨ n ≤ i.toNatClampNeg then none else f (ms M k i.toNatClampNeg x)
def ixr {α : Type} (n : Nat) (i : Int32) (f : Nat → Option α) : Option α := if i < 0 ∨ n ≤ i.toNatClampNeg then none else f i.toNatClampNeg
def bni {α : Type} (o : Option (Int32 × xwM)) (f : Int32 → xwM → Option α) : Option α := match o with
  | none => none
  | some q => f q.1 q.2
def bnv {α : Type} (o : Option xwM) (f : xwM → Option α) : Option α := match o with
  | none => none
  | some q => f q
abbrev xwX : Type := (Int32 ⊕ String) × xwM
def bnx (o : Option xwX) (f : Int32 → xwM → Option xwX) : Option xwX := match o with
  | none => none
  | some (.inl r, M) => f r M
  | some (.inr E, M) => some (.inr E, M)
theorem ld_s {α : Type} {M : xwM} {k n : Nat} {i : Int32} {f : Int32 → Option α} {o : α} (h : ld M k n i f = some o) : ¬ (i < 0 ∨ n ≤ i.toNatClampNeg) ∧ f (M k i.toNatClampNeg) = some o := by
  unfold ld at h
  by_cases c : i < 0 ∨ n ≤ i.toNatClampNeg
  · rw [if_pos c] at h; cases h
  · rw [if_neg c] at h; exact ⟨c, h⟩
theorem sto_s {α : Type} {M : xwM} {k n : Nat} {i x : Int32} {f : xwM → Option α} {o : α} (h : sto M k n i x f = some o) : ¬ (i < 0 ∨ n ≤ i.toNatClampNeg) ∧ f (ms M k i.toNatClampNeg x) = some o := by
  unfold sto at h
  by_cases c : i < 0 ∨ n ≤ i.toNatClampNeg
  · rw [if_pos c] at h; cases h
  · rw [if_neg c] at h; exact ⟨c, h⟩
theorem ixr_s {α : Type} {n : Nat} {i : Int32} {f : Nat → Option α} {o : α} (h : ixr n i f = some o) : ¬ (i < 0 ∨ n ≤ i.toNatClampNeg) ∧ i.toNatClampNeg < n ∧ f i.toNatClampNeg = some o := by
  unfold ixr at h
  by_cases c : i < 0 ∨ n ≤ i.toNatClampNeg
  · rw [if_pos c] at h; cases h
  · rw [if_neg c] at h; exact ⟨c, Nat.not_le.mp (fun q => c (Or.inr q)), h⟩
theorem bni_s {α : Type} {q : Option (Int32 × xwM)} {f : Int32 → xwM → Option α} {o : α} (h : bni q f = some o) : ∃ r M, q = some (r, M) ∧ f r M = some o := by
  match q, h with
  | some (r, M), h => exact ⟨r, M, rfl, h⟩
theorem bnv_s {α : Type} {q : Option xwM} {f : xwM → Option α} {o : α} (h : bnv q f = some o) : ∃ M, q = some M ∧ f M = some o := by
  match q, h with
  | some M, h => exact ⟨M, rfl, h⟩
theorem bnx_s {q : Option xwX} {f : Int32 → xwM → Option xwX} {o : xwX} (h : bnx q f = some o) : (∃ r M, q = some (.inl r, M) ∧ f r M = some o) ∨ (∃ E M, q = some (.inr E, M) ∧ o = (.inr E, M)) := by
  match q, h with
  | some (.inl r, M), h => exact Or.inl ⟨r, M, rfl, h⟩
  | some (.inr E, M), h => exact Or.inr ⟨E, M, rfl, (Option.some.inj h).symm⟩
theorem it_t {α : Type} {c : Prop} [Decidable c] {A B : Option α} {o : α} (h : (if c then A else B) = some o) (hc : c) : A = some o := by
  rw [if_pos hc] at h; exact h
theorem it_f {α : Type} {c : Prop} [Decidable c] {A B : Option α} {o : α} (h : (if c then A else B) = some o) (hc : ¬ c) : B = some o := by
  rw [if_neg hc] at h; exact h
