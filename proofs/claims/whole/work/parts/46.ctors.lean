/-! ===== the four constructors ===== -/
/-- below k0 as Z says, at k0 an object of class ci with the fields fs, above it the finished shapes -/
def xt (k0 ci : Nat) (Z : Nat → va_E) (ad : Nat → Nat) (cs : xmC) (fs : List Value) (M : xwM) : Nat → va_E := fun k => if k < k0 then Z k else if k = k0 then .inr (ci, fs) else xm_sh ad cs k (M k)
theorem xt_0 {k0 ci : Nat} {Z : Nat → va_E} {ad : Nat → Nat} {cs : xmC} {fs : List Value} {M : xwM} : xt k0 ci Z ad cs fs M k0 = .inr (ci, fs) := by
  unfold xt
  rw [if_neg (by omega), if_pos rfl]
theorem xt_g {k0 ci k : Nat} {Z : Nat → va_E} {ad : Nat → Nat} {cs : xmC} {fs : List Value} {M : xwM} (h : k0 < k) : xt k0 ci Z ad cs fs M k = xm_sh ad cs k (M k) := by
  unfold xt
  rw [if_neg (by omega), if_neg (by omega)]
theorem xt_l {k0 ci k : Nat} {Z : Nat → va_E} {ad : Nat → Nat} {cs : xmC} {fs : List Value} {M : xwM} (h : k < k0) : xt k0 ci Z ad cs fs M k = Z k := by
  unfold xt
  rw [if_pos h]
theorem xt_f {k0 ci : Nat} {Z : Nat → va_E} {ad : Nat → Nat} {cs : xmC} {fs fs' : List Value} {M : xwM} : va_up (xt k0 ci Z ad cs fs M) k0 (.inr (ci, fs')) = xt k0 ci Z ad cs fs' M := by
  funext k
  unfold va_up
  by_cases h : k = k0
  · subst h
    rw [if_pos rfl, xt_0]
  · rw [if_neg h]
    unfold xt
    by_cases h2 : k < k0
    · rw [if_pos h2, if_pos h2]
    · rw [if_neg h2, if_neg h2, if_neg h, if_neg h]
theorem xt_u {k0 ci k : Nat} {Z : Nat → va_E} {ad : Nat → Nat} {cs : xmC} {fs : List Value} {M : xwM} {e : va_E} {r : Nat → Int32} (hk : k0 < k) (he : xm_sh ad cs k r = e) : va_up (xt k0 ci Z ad cs fs M) k e = xt k0 ci Z ad cs fs (va_up M k r) := by
  funext j
  unfold va_up
  by_cases h : j = k
  · subst h
    rw [if_pos rfl, xt_g hk]
    show e = xm_sh ad cs j (if j = j then r else M j)
    rw [if_pos rfl, he]
  · rw [if_neg h]
    unfold xt
    by_cases h2 : j < k0
    · rw [if_pos h2, if_pos h2]
    · rw [if_neg h2, if_neg h2]
      by_cases h3 : j = k0
      · rw [if_pos h3, if_pos h3]
      · rw [if_neg h3, if_neg h3]
        show xm_sh ad cs j (M j) = xm_sh ad cs j (if j = k then r else M j)
        rw [if_neg h]
section XQ
variable {G : xwG} {Q : State → Prop} {cc : ByteArray} {own : String} {nL cells slots N : Nat} {cs : xmC} {pc : Nat} {lv : List (Option Value)} {st : List Value} {k0 ci : Nat} {Z : Nat → va_E} {fs : List Value} {M : xwM}
theorem xq_arr (C : xw_C G cc nL own N (xa (xgB G))) (ht : xgt G = xm_tys cs) (hcnt : (xgs G).heap.size + cells = xgB G + N) {n : Int32} {len N2 : Nat} (hn : ¬ n < 0) (hlen : n.toNatClampNeg = len) (hbytes : len * componentBytes .int ≤ 536870912) (hk0 : k0 < N) (hsh : ∀ r, xm_sh (xa (xgB G)) cs N r = .inl (cs.1, len, .inl r)) (hz : M N = fun _ => 0) (hw : Cond.arrayClass .int ∈ xw_big) (hR : cells + 1 ≤ (xgR G).cells ∧ slots + len ≤ (xgR G).slots) (hN2 : N + 1 = N2) (hd : decode cc pc = .ok (.newarray .int, 2))
    (k : XW G Q nL (cells + 1) (slots + len) N2 (xa (xgB G)) (xt k0 ci Z (xa (xgB G)) cs fs M) (pc + 2) lv (.ref (xa (xgB G) N) :: st)) : XW G Q nL cells slots N (xa (xgB G)) (xt k0 ci Z (xa (xgB G)) cs fs M) pc lv (.int n :: st) := by
  subst hN2
  exact xn_arr C ht hcnt hn hlen hbytes (fun _ _ => rfl) (by rw [xt_g hk0, hz]; exact hsh _) hw hR hd k
theorem xq_mna (C : xw_C G cc nL own N (xa (xgB G))) (ht : xgt G = xm_tys cs) (hcnt : (xgs G).heap.size + cells = xgB G + N) (hover : (Cond.arrayOver (.array .int)).before (xga G) (xgs G) = true) {n m : Int32} {n' m' index N2 : Nat} (hn : ¬ n < 0) (hm : ¬ m < 0) (hn' : n.toNatClampNeg = n') (hm' : m.toNatClampNeg = m') (hb1 : n' * 4 ≤ 536870912) (hb2 : m' * componentBytes .int ≤ 536870912) (hb3 : m' ≤ 536870912) (hk0 : k0 < N)
    (hsh : ∀ r, xm_sh (xa (xgB G)) cs N r = .inl (cs.2.2.1, n', .inr (.inr (.inr (.inr (fun i => some (xa (xgB G) (N + 1 + i)))))))) (hsr : ∀ i, i < n' → ∀ r, xm_sh (xa (xgB G)) cs (N + 1 + i) r = .inl (cs.1, m', .inl r)) (hz : ∀ k, N < k → M k = fun _ => 0) (hw : Cond.classLink own index "[[I" ∈ xw_big) (hw2 : Cond.arrayClass .int ∈ xw_big) (hR : cells + (1 + n') ≤ (xgR G).cells ∧ slots + (n' + n' * m') ≤ (xgR G).slots) (hN2 : N + 1 + n' = N2) (hd : decode cc pc = .ok (.multianewarray index 2, 4))
    (k : XW G Q nL (cells + 1 + n') (slots + n' + n' * m') N2 (xa (xgB G)) (xt k0 ci Z (xa (xgB G)) cs fs M) (pc + 4) lv (.ref (xa (xgB G) N) :: st)) : XW G Q nL cells slots N (xa (xgB G)) (xt k0 ci Z (xa (xgB G)) cs fs M) pc lv (.int m :: .int n :: st) := by
  subst hN2
  exact xn_mna C ht hcnt hover hn hm hn' hm' hb1 hb2 hb3 (fun _ _ => rfl) (by rw [xt_g hk0]; exact hsh _) (fun i hi => by rw [xt_g (by omega), hz _ (by omega)]; exact hsr i hi _) hw hw2 hR hd k
theorem xq_put (C : xw_C G cc nL own N (xa (xgB G))) (hini : (xgM G).name = "<init>") {NF index : Nat} {T : u_T} {fs' : List Value} {v : Value} {ty : FieldType} (hk : k0 < N) (hc : vwCl[ci]? = some (own, T, NF)) (hin : ∀ w ∈ u_ws own T NF, w ∈ xw_big) (ty0 : Nat → FieldType) (hty : ∀ k, k < NF → parseFieldDescriptor (T k).2.2.1 = some (ty0 k)) (hnm : ∀ a, a < NF → ∀ b, b < NF → a ≠ b → (T a).2.1 ≠ (T b).2.1) (j : Nat) (hj : j < NF) (hw : Cond.fieldLink own index (T j).1 (T j).2.1 (T j).2.2.1 ∈ xw_big) (hfin : (T j).2.2.2 = true) (hdecl : (T j).1 = own) (hty1 : ty0 j = ty) (hnv : narrow ty v = v) (hfit : fits ty v = true) (hl : j < fs.length) (hfs : fs.set j v = fs') (hd : decode cc pc = .ok (.putfield index, 3))
    (k : XW G Q nL cells slots N (xa (xgB G)) (xt k0 ci Z (xa (xgB G)) cs fs' M) (pc + 3) lv st) : XW G Q nL cells slots N (xa (xgB G)) (xt k0 ci Z (xa (xgB G)) cs fs M) pc lv (v :: .ref (xa (xgB G) k0) :: st) := by
  refine xw_putR C hini hk xt_0 hc hin ty0 hty hnm j hj hw hfin hdecl hty1 hnv hfit hl hfs hd ?_
  rw [xt_f]
  exact k
theorem xq_get (C : xw_C G cc nL own N (xa (xgB G))) {NF index : Nat} {T : u_T} {v : Value} (hk : k0 < N) (hc : vwCl[ci]? = some (own, T, NF)) (hin : ∀ w ∈ u_ws own T NF, w ∈ xw_big) (j : Nat) (hj : j < NF) (hw : Cond.fieldLink own index (T j).1 (T j).2.1 (T j).2.2.1 ∈ xw_big) (hv : fs[j]? = some v) (hd : decode cc pc = .ok (.getfield index, 3))
    (k : XW G Q nL cells slots N (xa (xgB G)) (xt k0 ci Z (xa (xgB G)) cs fs M) (pc + 3) lv (v :: st)) : XW G Q nL cells slots N (xa (xgB G)) (xt k0 ci Z (xa (xgB G)) cs fs M) pc lv (.ref (xa (xgB G) k0) :: st) :=
  xw_getf C hk xt_0 hc hin j hj hw hv hd k
theorem xq_fill {k9 n index : Nat} {x : Int32} (C : xw_C G cc nL own N (xa (xgB G))) (ht : xgt G = xm_tys cs) (hk0 : k0 < k9) (hk : k9 < N) (he : ∀ r, xm_sh (xa (xgB G)) cs k9 r = .inl (cs.1, n, .inl r)) (hn : n ≤ 2000) (hl : Cond.methodLink own index yJ7_fill_53178 ∈ xw_big) (hR : xf_R rJ7_fill 4 (xgR G) 0 0) (hcs : cells ≤ (xgR G).cells ∧ slots ≤ (xgR G).slots) (hst : (st.map fun v => v.category).sum ≤ 8) (hd : decode cc pc = .ok (.invokestatic index, 3))
    (k : XW G Q nL cells slots N (xa (xgB G)) (xt k0 ci Z (xa (xgB G)) cs fs (fil M k9 n x)) (pc + 3) lv st) : XW G Q nL cells slots N (xa (xgB G)) (xt k0 ci Z (xa (xgB G)) cs fs M) pc lv (.int x :: .ref (xa (xgB G) k9) :: st) := by
  refine xc_Sv (As := [.ref (xa (xgB G) k9), .int x]) C (mJ7_fill (xgl G) (xa_J N _) hk (by rw [xt_g hk0]; exact he (M k9)) (by rw [ht]; rfl) hn) FJ7_fill hl hR hcs rfl hst hd rfl ?_
  rw [xt_u hk0 (he (fun j => if j < n then x else M k9 j))]
  exact k
theorem xq_iast {k9 n : Nat} {i x : Int32} (C : xw_C G cc nL own N (xa (xgB G))) (ht : xgt G = xm_tys cs) (hk0 : k0 < k9) (hk : k9 < N) (he : ∀ r, xm_sh (xa (xgB G)) cs k9 r = .inl (cs.1, n, .inl r)) (hi : vp_in i n) (hd : decode cc pc = .ok (.iastore, 1))
    (k : XW G Q nL cells slots N (xa (xgB G)) (xt k0 ci Z (xa (xgB G)) cs fs (ms M k9 i.toNatClampNeg x)) (pc + 1) lv st) : XW G Q nL cells slots N (xa (xgB G)) (xt k0 ci Z (xa (xgB G)) cs fs M) pc lv (.int x :: .int i :: .ref (xa (xgB G) k9) :: st) := by
  refine xw_iast C (t0 := 0) hk (by rw [xt_g hk0]; exact he (M k9)) (by rw [ht]; rfl) hi hd ?_
  rw [xt_u hk0 (he (upd (M k9) i.toNatClampNeg x))]
  exact k
theorem xq_aald {k9 n q : Nat} {i : Int32} (C : xw_C G cc nL own N (xa (xgB G))) (ht : xgt G = xm_tys cs) (hk0 : k0 < k9) (hk : k9 < N) {f : Nat → Option Nat} (he : xm_sh (xa (xgB G)) cs k9 (M k9) = .inl (cs.2.2.1, n, .inr (.inr (.inr (.inr f))))) (hi : vp_in i n) (hq : f i.toNatClampNeg = some q) (hd : decode cc pc = .ok (.aaload, 1))
    (k : XW G Q nL cells slots N (xa (xgB G)) (xt k0 ci Z (xa (xgB G)) cs fs M) (pc + 1) lv (.ref q :: st)) : XW G Q nL cells slots N (xa (xgB G)) (xt k0 ci Z (xa (xgB G)) cs fs M) pc lv (.int i :: .ref (xa (xgB G) k9) :: st) :=
  xw_aald C (t0 := 2) hk (by rw [xt_g hk0]; exact he) (by rw [ht]; rfl) rfl hi hq hd k
end XQ
abbrev rX0_init : Room := { frames := 1, cells := 7, slots := 1806, locals := 20 }
set_option maxHeartbeats 4000000 in
set_option maxRecDepth 100000 in
theorem mX0_init (l : Launch) {D : va_G} {tys : List (ClassId × FieldType)} {base : Nat} {cs : xmC} (ht0 : tys = xm_tys cs) {Z : Nat → va_E} {M : xwM} (hz : ∀ k, 410 ≤ k → M k = fun _ => 0) :
    xk_n l yX0_init cX0_init 1 rX0_init D tys base 411 418 [.ref (xa base 410)] (xt 410 0 Z (xa base) cs [.null, .int 0, .int 0, .int 0, .int 0, .int 0] M) (fun k => if k < 410 then Z k else xm_sh (xa base) cs k (M k)) 7 1806 := by
  refine xk_ofn 0 (by decide) rfl (List.forall_mem_cons.mpr ⟨rfl, List.forall_mem_nil _⟩) (Nat.le_of_ble_eq_true rfl) (fun G e1 hR e3 e4 e5 hr hini hsz hY C => ?_)
  subst e5
  have ht : xgt G = xm_tys cs := e4.trans ht0
  refine xw_aload_n C dX0_init_0 0 rfl rfl ?_
  refine xw_obj C hw_108 hw_48 hw_49 (by rw [hR]; decide) dX0_init_1 ?_
  refine xw_aload_n C dX0_init_4 0 rfl rfl ?_
  refine xw_bipush (v := 6) C dX0_init_5 (by decide) ?_
  refine xw_sipush (v := 300) C dX0_init_7 (by decide) ?_
  refine xq_mna (n' := 6) (m' := 300) (N2 := 418) C ht (by omega) hY.2 (by decide) (by decide) (by decide) (by decide) (by decide) (by decide) (by decide) (by decide) (fun r => xs_F) (fun i hi r => xs_W hi) (fun k hk => hz k (by omega)) hw_109 hw_102 (by rw [hR]; decide) rfl dX0_init_10 ?_
  refine xq_put (xa_C C) hini (by decide) rfl inB0 tyX0 tyX0_ok nmX0 0 (by decide) hw_110 rfl rfl rfl rfl rfl (by decide) rfl dX0_init_14 ?_
  refine xw_cong (fun k hk => ?_) (xw_retn (xa_C C) hr (by decide) (by decide) dX0_init_17)
  by_cases h1 : k < 410
  · rw [if_pos h1, xt_l h1]
  · rw [if_neg h1]
    by_cases h2 : k = 410
    · subst h2
      rw [xt_0, hz 410 (by decide)]
      rfl
    · rw [xt_g (by omega)]
abbrev rX1_init : Room := { frames := 1, cells := 33, slots := 396, locals := 31 }
def mRl (n : Nat) : Nat → Nat → xwM → xwM
  | _, 0, M => M
  | i, d + 1, M => mRl n (i + 1) d (fil (fil M (10 + 34 * n + 1 + i) 12 (-1)) (23 + 34 * n + 1 + i) 12 (-1))
/-- the memory behind new Radio(n) -/
def mR (n : Nat) (M : xwM) : xwM :=
  ms (ms (ms (mRl n 0 12 (fil (fil (fil (fil (fil (fil (ms M (2 + 34 * n) 9 (nI n)) (4 + 34 * n) 12 (-1)) (5 + 34 * n) 12 (-1)) (6 + 34 * n) 12 (-1)) (7 + 34 * n) 12 (-1)) (8 + 34 * n) 12 (-1)) (9 + 34 * n) 12 (-1))) (6 + 34 * n) n (nI n)) (7 + 34 * n) n 0) (8 + 34 * n) n 0
theorem mRl_lo (n : Nat) : ∀ (d i : Nat) (M : xwM) (k : Nat), k < 11 + 34 * n → mRl n i d M k = M k
  | 0, _, _, _, _ => rfl
  | d + 1, i, M, k, h => by
    show mRl n (i + 1) d _ k = M k
    rw [mRl_lo n d (i + 1) _ k h]
    funext j
    rw [fil_at, fil_at, if_neg (by omega), if_neg (by omega)]
theorem mR_lo {n : Nat} {M : xwM} {k : Nat} (h : k < 2 + 34 * n) : mR n M k = M k := by
  funext j
  unfold mR
  rw [ms_at, if_neg (by omega), ms_at, if_neg (by omega), ms_at, if_neg (by omega), mRl_lo n 12 0 _ k (by omega), fil_at, if_neg (by omega), fil_at, if_neg (by omega), fil_at, if_neg (by omega), fil_at, if_neg (by omega), fil_at, if_neg (by omega), fil_at, if_neg (by omega), ms_at, if_neg (by omega)]
theorem mRl_hi (n : Nat) : ∀ (d i : Nat) (M : xwM) (k : Nat), i + d ≤ 12 → 36 + 34 * n ≤ k → mRl n i d M k = M k
  | 0, _, _, _, _, _ => rfl
  | d + 1, i, M, k, hd, h => by
    show mRl n (i + 1) d _ k = M k
    rw [mRl_hi n d (i + 1) _ k (by omega) h]
    funext j
    rw [fil_at, fil_at, if_neg (by omega), if_neg (by omega)]
theorem mR_hi {n : Nat} {M : xwM} {k : Nat} (h : 36 + 34 * n ≤ k) : mR n M k = M k := by
  funext j
  unfold mR
  rw [ms_at, if_neg (by omega), ms_at, if_neg (by omega), ms_at, if_neg (by omega), mRl_hi n 12 0 _ k (by omega) (by omega), fil_at, if_neg (by omega), fil_at, if_neg (by omega), fil_at, if_neg (by omega), fil_at, if_neg (by omega), fil_at, if_neg (by omega), fil_at, if_neg (by omega), ms_at, if_neg (by omega)]
abbrev xRf (ad : Nat → Nat) (n : Nat) : List Value := [.ref (ad (3 + 34 * n)), .ref (ad (4 + 34 * n)), .ref (ad (5 + 34 * n)), .ref (ad (6 + 34 * n)), .ref (ad (7 + 34 * n)), .ref (ad (8 + 34 * n)), .ref (ad (9 + 34 * n)), .ref (ad (10 + 34 * n)), .ref (ad (23 + 34 * n)), .int (nI n)]
set_option maxHeartbeats 4000000 in
set_option maxRecDepth 100000 in
theorem radio_loop {G : xwG} {Q : State → Prop} {cs : xmC} {Z : Nat → va_E} {n : Nat} (hn : n < 12) (C : xw_C G cX1_init 3 RX1 (36 + 34 * n) (xa (xgB G))) (hR : xgR G = rX1_init) (ht : xgt G = xm_tys cs) {x1 : Int32} :
    ∀ (d i : Nat) (M : xwM), i + d = 12 → XW G Q 3 33 396 (36 + 34 * n) (xa (xgB G)) (xt (2 + 34 * n) 1 Z (xa (xgB G)) cs (xRf (xa (xgB G)) n) (mRl n i d M)) 171 [some (.ref (xa (xgB G) (2 + 34 * n))), some (.int x1), some (.int (nI 12))] [] → XW G Q 3 33 396 (36 + 34 * n) (xa (xgB G)) (xt (2 + 34 * n) 1 Z (xa (xgB G)) cs (xRf (xa (xgB G)) n) M) 139 [some (.ref (xa (xgB G) (2 + 34 * n))), some (.int x1), some (.int (nI i))] [] := by
  intro d
  induction d with
  | zero =>
    intro i M hi k
    have e : i = 12 := by omega
    subst e
    refine xw_iload_n C dX1_init_139 2 rfl rfl ?_
    refine xw_bipush (v := 12) C dX1_init_140 (by decide) ?_
    refine xw_icmp_ge (tgt := 171) C dX1_init_142 (by decide) (fun _ => k) (fun c => absurd (by decide +kernel) c)
  | succ d ih =>
    intro i M hi k
    refine xw_iload_n C dX1_init_139 2 rfl rfl ?_
    refine xw_bipush (v := 12) C dX1_init_140 (by decide) ?_
    refine xw_icmp_ge (tgt := 171) C dX1_init_142 (by decide) (fun c => absurd c (nI_ge (b := 12) (show i < 12 by omega) (by decide))) (fun _ => ?_)
    have hc : (nI i).toNatClampNeg = i := nI_clamp (by omega)
    have hv : vp_in (nI i) 12 := vp_in_nI (by omega) (by decide)
    refine xw_aload_n C dX1_init_145 0 rfl rfl ?_
    refine xq_get C (by omega) rfl inB1 7 (by decide) hw_76 rfl dX1_init_146 ?_
    refine xw_iload_n C dX1_init_149 2 rfl rfl ?_
    refine xq_aald C ht (by omega) (by omega) (xs_O 10 (by decide) hn) hv rfl dX1_init_150 ?_
    rw [hc]
    refine xw_iconst (v := -1) C dX1_init_151 (by decide) ?_
    refine xq_fill C ht (by omega) (by omega) (fun r => xs_T 10 (by decide) hn (by omega)) (by decide) hw_59 (by rw [hR]; decide) (by rw [hR]; decide) (Nat.le_of_ble_eq_true rfl) dX1_init_152 ?_
    refine xw_aload_n C dX1_init_155 0 rfl rfl ?_
    refine xq_get C (by omega) rfl inB1 8 (by decide) hw_78 rfl dX1_init_156 ?_
    refine xw_iload_n C dX1_init_159 2 rfl rfl ?_
    refine xq_aald C ht (by omega) (by omega) (xs_O 23 (by decide) hn) hv rfl dX1_init_160 ?_
    rw [hc]
    refine xw_iconst (v := -1) C dX1_init_161 (by decide) ?_
    refine xq_fill C ht (by omega) (by omega) (fun r => xs_T 23 (by decide) hn (by omega)) (by decide) hw_59 (by rw [hR]; decide) (by rw [hR]; decide) (Nat.le_of_ble_eq_true rfl) dX1_init_162 ?_
    refine xw_iinc (v := nI (i + 1)) C dX1_init_165 rfl (nI_succ i).symm (by decide) ?_
    refine xw_goto (tgt := 139) C dX1_init_168 (by decide) ?_
    exact ih (i + 1) _ (by omega) k
set_option maxHeartbeats 4000000 in
set_option maxRecDepth 100000 in
theorem mX1_init (l : Launch) {D : va_G} {tys : List (ClassId × FieldType)} {base : Nat} {cs : xmC} (ht0 : tys = xm_tys cs) {Z : Nat → va_E} {M : xwM} {n : Nat} (hn : n < 12) (hz : ∀ k, 2 + 34 * n ≤ k → M k = fun _ => 0) :
    xk_n l yX1_init cX1_init 3 rX1_init D tys base (3 + 34 * n) (36 + 34 * n) [.ref (xa base (2 + 34 * n)), .int (nI n)] (xt (2 + 34 * n) 1 Z (xa base) cs [.null, .null, .null, .null, .null, .null, .null, .null, .null, .int 0] M) (fun k => if k < 2 + 34 * n then Z k else xm_sh (xa base) cs k (mR n M k)) 33 396 := by
  refine xk_ofn 1 (by decide) rfl (List.forall_mem_cons.mpr ⟨rfl, List.forall_mem_cons.mpr ⟨rfl, List.forall_mem_nil _⟩⟩) (Nat.le_of_ble_eq_true rfl) (fun G e1 hR e3 e4 e5 hr hini hsz hY C => ?_)
  subst e5
  have ht : xgt G = xm_tys cs := e4.trans ht0
  have hv : vp_in (nI n) 12 := vp_in_nI hn (by decide)
  have hcl : (nI n).toNatClampNeg = n := nI_clamp (by omega)
  refine xw_aload_n C dX1_init_0 0 rfl rfl ?_
  refine xw_obj C hw_56 hw_48 hw_49 (by rw [hR]; decide) dX1_init_1 ?_
  refine xw_aload_n (xa_C C) dX1_init_4 0 rfl rfl ?_
  refine xw_bipush (v := 12) (xa_C C) dX1_init_5 (by decide) ?_
  refine xq_arr (len := 12) (N2 := 4 + 34 * n) (xa_C C) ht (by omega) (by decide) (by decide) (by decide) (by omega) (fun r => xs_A 3 (by decide) hn) (hz _ (by omega)) hw_102 (by rw [hR]; decide) (by omega) dX1_init_7 ?_
  refine xq_put (xa_C C) hini (by omega) rfl inB1 tyX1 tyX1_ok nmX1 0 (by decide) hw_62 rfl rfl rfl rfl rfl (Nat.le_of_ble_eq_true rfl) rfl dX1_init_9 ?_
  refine xw_aload_n (xa_C C) dX1_init_12 0 rfl rfl ?_
  refine xw_bipush (v := 12) (xa_C C) dX1_init_13 (by decide) ?_
  refine xq_arr (len := 12) (N2 := 5 + 34 * n) (xa_C C) ht (by omega) (by decide) (by decide) (by decide) (by omega) (fun r => xs_A 4 (by decide) hn) (hz _ (by omega)) hw_102 (by rw [hR]; decide) (by omega) dX1_init_15 ?_
  refine xq_put (xa_C C) hini (by omega) rfl inB1 tyX1 tyX1_ok nmX1 1 (by decide) hw_64 rfl rfl rfl rfl rfl (Nat.le_of_ble_eq_true rfl) rfl dX1_init_17 ?_
  refine xw_aload_n (xa_C C) dX1_init_20 0 rfl rfl ?_
  refine xw_bipush (v := 12) (xa_C C) dX1_init_21 (by decide) ?_
  refine xq_arr (len := 12) (N2 := 6 + 34 * n) (xa_C C) ht (by omega) (by decide) (by decide) (by decide) (by omega) (fun r => xs_A 5 (by decide) hn) (hz _ (by omega)) hw_102 (by rw [hR]; decide) (by omega) dX1_init_23 ?_
  refine xq_put (xa_C C) hini (by omega) rfl inB1 tyX1 tyX1_ok nmX1 2 (by decide) hw_66 rfl rfl rfl rfl rfl (Nat.le_of_ble_eq_true rfl) rfl dX1_init_25 ?_
  refine xw_aload_n (xa_C C) dX1_init_28 0 rfl rfl ?_
  refine xw_bipush (v := 12) (xa_C C) dX1_init_29 (by decide) ?_
  refine xq_arr (len := 12) (N2 := 7 + 34 * n) (xa_C C) ht (by omega) (by decide) (by decide) (by decide) (by omega) (fun r => xs_A 6 (by decide) hn) (hz _ (by omega)) hw_102 (by rw [hR]; decide) (by omega) dX1_init_31 ?_
  refine xq_put (xa_C C) hini (by omega) rfl inB1 tyX1 tyX1_ok nmX1 3 (by decide) hw_68 rfl rfl rfl rfl rfl (Nat.le_of_ble_eq_true rfl) rfl dX1_init_33 ?_
  refine xw_aload_n (xa_C C) dX1_init_36 0 rfl rfl ?_
  refine xw_bipush (v := 12) (xa_C C) dX1_init_37 (by decide) ?_
  refine xq_arr (len := 12) (N2 := 8 + 34 * n) (xa_C C) ht (by omega) (by decide) (by decide) (by decide) (by omega) (fun r => xs_A 7 (by decide) hn) (hz _ (by omega)) hw_102 (by rw [hR]; decide) (by omega) dX1_init_39 ?_
  refine xq_put (xa_C C) hini (by omega) rfl inB1 tyX1 tyX1_ok nmX1 4 (by decide) hw_70 rfl rfl rfl rfl rfl (Nat.le_of_ble_eq_true rfl) rfl dX1_init_41 ?_
  refine xw_aload_n (xa_C C) dX1_init_44 0 rfl rfl ?_
  refine xw_bipush (v := 12) (xa_C C) dX1_init_45 (by decide) ?_
  refine xq_arr (len := 12) (N2 := 9 + 34 * n) (xa_C C) ht (by omega) (by decide) (by decide) (by decide) (by omega) (fun r => xs_A 8 (by decide) hn) (hz _ (by omega)) hw_102 (by rw [hR]; decide) (by omega) dX1_init_47 ?_
  refine xq_put (xa_C C) hini (by omega) rfl inB1 tyX1 tyX1_ok nmX1 5 (by decide) hw_72 rfl rfl rfl rfl rfl (Nat.le_of_ble_eq_true rfl) rfl dX1_init_49 ?_
  refine xw_aload_n (xa_C C) dX1_init_52 0 rfl rfl ?_
  refine xw_bipush (v := 12) (xa_C C) dX1_init_53 (by decide) ?_
  refine xq_arr (len := 12) (N2 := 10 + 34 * n) (xa_C C) ht (by omega) (by decide) (by decide) (by decide) (by omega) (fun r => xs_A 9 (by decide) hn) (hz _ (by omega)) hw_102 (by rw [hR]; decide) (by omega) dX1_init_55 ?_
  refine xq_put (xa_C C) hini (by omega) rfl inB1 tyX1 tyX1_ok nmX1 6 (by decide) hw_74 rfl rfl rfl rfl rfl (Nat.le_of_ble_eq_true rfl) rfl dX1_init_57 ?_
  refine xw_aload_n (xa_C C) dX1_init_60 0 rfl rfl ?_
  refine xw_bipush (v := 12) (xa_C C) dX1_init_61 (by decide) ?_
  refine xw_bipush (v := 12) (xa_C C) dX1_init_63 (by decide) ?_
  refine xq_mna (n' := 12) (m' := 12) (N2 := 23 + 34 * n) (xa_C C) ht (by omega) hY.2 (by decide) (by decide) (by decide) (by decide) (by decide) (by decide) (by decide) (by omega) (fun r => xs_O 10 (by decide) hn) (fun i hi r => xs_T 10 (by decide) hn hi) (fun k hk => hz k (by omega)) hw_57 hw_102 (by rw [hR]; decide) (by omega) dX1_init_65 ?_
  refine xq_put (xa_C C) hini (by omega) rfl inB1 tyX1 tyX1_ok nmX1 7 (by decide) hw_76 rfl rfl rfl rfl rfl (Nat.le_of_ble_eq_true rfl) rfl dX1_init_69 ?_
  refine xw_aload_n (xa_C C) dX1_init_72 0 rfl rfl ?_
  refine xw_bipush (v := 12) (xa_C C) dX1_init_73 (by decide) ?_
  refine xw_bipush (v := 12) (xa_C C) dX1_init_75 (by decide) ?_
  refine xq_mna (n' := 12) (m' := 12) (N2 := 36 + 34 * n) (xa_C C) ht (by omega) hY.2 (by decide) (by decide) (by decide) (by decide) (by decide) (by decide) (by decide) (by omega) (fun r => xs_O 23 (by decide) hn) (fun i hi r => xs_T 23 (by decide) hn hi) (fun k hk => hz k (by omega)) hw_57 hw_102 (by rw [hR]; decide) (by omega) dX1_init_77 ?_
  refine xq_put (xa_C C) hini (by omega) rfl inB1 tyX1 tyX1_ok nmX1 8 (by decide) hw_78 rfl rfl rfl rfl rfl (Nat.le_of_ble_eq_true rfl) rfl dX1_init_81 ?_
  refine xw_aload_n (xa_C C) dX1_init_84 0 rfl rfl ?_
  refine xw_iload_n (xa_C C) dX1_init_85 1 rfl rfl ?_
  refine xq_put (fs' := xRf (xa (xgB G)) n) (xa_C C) hini (by omega) rfl inB1 tyX1 tyX1_ok nmX1 9 (by decide) hw_80 rfl rfl rfl rfl rfl (Nat.le_of_ble_eq_true rfl) rfl dX1_init_86 ?_
  have hself : xt (2 + 34 * n) 1 Z (xa (xgB G)) cs (xRf (xa (xgB G)) n) M = xt (2 + 34 * n) 1 Z (xa (xgB G)) cs (xRf (xa (xgB G)) n) (ms M (2 + 34 * n) 9 (nI n)) := by
    funext k
    unfold xt
    by_cases h1 : k < 2 + 34 * n
    · rw [if_pos h1, if_pos h1]
    · rw [if_neg h1, if_neg h1]
      by_cases h2 : k = 2 + 34 * n
      · rw [if_pos h2, if_pos h2]
      · rw [if_neg h2, if_neg h2]
        have : ms M (2 + 34 * n) 9 (nI n) k = M k := by
          funext j
          rw [ms_at, if_neg (by omega)]
        rw [this]
  rw [hself]
  refine xw_aload_n (xa_C C) dX1_init_89 0 rfl rfl ?_
  refine xq_get (xa_C C) (by omega) rfl inB1 1 (by decide) hw_64 rfl dX1_init_90 ?_
  refine xw_iconst (v := -1) (xa_C C) dX1_init_93 (by decide) ?_
  refine xq_fill (xa_C C) ht (by omega) (by omega) (fun r => xs_A 4 (by decide) hn) (by decide) hw_59 (by rw [hR]; decide) (by rw [hR]; decide) (Nat.le_of_ble_eq_true rfl) dX1_init_94 ?_
  refine xw_aload_n (xa_C C) dX1_init_97 0 rfl rfl ?_
  refine xq_get (xa_C C) (by omega) rfl inB1 2 (by decide) hw_66 rfl dX1_init_98 ?_
  refine xw_iconst (v := -1) (xa_C C) dX1_init_101 (by decide) ?_
  refine xq_fill (xa_C C) ht (by omega) (by omega) (fun r => xs_A 5 (by decide) hn) (by decide) hw_59 (by rw [hR]; decide) (by rw [hR]; decide) (Nat.le_of_ble_eq_true rfl) dX1_init_102 ?_
  refine xw_aload_n (xa_C C) dX1_init_105 0 rfl rfl ?_
  refine xq_get (xa_C C) (by omega) rfl inB1 3 (by decide) hw_68 rfl dX1_init_106 ?_
  refine xw_iconst (v := -1) (xa_C C) dX1_init_109 (by decide) ?_
  refine xq_fill (xa_C C) ht (by omega) (by omega) (fun r => xs_A 6 (by decide) hn) (by decide) hw_59 (by rw [hR]; decide) (by rw [hR]; decide) (Nat.le_of_ble_eq_true rfl) dX1_init_110 ?_
  refine xw_aload_n (xa_C C) dX1_init_113 0 rfl rfl ?_
  refine xq_get (xa_C C) (by omega) rfl inB1 4 (by decide) hw_70 rfl dX1_init_114 ?_
  refine xw_iconst (v := -1) (xa_C C) dX1_init_117 (by decide) ?_
  refine xq_fill (xa_C C) ht (by omega) (by omega) (fun r => xs_A 7 (by decide) hn) (by decide) hw_59 (by rw [hR]; decide) (by rw [hR]; decide) (Nat.le_of_ble_eq_true rfl) dX1_init_118 ?_
  refine xw_aload_n (xa_C C) dX1_init_121 0 rfl rfl ?_
  refine xq_get (xa_C C) (by omega) rfl inB1 5 (by decide) hw_72 rfl dX1_init_122 ?_
  refine xw_iconst (v := -1) (xa_C C) dX1_init_125 (by decide) ?_
  refine xq_fill (xa_C C) ht (by omega) (by omega) (fun r => xs_A 8 (by decide) hn) (by decide) hw_59 (by rw [hR]; decide) (by rw [hR]; decide) (Nat.le_of_ble_eq_true rfl) dX1_init_126 ?_
  refine xw_aload_n (xa_C C) dX1_init_129 0 rfl rfl ?_
  refine xq_get (xa_C C) (by omega) rfl inB1 6 (by decide) hw_74 rfl dX1_init_130 ?_
  refine xw_iconst (v := -1) (xa_C C) dX1_init_133 (by decide) ?_
  refine xq_fill (xa_C C) ht (by omega) (by omega) (fun r => xs_A 9 (by decide) hn) (by decide) hw_59 (by rw [hR]; decide) (by rw [hR]; decide) (Nat.le_of_ble_eq_true rfl) dX1_init_134 ?_
  refine xw_iconst (v := 0) (xa_C C) dX1_init_137 (by decide) ?_
  refine xw_istore_n (xa_C C) dX1_init_138 2 rfl (by decide) ?_
  refine radio_loop hn (xa_C C) hR ht 12 0 _ (by decide) ?_
  refine xw_aload_n (xa_C C) dX1_init_171 0 rfl rfl ?_
  refine xq_get (xa_C C) (by omega) rfl inB1 3 (by decide) hw_68 rfl dX1_init_172 ?_
  refine xw_iload_n (xa_C C) dX1_init_175 1 rfl rfl ?_
  refine xw_iload_n (xa_C C) dX1_init_176 1 rfl rfl ?_
  refine xq_iast (xa_C C) ht (by omega) (by omega) (fun r => xs_A 6 (by decide) hn) hv dX1_init_177 ?_
  refine xw_aload_n (xa_C C) dX1_init_178 0 rfl rfl ?_
  refine xq_get (xa_C C) (by omega) rfl inB1 4 (by decide) hw_70 rfl dX1_init_179 ?_
  refine xw_iload_n (xa_C C) dX1_init_182 1 rfl rfl ?_
  refine xw_iconst (v := 0) (xa_C C) dX1_init_183 (by decide) ?_
  refine xq_iast (xa_C C) ht (by omega) (by omega) (fun r => xs_A 7 (by decide) hn) hv dX1_init_184 ?_
  refine xw_aload_n (xa_C C) dX1_init_185 0 rfl rfl ?_
  refine xq_get (xa_C C) (by omega) rfl inB1 5 (by decide) hw_72 rfl dX1_init_186 ?_
  refine xw_iload_n (xa_C C) dX1_init_189 1 rfl rfl ?_
  refine xw_iconst (v := 0) (xa_C C) dX1_init_190 (by decide) ?_
  refine xq_iast (xa_C C) ht (by omega) (by omega) (fun r => xs_A 8 (by decide) hn) hv dX1_init_191 ?_
  rw [hcl]
  refine xw_cong (fun k hk => ?_) (xw_retn (xa_C C) hr (by decide) (by decide) dX1_init_192)
  by_cases h1 : k < 2 + 34 * n
  · rw [if_pos h1, xt_l h1]
  · rw [if_neg h1]
    by_cases h2 : k = 2 + 34 * n
    · subst h2
      rw [xt_0, xs_R hn]
      have : mR n M (2 + 34 * n) 9 = nI n := by
        unfold mR
        rw [ms_at, if_neg (by omega), ms_at, if_neg (by omega), ms_at, if_neg (by omega), mRl_lo n 12 0 _ _ (by omega), fil_at, if_neg (by omega), fil_at, if_neg (by omega), fil_at, if_neg (by omega), fil_at, if_neg (by omega), fil_at, if_neg (by omega), fil_at, if_neg (by omega), ms_at, if_pos ⟨rfl, rfl⟩]
      rw [this]
    · rw [xt_g (by omega)]
      rfl
