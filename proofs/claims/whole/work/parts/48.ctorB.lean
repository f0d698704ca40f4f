/-! the class's constructor -/
theorem xw_congc {G : xwG} {Q : State → Prop} {nL cells slots N : Nat} {ad : Nat → Nat} {ce ce' : Nat → va_E} {pc : Nat} {lv : List (Option Value)} {st : List Value} (h : ∀ k, k < N → ∀ (a : Nat) (H : Heap), va_at (xgD G) vwCl (a, ce k) H → va_at (xgD G) vwCl (a, ce' k) H) (k : XW G Q nL cells slots N ad ce' pc lv st) : XW G Q nL cells slots N ad ce pc lv st :=
  fun H locs ls hP hS hL => k H locs ls (fun j q hq => by
    obtain ⟨hj, rfl⟩ := xw_of hq
    exact h j hj _ H (hP j _ (xw_at hj))) hS hL
def xu (ad : Nat → Nat) (cs : xmC) (fs : List Value) (f : Nat → Option Nat) (M : xwM) : Nat → va_E := fun k => if k = 0 then .inr (2, fs) else if k = 1 then .inl (cs.2.1, 12, .inr (.inr (.inr (.inr f)))) else xm_sh ad cs k (M k)
theorem xu_g {ad : Nat → Nat} {cs : xmC} {fs : List Value} {f : Nat → Option Nat} {M : xwM} {k : Nat} (h : 2 ≤ k) : xu ad cs fs f M k = xm_sh ad cs k (M k) := by
  unfold xu
  rw [if_neg (by omega), if_neg (by omega)]
theorem xu_f {ad : Nat → Nat} {cs : xmC} {fs fs' : List Value} {f : Nat → Option Nat} {M : xwM} : va_up (xu ad cs fs f M) 0 (.inr (2, fs')) = xu ad cs fs' f M := by
  funext k
  unfold va_up xu
  by_cases h : k = 0
  · rw [if_pos h, if_pos h]
  · rw [if_neg h, if_neg h, if_neg h]
def fS (ad : Nat → Nat) (i : Nat) : Nat → Option Nat := fun j => if j < i then some (ad (2 + 34 * j)) else none
def mAl : Nat → Nat → xwM → xwM
  | _, 0, M => M
  | i, d + 1, M => mAl (i + 1) d (mR i M)
theorem fS_up (ad : Nat → Nat) (i : Nat) : va_up (fS ad i) i (some (ad (2 + 34 * i))) = fS ad (i + 1) := by
  funext j
  unfold va_up fS
  by_cases h : j = i
  · subst h
    rw [if_pos rfl, if_pos (by omega)]
  · rw [if_neg h]
    by_cases h2 : j < i
    · rw [if_pos h2, if_pos (by omega)]
    · rw [if_neg h2, if_neg (by omega)]
theorem xn_newE {G : xwG} {Q : State → Prop} {cc : ByteArray} {own : String} {nL cells slots N : Nat} {ce ce' : Nat → va_E} {pc : Nat} {lv : List (Option Value)} {st : List Value} (C : xw_C G cc nL own N (xa (xgB G))) (hcnt : (xgs G).heap.size + cells = xgB G + N) (hce : ∀ k, k < N → ce' k = ce k) {ci NF index N2 : Nat} {Cn : String} {T : u_T} {fs : List Value} (he : ce' N = .inr (ci, fs)) (hc : vwCl[ci]? = some (Cn, T, NF)) (hin : ∀ w ∈ u_ws Cn T NF, w ∈ xw_big) (ty : Nat → FieldType) (hty : ∀ k, k < NF → parseFieldDescriptor (T k).2.2.1 = some (ty k)) (h1 : Cond.classLink own index Cn ∈ xw_big) (h2 : Cond.instantiable Cn NF ∈ xw_big) (h3 : Cond.initialized Cn ∈ xw_big) (hfs : ∀ j, j < NF → defaultValue (ty j) = vp_V fs j) (hR : cells + 1 ≤ (xgR G).cells ∧ slots + NF ≤ (xgR G).slots) (hN2 : N + 1 = N2) (hd : decode cc pc = .ok (.new index, 3))
    (k : XW G Q nL (cells + 1) (slots + NF) N2 (xa (xgB G)) ce' (pc + 3) lv (.ref (xa (xgB G) N) :: st)) : XW G Q nL cells slots N (xa (xgB G)) ce pc lv st := by
  subst hN2
  exact xn_new C hcnt hce he hc hin ty hty h1 h2 h3 hfs hR hd k
theorem dvX1 : ∀ j, j < 10 → defaultValue (tyX1 j) = vp_V [.null, .null, .null, .null, .null, .null, .null, .null, .null, .int 0] j
  | 0, _ => rfl | 1, _ => rfl | 2, _ => rfl | 3, _ => rfl | 4, _ => rfl | 5, _ => rfl | 6, _ => rfl | 7, _ => rfl | 8, _ => rfl | 9, _ => rfl
theorem dvX0 : ∀ j, j < 6 → defaultValue (tyX0 j) = vp_V [.null, .int 0, .int 0, .int 0, .int 0, .int 0] j
  | 0, _ => rfl | 1, _ => rfl | 2, _ => rfl | 3, _ => rfl | 4, _ => rfl | 5, _ => rfl
theorem dvX2 : ∀ j, j < 2 → defaultValue (tyX2 j) = vp_V [.null, .null] j
  | 0, _ => rfl | 1, _ => rfl
theorem dvX3 : ∀ j, j < 17 → defaultValue (tyX3 j) = vp_V [.int 0, .null, .int 0, .null, .null, .null, .null, .null, .null, .null, .null, .null, .null, .int 0, .int 0, .int 0, .int 0] j
  | 0, _ => rfl | 1, _ => rfl | 2, _ => rfl | 3, _ => rfl | 4, _ => rfl | 5, _ => rfl | 6, _ => rfl | 7, _ => rfl | 8, _ => rfl | 9, _ => rfl | 10, _ => rfl | 11, _ => rfl | 12, _ => rfl | 13, _ => rfl | 14, _ => rfl | 15, _ => rfl | 16, _ => rfl
  | n + 17, h => absurd h (by omega)
abbrev rX2_init : Room := { frames := 2, cells := 417, slots := 6696, locals := 60 }
set_option maxHeartbeats 4000000 in
set_option maxRecDepth 100000 in
theorem mesh_loop {G : xwG} {Q : State → Prop} {cs : xmC} (C : xw_C G cX2_init 2 RX2 1 (xa (xgB G))) (hR : xgR G = rX2_init) (ht : xgt G = xm_tys cs) (hY : xw_Y (xgs G)) (hsz : (xgs G).heap.size = xgB G + 1) :
    ∀ (d i : Nat) (M : xwM), i + d = 12 → (∀ k, 2 + 34 * i ≤ k → M k = fun _ => 0) → ((∀ k, 410 ≤ k → mAl i d M k = fun _ => 0) → XW G Q 2 409 4884 410 (xa (xgB G)) (xu (xa (xgB G)) cs [.ref (xa (xgB G) 1), .null] (fS (xa (xgB G)) 12) (mAl i d M)) 41 [some (.ref (xa (xgB G) 0)), some (.int (nI 12))] []) → XW G Q 2 (1 + 34 * i) (12 + 406 * i) (2 + 34 * i) (xa (xgB G)) (xu (xa (xgB G)) cs [.ref (xa (xgB G) 1), .null] (fS (xa (xgB G)) i) M) 15 [some (.ref (xa (xgB G) 0)), some (.int (nI i))] [] := by
  intro d
  induction d with
  | zero =>
    intro i M hi hz k
    have e : i = 12 := by omega
    subst e
    refine xw_iload_n (xa_C C) dX2_init_15 1 rfl rfl ?_
    refine xw_bipush (v := 12) (xa_C C) dX2_init_16 (by decide) ?_
    refine xw_icmp_ge (tgt := 41) (xa_C C) dX2_init_18 (by decide) (fun _ => k hz) (fun c => absurd (by decide +kernel) c)
  | succ d ih =>
    intro i M hi hz k
    refine xw_iload_n (xa_C C) dX2_init_15 1 rfl rfl ?_
    refine xw_bipush (v := 12) (xa_C C) dX2_init_16 (by decide) ?_
    refine xw_icmp_ge (tgt := 41) (xa_C C) dX2_init_18 (by decide) (fun c => absurd c (nI_ge (b := 12) (show i < 12 by omega) (by decide))) (fun _ => ?_)
    have hn : i < 12 := by omega
    have hc : (nI i).toNatClampNeg = i := nI_clamp (by omega)
    have hv : vp_in (nI i) 12 := vp_in_nI (by omega) (by decide)
    refine xw_aload_n (xa_C C) dX2_init_21 0 rfl rfl ?_
    refine xw_getf (k9 := 0) (xa_C C) (by omega) rfl rfl inB2 0 (by decide) hw_133 rfl dX2_init_22 ?_
    refine xw_iload_n (xa_C C) dX2_init_25 1 rfl rfl ?_
    refine xn_newE (N2 := 3 + 34 * i) (ce' := xt (2 + 34 * i) 1 (xu (xa (xgB G)) cs [.ref (xa (xgB G) 1), .null] (fS (xa (xgB G)) i) M) (xa (xgB G)) cs [.null, .null, .null, .null, .null, .null, .null, .null, .null, .int 0] M) (xa_C C) (by omega) (fun k hk => xt_l hk) xt_0 rfl inB1 tyX1 tyX1_ok hw_50 hw_52 hw_32 dvX1 (by rw [hR]; show _ ≤ 417 ∧ _ ≤ 6696; omega) (by omega) dX2_init_26 ?_
    refine xw_dup (xa_C C) dX2_init_29 rfl ?_
    refine xw_iload_n (xa_C C) dX2_init_30 1 rfl rfl ?_
    refine xn_call (k9 := 2 + 34 * i) (As := [.int (nI i)]) (xa_C C) hY (by omega) (mX1_init (xgl G) ht hn hz) FX1_init hw_53 (by rw [hR]; decide) (by rw [hR]; show _ ≤ 417 ∧ _ ≤ 6696; omega) rfl (Nat.le_of_ble_eq_true rfl) dX2_init_31 rfl ?_
    refine xw_aast (f := fS (xa (xgB G)) i) (n := 12) (k8 := 2 + 34 * i) (k9 := 1) (xa_C C) ht (by omega) (by rw [if_pos (by omega)]; rfl) (by omega) (by rw [if_neg (by omega), xs_R hn]) hv dX2_init_34 ?_
    rw [hc, fS_up]
    refine xw_iinc (v := nI (i + 1)) (xa_C C) dX2_init_35 rfl (nI_succ i).symm (by decide) ?_
    refine xw_goto (tgt := 15) (xa_C C) dX2_init_38 (by decide) ?_
    have key := ih (i + 1) (mR i M) (by omega) (fun k hk => by rw [mR_hi (by omega)]; exact hz k (by omega)) k
    rw [show 1 + 34 * (i + 1) = 1 + 34 * i + 1 + 33 by omega, show 12 + 406 * (i + 1) = 12 + 406 * i + 10 + 396 by omega, show 2 + 34 * (i + 1) = 36 + 34 * i by omega] at key
    refine xw_cong (fun k hk => ?_) key
    unfold va_up
    by_cases h1 : k = 1
    · subst h1
      rw [if_pos rfl]
      rfl
    · rw [if_neg h1]
      by_cases h2 : k < 2 + 34 * i
      · dsimp only
        rw [if_pos h2]
        unfold xu
        by_cases h0 : k = 0
        · rw [if_pos h0, if_pos h0]
        · rw [if_neg h0, if_neg h0, if_neg h1, if_neg h1, mR_lo h2]
      · dsimp only
        rw [if_neg h2, xu_g (by omega)]
set_option maxHeartbeats 4000000 in
set_option maxRecDepth 100000 in
theorem mX2_init (l : Launch) {D : va_G} {tys : List (ClassId × FieldType)} {base : Nat} {cs : xmC} (ht0 : tys = xm_tys cs) {M : xwM} (hz : ∀ k, 2 ≤ k → M k = fun _ => 0) :
    xk_n l yX2_init cX2_init 2 rX2_init D tys base 1 418 [.ref (xa base 0)] (xu (xa base) cs [.null, .null] (fun _ => none) M) (xm_ce (xa base) cs (mAl 0 12 M)) 417 6696 := by
  refine xk_ofn 1 (by decide) rfl (List.forall_mem_cons.mpr ⟨rfl, List.forall_mem_nil _⟩) (Nat.le_of_ble_eq_true rfl) (fun G e1 hR e3 e4 e5 hr hini hsz hY C => ?_)
  subst e5
  have ht : xgt G = xm_tys cs := e4.trans ht0
  refine xw_aload_n C dX2_init_0 0 rfl rfl ?_
  refine xw_obj C hw_47 hw_48 hw_49 (by rw [hR]; decide) dX2_init_1 ?_
  refine xw_aload_n C dX2_init_4 0 rfl rfl ?_
  refine xw_bipush (v := 12) C dX2_init_5 (by decide) ?_
  refine xn_anew (len := 12) C ht (by omega) hY.1 (by decide) (by decide) (by decide) (fun _ _ => rfl) rfl hw_50 (by rw [hR]; decide) dX2_init_7 ?_
  refine xw_putR (k9 := 0) (xa_C C) hini (by decide) rfl rfl inB2 tyX2 tyX2_ok nmX2 0 (by decide) hw_133 rfl rfl rfl rfl rfl (by decide) rfl dX2_init_10 ?_
  rw [xu_f]
  refine xw_iconst (v := 0) (xa_C C) dX2_init_13 (by decide) ?_
  refine xw_istore_n (xa_C C) dX2_init_14 1 rfl (by decide) ?_
  have f0 : (fun _ => none) = fS (xa (xgB G)) 0 := by
    funext j
    unfold fS
    rw [if_neg (by omega)]
  rw [f0]
  refine mesh_loop C hR ht hY hsz 12 0 M (by decide) (fun k hk => hz k (by omega)) (fun hz2 => ?_)
  refine xw_aload_n (xa_C C) dX2_init_41 0 rfl rfl ?_
  refine xn_newE (N2 := 411) (ce' := xt 410 0 (xu (xa (xgB G)) cs [.ref (xa (xgB G) 1), .null] (fS (xa (xgB G)) 12) (mAl 0 12 M)) (xa (xgB G)) cs [.null, .int 0, .int 0, .int 0, .int 0, .int 0] (mAl 0 12 M)) (xa_C C) (by omega) (fun k hk => xt_l hk) xt_0 rfl inB0 tyX0 tyX0_ok hw_103 hw_104 hw_34 dvX0 (by rw [hR]; decide) rfl dX2_init_42 ?_
  refine xw_dup (xa_C C) dX2_init_45 rfl ?_
  refine xn_callN (k9 := 410) (As := []) (xa_C C) hY (by omega) (mX0_init (xgl G) ht hz2) FX0_init C.2.2.2.2.2.2.2.2.2.1.2.2.1 (by rw [hR]; decide) (by rw [hR]; decide) rfl (Nat.le_of_ble_eq_true rfl) dX2_init_46 rfl ?_
  refine xw_putR (k9 := 0) (xa_C C) hini (by decide) rfl rfl inB2 tyX2 tyX2_ok nmX2 1 (by decide) hw_134 rfl rfl rfl rfl rfl (Nat.le_of_ble_eq_true rfl) rfl dX2_init_49 ?_
  refine xw_congc (fun k hk a H hA => ?_) (xw_retn (xa_C C) hr (by decide) (by decide) dX2_init_52)
  unfold va_up at hA
  by_cases h0 : k = 0
  · subst h0
    exact hA
  · rw [if_neg h0] at hA
    by_cases h1 : k = 1
    · subst h1
      have e : vp_cell cs.2.1 (12, .inr (.inr (.inr (.inr (fS (xa (xgB G)) 12))))) = vp_cell cs.2.1 (12, .inr (.inr (.inr (.inr (fun i => some (xa (xgB G) (2 + 34 * i))))))) := by
        rfl
      show H[a]? = some (vp_cell cs.2.1 _)
      rw [← e]
      exact hA
    · by_cases h2 : k < 410
      · dsimp only at hA
        rw [if_pos h2, xu_g (by omega)] at hA
        exact hA
      · dsimp only at hA
        rw [if_neg h2] at hA
        exact hA
