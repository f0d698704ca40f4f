/-! the reference's constructor -/
def mL1 : Nat → Nat → xwM → xwM
  | _, 0, M => M
  | i, d + 1, M => mL1 (i + 1) d (ms (ms (ms (ms (ms (ms M 421 i (-1)) 422 i (-1)) 423 i (-1)) 424 i (-1)) 425 i (-1)) 426 i (-1))
def mL2 : Nat → Nat → xwM → xwM
  | _, 0, M => M
  | i, d + 1, M => mL2 (i + 1) d (ms (ms M 427 i (-1)) 428 i (-1))
abbrev xMf (ad : Nat → Nat) : List Value := [.int 0, .ref (ad 419), .int 0, .ref (ad 420), .ref (ad 421), .ref (ad 422), .ref (ad 423), .ref (ad 424), .ref (ad 425), .ref (ad 426), .ref (ad 427), .ref (ad 428), .ref (ad 429), .int 0, .int 0, .int 0, .int 0]
abbrev rX3_init : Room := { frames := 1, cells := 11, slots := 6282, locals := 20 }
set_option maxHeartbeats 4000000 in
set_option maxRecDepth 100000 in
theorem model_l1 {G : xwG} {Q : State → Prop} {cs : xmC} {Z : Nat → va_E} (C : xw_C G cX3_init 2 RX3 430 (xa (xgB G))) (ht : xgt G = xm_tys cs) :
    ∀ (d i : Nat) (M : xwM), i + d = 144 → XW G Q 2 11 6282 430 (xa (xgB G)) (xt 418 3 Z (xa (xgB G)) cs (xMf (xa (xgB G))) (mL1 i d M)) 159 [some (.ref (xa (xgB G) 418)), some (.int (nI 144))] [] → XW G Q 2 11 6282 430 (xa (xgB G)) (xt 418 3 Z (xa (xgB G)) cs (xMf (xa (xgB G))) M) 104 [some (.ref (xa (xgB G) 418)), some (.int (nI i))] [] := by
  intro d
  induction d with
  | zero =>
    intro i M hi k
    have e : i = 144 := by omega
    subst e
    refine xw_iload_n C dX3_init_104 1 rfl rfl ?_
    refine xw_sipush (v := 144) C dX3_init_105 (by decide) ?_
    refine xw_icmp_ge (tgt := 159) C dX3_init_108 (by decide) (fun _ => k) (fun c => absurd (by decide +kernel) c)
  | succ d ih =>
    intro i M hi k
    refine xw_iload_n C dX3_init_104 1 rfl rfl ?_
    refine xw_sipush (v := 144) C dX3_init_105 (by decide) ?_
    refine xw_icmp_ge (tgt := 159) C dX3_init_108 (by decide) (fun c => absurd c (nI_ge (b := 144) (show i < 144 by omega) (by decide))) (fun _ => ?_)
    have hc : (nI i).toNatClampNeg = i := nI_clamp (by omega)
    have hv : vp_in (nI i) 144 := vp_in_nI (by omega) (by decide)
    refine xw_aload_n C dX3_init_111 0 rfl rfl ?_
    refine xq_get C (by decide) rfl inB3 4 (by decide) hw_487 rfl dX3_init_112 ?_
    refine xw_iload_n C dX3_init_115 1 rfl rfl ?_
    refine xw_iconst (v := -1) C dX3_init_116 (by decide) ?_
    refine xq_iast C ht (by decide) (by decide) (fun r => xs_421) hv dX3_init_117 ?_
    rw [hc]
    refine xw_aload_n C dX3_init_118 0 rfl rfl ?_
    refine xq_get C (by decide) rfl inB3 5 (by decide) hw_488 rfl dX3_init_119 ?_
    refine xw_iload_n C dX3_init_122 1 rfl rfl ?_
    refine xw_iconst (v := -1) C dX3_init_123 (by decide) ?_
    refine xq_iast C ht (by decide) (by decide) (fun r => xs_422) hv dX3_init_124 ?_
    rw [hc]
    refine xw_aload_n C dX3_init_125 0 rfl rfl ?_
    refine xq_get C (by decide) rfl inB3 6 (by decide) hw_489 rfl dX3_init_126 ?_
    refine xw_iload_n C dX3_init_129 1 rfl rfl ?_
    refine xw_iconst (v := -1) C dX3_init_130 (by decide) ?_
    refine xq_iast C ht (by decide) (by decide) (fun r => xs_423) hv dX3_init_131 ?_
    rw [hc]
    refine xw_aload_n C dX3_init_132 0 rfl rfl ?_
    refine xq_get C (by decide) rfl inB3 7 (by decide) hw_490 rfl dX3_init_133 ?_
    refine xw_iload_n C dX3_init_136 1 rfl rfl ?_
    refine xw_iconst (v := -1) C dX3_init_137 (by decide) ?_
    refine xq_iast C ht (by decide) (by decide) (fun r => xs_424) hv dX3_init_138 ?_
    rw [hc]
    refine xw_aload_n C dX3_init_139 0 rfl rfl ?_
    refine xq_get C (by decide) rfl inB3 8 (by decide) hw_491 rfl dX3_init_140 ?_
    refine xw_iload_n C dX3_init_143 1 rfl rfl ?_
    refine xw_iconst (v := -1) C dX3_init_144 (by decide) ?_
    refine xq_iast C ht (by decide) (by decide) (fun r => xs_425) hv dX3_init_145 ?_
    rw [hc]
    refine xw_aload_n C dX3_init_146 0 rfl rfl ?_
    refine xq_get C (by decide) rfl inB3 9 (by decide) hw_492 rfl dX3_init_147 ?_
    refine xw_iload_n C dX3_init_150 1 rfl rfl ?_
    refine xw_iconst (v := -1) C dX3_init_151 (by decide) ?_
    refine xq_iast C ht (by decide) (by decide) (fun r => xs_426) hv dX3_init_152 ?_
    rw [hc]
    refine xw_iinc (v := nI (i + 1)) C dX3_init_153 rfl (nI_succ i).symm (by decide) ?_
    refine xw_goto (tgt := 104) C dX3_init_156 (by decide) ?_
    exact ih (i + 1) _ (by omega) k
set_option maxHeartbeats 4000000 in
set_option maxRecDepth 100000 in
theorem model_l2 {G : xwG} {Q : State → Prop} {cs : xmC} {Z : Nat → va_E} (C : xw_C G cX3_init 2 RX3 430 (xa (xgB G))) (ht : xgt G = xm_tys cs) :
    ∀ (d i : Nat) (M : xwM), i + d = 1728 → XW G Q 2 11 6282 430 (xa (xgB G)) (xt 418 3 Z (xa (xgB G)) cs (xMf (xa (xgB G))) (mL2 i d M)) 188 [some (.ref (xa (xgB G) 418)), some (.int (nI 1728))] [] → XW G Q 2 11 6282 430 (xa (xgB G)) (xt 418 3 Z (xa (xgB G)) cs (xMf (xa (xgB G))) M) 161 [some (.ref (xa (xgB G) 418)), some (.int (nI i))] [] := by
  intro d
  induction d with
  | zero =>
    intro i M hi k
    have e : i = 1728 := by omega
    subst e
    refine xw_iload_n C dX3_init_161 1 rfl rfl ?_
    refine xw_sipush (v := 1728) C dX3_init_162 (by decide) ?_
    refine xw_icmp_ge (tgt := 188) C dX3_init_165 (by decide) (fun _ => k) (fun c => absurd (by decide +kernel) c)
  | succ d ih =>
    intro i M hi k
    refine xw_iload_n C dX3_init_161 1 rfl rfl ?_
    refine xw_sipush (v := 1728) C dX3_init_162 (by decide) ?_
    refine xw_icmp_ge (tgt := 188) C dX3_init_165 (by decide) (fun c => absurd c (nI_ge (b := 1728) (show i < 1728 by omega) (by decide))) (fun _ => ?_)
    have hc : (nI i).toNatClampNeg = i := nI_clamp (by omega)
    have hv : vp_in (nI i) 1728 := vp_in_nI (by omega) (by decide)
    refine xw_aload_n C dX3_init_168 0 rfl rfl ?_
    refine xq_get C (by decide) rfl inB3 10 (by decide) hw_493 rfl dX3_init_169 ?_
    refine xw_iload_n C dX3_init_172 1 rfl rfl ?_
    refine xw_iconst (v := -1) C dX3_init_173 (by decide) ?_
    refine xq_iast C ht (by decide) (by decide) (fun r => xs_427) hv dX3_init_174 ?_
    rw [hc]
    refine xw_aload_n C dX3_init_175 0 rfl rfl ?_
    refine xq_get C (by decide) rfl inB3 11 (by decide) hw_494 rfl dX3_init_176 ?_
    refine xw_iload_n C dX3_init_179 1 rfl rfl ?_
    refine xw_iconst (v := -1) C dX3_init_180 (by decide) ?_
    refine xq_iast C ht (by decide) (by decide) (fun r => xs_428) hv dX3_init_181 ?_
    rw [hc]
    refine xw_iinc (v := nI (i + 1)) C dX3_init_182 rfl (nI_succ i).symm (by decide) ?_
    refine xw_goto (tgt := 161) C dX3_init_185 (by decide) ?_
    exact ih (i + 1) _ (by omega) k
set_option maxHeartbeats 4000000 in
set_option maxRecDepth 100000 in
theorem mX3_init (l : Launch) {D : va_G} {tys : List (ClassId × FieldType)} {base : Nat} {cs : xmC} (ht0 : tys = xm_tys cs) {Z : Nat → va_E} {M : xwM} (hz : ∀ k, 418 ≤ k → M k = fun _ => 0) :
    xk_n l yX3_init cX3_init 2 rX3_init D tys base 419 430 [.ref (xa base 418)] (xt 418 3 Z (xa base) cs [.int 0, .null, .int 0, .null, .null, .null, .null, .null, .null, .null, .null, .null, .null, .int 0, .int 0, .int 0, .int 0] M) (fun k => if k < 418 then Z k else xm_sh (xa base) cs k (mL2 0 1728 (mL1 0 144 M) k)) 11 6282 := by
  refine xk_ofn 1 (by decide) rfl (List.forall_mem_cons.mpr ⟨rfl, List.forall_mem_nil _⟩) (Nat.le_of_ble_eq_true rfl) (fun G e1 hR e3 e4 e5 hr hini hsz hY C => ?_)
  subst e5
  have ht : xgt G = xm_tys cs := e4.trans ht0
  refine xw_aload_n C dX3_init_0 0 rfl rfl ?_
  refine xw_obj C hw_482 hw_48 hw_49 (by rw [hR]; decide) dX3_init_1 ?_
  refine xw_aload_n (xa_C C) dX3_init_4 0 rfl rfl ?_
  refine xw_sipush (v := 144) (xa_C C) dX3_init_5 (by decide) ?_
  refine xq_arr (len := 144) (N2 := 420) (xa_C C) ht (by omega) (by decide) (by decide) (by decide) (by decide) (fun r => xs_419) (hz _ (by decide)) hw_102 (by rw [hR]; decide) rfl dX3_init_8 ?_
  refine xq_put (xa_C C) hini (by decide) rfl inB3 tyX3 tyX3_ok nmX3 1 (by decide) hw_484 rfl rfl rfl rfl rfl (Nat.le_of_ble_eq_true rfl) rfl dX3_init_10 ?_
  refine xw_aload_n (xa_C C) dX3_init_13 0 rfl rfl ?_
  refine xw_bipush (v := 12) (xa_C C) dX3_init_14 (by decide) ?_
  refine xq_arr (len := 12) (N2 := 421) (xa_C C) ht (by omega) (by decide) (by decide) (by decide) (by decide) (fun r => xs_420) (hz _ (by decide)) hw_102 (by rw [hR]; decide) rfl dX3_init_16 ?_
  refine xq_put (xa_C C) hini (by decide) rfl inB3 tyX3 tyX3_ok nmX3 3 (by decide) hw_486 rfl rfl rfl rfl rfl (Nat.le_of_ble_eq_true rfl) rfl dX3_init_18 ?_
  refine xw_aload_n (xa_C C) dX3_init_21 0 rfl rfl ?_
  refine xw_sipush (v := 144) (xa_C C) dX3_init_22 (by decide) ?_
  refine xq_arr (len := 144) (N2 := 422) (xa_C C) ht (by omega) (by decide) (by decide) (by decide) (by decide) (fun r => xs_421) (hz _ (by decide)) hw_102 (by rw [hR]; decide) rfl dX3_init_25 ?_
  refine xq_put (xa_C C) hini (by decide) rfl inB3 tyX3 tyX3_ok nmX3 4 (by decide) hw_487 rfl rfl rfl rfl rfl (Nat.le_of_ble_eq_true rfl) rfl dX3_init_27 ?_
  refine xw_aload_n (xa_C C) dX3_init_30 0 rfl rfl ?_
  refine xw_sipush (v := 144) (xa_C C) dX3_init_31 (by decide) ?_
  refine xq_arr (len := 144) (N2 := 423) (xa_C C) ht (by omega) (by decide) (by decide) (by decide) (by decide) (fun r => xs_422) (hz _ (by decide)) hw_102 (by rw [hR]; decide) rfl dX3_init_34 ?_
  refine xq_put (xa_C C) hini (by decide) rfl inB3 tyX3 tyX3_ok nmX3 5 (by decide) hw_488 rfl rfl rfl rfl rfl (Nat.le_of_ble_eq_true rfl) rfl dX3_init_36 ?_
  refine xw_aload_n (xa_C C) dX3_init_39 0 rfl rfl ?_
  refine xw_sipush (v := 144) (xa_C C) dX3_init_40 (by decide) ?_
  refine xq_arr (len := 144) (N2 := 424) (xa_C C) ht (by omega) (by decide) (by decide) (by decide) (by decide) (fun r => xs_423) (hz _ (by decide)) hw_102 (by rw [hR]; decide) rfl dX3_init_43 ?_
  refine xq_put (xa_C C) hini (by decide) rfl inB3 tyX3 tyX3_ok nmX3 6 (by decide) hw_489 rfl rfl rfl rfl rfl (Nat.le_of_ble_eq_true rfl) rfl dX3_init_45 ?_
  refine xw_aload_n (xa_C C) dX3_init_48 0 rfl rfl ?_
  refine xw_sipush (v := 144) (xa_C C) dX3_init_49 (by decide) ?_
  refine xq_arr (len := 144) (N2 := 425) (xa_C C) ht (by omega) (by decide) (by decide) (by decide) (by decide) (fun r => xs_424) (hz _ (by decide)) hw_102 (by rw [hR]; decide) rfl dX3_init_52 ?_
  refine xq_put (xa_C C) hini (by decide) rfl inB3 tyX3 tyX3_ok nmX3 7 (by decide) hw_490 rfl rfl rfl rfl rfl (Nat.le_of_ble_eq_true rfl) rfl dX3_init_54 ?_
  refine xw_aload_n (xa_C C) dX3_init_57 0 rfl rfl ?_
  refine xw_sipush (v := 144) (xa_C C) dX3_init_58 (by decide) ?_
  refine xq_arr (len := 144) (N2 := 426) (xa_C C) ht (by omega) (by decide) (by decide) (by decide) (by decide) (fun r => xs_425) (hz _ (by decide)) hw_102 (by rw [hR]; decide) rfl dX3_init_61 ?_
  refine xq_put (xa_C C) hini (by decide) rfl inB3 tyX3 tyX3_ok nmX3 8 (by decide) hw_491 rfl rfl rfl rfl rfl (Nat.le_of_ble_eq_true rfl) rfl dX3_init_63 ?_
  refine xw_aload_n (xa_C C) dX3_init_66 0 rfl rfl ?_
  refine xw_sipush (v := 144) (xa_C C) dX3_init_67 (by decide) ?_
  refine xq_arr (len := 144) (N2 := 427) (xa_C C) ht (by omega) (by decide) (by decide) (by decide) (by decide) (fun r => xs_426) (hz _ (by decide)) hw_102 (by rw [hR]; decide) rfl dX3_init_70 ?_
  refine xq_put (xa_C C) hini (by decide) rfl inB3 tyX3 tyX3_ok nmX3 9 (by decide) hw_492 rfl rfl rfl rfl rfl (Nat.le_of_ble_eq_true rfl) rfl dX3_init_72 ?_
  refine xw_aload_n (xa_C C) dX3_init_75 0 rfl rfl ?_
  refine xw_sipush (v := 1728) (xa_C C) dX3_init_76 (by decide) ?_
  refine xq_arr (len := 1728) (N2 := 428) (xa_C C) ht (by omega) (by decide) (by decide) (by decide) (by decide) (fun r => xs_427) (hz _ (by decide)) hw_102 (by rw [hR]; decide) rfl dX3_init_79 ?_
  refine xq_put (xa_C C) hini (by decide) rfl inB3 tyX3 tyX3_ok nmX3 10 (by decide) hw_493 rfl rfl rfl rfl rfl (Nat.le_of_ble_eq_true rfl) rfl dX3_init_81 ?_
  refine xw_aload_n (xa_C C) dX3_init_84 0 rfl rfl ?_
  refine xw_sipush (v := 1728) (xa_C C) dX3_init_85 (by decide) ?_
  refine xq_arr (len := 1728) (N2 := 429) (xa_C C) ht (by omega) (by decide) (by decide) (by decide) (by decide) (fun r => xs_428) (hz _ (by decide)) hw_102 (by rw [hR]; decide) rfl dX3_init_88 ?_
  refine xq_put (xa_C C) hini (by decide) rfl inB3 tyX3 tyX3_ok nmX3 11 (by decide) hw_494 rfl rfl rfl rfl rfl (Nat.le_of_ble_eq_true rfl) rfl dX3_init_90 ?_
  refine xw_aload_n (xa_C C) dX3_init_93 0 rfl rfl ?_
  refine xw_sipush (v := 1806) (xa_C C) dX3_init_94 (by decide) ?_
  refine xq_arr (len := 1806) (N2 := 430) (xa_C C) ht (by omega) (by decide) (by decide) (by decide) (by decide) (fun r => xs_429) (hz _ (by decide)) hw_102 (by rw [hR]; decide) rfl dX3_init_97 ?_
  refine xq_put (xa_C C) hini (by decide) rfl inB3 tyX3 tyX3_ok nmX3 12 (by decide) hw_495 rfl rfl rfl rfl rfl (Nat.le_of_ble_eq_true rfl) rfl dX3_init_99 ?_
  refine xw_iconst (v := 0) (xa_C C) dX3_init_102 (by decide) ?_
  refine xw_istore_n (xa_C C) dX3_init_103 1 rfl (by decide) ?_
  refine model_l1 (xa_C C) ht 144 0 M (by decide) ?_
  refine xw_iconst (v := 0) (xa_C C) dX3_init_159 (by decide) ?_
  refine xw_istore_n (xa_C C) dX3_init_160 1 rfl (by decide) ?_
  refine model_l2 (xa_C C) ht 1728 0 _ (by decide) ?_
  refine xw_cong (fun k hk => ?_) (xw_retn (xa_C C) hr (by decide) (by decide) dX3_init_188)
  by_cases h1 : k < 418
  · rw [if_pos h1, xt_l h1]
  · rw [if_neg h1]
    by_cases h2 : k = 418
    · subst h2
      rw [xt_0]
      have e1 : ∀ (d i : Nat) (M : xwM), mL1 i d M 418 = M 418 := fun d => by
        induction d with
        | zero => intro i M; rfl
        | succ d ih =>
          intro i M
          show mL1 (i + 1) d _ 418 = M 418
          rw [ih]
          funext j
          rw [ms_at, if_neg (by omega), ms_at, if_neg (by omega), ms_at, if_neg (by omega), ms_at, if_neg (by omega), ms_at, if_neg (by omega), ms_at, if_neg (by omega)]
      have e2 : ∀ (d i : Nat) (M : xwM), mL2 i d M 418 = M 418 := fun d => by
        induction d with
        | zero => intro i M; rfl
        | succ d ih =>
          intro i M
          show mL2 (i + 1) d _ 418 = M 418
          rw [ih]
          funext j
          rw [ms_at, if_neg (by omega), ms_at, if_neg (by omega)]
      rw [e2, e1, hz 418 (by decide)]
      rfl
    · rw [xt_g (by omega)]
