abbrev rX2_tell : Room := { frames := 2, cells := 0, slots := 0, locals := 49 }
def fX2_tell_37 (x1 : Int32) (x2 : Int32) (x3 : Int32) (s0 : Int32) (M : xwM) : Option (xwM) :=
  bnv (fX0_send 1 x1 x2 x3 s0 65535 M) fun M27 =>
  some M27
set_option maxHeartbeats 4000000 in
set_option maxRecDepth 100000 in
theorem kX2_tell_37 {G : xwG} {ad : Nat → Nat} {cs : xmC} (C : xw_C G cX2_tell 7 RX2 431 ad) (hR : xgR G = rX2_tell) (ht : xgt G = xm_tys cs) (hr : (xgM G).sig.returnType = none) {M' : xwM} {x1 : Int32} {x2 : Int32} {x3 : Int32} {s0 : Int32} {M : xwM} (hf : fX2_tell_37 x1 x2 x3 s0 M = some M') : XV G (xw_qv G 431 ad (xm_ce ad cs M')) 7 0 0 ad cs M 37 [some (.ref (ad 0)), some (.int x1), some (.int x2), some (.int x3), none, none, none] [.int s0] := by
  unfold fX2_tell_37 at hf
  refine xw_istore C dX2_tell_37 (by decide) ?_
  refine xw_aload_n C dX2_tell_39 0 rfl rfl ?_
  refine xv_getf C (by decide) xs_0 rfl inB2 1 (by decide) hw_134 rfl dX2_tell_40 ?_
  refine xw_iconst (v := 1) C dX2_tell_43 (by decide) ?_
  refine xw_iload_n C dX2_tell_44 1 rfl rfl ?_
  refine xw_iload_n C dX2_tell_45 2 rfl rfl ?_
  refine xw_iload_n C dX2_tell_46 3 rfl rfl ?_
  refine xw_iload C dX2_tell_47 rfl ?_
  refine xw_ldc C hw_248 dX2_tell_49 ?_
  obtain ⟨M_M27, g_28, hf⟩ := bnv_s hf
  refine xc_Vv C (mX0_send (xgl G) C.2.2.2.2.2.2.2.2.1 ht  g_28) FX0_send hw_249 (by decide) xs_L rfl (by rw [hR]; decide) (by rw [hR]; decide) rfl (Nat.le_of_ble_eq_true rfl) dX2_tell_51 rfl ?_
  cases hf
  exact xw_retv C hr dX2_tell_54
def fX2_tell_109 (x1 : Int32) (x2 : Int32) (x3 : Int32) (x5 : Int32) (x6 : Int32) (M : xwM) : Option (xwM) :=
  bnv (fX0_send 1 x1 x2 x3 x5 x6 M) fun M29 =>
  some M29
set_option maxHeartbeats 4000000 in
set_option maxRecDepth 100000 in
theorem kX2_tell_109 {G : xwG} {ad : Nat → Nat} {cs : xmC} (C : xw_C G cX2_tell 7 RX2 431 ad) (hR : xgR G = rX2_tell) (ht : xgt G = xm_tys cs) (hr : (xgM G).sig.returnType = none) {M' : xwM} {x1 : Int32} {x2 : Int32} {x3 : Int32} {x5 : Int32} {x6 : Int32} {M : xwM} (hf : fX2_tell_109 x1 x2 x3 x5 x6 M = some M') : XV G (xw_qv G 431 ad (xm_ce ad cs M')) 7 0 0 ad cs M 109 [some (.ref (ad 0)), some (.int x1), some (.int x2), some (.int x3), none, some (.int x5), some (.int x6)] [] := by
  unfold fX2_tell_109 at hf
  refine xw_aload_n C dX2_tell_109 0 rfl rfl ?_
  refine xv_getf C (by decide) xs_0 rfl inB2 1 (by decide) hw_134 rfl dX2_tell_110 ?_
  refine xw_iconst (v := 1) C dX2_tell_113 (by decide) ?_
  refine xw_iload_n C dX2_tell_114 1 rfl rfl ?_
  refine xw_iload_n C dX2_tell_115 2 rfl rfl ?_
  refine xw_iload_n C dX2_tell_116 3 rfl rfl ?_
  refine xw_iload C dX2_tell_117 rfl ?_
  refine xw_iload C dX2_tell_119 rfl ?_
  obtain ⟨M_M29, g_30, hf⟩ := bnv_s hf
  refine xc_Vv C (mX0_send (xgl G) C.2.2.2.2.2.2.2.2.1 ht  g_30) FX0_send hw_249 (by decide) xs_L rfl (by rw [hR]; decide) (by rw [hR]; decide) rfl (Nat.le_of_ble_eq_true rfl) dX2_tell_121 rfl ?_
  cases hf
  exact xw_retv C hr dX2_tell_124
def fX2_tell (x1 : Int32) (x2 : Int32) (x3 : Int32) (M : xwM) : Option (xwM) :=
  ixr 12 x1 fun n1 =>
  bni (fX1_hasWay n1 x3 M) fun v4 M5 =>
  if v4 = 0 then
    (bni (fX1_hasBound n1 x3 M5) fun v21 M22 =>
      if v21 = 0 then
        (fX2_tell_37 x1 x2 x3 0 M22)
      else
        (ld M22 (4 + 34 * n1) 12 x3 fun v25 =>
          fX2_tell_37 x1 x2 x3 v25 M22))
  else
    (ld M5 (7 + 34 * n1) 12 x3 fun v8 =>
      ld M5 (8 + 34 * n1) 12 x3 fun v10 =>
      if x3 = x1 then
        (fX2_tell_109 x1 x2 x3 v8 v10 M5)
      else
        (bni (fX1_isGood n1 x3 v8 v10 M5) fun v13 M14 =>
          if v13 = 0 then
            (fX2_tell_109 x1 x2 x3 v8 v10 M14)
          else
            (sto M14 (4 + 34 * n1) 12 x3 v8 fun M17 =>
              sto M17 (5 + 34 * n1) 12 x3 v10 fun M19 =>
              fX2_tell_109 x1 x2 x3 v8 v10 M19)))
set_option maxHeartbeats 4000000 in
set_option maxRecDepth 100000 in
theorem kX2_tell_0 {G : xwG} {ad : Nat → Nat} {cs : xmC} (C : xw_C G cX2_tell 7 RX2 431 ad) (hR : xgR G = rX2_tell) (ht : xgt G = xm_tys cs) (hr : (xgM G).sig.returnType = none) {M' : xwM} {x1 : Int32} {x2 : Int32} {x3 : Int32} {M : xwM} (hf : fX2_tell x1 x2 x3 M = some M') : XV G (xw_qv G 431 ad (xm_ce ad cs M')) 7 0 0 ad cs M 0 [some (.ref (ad 0)), some (.int x1), some (.int x2), some (.int x3), none, none, none] [] := by
  unfold fX2_tell at hf
  refine xw_aload_n C dX2_tell_0 0 rfl rfl ?_
  refine xv_getf C (by decide) xs_0 rfl inB2 0 (by decide) hw_133 rfl dX2_tell_1 ?_
  refine xw_iload_n C dX2_tell_4 1 rfl rfl ?_
  obtain ⟨i_2, q_3, hf⟩ := ixr_s hf
  refine xv_aldR C ht i_2 dX2_tell_5 ?_
  refine xw_astore C dX2_tell_6 (by decide) ?_
  refine xw_aload C dX2_tell_8 rfl ?_
  refine xw_iload_n C dX2_tell_10 3 rfl rfl ?_
  obtain ⟨r_v4, M_M5, g_6, hf⟩ := bni_s hf
  refine xc_Vi C (mX1_hasWay (xgl G) C.2.2.2.2.2.2.2.2.1 ht q_3 g_6) FX1_hasWay hw_236 (by omega) (xs_R q_3) rfl (by rw [hR]; decide) (by rw [hR]; decide) rfl (Nat.le_of_ble_eq_true rfl) dX2_tell_11 rfl ?_
  refine xw_if_ne (tgt := 55) C dX2_tell_14 (by decide) (fun c_7 => ?_) (fun c_7 => ?_)
  · have hf := it_f hf c_7
    refine xw_aload C dX2_tell_55 rfl ?_
    refine xv_getf C (by omega) (xs_R q_3) rfl inB1 4 (by decide) hw_71 rfl dX2_tell_57 ?_
    refine xw_iload_n C dX2_tell_60 3 rfl rfl ?_
    obtain ⟨i_9, hf⟩ := ld_s hf
    refine xv_iald C ht (by omega) ((fun _ => xs_A 7 (by decide) q_3) _) i_9 dX2_tell_61 ?_
    refine xw_istore C dX2_tell_62 (by decide) ?_
    refine xw_aload C dX2_tell_64 rfl ?_
    refine xv_getf C (by omega) (xs_R q_3) rfl inB1 5 (by decide) hw_73 rfl dX2_tell_66 ?_
    refine xw_iload_n C dX2_tell_69 3 rfl rfl ?_
    obtain ⟨i_11, hf⟩ := ld_s hf
    refine xv_iald C ht (by omega) ((fun _ => xs_A 8 (by decide) q_3) _) i_11 dX2_tell_70 ?_
    refine xw_istore C dX2_tell_71 (by decide) ?_
    refine xw_iload_n C dX2_tell_73 3 rfl rfl ?_
    refine xw_iload_n C dX2_tell_74 1 rfl rfl ?_
    refine xw_icmp_eq (tgt := 109) C dX2_tell_75 (by decide) (fun c_12 => ?_) (fun c_12 => ?_)
    · have hf := it_t hf c_12
      exact xl_sub (xl_c rfl (xl_c rfl (xl_c rfl (xl_c rfl (xl_n (xl_c rfl (xl_c rfl xl_e))))))) (kX2_tell_109 C hR ht hr  hf)
    · have hf := it_f hf c_12
      refine xw_aload C dX2_tell_78 rfl ?_
      refine xw_iload_n C dX2_tell_80 3 rfl rfl ?_
      refine xw_iload C dX2_tell_81 rfl ?_
      refine xw_iload C dX2_tell_83 rfl ?_
      obtain ⟨r_v13, M_M14, g_15, hf⟩ := bni_s hf
      refine xc_Vi C (mX1_isGood (xgl G) C.2.2.2.2.2.2.2.2.1 ht q_3 g_15) FX1_isGood hw_257 (by omega) (xs_R q_3) rfl (by rw [hR]; decide) (by rw [hR]; decide) rfl (Nat.le_of_ble_eq_true rfl) dX2_tell_85 rfl ?_
      refine xw_if_eq (tgt := 109) C dX2_tell_88 (by decide) (fun c_16 => ?_) (fun c_16 => ?_)
      · have hf := it_t hf c_16
        exact xl_sub (xl_c rfl (xl_c rfl (xl_c rfl (xl_c rfl (xl_n (xl_c rfl (xl_c rfl xl_e))))))) (kX2_tell_109 C hR ht hr  hf)
      · have hf := it_f hf c_16
        refine xw_aload C dX2_tell_91 rfl ?_
        refine xv_getf C (by omega) (xs_R q_3) rfl inB1 1 (by decide) hw_65 rfl dX2_tell_93 ?_
        refine xw_iload_n C dX2_tell_96 3 rfl rfl ?_
        refine xw_iload C dX2_tell_97 rfl ?_
        obtain ⟨i_18, hf⟩ := sto_s hf
        refine xv_iast C ht (by omega) (fun _ => xs_A 4 (by decide) q_3) i_18 dX2_tell_99 ?_
        refine xw_aload C dX2_tell_100 rfl ?_
        refine xv_getf C (by omega) (xs_R q_3) rfl inB1 2 (by decide) hw_67 rfl dX2_tell_102 ?_
        refine xw_iload_n C dX2_tell_105 3 rfl rfl ?_
        refine xw_iload C dX2_tell_106 rfl ?_
        obtain ⟨i_20, hf⟩ := sto_s hf
        refine xv_iast C ht (by omega) (fun _ => xs_A 5 (by decide) q_3) i_20 dX2_tell_108 ?_
        exact xl_sub (xl_c rfl (xl_c rfl (xl_c rfl (xl_c rfl (xl_n (xl_c rfl (xl_c rfl xl_e))))))) (kX2_tell_109 C hR ht hr  hf)
  · have hf := it_t hf c_7
    refine xw_aload C dX2_tell_17 rfl ?_
    refine xw_iload_n C dX2_tell_19 3 rfl rfl ?_
    obtain ⟨r_v21, M_M22, g_23, hf⟩ := bni_s hf
    refine xc_Vi C (mX1_hasBound (xgl G) C.2.2.2.2.2.2.2.2.1 ht q_3 g_23) FX1_hasBound hw_244 (by omega) (xs_R q_3) rfl (by rw [hR]; decide) (by rw [hR]; decide) rfl (Nat.le_of_ble_eq_true rfl) dX2_tell_20 rfl ?_
    refine xw_if_eq (tgt := 36) C dX2_tell_23 (by decide) (fun c_24 => ?_) (fun c_24 => ?_)
    · have hf := it_t hf c_24
      refine xw_iconst (v := 0) C dX2_tell_36 (by decide) ?_
      exact xl_sub (xl_c rfl (xl_c rfl (xl_c rfl (xl_c rfl (xl_n (xl_n (xl_n xl_e))))))) (kX2_tell_37 C hR ht hr  hf)
    · have hf := it_f hf c_24
      refine xw_aload C dX2_tell_26 rfl ?_
      refine xv_getf C (by omega) (xs_R q_3) rfl inB1 1 (by decide) hw_65 rfl dX2_tell_28 ?_
      refine xw_iload_n C dX2_tell_31 3 rfl rfl ?_
      obtain ⟨i_26, hf⟩ := ld_s hf
      refine xv_iald C ht (by omega) ((fun _ => xs_A 4 (by decide) q_3) _) i_26 dX2_tell_32 ?_
      refine xw_goto (tgt := 37) C dX2_tell_33 (by decide) ?_
      exact xl_sub (xl_c rfl (xl_c rfl (xl_c rfl (xl_c rfl (xl_n (xl_n (xl_n xl_e))))))) (kX2_tell_37 C hR ht hr  hf)
theorem mX2_tell (l : Launch) {D : va_G} {tys : List (ClassId × FieldType)} {base : Nat} {ad : Nat → Nat} {cs : xmC} (hJ : xw_J 431 ad base) (ht : tys = xm_tys cs) {x1 : Int32} {x2 : Int32} {x3 : Int32} {M M' : xwM} (hf : fX2_tell x1 x2 x3 M = some M') : xk_v l yX2_tell cX2_tell 7 none rX2_tell D tys base 431 ad [.ref (ad 0), .int x1, .int x2, .int x3] (xm_ce ad cs M) (xm_ce ad cs M') :=
  xk_ofv 3 (by decide) hJ (List.forall_mem_cons.mpr ⟨rfl, List.forall_mem_cons.mpr ⟨rfl, List.forall_mem_cons.mpr ⟨rfl, List.forall_mem_cons.mpr ⟨rfl, List.forall_mem_nil _⟩⟩⟩⟩) (Nat.le_of_ble_eq_true rfl) (fun G e1 e2 e3 e4 e5 hr C => kX2_tell_0 C e2 (e4.trans ht) hr  hf)

abbrev rX2_tellEveryWay : Room := { frames := 3, cells := 0, slots := 0, locals := 75 }
def fX2_tellEveryWay_28 (kf : Int32 → Int32 → Int32 → xwM → Option (xwM)) (x1 : Int32) (x2 : Int32) (x3 : Int32) (M : xwM) : Option (xwM) :=
  kf x1 x2 ((x3 + 1)) M
set_option maxHeartbeats 4000000 in
set_option maxRecDepth 100000 in
theorem kX2_tellEveryWay_28 {G : xwG} {ad : Nat → Nat} {cs : xmC} (C : xw_C G cX2_tellEveryWay 4 RX2 431 ad) (hR : xgR G = rX2_tellEveryWay) (ht : xgt G = xm_tys cs) (hr : (xgM G).sig.returnType = none) {M' : xwM} {kf : Int32 → Int32 → Int32 → xwM → Option (xwM)} (hk : ∀ (yx1 : Int32) (yx2 : Int32) (yx3 : Int32) (M : xwM), kf yx1 yx2 yx3 M = some M' → XV G (xw_qv G 431 ad (xm_ce ad cs M')) 4 0 0 ad cs M 2 [some (.ref (ad 0)), some (.int yx1), some (.int yx2), some (.int yx3)] []) {x1 : Int32} {x2 : Int32} {x3 : Int32} {M : xwM} (hf : fX2_tellEveryWay_28 kf x1 x2 x3 M = some M') : XV G (xw_qv G 431 ad (xm_ce ad cs M')) 4 0 0 ad cs M 28 [some (.ref (ad 0)), some (.int x1), some (.int x2), some (.int x3)] [] := by
  unfold fX2_tellEveryWay_28 at hf
  refine xw_iinc C dX2_tellEveryWay_28 rfl (show _ + Int32.ofInt (1) = _ + (1) from congrArg _ (by decide)) (by decide) ?_
  refine xw_goto (tgt := 2) C dX2_tellEveryWay_31 (by decide) ?_
  exact xl_sub (xl_c rfl (xl_c rfl (xl_c rfl (xl_c rfl xl_e)))) (hk _ _ _ _ hf)
def fX2_tellEveryWay_2 : Nat → Int32 → Int32 → Int32 →  xwM → Option (xwM)
  | 0, _, _, _, _ => none
  | fu + 1, x1, x2, x3, M =>
  if 12 ≤ x3 then
    (some M)
  else
    (ixr 12 x1 fun n2 =>
      bni (fX1_hasWay n2 x3 M) fun v5 M6 =>
      if v5 = 0 then
        (fX2_tellEveryWay_28 (fX2_tellEveryWay_2 fu) x1 x2 x3 M6)
      else
        (bnv (fX2_tell x1 x2 x3 M6) fun M9 =>
          fX2_tellEveryWay_28 (fX2_tellEveryWay_2 fu) x1 x2 x3 M9))
set_option maxHeartbeats 4000000 in
set_option maxRecDepth 100000 in
theorem kX2_tellEveryWay_2 {G : xwG} {ad : Nat → Nat} {cs : xmC} (C : xw_C G cX2_tellEveryWay 4 RX2 431 ad) (hR : xgR G = rX2_tellEveryWay) (ht : xgt G = xm_tys cs) (hr : (xgM G).sig.returnType = none) {M' : xwM} : ∀ (fu : Nat) (x1 : Int32) (x2 : Int32) (x3 : Int32) (M : xwM), fX2_tellEveryWay_2 fu x1 x2 x3 M = some M' → XV G (xw_qv G 431 ad (xm_ce ad cs M')) 4 0 0 ad cs M 2 [some (.ref (ad 0)), some (.int x1), some (.int x2), some (.int x3)] [] := by
  intro fu
  induction fu with
  | zero =>
    intro x1 x2 x3 M  hf
    cases hf
  | succ fu ih =>
    intro x1 x2 x3 M  hf
    rw [fX2_tellEveryWay_2] at hf
    refine xw_iload_n C dX2_tellEveryWay_2 3 rfl rfl ?_
    refine xw_bipush (v := 12) C dX2_tellEveryWay_3 (by decide) ?_
    refine xw_icmp_ge (tgt := 34) C dX2_tellEveryWay_5 (by decide) (fun c_1 => ?_) (fun c_1 => ?_)
    · have hf := it_t hf c_1
      cases hf
      exact xw_retv C hr dX2_tellEveryWay_34
    · have hf := it_f hf c_1
      refine xw_aload_n C dX2_tellEveryWay_8 0 rfl rfl ?_
      refine xv_getf C (by decide) xs_0 rfl inB2 0 (by decide) hw_133 rfl dX2_tellEveryWay_9 ?_
      refine xw_iload_n C dX2_tellEveryWay_12 1 rfl rfl ?_
      obtain ⟨i_3, q_4, hf⟩ := ixr_s hf
      refine xv_aldR C ht i_3 dX2_tellEveryWay_13 ?_
      refine xw_iload_n C dX2_tellEveryWay_14 3 rfl rfl ?_
      obtain ⟨r_v5, M_M6, g_7, hf⟩ := bni_s hf
      refine xc_Vi C (mX1_hasWay (xgl G) C.2.2.2.2.2.2.2.2.1 ht q_4 g_7) FX1_hasWay hw_236 (by omega) (xs_R q_4) rfl (by rw [hR]; decide) (by rw [hR]; decide) rfl (Nat.le_of_ble_eq_true rfl) dX2_tellEveryWay_15 rfl ?_
      refine xw_if_eq (tgt := 28) C dX2_tellEveryWay_18 (by decide) (fun c_8 => ?_) (fun c_8 => ?_)
      · have hf := it_t hf c_8
        exact xl_sub (xl_c rfl (xl_c rfl (xl_c rfl (xl_c rfl xl_e)))) (kX2_tellEveryWay_28 C hR ht hr ih  hf)
      · have hf := it_f hf c_8
        refine xw_aload_n C dX2_tellEveryWay_21 0 rfl rfl ?_
        refine xw_iload_n C dX2_tellEveryWay_22 1 rfl rfl ?_
        refine xw_iload_n C dX2_tellEveryWay_23 2 rfl rfl ?_
        refine xw_iload_n C dX2_tellEveryWay_24 3 rfl rfl ?_
        obtain ⟨M_M9, g_10, hf⟩ := bnv_s hf
        refine xc_Vv C (mX2_tell (xgl G) C.2.2.2.2.2.2.2.2.1 ht  g_10) FX2_tell hw_240 (by decide) xs_0 rfl (by rw [hR]; decide) (by rw [hR]; decide) rfl (Nat.le_of_ble_eq_true rfl) dX2_tellEveryWay_25 rfl ?_
        exact xl_sub (xl_c rfl (xl_c rfl (xl_c rfl (xl_c rfl xl_e)))) (kX2_tellEveryWay_28 C hR ht hr ih  hf)
def fX2_tellEveryWay (x1 : Int32) (x2 : Int32) (M : xwM) : Option (xwM) :=
  fX2_tellEveryWay_2 2001 x1 x2 0 M
set_option maxHeartbeats 4000000 in
set_option maxRecDepth 100000 in
theorem kX2_tellEveryWay_0 {G : xwG} {ad : Nat → Nat} {cs : xmC} (C : xw_C G cX2_tellEveryWay 4 RX2 431 ad) (hR : xgR G = rX2_tellEveryWay) (ht : xgt G = xm_tys cs) (hr : (xgM G).sig.returnType = none) {M' : xwM} {x1 : Int32} {x2 : Int32} {M : xwM} (hf : fX2_tellEveryWay x1 x2 M = some M') : XV G (xw_qv G 431 ad (xm_ce ad cs M')) 4 0 0 ad cs M 0 [some (.ref (ad 0)), some (.int x1), some (.int x2), none] [] := by
  unfold fX2_tellEveryWay at hf
  refine xw_iconst (v := 0) C dX2_tellEveryWay_0 (by decide) ?_
  refine xw_istore_n C dX2_tellEveryWay_1 3 rfl (by decide) ?_
  exact xl_sub (xl_c rfl (xl_c rfl (xl_c rfl (xl_c rfl xl_e)))) (kX2_tellEveryWay_2 C hR ht hr 2001 _ _ _ _ hf)
theorem mX2_tellEveryWay (l : Launch) {D : va_G} {tys : List (ClassId × FieldType)} {base : Nat} {ad : Nat → Nat} {cs : xmC} (hJ : xw_J 431 ad base) (ht : tys = xm_tys cs) {x1 : Int32} {x2 : Int32} {M M' : xwM} (hf : fX2_tellEveryWay x1 x2 M = some M') : xk_v l yX2_tellEveryWay cX2_tellEveryWay 4 none rX2_tellEveryWay D tys base 431 ad [.ref (ad 0), .int x1, .int x2] (xm_ce ad cs M) (xm_ce ad cs M') :=
  xk_ofv 1 (by decide) hJ (List.forall_mem_cons.mpr ⟨rfl, List.forall_mem_cons.mpr ⟨rfl, List.forall_mem_cons.mpr ⟨rfl, List.forall_mem_nil _⟩⟩⟩) (Nat.le_of_ble_eq_true rfl) (fun G e1 e2 e3 e4 e5 hr C => kX2_tellEveryWay_0 C e2 (e4.trans ht) hr  hf)

abbrev rX2_tellAll : Room := { frames := 3, cells := 0, slots := 0, locals := 75 }
def fX2_tellAll_29 (kf : Int32 → Int32 → Int32 → xwM → Option (xwM)) (x1 : Int32) (x2 : Int32) (x3 : Int32) (M : xwM) : Option (xwM) :=
  kf x1 x2 ((x3 + 1)) M
set_option maxHeartbeats 4000000 in
set_option maxRecDepth 100000 in
theorem kX2_tellAll_29 {G : xwG} {ad : Nat → Nat} {cs : xmC} (C : xw_C G cX2_tellAll 4 RX2 431 ad) (hR : xgR G = rX2_tellAll) (ht : xgt G = xm_tys cs) (hr : (xgM G).sig.returnType = none) {M' : xwM} {kf : Int32 → Int32 → Int32 → xwM → Option (xwM)} (hk : ∀ (yx1 : Int32) (yx2 : Int32) (yx3 : Int32) (M : xwM), kf yx1 yx2 yx3 M = some M' → XV G (xw_qv G 431 ad (xm_ce ad cs M')) 4 0 0 ad cs M 2 [some (.ref (ad 0)), some (.int yx1), some (.int yx2), some (.int yx3)] []) {x1 : Int32} {x2 : Int32} {x3 : Int32} {M : xwM} (hf : fX2_tellAll_29 kf x1 x2 x3 M = some M') : XV G (xw_qv G 431 ad (xm_ce ad cs M')) 4 0 0 ad cs M 29 [some (.ref (ad 0)), some (.int x1), some (.int x2), some (.int x3)] [] := by
  unfold fX2_tellAll_29 at hf
  refine xw_iinc C dX2_tellAll_29 rfl (show _ + Int32.ofInt (1) = _ + (1) from congrArg _ (by decide)) (by decide) ?_
  refine xw_goto (tgt := 2) C dX2_tellAll_32 (by decide) ?_
  exact xl_sub (xl_c rfl (xl_c rfl (xl_c rfl (xl_c rfl xl_e)))) (hk _ _ _ _ hf)
def fX2_tellAll_2 : Nat → Int32 → Int32 → Int32 →  xwM → Option (xwM)
  | 0, _, _, _, _ => none
  | fu + 1, x1, x2, x3, M =>
  if 12 ≤ x3 then
    (some M)
  else
    (ixr 12 x1 fun n2 =>
      ld M (3 + 34 * n2) 12 x3 fun v5 =>
      if v5 = 0 then
        (fX2_tellAll_29 (fX2_tellAll_2 fu) x1 x2 x3 M)
      else
        (bnv (fX2_tell x1 x3 x2 M) fun M8 =>
          fX2_tellAll_29 (fX2_tellAll_2 fu) x1 x2 x3 M8))
set_option maxHeartbeats 4000000 in
set_option maxRecDepth 100000 in
theorem kX2_tellAll_2 {G : xwG} {ad : Nat → Nat} {cs : xmC} (C : xw_C G cX2_tellAll 4 RX2 431 ad) (hR : xgR G = rX2_tellAll) (ht : xgt G = xm_tys cs) (hr : (xgM G).sig.returnType = none) {M' : xwM} : ∀ (fu : Nat) (x1 : Int32) (x2 : Int32) (x3 : Int32) (M : xwM), fX2_tellAll_2 fu x1 x2 x3 M = some M' → XV G (xw_qv G 431 ad (xm_ce ad cs M')) 4 0 0 ad cs M 2 [some (.ref (ad 0)), some (.int x1), some (.int x2), some (.int x3)] [] := by
  intro fu
  induction fu with
  | zero =>
    intro x1 x2 x3 M  hf
    cases hf
  | succ fu ih =>
    intro x1 x2 x3 M  hf
    rw [fX2_tellAll_2] at hf
    refine xw_iload_n C dX2_tellAll_2 3 rfl rfl ?_
    refine xw_bipush (v := 12) C dX2_tellAll_3 (by decide) ?_
    refine xw_icmp_ge (tgt := 35) C dX2_tellAll_5 (by decide) (fun c_1 => ?_) (fun c_1 => ?_)
    · have hf := it_t hf c_1
      cases hf
      exact xw_retv C hr dX2_tellAll_35
    · have hf := it_f hf c_1
      refine xw_aload_n C dX2_tellAll_8 0 rfl rfl ?_
      refine xv_getf C (by decide) xs_0 rfl inB2 0 (by decide) hw_133 rfl dX2_tellAll_9 ?_
      refine xw_iload_n C dX2_tellAll_12 1 rfl rfl ?_
      obtain ⟨i_3, q_4, hf⟩ := ixr_s hf
      refine xv_aldR C ht i_3 dX2_tellAll_13 ?_
      refine xv_getf C (by omega) (xs_R q_4) rfl inB1 0 (by decide) hw_63 rfl dX2_tellAll_14 ?_
      refine xw_iload_n C dX2_tellAll_17 3 rfl rfl ?_
      obtain ⟨i_6, hf⟩ := ld_s hf
      refine xv_iald C ht (by omega) ((fun _ => xs_A 3 (by decide) q_4) _) i_6 dX2_tellAll_18 ?_
      refine xw_if_eq (tgt := 29) C dX2_tellAll_19 (by decide) (fun c_7 => ?_) (fun c_7 => ?_)
      · have hf := it_t hf c_7
        exact xl_sub (xl_c rfl (xl_c rfl (xl_c rfl (xl_c rfl xl_e)))) (kX2_tellAll_29 C hR ht hr ih  hf)
      · have hf := it_f hf c_7
        refine xw_aload_n C dX2_tellAll_22 0 rfl rfl ?_
        refine xw_iload_n C dX2_tellAll_23 1 rfl rfl ?_
        refine xw_iload_n C dX2_tellAll_24 3 rfl rfl ?_
        refine xw_iload_n C dX2_tellAll_25 2 rfl rfl ?_
        obtain ⟨M_M8, g_9, hf⟩ := bnv_s hf
        refine xc_Vv C (mX2_tell (xgl G) C.2.2.2.2.2.2.2.2.1 ht  g_9) FX2_tell hw_240 (by decide) xs_0 rfl (by rw [hR]; decide) (by rw [hR]; decide) rfl (Nat.le_of_ble_eq_true rfl) dX2_tellAll_26 rfl ?_
        exact xl_sub (xl_c rfl (xl_c rfl (xl_c rfl (xl_c rfl xl_e)))) (kX2_tellAll_29 C hR ht hr ih  hf)
def fX2_tellAll (x1 : Int32) (x2 : Int32) (M : xwM) : Option (xwM) :=
  fX2_tellAll_2 2001 x1 x2 0 M
set_option maxHeartbeats 4000000 in
set_option maxRecDepth 100000 in
theorem kX2_tellAll_0 {G : xwG} {ad : Nat → Nat} {cs : xmC} (C : xw_C G cX2_tellAll 4 RX2 431 ad) (hR : xgR G = rX2_tellAll) (ht : xgt G = xm_tys cs) (hr : (xgM G).sig.returnType = none) {M' : xwM} {x1 : Int32} {x2 : Int32} {M : xwM} (hf : fX2_tellAll x1 x2 M = some M') : XV G (xw_qv G 431 ad (xm_ce ad cs M')) 4 0 0 ad cs M 0 [some (.ref (ad 0)), some (.int x1), some (.int x2), none] [] := by
  unfold fX2_tellAll at hf
  refine xw_iconst (v := 0) C dX2_tellAll_0 (by decide) ?_
  refine xw_istore_n C dX2_tellAll_1 3 rfl (by decide) ?_
  exact xl_sub (xl_c rfl (xl_c rfl (xl_c rfl (xl_c rfl xl_e)))) (kX2_tellAll_2 C hR ht hr 2001 _ _ _ _ hf)
theorem mX2_tellAll (l : Launch) {D : va_G} {tys : List (ClassId × FieldType)} {base : Nat} {ad : Nat → Nat} {cs : xmC} (hJ : xw_J 431 ad base) (ht : tys = xm_tys cs) {x1 : Int32} {x2 : Int32} {M M' : xwM} (hf : fX2_tellAll x1 x2 M = some M') : xk_v l yX2_tellAll cX2_tellAll 4 none rX2_tellAll D tys base 431 ad [.ref (ad 0), .int x1, .int x2] (xm_ce ad cs M) (xm_ce ad cs M') :=
  xk_ofv 1 (by decide) hJ (List.forall_mem_cons.mpr ⟨rfl, List.forall_mem_cons.mpr ⟨rfl, List.forall_mem_cons.mpr ⟨rfl, List.forall_mem_nil _⟩⟩⟩) (Nat.le_of_ble_eq_true rfl) (fun G e1 e2 e3 e4 e5 hr C => kX2_tellAll_0 C e2 (e4.trans ht) hr  hf)

abbrev rX2_requestAll : Room := { frames := 2, cells := 0, slots := 0, locals := 49 }
def fX2_requestAll_47 (kf : Int32 → Int32 → Int32 → Int32 → Int32 → Int32 → xwM → Option (xwM)) (x1 : Int32) (x2 : Int32) (x3 : Int32) (x4 : Int32) (x5 : Int32) (x6 : Int32) (M : xwM) : Option (xwM) :=
  kf x1 x2 x3 x4 x5 ((x6 + 1)) M
set_option maxHeartbeats 4000000 in
set_option maxRecDepth 100000 in
theorem kX2_requestAll_47 {G : xwG} {ad : Nat → Nat} {cs : xmC} (C : xw_C G cX2_requestAll 7 RX2 431 ad) (hR : xgR G = rX2_requestAll) (ht : xgt G = xm_tys cs) (hr : (xgM G).sig.returnType = none) {M' : xwM} {kf : Int32 → Int32 → Int32 → Int32 → Int32 → Int32 → xwM → Option (xwM)} (hk : ∀ (yx1 : Int32) (yx2 : Int32) (yx3 : Int32) (yx4 : Int32) (yx5 : Int32) (yx6 : Int32) (M : xwM), kf yx1 yx2 yx3 yx4 yx5 yx6 M = some M' → XV G (xw_qv G 431 ad (xm_ce ad cs M')) 7 0 0 ad cs M 3 [some (.ref (ad 0)), some (.int yx1), some (.int yx2), some (.int yx3), some (.int yx4), some (.int yx5), some (.int yx6)] []) {x1 : Int32} {x2 : Int32} {x3 : Int32} {x4 : Int32} {x5 : Int32} {x6 : Int32} {M : xwM} (hf : fX2_requestAll_47 kf x1 x2 x3 x4 x5 x6 M = some M') : XV G (xw_qv G 431 ad (xm_ce ad cs M')) 7 0 0 ad cs M 47 [some (.ref (ad 0)), some (.int x1), some (.int x2), some (.int x3), some (.int x4), some (.int x5), some (.int x6)] [] := by
  unfold fX2_requestAll_47 at hf
  refine xw_iinc C dX2_requestAll_47 rfl (show _ + Int32.ofInt (1) = _ + (1) from congrArg _ (by decide)) (by decide) ?_
  refine xw_goto (tgt := 3) C dX2_requestAll_50 (by decide) ?_
  exact xl_sub (xl_c rfl (xl_c rfl (xl_c rfl (xl_c rfl (xl_c rfl (xl_c rfl (xl_c rfl xl_e))))))) (hk _ _ _ _ _ _ _ hf)
def fX2_requestAll_3 : Nat → Int32 → Int32 → Int32 → Int32 → Int32 → Int32 →  xwM → Option (xwM)
  | 0, _, _, _, _, _, _, _ => none
  | fu + 1, x1, x2, x3, x4, x5, x6, M =>
  if 12 ≤ x6 then
    (some M)
  else
    (if x6 = x2 then
        (fX2_requestAll_47 (fX2_requestAll_3 fu) x1 x2 x3 x4 x5 x6 M)
      else
        (ixr 12 x1 fun n3 =>
          ld M (3 + 34 * n3) 12 x6 fun v6 =>
          if v6 = 0 then
            (fX2_requestAll_47 (fX2_requestAll_3 fu) x1 x2 x3 x4 x5 x6 M)
          else
            (bnv (fX0_send 2 x1 x6 x3 x4 x5 M) fun M9 =>
              fX2_requestAll_47 (fX2_requestAll_3 fu) x1 x2 x3 x4 x5 x6 M9)))
set_option maxHeartbeats 4000000 in
set_option maxRecDepth 100000 in
theorem kX2_requestAll_3 {G : xwG} {ad : Nat → Nat} {cs : xmC} (C : xw_C G cX2_requestAll 7 RX2 431 ad) (hR : xgR G = rX2_requestAll) (ht : xgt G = xm_tys cs) (hr : (xgM G).sig.returnType = none) {M' : xwM} : ∀ (fu : Nat) (x1 : Int32) (x2 : Int32) (x3 : Int32) (x4 : Int32) (x5 : Int32) (x6 : Int32) (M : xwM), fX2_requestAll_3 fu x1 x2 x3 x4 x5 x6 M = some M' → XV G (xw_qv G 431 ad (xm_ce ad cs M')) 7 0 0 ad cs M 3 [some (.ref (ad 0)), some (.int x1), some (.int x2), some (.int x3), some (.int x4), some (.int x5), some (.int x6)] [] := by
  intro fu
  induction fu with
  | zero =>
    intro x1 x2 x3 x4 x5 x6 M  hf
    cases hf
  | succ fu ih =>
    intro x1 x2 x3 x4 x5 x6 M  hf
    rw [fX2_requestAll_3] at hf
    refine xw_iload C dX2_requestAll_3 rfl ?_
    refine xw_bipush (v := 12) C dX2_requestAll_5 (by decide) ?_
    refine xw_icmp_ge (tgt := 53) C dX2_requestAll_7 (by decide) (fun c_1 => ?_) (fun c_1 => ?_)
    · have hf := it_t hf c_1
      cases hf
      exact xw_retv C hr dX2_requestAll_53
    · have hf := it_f hf c_1
      refine xw_iload C dX2_requestAll_10 rfl ?_
      refine xw_iload_n C dX2_requestAll_12 2 rfl rfl ?_
      refine xw_icmp_eq (tgt := 47) C dX2_requestAll_13 (by decide) (fun c_2 => ?_) (fun c_2 => ?_)
      · have hf := it_t hf c_2
        exact xl_sub (xl_c rfl (xl_c rfl (xl_c rfl (xl_c rfl (xl_c rfl (xl_c rfl (xl_c rfl xl_e))))))) (kX2_requestAll_47 C hR ht hr ih  hf)
      · have hf := it_f hf c_2
        refine xw_aload_n C dX2_requestAll_16 0 rfl rfl ?_
        refine xv_getf C (by decide) xs_0 rfl inB2 0 (by decide) hw_133 rfl dX2_requestAll_17 ?_
        refine xw_iload_n C dX2_requestAll_20 1 rfl rfl ?_
        obtain ⟨i_4, q_5, hf⟩ := ixr_s hf
        refine xv_aldR C ht i_4 dX2_requestAll_21 ?_
        refine xv_getf C (by omega) (xs_R q_5) rfl inB1 0 (by decide) hw_63 rfl dX2_requestAll_22 ?_
        refine xw_iload C dX2_requestAll_25 rfl ?_
        obtain ⟨i_7, hf⟩ := ld_s hf
        refine xv_iald C ht (by omega) ((fun _ => xs_A 3 (by decide) q_5) _) i_7 dX2_requestAll_27 ?_
        refine xw_if_eq (tgt := 47) C dX2_requestAll_28 (by decide) (fun c_8 => ?_) (fun c_8 => ?_)
        · have hf := it_t hf c_8
          exact xl_sub (xl_c rfl (xl_c rfl (xl_c rfl (xl_c rfl (xl_c rfl (xl_c rfl (xl_c rfl xl_e))))))) (kX2_requestAll_47 C hR ht hr ih  hf)
        · have hf := it_f hf c_8
          refine xw_aload_n C dX2_requestAll_31 0 rfl rfl ?_
          refine xv_getf C (by decide) xs_0 rfl inB2 1 (by decide) hw_134 rfl dX2_requestAll_32 ?_
          refine xw_iconst (v := 2) C dX2_requestAll_35 (by decide) ?_
          refine xw_iload_n C dX2_requestAll_36 1 rfl rfl ?_
          refine xw_iload C dX2_requestAll_37 rfl ?_
          refine xw_iload_n C dX2_requestAll_39 3 rfl rfl ?_
          refine xw_iload C dX2_requestAll_40 rfl ?_
          refine xw_iload C dX2_requestAll_42 rfl ?_
          obtain ⟨M_M9, g_10, hf⟩ := bnv_s hf
          refine xc_Vv C (mX0_send (xgl G) C.2.2.2.2.2.2.2.2.1 ht  g_10) FX0_send hw_249 (by decide) xs_L rfl (by rw [hR]; decide) (by rw [hR]; decide) rfl (Nat.le_of_ble_eq_true rfl) dX2_requestAll_44 rfl ?_
          exact xl_sub (xl_c rfl (xl_c rfl (xl_c rfl (xl_c rfl (xl_c rfl (xl_c rfl (xl_c rfl xl_e))))))) (kX2_requestAll_47 C hR ht hr ih  hf)
def fX2_requestAll (x1 : Int32) (x2 : Int32) (x3 : Int32) (x4 : Int32) (x5 : Int32) (M : xwM) : Option (xwM) :=
  fX2_requestAll_3 2001 x1 x2 x3 x4 x5 0 M
set_option maxHeartbeats 4000000 in
set_option maxRecDepth 100000 in
theorem kX2_requestAll_0 {G : xwG} {ad : Nat → Nat} {cs : xmC} (C : xw_C G cX2_requestAll 7 RX2 431 ad) (hR : xgR G = rX2_requestAll) (ht : xgt G = xm_tys cs) (hr : (xgM G).sig.returnType = none) {M' : xwM} {x1 : Int32} {x2 : Int32} {x3 : Int32} {x4 : Int32} {x5 : Int32} {M : xwM} (hf : fX2_requestAll x1 x2 x3 x4 x5 M = some M') : XV G (xw_qv G 431 ad (xm_ce ad cs M')) 7 0 0 ad cs M 0 [some (.ref (ad 0)), some (.int x1), some (.int x2), some (.int x3), some (.int x4), some (.int x5), none] [] := by
  unfold fX2_requestAll at hf
  refine xw_iconst (v := 0) C dX2_requestAll_0 (by decide) ?_
  refine xw_istore C dX2_requestAll_1 (by decide) ?_
  exact xl_sub (xl_c rfl (xl_c rfl (xl_c rfl (xl_c rfl (xl_c rfl (xl_c rfl (xl_c rfl xl_e))))))) (kX2_requestAll_3 C hR ht hr 2001 _ _ _ _ _ _ _ hf)
theorem mX2_requestAll (l : Launch) {D : va_G} {tys : List (ClassId × FieldType)} {base : Nat} {ad : Nat → Nat} {cs : xmC} (hJ : xw_J 431 ad base) (ht : tys = xm_tys cs) {x1 : Int32} {x2 : Int32} {x3 : Int32} {x4 : Int32} {x5 : Int32} {M M' : xwM} (hf : fX2_requestAll x1 x2 x3 x4 x5 M = some M') : xk_v l yX2_requestAll cX2_requestAll 7 none rX2_requestAll D tys base 431 ad [.ref (ad 0), .int x1, .int x2, .int x3, .int x4, .int x5] (xm_ce ad cs M) (xm_ce ad cs M') :=
  xk_ofv 1 (by decide) hJ (List.forall_mem_cons.mpr ⟨rfl, List.forall_mem_cons.mpr ⟨rfl, List.forall_mem_cons.mpr ⟨rfl, List.forall_mem_cons.mpr ⟨rfl, List.forall_mem_cons.mpr ⟨rfl, List.forall_mem_cons.mpr ⟨rfl, List.forall_mem_nil _⟩⟩⟩⟩⟩⟩) (Nat.le_of_ble_eq_true rfl) (fun G e1 e2 e3 e4 e5 hr C => kX2_requestAll_0 C e2 (e4.trans ht) hr  hf)

abbrev rX2_askAll : Room := { frames := 3, cells := 0, slots := 0, locals := 75 }
def fX2_askAll_28 (x1 : Int32) (x2 : Int32) (s0 : Int32) (M : xwM) : Option (xwM) :=
  bnv (fX2_requestAll x1 (-1) x2 s0 8 M) fun M13 =>
  some M13
set_option maxHeartbeats 4000000 in
set_option maxRecDepth 100000 in
theorem kX2_askAll_28 {G : xwG} {ad : Nat → Nat} {cs : xmC} (C : xw_C G cX2_askAll 5 RX2 431 ad) (hR : xgR G = rX2_askAll) (ht : xgt G = xm_tys cs) (hr : (xgM G).sig.returnType = none) {M' : xwM} {x1 : Int32} {x2 : Int32} {s0 : Int32} {M : xwM} (hf : fX2_askAll_28 x1 x2 s0 M = some M') : XV G (xw_qv G 431 ad (xm_ce ad cs M')) 5 0 0 ad cs M 28 [some (.ref (ad 0)), some (.int x1), some (.int x2), none, none] [.int s0] := by
  unfold fX2_askAll_28 at hf
  refine xw_istore C dX2_askAll_28 (by decide) ?_
  refine xw_aload_n C dX2_askAll_30 0 rfl rfl ?_
  refine xw_iload_n C dX2_askAll_31 1 rfl rfl ?_
  refine xw_iconst (v := -1) C dX2_askAll_32 (by decide) ?_
  refine xw_iload_n C dX2_askAll_33 2 rfl rfl ?_
  refine xw_iload C dX2_askAll_34 rfl ?_
  refine xw_bipush (v := 8) C dX2_askAll_36 (by decide) ?_
  obtain ⟨M_M13, g_14, hf⟩ := bnv_s hf
  refine xc_Vv C (mX2_requestAll (xgl G) C.2.2.2.2.2.2.2.2.1 ht  g_14) FX2_requestAll hw_298 (by decide) xs_0 rfl (by rw [hR]; decide) (by rw [hR]; decide) rfl (Nat.le_of_ble_eq_true rfl) dX2_askAll_38 rfl ?_
  cases hf
  exact xw_retv C hr dX2_askAll_41
def fX2_askAll (x1 : Int32) (x2 : Int32) (M : xwM) : Option (xwM) :=
  ixr 12 x1 fun n1 =>
  bni (fX1_hasBound n1 x2 M) fun v4 M5 =>
  if v4 = 0 then
    (fX2_askAll_28 x1 x2 0 M5)
  else
    (ld M5 (4 + 34 * n1) 12 x2 fun v8 =>
      bni (fX2_nextNumber v8 M5) fun v10 M11 =>
      fX2_askAll_28 x1 x2 v10 M11)
set_option maxHeartbeats 4000000 in
set_option maxRecDepth 100000 in
theorem kX2_askAll_0 {G : xwG} {ad : Nat → Nat} {cs : xmC} (C : xw_C G cX2_askAll 5 RX2 431 ad) (hR : xgR G = rX2_askAll) (ht : xgt G = xm_tys cs) (hr : (xgM G).sig.returnType = none) {M' : xwM} {x1 : Int32} {x2 : Int32} {M : xwM} (hf : fX2_askAll x1 x2 M = some M') : XV G (xw_qv G 431 ad (xm_ce ad cs M')) 5 0 0 ad cs M 0 [some (.ref (ad 0)), some (.int x1), some (.int x2), none, none] [] := by
  unfold fX2_askAll at hf
  refine xw_aload_n C dX2_askAll_0 0 rfl rfl ?_
  refine xv_getf C (by decide) xs_0 rfl inB2 0 (by decide) hw_133 rfl dX2_askAll_1 ?_
  refine xw_iload_n C dX2_askAll_4 1 rfl rfl ?_
  obtain ⟨i_2, q_3, hf⟩ := ixr_s hf
  refine xv_aldR C ht i_2 dX2_askAll_5 ?_
  refine xw_astore_n C dX2_askAll_6 3 rfl (by decide) ?_
  refine xw_aload_n C dX2_askAll_7 3 rfl rfl ?_
  refine xw_iload_n C dX2_askAll_8 2 rfl rfl ?_
  obtain ⟨r_v4, M_M5, g_6, hf⟩ := bni_s hf
  refine xc_Vi C (mX1_hasBound (xgl G) C.2.2.2.2.2.2.2.2.1 ht q_3 g_6) FX1_hasBound hw_244 (by omega) (xs_R q_3) rfl (by rw [hR]; decide) (by rw [hR]; decide) rfl (Nat.le_of_ble_eq_true rfl) dX2_askAll_9 rfl ?_
  refine xw_if_eq (tgt := 27) C dX2_askAll_12 (by decide) (fun c_7 => ?_) (fun c_7 => ?_)
  · have hf := it_t hf c_7
    refine xw_iconst (v := 0) C dX2_askAll_27 (by decide) ?_
    exact xl_sub (xl_c rfl (xl_c rfl (xl_c rfl (xl_n (xl_n xl_e))))) (kX2_askAll_28 C hR ht hr  hf)
  · have hf := it_f hf c_7
    refine xw_aload_n C dX2_askAll_15 3 rfl rfl ?_
    refine xv_getf C (by omega) (xs_R q_3) rfl inB1 1 (by decide) hw_65 rfl dX2_askAll_16 ?_
    refine xw_iload_n C dX2_askAll_19 2 rfl rfl ?_
    obtain ⟨i_9, hf⟩ := ld_s hf
    refine xv_iald C ht (by omega) ((fun _ => xs_A 4 (by decide) q_3) _) i_9 dX2_askAll_20 ?_
    obtain ⟨r_v10, M_M11, g_12, hf⟩ := bni_s hf
    refine xc_Si C (mX2_nextNumber (xgl G) C.2.2.2.2.2.2.2.2.1 ht  g_12) FX2_nextNumber hw_295 (by rw [hR]; decide) (by rw [hR]; decide) rfl (Nat.le_of_ble_eq_true rfl) dX2_askAll_21 rfl ?_
    refine xw_goto (tgt := 28) C dX2_askAll_24 (by decide) ?_
    exact xl_sub (xl_c rfl (xl_c rfl (xl_c rfl (xl_n (xl_n xl_e))))) (kX2_askAll_28 C hR ht hr  hf)
theorem mX2_askAll (l : Launch) {D : va_G} {tys : List (ClassId × FieldType)} {base : Nat} {ad : Nat → Nat} {cs : xmC} (hJ : xw_J 431 ad base) (ht : tys = xm_tys cs) {x1 : Int32} {x2 : Int32} {M M' : xwM} (hf : fX2_askAll x1 x2 M = some M') : xk_v l yX2_askAll cX2_askAll 5 none rX2_askAll D tys base 431 ad [.ref (ad 0), .int x1, .int x2] (xm_ce ad cs M) (xm_ce ad cs M') :=
  xk_ofv 2 (by decide) hJ (List.forall_mem_cons.mpr ⟨rfl, List.forall_mem_cons.mpr ⟨rfl, List.forall_mem_cons.mpr ⟨rfl, List.forall_mem_nil _⟩⟩⟩) (Nat.le_of_ble_eq_true rfl) (fun G e1 e2 e3 e4 e5 hr C => kX2_askAll_0 C e2 (e4.trans ht) hr  hf)

abbrev rX2_chooseAnew : Room := { frames := 4, cells := 0, slots := 0, locals := 99 }
def fX2_chooseAnew_39 (M : xwM) : Option (xwM) :=
  some M
set_option maxHeartbeats 4000000 in
set_option maxRecDepth 100000 in
theorem kX2_chooseAnew_39 {G : xwG} {ad : Nat → Nat} {cs : xmC} (C : xw_C G cX2_chooseAnew 3 RX2 431 ad) (hR : xgR G = rX2_chooseAnew) (ht : xgt G = xm_tys cs) (hr : (xgM G).sig.returnType = none) {M' : xwM} {M : xwM} (hf : fX2_chooseAnew_39  M = some M') : XV G (xw_qv G 431 ad (xm_ce ad cs M')) 3 0 0 ad cs M 39 [none, none, none] [] := by
  unfold fX2_chooseAnew_39 at hf
  cases hf
  exact xw_retv C hr dX2_chooseAnew_39
def fX2_chooseAnew (x1 : Int32) (x2 : Int32) (M : xwM) : Option (xwM) :=
  ixr 12 x1 fun n1 =>
  bni (fX1_takeBestWay n1 x2 M) fun v4 M5 =>
  if v4 = 0 then
    (some M5)
  else
    (bnv (fX2_tellAll x1 x2 M5) fun M8 =>
      ixr 12 x1 fun n10 =>
      bni (fX1_hasWay n10 x2 M8) fun v13 M14 =>
      if v13 = 0 then
        (bnv (fX2_askAll x1 x2 M14) fun M17 =>
          fX2_chooseAnew_39  M17)
      else
        (fX2_chooseAnew_39  M14))
set_option maxHeartbeats 4000000 in
set_option maxRecDepth 100000 in
theorem kX2_chooseAnew_0 {G : xwG} {ad : Nat → Nat} {cs : xmC} (C : xw_C G cX2_chooseAnew 3 RX2 431 ad) (hR : xgR G = rX2_chooseAnew) (ht : xgt G = xm_tys cs) (hr : (xgM G).sig.returnType = none) {M' : xwM} {x1 : Int32} {x2 : Int32} {M : xwM} (hf : fX2_chooseAnew x1 x2 M = some M') : XV G (xw_qv G 431 ad (xm_ce ad cs M')) 3 0 0 ad cs M 0 [some (.ref (ad 0)), some (.int x1), some (.int x2)] [] := by
  unfold fX2_chooseAnew at hf
  refine xw_aload_n C dX2_chooseAnew_0 0 rfl rfl ?_
  refine xv_getf C (by decide) xs_0 rfl inB2 0 (by decide) hw_133 rfl dX2_chooseAnew_1 ?_
  refine xw_iload_n C dX2_chooseAnew_4 1 rfl rfl ?_
  obtain ⟨i_2, q_3, hf⟩ := ixr_s hf
  refine xv_aldR C ht i_2 dX2_chooseAnew_5 ?_
  refine xw_iload_n C dX2_chooseAnew_6 2 rfl rfl ?_
  obtain ⟨r_v4, M_M5, g_6, hf⟩ := bni_s hf
  refine xc_Vi C (mX1_takeBestWay (xgl G) C.2.2.2.2.2.2.2.2.1 ht q_3 g_6) FX1_takeBestWay hw_277 (by omega) (xs_R q_3) rfl (by rw [hR]; decide) (by rw [hR]; decide) rfl (Nat.le_of_ble_eq_true rfl) dX2_chooseAnew_7 rfl ?_
  refine xw_if_ne (tgt := 14) C dX2_chooseAnew_10 (by decide) (fun c_7 => ?_) (fun c_7 => ?_)
  · have hf := it_f hf c_7
    refine xw_aload_n C dX2_chooseAnew_14 0 rfl rfl ?_
    refine xw_iload_n C dX2_chooseAnew_15 1 rfl rfl ?_
    refine xw_iload_n C dX2_chooseAnew_16 2 rfl rfl ?_
    obtain ⟨M_M8, g_9, hf⟩ := bnv_s hf
    refine xc_Vv C (mX2_tellAll (xgl G) C.2.2.2.2.2.2.2.2.1 ht  g_9) FX2_tellAll hw_287 (by decide) xs_0 rfl (by rw [hR]; decide) (by rw [hR]; decide) rfl (Nat.le_of_ble_eq_true rfl) dX2_chooseAnew_17 rfl ?_
    refine xw_aload_n C dX2_chooseAnew_20 0 rfl rfl ?_
    refine xv_getf C (by decide) xs_0 rfl inB2 0 (by decide) hw_133 rfl dX2_chooseAnew_21 ?_
    refine xw_iload_n C dX2_chooseAnew_24 1 rfl rfl ?_
    obtain ⟨i_11, q_12, hf⟩ := ixr_s hf
    refine xv_aldR C ht i_11 dX2_chooseAnew_25 ?_
    refine xw_iload_n C dX2_chooseAnew_26 2 rfl rfl ?_
    obtain ⟨r_v13, M_M14, g_15, hf⟩ := bni_s hf
    refine xc_Vi C (mX1_hasWay (xgl G) C.2.2.2.2.2.2.2.2.1 ht q_12 g_15) FX1_hasWay hw_236 (by omega) (xs_R q_12) rfl (by rw [hR]; decide) (by rw [hR]; decide) rfl (Nat.le_of_ble_eq_true rfl) dX2_chooseAnew_27 rfl ?_
    refine xw_if_ne (tgt := 39) C dX2_chooseAnew_30 (by decide) (fun c_16 => ?_) (fun c_16 => ?_)
    · have hf := it_f hf c_16
      exact xl_sub (xl_n (xl_n (xl_n xl_e))) (kX2_chooseAnew_39 C hR ht hr  hf)
    · have hf := it_t hf c_16
      refine xw_aload_n C dX2_chooseAnew_33 0 rfl rfl ?_
      refine xw_iload_n C dX2_chooseAnew_34 1 rfl rfl ?_
      refine xw_iload_n C dX2_chooseAnew_35 2 rfl rfl ?_
      obtain ⟨M_M17, g_18, hf⟩ := bnv_s hf
      refine xc_Vv C (mX2_askAll (xgl G) C.2.2.2.2.2.2.2.2.1 ht  g_18) FX2_askAll hw_291 (by decide) xs_0 rfl (by rw [hR]; decide) (by rw [hR]; decide) rfl (Nat.le_of_ble_eq_true rfl) dX2_chooseAnew_36 rfl ?_
      exact xl_sub (xl_n (xl_n (xl_n xl_e))) (kX2_chooseAnew_39 C hR ht hr  hf)
  · have hf := it_t hf c_7
    cases hf
    exact xw_retv C hr dX2_chooseAnew_13
theorem mX2_chooseAnew (l : Launch) {D : va_G} {tys : List (ClassId × FieldType)} {base : Nat} {ad : Nat → Nat} {cs : xmC} (hJ : xw_J 431 ad base) (ht : tys = xm_tys cs) {x1 : Int32} {x2 : Int32} {M M' : xwM} (hf : fX2_chooseAnew x1 x2 M = some M') : xk_v l yX2_chooseAnew cX2_chooseAnew 3 none rX2_chooseAnew D tys base 431 ad [.ref (ad 0), .int x1, .int x2] (xm_ce ad cs M) (xm_ce ad cs M') :=
  xk_ofv 0 (by decide) hJ (List.forall_mem_cons.mpr ⟨rfl, List.forall_mem_cons.mpr ⟨rfl, List.forall_mem_cons.mpr ⟨rfl, List.forall_mem_nil _⟩⟩⟩) (Nat.le_of_ble_eq_true rfl) (fun G e1 e2 e3 e4 e5 hr C => kX2_chooseAnew_0 C e2 (e4.trans ht) hr  hf)

abbrev rX2_chooseEverywhere : Room := { frames := 5, cells := 0, slots := 0, locals := 121 }
def fX2_chooseEverywhere_19 (kf : Int32 → Int32 → xwM → Option (xwM)) (x1 : Int32) (x2 : Int32) (M : xwM) : Option (xwM) :=
  kf x1 ((x2 + 1)) M
set_option maxHeartbeats 4000000 in
set_option maxRecDepth 100000 in
theorem kX2_chooseEverywhere_19 {G : xwG} {ad : Nat → Nat} {cs : xmC} (C : xw_C G cX2_chooseEverywhere 3 RX2 431 ad) (hR : xgR G = rX2_chooseEverywhere) (ht : xgt G = xm_tys cs) (hr : (xgM G).sig.returnType = none) {M' : xwM} {kf : Int32 → Int32 → xwM → Option (xwM)} (hk : ∀ (yx1 : Int32) (yx2 : Int32) (M : xwM), kf yx1 yx2 M = some M' → XV G (xw_qv G 431 ad (xm_ce ad cs M')) 3 0 0 ad cs M 2 [some (.ref (ad 0)), some (.int yx1), some (.int yx2)] []) {x1 : Int32} {x2 : Int32} {M : xwM} (hf : fX2_chooseEverywhere_19 kf x1 x2 M = some M') : XV G (xw_qv G 431 ad (xm_ce ad cs M')) 3 0 0 ad cs M 19 [some (.ref (ad 0)), some (.int x1), some (.int x2)] [] := by
  unfold fX2_chooseEverywhere_19 at hf
  refine xw_iinc C dX2_chooseEverywhere_19 rfl (show _ + Int32.ofInt (1) = _ + (1) from congrArg _ (by decide)) (by decide) ?_
  refine xw_goto (tgt := 2) C dX2_chooseEverywhere_22 (by decide) ?_
  exact xl_sub (xl_c rfl (xl_c rfl (xl_c rfl xl_e))) (hk _ _ _ hf)
def fX2_chooseEverywhere_2 : Nat → Int32 → Int32 →  xwM → Option (xwM)
  | 0, _, _, _ => none
  | fu + 1, x1, x2, M =>
  if 12 ≤ x2 then
    (some M)
  else
    (if x2 = x1 then
        (fX2_chooseEverywhere_19 (fX2_chooseEverywhere_2 fu) x1 x2 M)
      else
        (bnv (fX2_chooseAnew x1 x2 M) fun M3 =>
          fX2_chooseEverywhere_19 (fX2_chooseEverywhere_2 fu) x1 x2 M3))
set_option maxHeartbeats 4000000 in
set_option maxRecDepth 100000 in
theorem kX2_chooseEverywhere_2 {G : xwG} {ad : Nat → Nat} {cs : xmC} (C : xw_C G cX2_chooseEverywhere 3 RX2 431 ad) (hR : xgR G = rX2_chooseEverywhere) (ht : xgt G = xm_tys cs) (hr : (xgM G).sig.returnType = none) {M' : xwM} : ∀ (fu : Nat) (x1 : Int32) (x2 : Int32) (M : xwM), fX2_chooseEverywhere_2 fu x1 x2 M = some M' → XV G (xw_qv G 431 ad (xm_ce ad cs M')) 3 0 0 ad cs M 2 [some (.ref (ad 0)), some (.int x1), some (.int x2)] [] := by
  intro fu
  induction fu with
  | zero =>
    intro x1 x2 M  hf
    cases hf
  | succ fu ih =>
    intro x1 x2 M  hf
    rw [fX2_chooseEverywhere_2] at hf
    refine xw_iload_n C dX2_chooseEverywhere_2 2 rfl rfl ?_
    refine xw_bipush (v := 12) C dX2_chooseEverywhere_3 (by decide) ?_
    refine xw_icmp_ge (tgt := 25) C dX2_chooseEverywhere_5 (by decide) (fun c_1 => ?_) (fun c_1 => ?_)
    · have hf := it_t hf c_1
      cases hf
      exact xw_retv C hr dX2_chooseEverywhere_25
    · have hf := it_f hf c_1
      refine xw_iload_n C dX2_chooseEverywhere_8 2 rfl rfl ?_
      refine xw_iload_n C dX2_chooseEverywhere_9 1 rfl rfl ?_
      refine xw_icmp_eq (tgt := 19) C dX2_chooseEverywhere_10 (by decide) (fun c_2 => ?_) (fun c_2 => ?_)
      · have hf := it_t hf c_2
        exact xl_sub (xl_c rfl (xl_c rfl (xl_c rfl xl_e))) (kX2_chooseEverywhere_19 C hR ht hr ih  hf)
      · have hf := it_f hf c_2
        refine xw_aload_n C dX2_chooseEverywhere_13 0 rfl rfl ?_
        refine xw_iload_n C dX2_chooseEverywhere_14 1 rfl rfl ?_
        refine xw_iload_n C dX2_chooseEverywhere_15 2 rfl rfl ?_
        obtain ⟨M_M3, g_4, hf⟩ := bnv_s hf
        refine xc_Vv C (mX2_chooseAnew (xgl G) C.2.2.2.2.2.2.2.2.1 ht  g_4) FX2_chooseAnew hw_273 (by decide) xs_0 rfl (by rw [hR]; decide) (by rw [hR]; decide) rfl (Nat.le_of_ble_eq_true rfl) dX2_chooseEverywhere_16 rfl ?_
        exact xl_sub (xl_c rfl (xl_c rfl (xl_c rfl xl_e))) (kX2_chooseEverywhere_19 C hR ht hr ih  hf)
def fX2_chooseEverywhere (x1 : Int32) (M : xwM) : Option (xwM) :=
  fX2_chooseEverywhere_2 2001 x1 0 M
set_option maxHeartbeats 4000000 in
set_option maxRecDepth 100000 in
theorem kX2_chooseEverywhere_0 {G : xwG} {ad : Nat → Nat} {cs : xmC} (C : xw_C G cX2_chooseEverywhere 3 RX2 431 ad) (hR : xgR G = rX2_chooseEverywhere) (ht : xgt G = xm_tys cs) (hr : (xgM G).sig.returnType = none) {M' : xwM} {x1 : Int32} {M : xwM} (hf : fX2_chooseEverywhere x1 M = some M') : XV G (xw_qv G 431 ad (xm_ce ad cs M')) 3 0 0 ad cs M 0 [some (.ref (ad 0)), some (.int x1), none] [] := by
  unfold fX2_chooseEverywhere at hf
  refine xw_iconst (v := 0) C dX2_chooseEverywhere_0 (by decide) ?_
  refine xw_istore_n C dX2_chooseEverywhere_1 2 rfl (by decide) ?_
  exact xl_sub (xl_c rfl (xl_c rfl (xl_c rfl xl_e))) (kX2_chooseEverywhere_2 C hR ht hr 2001 _ _ _ hf)
theorem mX2_chooseEverywhere (l : Launch) {D : va_G} {tys : List (ClassId × FieldType)} {base : Nat} {ad : Nat → Nat} {cs : xmC} (hJ : xw_J 431 ad base) (ht : tys = xm_tys cs) {x1 : Int32} {M M' : xwM} (hf : fX2_chooseEverywhere x1 M = some M') : xk_v l yX2_chooseEverywhere cX2_chooseEverywhere 3 none rX2_chooseEverywhere D tys base 431 ad [.ref (ad 0), .int x1] (xm_ce ad cs M) (xm_ce ad cs M') :=
  xk_ofv 1 (by decide) hJ (List.forall_mem_cons.mpr ⟨rfl, List.forall_mem_cons.mpr ⟨rfl, List.forall_mem_nil _⟩⟩) (Nat.le_of_ble_eq_true rfl) (fun G e1 e2 e3 e4 e5 hr C => kX2_chooseEverywhere_0 C e2 (e4.trans ht) hr  hf)

abbrev rX2_hearTelling : Room := { frames := 5, cells := 0, slots := 0, locals := 121 }
def fX2_hearTelling_79 (x1 : Int32) (x3 : Int32) (M : xwM) : Option (xwM) :=
  bnv (fX2_chooseAnew x1 x3 M) fun M24 =>
  some M24
set_option maxHeartbeats 4000000 in
set_option maxRecDepth 100000 in
theorem kX2_hearTelling_79 {G : xwG} {ad : Nat → Nat} {cs : xmC} (C : xw_C G cX2_hearTelling 8 RX2 431 ad) (hR : xgR G = rX2_hearTelling) (ht : xgt G = xm_tys cs) (hr : (xgM G).sig.returnType = none) {M' : xwM} {x1 : Int32} {x3 : Int32} {M : xwM} (hf : fX2_hearTelling_79 x1 x3 M = some M') : XV G (xw_qv G 431 ad (xm_ce ad cs M')) 8 0 0 ad cs M 79 [some (.ref (ad 0)), some (.int x1), none, some (.int x3), none, none, none, none] [] := by
  unfold fX2_hearTelling_79 at hf
  refine xw_aload_n C dX2_hearTelling_79 0 rfl rfl ?_
  refine xw_iload_n C dX2_hearTelling_80 1 rfl rfl ?_
  refine xw_iload_n C dX2_hearTelling_81 3 rfl rfl ?_
  obtain ⟨M_M24, g_25, hf⟩ := bnv_s hf
  refine xc_Vv C (mX2_chooseAnew (xgl G) C.2.2.2.2.2.2.2.2.1 ht  g_25) FX2_chooseAnew hw_273 (by decide) xs_0 rfl (by rw [hR]; decide) (by rw [hR]; decide) rfl (Nat.le_of_ble_eq_true rfl) dX2_hearTelling_82 rfl ?_
  cases hf
  exact xw_retv C hr dX2_hearTelling_85
def fX2_hearTelling_50 (x1 : Int32) (x2 : Int32) (x3 : Int32) (x4 : Int32) (x5 : Int32) (x6 : Nat) (s0 : Int32) (M : xwM) : Option (xwM) :=
  if s0 = 0 then
    (ixr 12 x2 fun n14 =>
      sto M (10 + 34 * x6 + 1 + n14) 12 x3 x4 fun M17 =>
      ixr 12 x2 fun n19 =>
      sto M17 (23 + 34 * x6 + 1 + n19) 12 x3 x5 fun M22 =>
      fX2_hearTelling_79 x1 x3 M22)
  else
    (fX2_hearTelling_79 x1 x3 M)
set_option maxHeartbeats 4000000 in
set_option maxRecDepth 100000 in
theorem kX2_hearTelling_50 {G : xwG} {ad : Nat → Nat} {cs : xmC} (C : xw_C G cX2_hearTelling 8 RX2 431 ad) (hR : xgR G = rX2_hearTelling) (ht : xgt G = xm_tys cs) (hr : (xgM G).sig.returnType = none) {M' : xwM} {x1 : Int32} {x2 : Int32} {x3 : Int32} {x4 : Int32} {x5 : Int32} {x6 : Nat} {s0 : Int32} (h6 : x6 < 12) {M : xwM} (hf : fX2_hearTelling_50 x1 x2 x3 x4 x5 x6 s0 M = some M') : XV G (xw_qv G 431 ad (xm_ce ad cs M')) 8 0 0 ad cs M 50 [some (.ref (ad 0)), some (.int x1), some (.int x2), some (.int x3), some (.int x4), some (.int x5), some (.ref (ad (2 + 34 * x6))), none] [.int s0] := by
  unfold fX2_hearTelling_50 at hf
  refine xw_istore C dX2_hearTelling_50 (by decide) ?_
  refine xw_iload C dX2_hearTelling_52 rfl ?_
  refine xw_if_ne (tgt := 79) C dX2_hearTelling_54 (by decide) (fun c_13 => ?_) (fun c_13 => ?_)
  · have hf := it_f hf c_13
    exact xl_sub (xl_c rfl (xl_c rfl (xl_n (xl_c rfl (xl_n (xl_n (xl_n (xl_n xl_e)))))))) (kX2_hearTelling_79 C hR ht hr  hf)
  · have hf := it_t hf c_13
    refine xw_aload C dX2_hearTelling_57 rfl ?_
    refine xv_getf C (by omega) (xs_R h6) rfl inB1 7 (by decide) hw_77 rfl dX2_hearTelling_59 ?_
    refine xw_iload_n C dX2_hearTelling_62 2 rfl rfl ?_
    obtain ⟨i_15, q_16, hf⟩ := ixr_s hf
    refine xv_aldT (j := 10) C ht (by decide) h6 i_15 dX2_hearTelling_63 ?_
    refine xw_iload_n C dX2_hearTelling_64 3 rfl rfl ?_
    refine xw_iload C dX2_hearTelling_65 rfl ?_
    obtain ⟨i_18, hf⟩ := sto_s hf
    refine xv_iast C ht (by omega) (fun _ => xs_T 10 (by decide) h6 q_16) i_18 dX2_hearTelling_67 ?_
    refine xw_aload C dX2_hearTelling_68 rfl ?_
    refine xv_getf C (by omega) (xs_R h6) rfl inB1 8 (by decide) hw_79 rfl dX2_hearTelling_70 ?_
    refine xw_iload_n C dX2_hearTelling_73 2 rfl rfl ?_
    obtain ⟨i_20, q_21, hf⟩ := ixr_s hf
    refine xv_aldT (j := 23) C ht (by decide) h6 i_20 dX2_hearTelling_74 ?_
    refine xw_iload_n C dX2_hearTelling_75 3 rfl rfl ?_
    refine xw_iload C dX2_hearTelling_76 rfl ?_
    obtain ⟨i_23, hf⟩ := sto_s hf
    refine xv_iast C ht (by omega) (fun _ => xs_T 23 (by decide) h6 q_21) i_23 dX2_hearTelling_78 ?_
    exact xl_sub (xl_c rfl (xl_c rfl (xl_n (xl_c rfl (xl_n (xl_n (xl_n (xl_n xl_e)))))))) (kX2_hearTelling_79 C hR ht hr  hf)
def fX2_hearTelling_49 (x1 : Int32) (x2 : Int32) (x3 : Int32) (x4 : Int32) (x5 : Int32) (x6 : Nat) (M : xwM) : Option (xwM) :=
  fX2_hearTelling_50 x1 x2 x3 x4 x5 x6 0 M
set_option maxHeartbeats 4000000 in
set_option maxRecDepth 100000 in
theorem kX2_hearTelling_49 {G : xwG} {ad : Nat → Nat} {cs : xmC} (C : xw_C G cX2_hearTelling 8 RX2 431 ad) (hR : xgR G = rX2_hearTelling) (ht : xgt G = xm_tys cs) (hr : (xgM G).sig.returnType = none) {M' : xwM} {x1 : Int32} {x2 : Int32} {x3 : Int32} {x4 : Int32} {x5 : Int32} {x6 : Nat} (h6 : x6 < 12) {M : xwM} (hf : fX2_hearTelling_49 x1 x2 x3 x4 x5 x6 M = some M') : XV G (xw_qv G 431 ad (xm_ce ad cs M')) 8 0 0 ad cs M 49 [some (.ref (ad 0)), some (.int x1), some (.int x2), some (.int x3), some (.int x4), some (.int x5), some (.ref (ad (2 + 34 * x6))), none] [] := by
  unfold fX2_hearTelling_49 at hf
  refine xw_iconst (v := 0) C dX2_hearTelling_49 (by decide) ?_
  exact xl_sub (xl_c rfl (xl_c rfl (xl_c rfl (xl_c rfl (xl_c rfl (xl_c rfl (xl_c rfl (xl_n xl_e)))))))) (kX2_hearTelling_50 C hR ht hr h6 hf)
def fX2_hearTelling (x1 : Int32) (x2 : Int32) (x3 : Int32) (x4 : Int32) (x5 : Int32) (M : xwM) : Option (xwM) :=
  if x3 = x1 then
    (some M)
  else
    (ixr 12 x1 fun n2 =>
      ld M (6 + 34 * n2) 12 x3 fun v5 =>
      if v5 = x2 then
        (if x5 = 65535 then
            (fX2_hearTelling_49 x1 x2 x3 x4 x5 n2 M)
          else
            (bni (fX1_isGood n2 x3 x4 x5 M) fun v9 M10 =>
              if v9 = 0 then
                (fX2_hearTelling_50 x1 x2 x3 x4 x5 n2 1 M10)
              else
                (fX2_hearTelling_49 x1 x2 x3 x4 x5 n2 M10)))
      else
        (fX2_hearTelling_49 x1 x2 x3 x4 x5 n2 M))
set_option maxHeartbeats 4000000 in
set_option maxRecDepth 100000 in
theorem kX2_hearTelling_0 {G : xwG} {ad : Nat → Nat} {cs : xmC} (C : xw_C G cX2_hearTelling 8 RX2 431 ad) (hR : xgR G = rX2_hearTelling) (ht : xgt G = xm_tys cs) (hr : (xgM G).sig.returnType = none) {M' : xwM} {x1 : Int32} {x2 : Int32} {x3 : Int32} {x4 : Int32} {x5 : Int32} {M : xwM} (hf : fX2_hearTelling x1 x2 x3 x4 x5 M = some M') : XV G (xw_qv G 431 ad (xm_ce ad cs M')) 8 0 0 ad cs M 0 [some (.ref (ad 0)), some (.int x1), some (.int x2), some (.int x3), some (.int x4), some (.int x5), none, none] [] := by
  unfold fX2_hearTelling at hf
  refine xw_iload_n C dX2_hearTelling_0 3 rfl rfl ?_
  refine xw_iload_n C dX2_hearTelling_1 1 rfl rfl ?_
  refine xw_icmp_ne (tgt := 6) C dX2_hearTelling_2 (by decide) (fun c_1 => ?_) (fun c_1 => ?_)
  · have hf := it_f hf c_1
    refine xw_aload_n C dX2_hearTelling_6 0 rfl rfl ?_
    refine xv_getf C (by decide) xs_0 rfl inB2 0 (by decide) hw_133 rfl dX2_hearTelling_7 ?_
    refine xw_iload_n C dX2_hearTelling_10 1 rfl rfl ?_
    obtain ⟨i_3, q_4, hf⟩ := ixr_s hf
    refine xv_aldR C ht i_3 dX2_hearTelling_11 ?_
    refine xw_astore C dX2_hearTelling_12 (by decide) ?_
    refine xw_aload C dX2_hearTelling_14 rfl ?_
    refine xv_getf C (by omega) (xs_R q_4) rfl inB1 3 (by decide) hw_69 rfl dX2_hearTelling_16 ?_
    refine xw_iload_n C dX2_hearTelling_19 3 rfl rfl ?_
    obtain ⟨i_6, hf⟩ := ld_s hf
    refine xv_iald C ht (by omega) ((fun _ => xs_A 6 (by decide) q_4) _) i_6 dX2_hearTelling_20 ?_
    refine xw_iload_n C dX2_hearTelling_21 2 rfl rfl ?_
    refine xw_icmp_ne (tgt := 49) C dX2_hearTelling_22 (by decide) (fun c_7 => ?_) (fun c_7 => ?_)
    · have hf := it_f hf c_7
      exact xl_sub (xl_c rfl (xl_c rfl (xl_c rfl (xl_c rfl (xl_c rfl (xl_c rfl (xl_c rfl (xl_n xl_e)))))))) (kX2_hearTelling_49 C hR ht hr q_4 hf)
    · have hf := it_t hf c_7
      refine xw_iload C dX2_hearTelling_25 rfl ?_
      refine xw_ldc C hw_248 dX2_hearTelling_27 ?_
      refine xw_icmp_eq (tgt := 49) C dX2_hearTelling_29 (by decide) (fun c_8 => ?_) (fun c_8 => ?_)
      · have hf := it_t hf c_8
        exact xl_sub (xl_c rfl (xl_c rfl (xl_c rfl (xl_c rfl (xl_c rfl (xl_c rfl (xl_c rfl (xl_n xl_e)))))))) (kX2_hearTelling_49 C hR ht hr q_4 hf)
      · have hf := it_f hf c_8
        refine xw_aload C dX2_hearTelling_32 rfl ?_
        refine xw_iload_n C dX2_hearTelling_34 3 rfl rfl ?_
        refine xw_iload C dX2_hearTelling_35 rfl ?_
        refine xw_iload C dX2_hearTelling_37 rfl ?_
        obtain ⟨r_v9, M_M10, g_11, hf⟩ := bni_s hf
        refine xc_Vi C (mX1_isGood (xgl G) C.2.2.2.2.2.2.2.2.1 ht q_4 g_11) FX1_isGood hw_257 (by omega) (xs_R q_4) rfl (by rw [hR]; decide) (by rw [hR]; decide) rfl (Nat.le_of_ble_eq_true rfl) dX2_hearTelling_39 rfl ?_
        refine xw_if_ne (tgt := 49) C dX2_hearTelling_42 (by decide) (fun c_12 => ?_) (fun c_12 => ?_)
        · have hf := it_f hf c_12
          exact xl_sub (xl_c rfl (xl_c rfl (xl_c rfl (xl_c rfl (xl_c rfl (xl_c rfl (xl_c rfl (xl_n xl_e)))))))) (kX2_hearTelling_49 C hR ht hr q_4 hf)
        · have hf := it_t hf c_12
          refine xw_iconst (v := 1) C dX2_hearTelling_45 (by decide) ?_
          refine xw_goto (tgt := 50) C dX2_hearTelling_46 (by decide) ?_
          exact xl_sub (xl_c rfl (xl_c rfl (xl_c rfl (xl_c rfl (xl_c rfl (xl_c rfl (xl_c rfl (xl_n xl_e)))))))) (kX2_hearTelling_50 C hR ht hr q_4 hf)
  · have hf := it_t hf c_1
    cases hf
    exact xw_retv C hr dX2_hearTelling_5
theorem mX2_hearTelling (l : Launch) {D : va_G} {tys : List (ClassId × FieldType)} {base : Nat} {ad : Nat → Nat} {cs : xmC} (hJ : xw_J 431 ad base) (ht : tys = xm_tys cs) {x1 : Int32} {x2 : Int32} {x3 : Int32} {x4 : Int32} {x5 : Int32} {M M' : xwM} (hf : fX2_hearTelling x1 x2 x3 x4 x5 M = some M') : xk_v l yX2_hearTelling cX2_hearTelling 8 none rX2_hearTelling D tys base 431 ad [.ref (ad 0), .int x1, .int x2, .int x3, .int x4, .int x5] (xm_ce ad cs M) (xm_ce ad cs M') :=
  xk_ofv 2 (by decide) hJ (List.forall_mem_cons.mpr ⟨rfl, List.forall_mem_cons.mpr ⟨rfl, List.forall_mem_cons.mpr ⟨rfl, List.forall_mem_cons.mpr ⟨rfl, List.forall_mem_cons.mpr ⟨rfl, List.forall_mem_cons.mpr ⟨rfl, List.forall_mem_nil _⟩⟩⟩⟩⟩⟩) (Nat.le_of_ble_eq_true rfl) (fun G e1 e2 e3 e4 e5 hr C => kX2_hearTelling_0 C e2 (e4.trans ht) hr  hf)

abbrev rX2_hearRequest : Room := { frames := 4, cells := 0, slots := 0, locals := 98 }
def fX2_hearRequest_116 (M : xwM) : Option (xwM) :=
  some M
set_option maxHeartbeats 4000000 in
set_option maxRecDepth 100000 in
theorem kX2_hearRequest_116 {G : xwG} {ad : Nat → Nat} {cs : xmC} (C : xw_C G cX2_hearRequest 7 RX2 431 ad) (hR : xgR G = rX2_hearRequest) (ht : xgt G = xm_tys cs) (hr : (xgM G).sig.returnType = none) {M' : xwM} {M : xwM} (hf : fX2_hearRequest_116  M = some M') : XV G (xw_qv G 431 ad (xm_ce ad cs M')) 7 0 0 ad cs M 116 [none, none, none, none, none, none, none] [] := by
  unfold fX2_hearRequest_116 at hf
  cases hf
  exact xw_retv C hr dX2_hearRequest_116
def fX2_hearRequest_34 (x1 : Int32) (M : xwM) : Option (xwM) :=
  bnv (fX2_tellAll x1 x1 M) fun M26 =>
  fX2_hearRequest_116  M26
set_option maxHeartbeats 4000000 in
set_option maxRecDepth 100000 in
theorem kX2_hearRequest_34 {G : xwG} {ad : Nat → Nat} {cs : xmC} (C : xw_C G cX2_hearRequest 7 RX2 431 ad) (hR : xgR G = rX2_hearRequest) (ht : xgt G = xm_tys cs) (hr : (xgM G).sig.returnType = none) {M' : xwM} {x1 : Int32} {M : xwM} (hf : fX2_hearRequest_34 x1 M = some M') : XV G (xw_qv G 431 ad (xm_ce ad cs M')) 7 0 0 ad cs M 34 [some (.ref (ad 0)), some (.int x1), none, none, none, none, none] [] := by
  unfold fX2_hearRequest_34 at hf
  refine xw_aload_n C dX2_hearRequest_34 0 rfl rfl ?_
  refine xw_iload_n C dX2_hearRequest_35 1 rfl rfl ?_
  refine xw_iload_n C dX2_hearRequest_36 1 rfl rfl ?_
  obtain ⟨M_M26, g_27, hf⟩ := bnv_s hf
  refine xc_Vv C (mX2_tellAll (xgl G) C.2.2.2.2.2.2.2.2.1 ht  g_27) FX2_tellAll hw_287 (by decide) xs_0 rfl (by rw [hR]; decide) (by rw [hR]; decide) rfl (Nat.le_of_ble_eq_true rfl) dX2_hearRequest_37 rfl ?_
  refine xw_goto (tgt := 116) C dX2_hearRequest_40 (by decide) ?_
  exact xl_sub (xl_n (xl_n (xl_n (xl_n (xl_n (xl_n (xl_n xl_e))))))) (kX2_hearRequest_116 C hR ht hr  hf)
def fX2_hearRequest_77 (x1 : Int32) (x2 : Int32) (x3 : Int32) (x4 : Int32) (x5 : Int32) (x6 : Nat) (M : xwM) : Option (xwM) :=
  if x5 ≤ 1 then
    (fX2_hearRequest_116  M)
  else
    (bni (fX1_hasPassedOn x6 x3 x4 M) fun v29 M30 =>
      if v29 = 0 then
        (sto M30 (9 + 34 * x6) 12 x3 x4 fun M33 =>
          bnv (fX2_requestAll x1 x2 x3 x4 (x5 - 1) M33) fun M35 =>
          fX2_hearRequest_116  M35)
      else
        (fX2_hearRequest_116  M30))
set_option maxHeartbeats 4000000 in
set_option maxRecDepth 100000 in
theorem kX2_hearRequest_77 {G : xwG} {ad : Nat → Nat} {cs : xmC} (C : xw_C G cX2_hearRequest 7 RX2 431 ad) (hR : xgR G = rX2_hearRequest) (ht : xgt G = xm_tys cs) (hr : (xgM G).sig.returnType = none) {M' : xwM} {x1 : Int32} {x2 : Int32} {x3 : Int32} {x4 : Int32} {x5 : Int32} {x6 : Nat} (h6 : x6 < 12) {M : xwM} (hf : fX2_hearRequest_77 x1 x2 x3 x4 x5 x6 M = some M') : XV G (xw_qv G 431 ad (xm_ce ad cs M')) 7 0 0 ad cs M 77 [some (.ref (ad 0)), some (.int x1), some (.int x2), some (.int x3), some (.int x4), some (.int x5), some (.ref (ad (2 + 34 * x6)))] [] := by
  unfold fX2_hearRequest_77 at hf
  refine xw_iload C dX2_hearRequest_77 rfl ?_
  refine xw_iconst (v := 1) C dX2_hearRequest_79 (by decide) ?_
  refine xw_icmp_le (tgt := 116) C dX2_hearRequest_80 (by decide) (fun c_28 => ?_) (fun c_28 => ?_)
  · have hf := it_t hf c_28
    exact xl_sub (xl_n (xl_n (xl_n (xl_n (xl_n (xl_n (xl_n xl_e))))))) (kX2_hearRequest_116 C hR ht hr  hf)
  · have hf := it_f hf c_28
    refine xw_aload C dX2_hearRequest_83 rfl ?_
    refine xw_iload_n C dX2_hearRequest_85 3 rfl rfl ?_
    refine xw_iload C dX2_hearRequest_86 rfl ?_
    obtain ⟨r_v29, M_M30, g_31, hf⟩ := bni_s hf
    refine xc_Vi C (mX1_hasPassedOn (xgl G) C.2.2.2.2.2.2.2.2.1 ht h6 g_31) FX1_hasPassedOn hw_402 (by omega) (xs_R h6) rfl (by rw [hR]; decide) (by rw [hR]; decide) rfl (Nat.le_of_ble_eq_true rfl) dX2_hearRequest_88 rfl ?_
    refine xw_if_ne (tgt := 116) C dX2_hearRequest_91 (by decide) (fun c_32 => ?_) (fun c_32 => ?_)
    · have hf := it_f hf c_32
      exact xl_sub (xl_n (xl_n (xl_n (xl_n (xl_n (xl_n (xl_n xl_e))))))) (kX2_hearRequest_116 C hR ht hr  hf)
    · have hf := it_t hf c_32
      refine xw_aload C dX2_hearRequest_94 rfl ?_
      refine xv_getf C (by omega) (xs_R h6) rfl inB1 6 (by decide) hw_75 rfl dX2_hearRequest_96 ?_
      refine xw_iload_n C dX2_hearRequest_99 3 rfl rfl ?_
      refine xw_iload C dX2_hearRequest_100 rfl ?_
      obtain ⟨i_34, hf⟩ := sto_s hf
      refine xv_iast C ht (by omega) (fun _ => xs_A 9 (by decide) h6) i_34 dX2_hearRequest_102 ?_
      refine xw_aload_n C dX2_hearRequest_103 0 rfl rfl ?_
      refine xw_iload_n C dX2_hearRequest_104 1 rfl rfl ?_
      refine xw_iload_n C dX2_hearRequest_105 2 rfl rfl ?_
      refine xw_iload_n C dX2_hearRequest_106 3 rfl rfl ?_
      refine xw_iload C dX2_hearRequest_107 rfl ?_
      refine xw_iload C dX2_hearRequest_109 rfl ?_
      refine xw_iconst (v := 1) C dX2_hearRequest_111 (by decide) ?_
      refine xw_isub C dX2_hearRequest_112 ?_
      obtain ⟨M_M35, g_36, hf⟩ := bnv_s hf
      refine xc_Vv C (mX2_requestAll (xgl G) C.2.2.2.2.2.2.2.2.1 ht  g_36) FX2_requestAll hw_298 (by decide) xs_0 rfl (by rw [hR]; decide) (by rw [hR]; decide) rfl (Nat.le_of_ble_eq_true rfl) dX2_hearRequest_113 rfl ?_
      exact xl_sub (xl_n (xl_n (xl_n (xl_n (xl_n (xl_n (xl_n xl_e))))))) (kX2_hearRequest_116 C hR ht hr  hf)
def fX2_hearRequest (x1 : Int32) (x2 : Int32) (x3 : Int32) (x4 : Int32) (x5 : Int32) (M : xwM) : Option (xwM) :=
  ixr 12 x1 fun n1 =>
  if x3 = x1 then
    (ld M (7 + 34 * n1) 12 x1 fun v17 =>
      bni (fX2_isNewer x4 v17 M) fun v19 M20 =>
      if v19 = 0 then
        (fX2_hearRequest_34 x1 M20)
      else
        (bni (fX1_raiseOwnNumber n1 M20) fun v23 M24 =>
          fX2_hearRequest_34 x1 M24))
  else
    (bni (fX1_hasWay n1 x3 M) fun v5 M6 =>
      if v5 = 0 then
        (fX2_hearRequest_77 x1 x2 x3 x4 x5 n1 M6)
      else
        (ld M6 (7 + 34 * n1) 12 x3 fun v9 =>
          bni (fX2_isNewer x4 v9 M6) fun v11 M12 =>
          if v11 = 0 then
            (bnv (fX2_tell x1 x2 x3 M12) fun M15 =>
              fX2_hearRequest_116  M15)
          else
            (fX2_hearRequest_77 x1 x2 x3 x4 x5 n1 M12)))
set_option maxHeartbeats 4000000 in
set_option maxRecDepth 100000 in
theorem kX2_hearRequest_0 {G : xwG} {ad : Nat → Nat} {cs : xmC} (C : xw_C G cX2_hearRequest 7 RX2 431 ad) (hR : xgR G = rX2_hearRequest) (ht : xgt G = xm_tys cs) (hr : (xgM G).sig.returnType = none) {M' : xwM} {x1 : Int32} {x2 : Int32} {x3 : Int32} {x4 : Int32} {x5 : Int32} {M : xwM} (hf : fX2_hearRequest x1 x2 x3 x4 x5 M = some M') : XV G (xw_qv G 431 ad (xm_ce ad cs M')) 7 0 0 ad cs M 0 [some (.ref (ad 0)), some (.int x1), some (.int x2), some (.int x3), some (.int x4), some (.int x5), none] [] := by
  unfold fX2_hearRequest at hf
  refine xw_aload_n C dX2_hearRequest_0 0 rfl rfl ?_
  refine xv_getf C (by decide) xs_0 rfl inB2 0 (by decide) hw_133 rfl dX2_hearRequest_1 ?_
  refine xw_iload_n C dX2_hearRequest_4 1 rfl rfl ?_
  obtain ⟨i_2, q_3, hf⟩ := ixr_s hf
  refine xv_aldR C ht i_2 dX2_hearRequest_5 ?_
  refine xw_astore C dX2_hearRequest_6 (by decide) ?_
  refine xw_iload_n C dX2_hearRequest_8 3 rfl rfl ?_
  refine xw_iload_n C dX2_hearRequest_9 1 rfl rfl ?_
  refine xw_icmp_ne (tgt := 43) C dX2_hearRequest_10 (by decide) (fun c_4 => ?_) (fun c_4 => ?_)
  · have hf := it_f hf c_4
    refine xw_aload C dX2_hearRequest_43 rfl ?_
    refine xw_iload_n C dX2_hearRequest_45 3 rfl rfl ?_
    obtain ⟨r_v5, M_M6, g_7, hf⟩ := bni_s hf
    refine xc_Vi C (mX1_hasWay (xgl G) C.2.2.2.2.2.2.2.2.1 ht q_3 g_7) FX1_hasWay hw_236 (by omega) (xs_R q_3) rfl (by rw [hR]; decide) (by rw [hR]; decide) rfl (Nat.le_of_ble_eq_true rfl) dX2_hearRequest_46 rfl ?_
    refine xw_if_eq (tgt := 77) C dX2_hearRequest_49 (by decide) (fun c_8 => ?_) (fun c_8 => ?_)
    · have hf := it_t hf c_8
      exact xl_sub (xl_c rfl (xl_c rfl (xl_c rfl (xl_c rfl (xl_c rfl (xl_c rfl (xl_c rfl xl_e))))))) (kX2_hearRequest_77 C hR ht hr q_3 hf)
    · have hf := it_f hf c_8
      refine xw_iload C dX2_hearRequest_52 rfl ?_
      refine xw_aload C dX2_hearRequest_54 rfl ?_
      refine xv_getf C (by omega) (xs_R q_3) rfl inB1 4 (by decide) hw_71 rfl dX2_hearRequest_56 ?_
      refine xw_iload_n C dX2_hearRequest_59 3 rfl rfl ?_
      obtain ⟨i_10, hf⟩ := ld_s hf
      refine xv_iald C ht (by omega) ((fun _ => xs_A 7 (by decide) q_3) _) i_10 dX2_hearRequest_60 ?_
      obtain ⟨r_v11, M_M12, g_13, hf⟩ := bni_s hf
      refine xc_Si C (mX2_isNewer (xgl G) C.2.2.2.2.2.2.2.2.1 ht  g_13) FX2_isNewer hw_401 (by rw [hR]; decide) (by rw [hR]; decide) rfl (Nat.le_of_ble_eq_true rfl) dX2_hearRequest_61 rfl ?_
      refine xw_if_ne (tgt := 77) C dX2_hearRequest_64 (by decide) (fun c_14 => ?_) (fun c_14 => ?_)
      · have hf := it_f hf c_14
        exact xl_sub (xl_c rfl (xl_c rfl (xl_c rfl (xl_c rfl (xl_c rfl (xl_c rfl (xl_c rfl xl_e))))))) (kX2_hearRequest_77 C hR ht hr q_3 hf)
      · have hf := it_t hf c_14
        refine xw_aload_n C dX2_hearRequest_67 0 rfl rfl ?_
        refine xw_iload_n C dX2_hearRequest_68 1 rfl rfl ?_
        refine xw_iload_n C dX2_hearRequest_69 2 rfl rfl ?_
        refine xw_iload_n C dX2_hearRequest_70 3 rfl rfl ?_
        obtain ⟨M_M15, g_16, hf⟩ := bnv_s hf
        refine xc_Vv C (mX2_tell (xgl G) C.2.2.2.2.2.2.2.2.1 ht  g_16) FX2_tell hw_240 (by decide) xs_0 rfl (by rw [hR]; decide) (by rw [hR]; decide) rfl (Nat.le_of_ble_eq_true rfl) dX2_hearRequest_71 rfl ?_
        refine xw_goto (tgt := 116) C dX2_hearRequest_74 (by decide) ?_
        exact xl_sub (xl_n (xl_n (xl_n (xl_n (xl_n (xl_n (xl_n xl_e))))))) (kX2_hearRequest_116 C hR ht hr  hf)
  · have hf := it_t hf c_4
    refine xw_iload C dX2_hearRequest_13 rfl ?_
    refine xw_aload C dX2_hearRequest_15 rfl ?_
    refine xv_getf C (by omega) (xs_R q_3) rfl inB1 4 (by decide) hw_71 rfl dX2_hearRequest_17 ?_
    refine xw_iload_n C dX2_hearRequest_20 1 rfl rfl ?_
    obtain ⟨i_18, hf⟩ := ld_s hf
    refine xv_iald C ht (by omega) ((fun _ => xs_A 7 (by decide) q_3) _) i_18 dX2_hearRequest_21 ?_
    obtain ⟨r_v19, M_M20, g_21, hf⟩ := bni_s hf
    refine xc_Si C (mX2_isNewer (xgl G) C.2.2.2.2.2.2.2.2.1 ht  g_21) FX2_isNewer hw_401 (by rw [hR]; decide) (by rw [hR]; decide) rfl (Nat.le_of_ble_eq_true rfl) dX2_hearRequest_22 rfl ?_
    refine xw_if_eq (tgt := 34) C dX2_hearRequest_25 (by decide) (fun c_22 => ?_) (fun c_22 => ?_)
    · have hf := it_t hf c_22
      exact xl_sub (xl_c rfl (xl_c rfl (xl_n (xl_n (xl_n (xl_n (xl_n xl_e))))))) (kX2_hearRequest_34 C hR ht hr  hf)
    · have hf := it_f hf c_22
      refine xw_aload C dX2_hearRequest_28 rfl ?_
      obtain ⟨r_v23, M_M24, g_25, hf⟩ := bni_s hf
      refine xc_Vi C (mX1_raiseOwnNumber (xgl G) C.2.2.2.2.2.2.2.2.1 ht q_3 g_25) FX1_raiseOwnNumber hw_316 (by omega) (xs_R q_3) rfl (by rw [hR]; decide) (by rw [hR]; decide) rfl (Nat.le_of_ble_eq_true rfl) dX2_hearRequest_30 rfl ?_
      refine xw_pop C dX2_hearRequest_33 rfl ?_
      exact xl_sub (xl_c rfl (xl_c rfl (xl_n (xl_n (xl_n (xl_n (xl_n xl_e))))))) (kX2_hearRequest_34 C hR ht hr  hf)
theorem mX2_hearRequest (l : Launch) {D : va_G} {tys : List (ClassId × FieldType)} {base : Nat} {ad : Nat → Nat} {cs : xmC} (hJ : xw_J 431 ad base) (ht : tys = xm_tys cs) {x1 : Int32} {x2 : Int32} {x3 : Int32} {x4 : Int32} {x5 : Int32} {M M' : xwM} (hf : fX2_hearRequest x1 x2 x3 x4 x5 M = some M') : xk_v l yX2_hearRequest cX2_hearRequest 7 none rX2_hearRequest D tys base 431 ad [.ref (ad 0), .int x1, .int x2, .int x3, .int x4, .int x5] (xm_ce ad cs M) (xm_ce ad cs M') :=
  xk_ofv 1 (by decide) hJ (List.forall_mem_cons.mpr ⟨rfl, List.forall_mem_cons.mpr ⟨rfl, List.forall_mem_cons.mpr ⟨rfl, List.forall_mem_cons.mpr ⟨rfl, List.forall_mem_cons.mpr ⟨rfl, List.forall_mem_cons.mpr ⟨rfl, List.forall_mem_nil _⟩⟩⟩⟩⟩⟩) (Nat.le_of_ble_eq_true rfl) (fun G e1 e2 e3 e4 e5 hr C => kX2_hearRequest_0 C e2 (e4.trans ht) hr  hf)

abbrev rX2_handOver : Room := { frames := 6, cells := 0, slots := 0, locals := 148 }
def fX2_handOver_137 (M : xwM) : Option (xwM) :=
  some M
set_option maxHeartbeats 4000000 in
set_option maxRecDepth 100000 in
theorem kX2_handOver_137 {G : xwG} {ad : Nat → Nat} {cs : xmC} (C : xw_C G cX2_handOver 8 RX2 431 ad) (hR : xgR G = rX2_handOver) (ht : xgt G = xm_tys cs) (hr : (xgM G).sig.returnType = none) {M' : xwM} {M : xwM} (hf : fX2_handOver_137  M = some M') : XV G (xw_qv G 431 ad (xm_ce ad cs M')) 8 0 0 ad cs M 137 [none, none, none, none, none, none, none, none] [] := by
  unfold fX2_handOver_137 at hf
  cases hf
  exact xw_retv C hr dX2_handOver_137
def fX2_handOver (x1 : Int32) (M : xwM) : Option (xwM) :=
  bni (fX0_read x1 0 M) fun v1 M2 =>
  bni (fX0_read x1 1 M2) fun v4 M5 =>
  bni (fX0_read x1 2 M5) fun v7 M8 =>
  bni (fX0_read x1 3 M8) fun v10 M11 =>
  bni (fX0_read x1 4 M11) fun v13 M14 =>
  bni (fX0_read x1 5 M14) fun v16 M17 =>
  bnv (fX0_takeAway x1 M17) fun M19 =>
  ixr 12 v7 fun n21 =>
  ld M19 (3 + 34 * n21) 12 v4 fun v24 =>
  if v24 = 0 then
    (xlet (ms M19 410 5 ((M19 410 5) + 1)) fun M32 =>
      fX2_handOver_137  M32)
  else
    (if v1 = 1 then
        (bnv (fX2_hearTelling v7 v4 v10 v13 v16 M19) fun M30 =>
          fX2_handOver_137  M30)
      else
        (bnv (fX2_hearRequest v7 v4 v10 v13 v16 M19) fun M28 =>
          fX2_handOver_137  M28))
set_option maxHeartbeats 4000000 in
set_option maxRecDepth 100000 in
theorem kX2_handOver_0 {G : xwG} {ad : Nat → Nat} {cs : xmC} (C : xw_C G cX2_handOver 8 RX2 431 ad) (hR : xgR G = rX2_handOver) (ht : xgt G = xm_tys cs) (hr : (xgM G).sig.returnType = none) {M' : xwM} {x1 : Int32} {M : xwM} (hf : fX2_handOver x1 M = some M') : XV G (xw_qv G 431 ad (xm_ce ad cs M')) 8 0 0 ad cs M 0 [some (.ref (ad 0)), some (.int x1), none, none, none, none, none, none] [] := by
  unfold fX2_handOver at hf
  refine xw_aload_n C dX2_handOver_0 0 rfl rfl ?_
  refine xv_getf C (by decide) xs_0 rfl inB2 1 (by decide) hw_134 rfl dX2_handOver_1 ?_
  refine xw_iload_n C dX2_handOver_4 1 rfl rfl ?_
  refine xw_iconst (v := 0) C dX2_handOver_5 (by decide) ?_
  obtain ⟨r_v1, M_M2, g_3, hf⟩ := bni_s hf
  refine xc_Vi C (mX0_read (xgl G) C.2.2.2.2.2.2.2.2.1 ht  g_3) FX0_read hw_388 (by decide) xs_L rfl (by rw [hR]; decide) (by rw [hR]; decide) rfl (Nat.le_of_ble_eq_true rfl) dX2_handOver_6 rfl ?_
  refine xw_istore_n C dX2_handOver_9 2 rfl (by decide) ?_
  refine xw_aload_n C dX2_handOver_10 0 rfl rfl ?_
  refine xv_getf C (by decide) xs_0 rfl inB2 1 (by decide) hw_134 rfl dX2_handOver_11 ?_
  refine xw_iload_n C dX2_handOver_14 1 rfl rfl ?_
  refine xw_iconst (v := 1) C dX2_handOver_15 (by decide) ?_
  obtain ⟨r_v4, M_M5, g_6, hf⟩ := bni_s hf
  refine xc_Vi C (mX0_read (xgl G) C.2.2.2.2.2.2.2.2.1 ht  g_6) FX0_read hw_388 (by decide) xs_L rfl (by rw [hR]; decide) (by rw [hR]; decide) rfl (Nat.le_of_ble_eq_true rfl) dX2_handOver_16 rfl ?_
  refine xw_istore_n C dX2_handOver_19 3 rfl (by decide) ?_
  refine xw_aload_n C dX2_handOver_20 0 rfl rfl ?_
  refine xv_getf C (by decide) xs_0 rfl inB2 1 (by decide) hw_134 rfl dX2_handOver_21 ?_
  refine xw_iload_n C dX2_handOver_24 1 rfl rfl ?_
  refine xw_iconst (v := 2) C dX2_handOver_25 (by decide) ?_
  obtain ⟨r_v7, M_M8, g_9, hf⟩ := bni_s hf
  refine xc_Vi C (mX0_read (xgl G) C.2.2.2.2.2.2.2.2.1 ht  g_9) FX0_read hw_388 (by decide) xs_L rfl (by rw [hR]; decide) (by rw [hR]; decide) rfl (Nat.le_of_ble_eq_true rfl) dX2_handOver_26 rfl ?_
  refine xw_istore C dX2_handOver_29 (by decide) ?_
  refine xw_aload_n C dX2_handOver_31 0 rfl rfl ?_
  refine xv_getf C (by decide) xs_0 rfl inB2 1 (by decide) hw_134 rfl dX2_handOver_32 ?_
  refine xw_iload_n C dX2_handOver_35 1 rfl rfl ?_
  refine xw_iconst (v := 3) C dX2_handOver_36 (by decide) ?_
  obtain ⟨r_v10, M_M11, g_12, hf⟩ := bni_s hf
  refine xc_Vi C (mX0_read (xgl G) C.2.2.2.2.2.2.2.2.1 ht  g_12) FX0_read hw_388 (by decide) xs_L rfl (by rw [hR]; decide) (by rw [hR]; decide) rfl (Nat.le_of_ble_eq_true rfl) dX2_handOver_37 rfl ?_
  refine xw_istore C dX2_handOver_40 (by decide) ?_
  refine xw_aload_n C dX2_handOver_42 0 rfl rfl ?_
  refine xv_getf C (by decide) xs_0 rfl inB2 1 (by decide) hw_134 rfl dX2_handOver_43 ?_
  refine xw_iload_n C dX2_handOver_46 1 rfl rfl ?_
  refine xw_iconst (v := 4) C dX2_handOver_47 (by decide) ?_
  obtain ⟨r_v13, M_M14, g_15, hf⟩ := bni_s hf
  refine xc_Vi C (mX0_read (xgl G) C.2.2.2.2.2.2.2.2.1 ht  g_15) FX0_read hw_388 (by decide) xs_L rfl (by rw [hR]; decide) (by rw [hR]; decide) rfl (Nat.le_of_ble_eq_true rfl) dX2_handOver_48 rfl ?_
  refine xw_istore C dX2_handOver_51 (by decide) ?_
  refine xw_aload_n C dX2_handOver_53 0 rfl rfl ?_
  refine xv_getf C (by decide) xs_0 rfl inB2 1 (by decide) hw_134 rfl dX2_handOver_54 ?_
  refine xw_iload_n C dX2_handOver_57 1 rfl rfl ?_
  refine xw_iconst (v := 5) C dX2_handOver_58 (by decide) ?_
  obtain ⟨r_v16, M_M17, g_18, hf⟩ := bni_s hf
  refine xc_Vi C (mX0_read (xgl G) C.2.2.2.2.2.2.2.2.1 ht  g_18) FX0_read hw_388 (by decide) xs_L rfl (by rw [hR]; decide) (by rw [hR]; decide) rfl (Nat.le_of_ble_eq_true rfl) dX2_handOver_59 rfl ?_
  refine xw_istore C dX2_handOver_62 (by decide) ?_
  refine xw_aload_n C dX2_handOver_64 0 rfl rfl ?_
  refine xv_getf C (by decide) xs_0 rfl inB2 1 (by decide) hw_134 rfl dX2_handOver_65 ?_
  refine xw_iload_n C dX2_handOver_68 1 rfl rfl ?_
  obtain ⟨M_M19, g_20, hf⟩ := bnv_s hf
  refine xc_Vv C (mX0_takeAway (xgl G) C.2.2.2.2.2.2.2.2.1 ht  g_20) FX0_takeAway hw_389 (by decide) xs_L rfl (by rw [hR]; decide) (by rw [hR]; decide) rfl (Nat.le_of_ble_eq_true rfl) dX2_handOver_69 rfl ?_
  refine xw_aload_n C dX2_handOver_72 0 rfl rfl ?_
  refine xv_getf C (by decide) xs_0 rfl inB2 0 (by decide) hw_133 rfl dX2_handOver_73 ?_
  refine xw_iload C dX2_handOver_76 rfl ?_
  obtain ⟨i_22, q_23, hf⟩ := ixr_s hf
  refine xv_aldR C ht i_22 dX2_handOver_78 ?_
  refine xv_getf C (by omega) (xs_R q_23) rfl inB1 0 (by decide) hw_63 rfl dX2_handOver_79 ?_
  refine xw_iload_n C dX2_handOver_82 3 rfl rfl ?_
  obtain ⟨i_25, hf⟩ := ld_s hf
  refine xv_iald C ht (by omega) ((fun _ => xs_A 3 (by decide) q_23) _) i_25 dX2_handOver_83 ?_
  refine xw_if_ne (tgt := 103) C dX2_handOver_84 (by decide) (fun c_26 => ?_) (fun c_26 => ?_)
  · have hf := it_f hf c_26
    refine xw_iload_n C dX2_handOver_103 2 rfl rfl ?_
    refine xw_iconst (v := 1) C dX2_handOver_104 (by decide) ?_
    refine xw_icmp_ne (tgt := 124) C dX2_handOver_105 (by decide) (fun c_27 => ?_) (fun c_27 => ?_)
    · have hf := it_f hf c_27
      refine xw_aload_n C dX2_handOver_124 0 rfl rfl ?_
      refine xw_iload C dX2_handOver_125 rfl ?_
      refine xw_iload_n C dX2_handOver_127 3 rfl rfl ?_
      refine xw_iload C dX2_handOver_128 rfl ?_
      refine xw_iload C dX2_handOver_130 rfl ?_
      refine xw_iload C dX2_handOver_132 rfl ?_
      obtain ⟨M_M28, g_29, hf⟩ := bnv_s hf
      refine xc_Vv C (mX2_hearRequest (xgl G) C.2.2.2.2.2.2.2.2.1 ht  g_29) FX2_hearRequest hw_397 (by decide) xs_0 rfl (by rw [hR]; decide) (by rw [hR]; decide) rfl (Nat.le_of_ble_eq_true rfl) dX2_handOver_134 rfl ?_
      exact xl_sub (xl_n (xl_n (xl_n (xl_n (xl_n (xl_n (xl_n (xl_n xl_e)))))))) (kX2_handOver_137 C hR ht hr  hf)
    · have hf := it_t hf c_27
      refine xw_aload_n C dX2_handOver_108 0 rfl rfl ?_
      refine xw_iload C dX2_handOver_109 rfl ?_
      refine xw_iload_n C dX2_handOver_111 3 rfl rfl ?_
      refine xw_iload C dX2_handOver_112 rfl ?_
      refine xw_iload C dX2_handOver_114 rfl ?_
      refine xw_iload C dX2_handOver_116 rfl ?_
      obtain ⟨M_M30, g_31, hf⟩ := bnv_s hf
      refine xc_Vv C (mX2_hearTelling (xgl G) C.2.2.2.2.2.2.2.2.1 ht  g_31) FX2_hearTelling hw_393 (by decide) xs_0 rfl (by rw [hR]; decide) (by rw [hR]; decide) rfl (Nat.le_of_ble_eq_true rfl) dX2_handOver_118 rfl ?_
      refine xw_goto (tgt := 137) C dX2_handOver_121 (by decide) ?_
      exact xl_sub (xl_n (xl_n (xl_n (xl_n (xl_n (xl_n (xl_n (xl_n xl_e)))))))) (kX2_handOver_137 C hR ht hr  hf)
  · have hf := it_t hf c_26
    refine xw_aload_n C dX2_handOver_87 0 rfl rfl ?_
    refine xv_getf C (by decide) xs_0 rfl inB2 1 (by decide) hw_134 rfl dX2_handOver_88 ?_
    refine xw_dup C dX2_handOver_91 rfl ?_
    refine xv_getf C (by decide) xs_L rfl inB0 5 (by decide) hw_119 rfl dX2_handOver_92 ?_
    refine xw_iconst (v := 1) C dX2_handOver_95 (by decide) ?_
    refine xw_iadd C dX2_handOver_96 ?_
    refine xv_putf (fs := xl_X0 ad) C (by decide) (fun _ => xs_L) rfl inB0 tyX0 tyX0_ok nmX0 5 (by decide) hw_119 rfl rfl (fun _ => by simp [xl_X0]) (fun _ => rfl) dX2_handOver_97 ?_
    have hf := xlet_s hf
    refine xw_goto (tgt := 137) C dX2_handOver_100 (by decide) ?_
    exact xl_sub (xl_n (xl_n (xl_n (xl_n (xl_n (xl_n (xl_n (xl_n xl_e)))))))) (kX2_handOver_137 C hR ht hr  hf)
theorem mX2_handOver (l : Launch) {D : va_G} {tys : List (ClassId × FieldType)} {base : Nat} {ad : Nat → Nat} {cs : xmC} (hJ : xw_J 431 ad base) (ht : tys = xm_tys cs) {x1 : Int32} {M M' : xwM} (hf : fX2_handOver x1 M = some M') : xk_v l yX2_handOver cX2_handOver 8 none rX2_handOver D tys base 431 ad [.ref (ad 0), .int x1] (xm_ce ad cs M) (xm_ce ad cs M') :=
  xk_ofv 6 (by decide) hJ (List.forall_mem_cons.mpr ⟨rfl, List.forall_mem_cons.mpr ⟨rfl, List.forall_mem_nil _⟩⟩) (Nat.le_of_ble_eq_true rfl) (fun G e1 e2 e3 e4 e5 hr C => kX2_handOver_0 C e2 (e4.trans ht) hr  hf)

abbrev rX2_countAllLinks : Room := { frames := 1, cells := 0, slots := 0, locals := 22 }
def fX2_countAllLinks_4 : Nat → Int32 → Int32 →  xwM → Option (Int32 × xwM)
  | 0, _, _, _ => none
  | fu + 1, x1, x2, M =>
  if 12 ≤ x2 then
    (some ((x1 / 2), M))
  else
    (ixr 12 x2 fun n2 =>
      bni (fX1_countLinks n2 M) fun v5 M6 =>
      fX2_countAllLinks_4 fu ((x1 + v5)) ((x2 + 1)) M6)
set_option maxHeartbeats 4000000 in
set_option maxRecDepth 100000 in
theorem kX2_countAllLinks_4 {G : xwG} {ad : Nat → Nat} {cs : xmC} (C : xw_C G cX2_countAllLinks 3 RX2 431 ad) (hR : xgR G = rX2_countAllLinks) (ht : xgt G = xm_tys cs) (hr : (xgM G).sig.returnType = (some .int)) {M' : xwM} {o : Int32} : ∀ (fu : Nat) (x1 : Int32) (x2 : Int32) (M : xwM), fX2_countAllLinks_4 fu x1 x2 M = some (o, M') → XV G (xw_qi G 431 ad (xm_ce ad cs M') o) 3 0 0 ad cs M 4 [some (.ref (ad 0)), some (.int x1), some (.int x2)] [] := by
  intro fu
  induction fu with
  | zero =>
    intro x1 x2 M  hf
    cases hf
  | succ fu ih =>
    intro x1 x2 M  hf
    rw [fX2_countAllLinks_4] at hf
    refine xw_iload_n C dX2_countAllLinks_4 2 rfl rfl ?_
    refine xw_bipush (v := 12) C dX2_countAllLinks_5 (by decide) ?_
    refine xw_icmp_ge (tgt := 28) C dX2_countAllLinks_7 (by decide) (fun c_1 => ?_) (fun c_1 => ?_)
    · have hf := it_t hf c_1
      refine xw_iload_n C dX2_countAllLinks_28 1 rfl rfl ?_
      refine xw_iconst (v := 2) C dX2_countAllLinks_29 (by decide) ?_
      refine xw_idiv C dX2_countAllLinks_30 (by decide) ?_
      cases hf
      exact xw_reti C hr dX2_countAllLinks_31
    · have hf := it_f hf c_1
      refine xw_iload_n C dX2_countAllLinks_10 1 rfl rfl ?_
      refine xw_aload_n C dX2_countAllLinks_11 0 rfl rfl ?_
      refine xv_getf C (by decide) xs_0 rfl inB2 0 (by decide) hw_133 rfl dX2_countAllLinks_12 ?_
      refine xw_iload_n C dX2_countAllLinks_15 2 rfl rfl ?_
      obtain ⟨i_3, q_4, hf⟩ := ixr_s hf
      refine xv_aldR C ht i_3 dX2_countAllLinks_16 ?_
      obtain ⟨r_v5, M_M6, g_7, hf⟩ := bni_s hf
      refine xc_Vi C (mX1_countLinks (xgl G) C.2.2.2.2.2.2.2.2.1 ht q_4 g_7) FX1_countLinks hw_336 (by omega) (xs_R q_4) rfl (by rw [hR]; decide) (by rw [hR]; decide) rfl (Nat.le_of_ble_eq_true rfl) dX2_countAllLinks_17 rfl ?_
      refine xw_iadd C dX2_countAllLinks_20 ?_
      refine xw_istore_n C dX2_countAllLinks_21 1 rfl (by decide) ?_
      refine xw_iinc C dX2_countAllLinks_22 rfl (show _ + Int32.ofInt (1) = _ + (1) from congrArg _ (by decide)) (by decide) ?_
      refine xw_goto (tgt := 4) C dX2_countAllLinks_25 (by decide) ?_
      exact xl_sub (xl_c rfl (xl_c rfl (xl_c rfl xl_e))) (ih _ _ _ hf)
def fX2_countAllLinks (M : xwM) : Option (Int32 × xwM) :=
  fX2_countAllLinks_4 2001 0 0 M
set_option maxHeartbeats 4000000 in
set_option maxRecDepth 100000 in
theorem kX2_countAllLinks_0 {G : xwG} {ad : Nat → Nat} {cs : xmC} (C : xw_C G cX2_countAllLinks 3 RX2 431 ad) (hR : xgR G = rX2_countAllLinks) (ht : xgt G = xm_tys cs) (hr : (xgM G).sig.returnType = (some .int)) {M' : xwM} {o : Int32} {M : xwM} (hf : fX2_countAllLinks  M = some (o, M')) : XV G (xw_qi G 431 ad (xm_ce ad cs M') o) 3 0 0 ad cs M 0 [some (.ref (ad 0)), none, none] [] := by
  unfold fX2_countAllLinks at hf
  refine xw_iconst (v := 0) C dX2_countAllLinks_0 (by decide) ?_
  refine xw_istore_n C dX2_countAllLinks_1 1 rfl (by decide) ?_
  refine xw_iconst (v := 0) C dX2_countAllLinks_2 (by decide) ?_
  refine xw_istore_n C dX2_countAllLinks_3 2 rfl (by decide) ?_
  exact xl_sub (xl_c rfl (xl_c rfl (xl_c rfl xl_e))) (kX2_countAllLinks_4 C hR ht hr 2001 _ _ _ hf)
theorem mX2_countAllLinks (l : Launch) {D : va_G} {tys : List (ClassId × FieldType)} {base : Nat} {ad : Nat → Nat} {cs : xmC} (hJ : xw_J 431 ad base) (ht : tys = xm_tys cs) {M M' : xwM} {o : Int32} (hf : fX2_countAllLinks  M = some (o, M')) : xk_i l yX2_countAllLinks cX2_countAllLinks 3 (some .int) rX2_countAllLinks D tys base 431 ad [.ref (ad 0)] (xm_ce ad cs M) (xm_ce ad cs M') o :=
  xk_ofi 2 (by decide) hJ (List.forall_mem_cons.mpr ⟨rfl, List.forall_mem_nil _⟩) (Nat.le_of_ble_eq_true rfl) (fun G e1 e2 e3 e4 e5 hr C => kX2_countAllLinks_0 C e2 (e4.trans ht) hr  hf)
