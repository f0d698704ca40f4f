abbrev rX3_announce : Room := { frames := 3, cells := 0, slots := 0, locals := 76 }
def fX3_announce_75 (kf : Int32 → Int32 → Int32 → xwM → Option (Int32 × xwM)) (x1 : Int32) (x2 : Int32) (x3 : Int32) (M : xwM) : Option (Int32 × xwM) :=
  kf x1 x2 ((x3 + 1)) M
set_option maxHeartbeats 4000000 in
set_option maxRecDepth 100000 in
theorem kX3_announce_75 {G : xwG} {ad : Nat → Nat} {cs : xmC} (C : xw_C G cX3_announce 4 RX3 431 ad) (hR : xgR G = rX3_announce) (ht : xgt G = xm_tys cs) (hr : (xgM G).sig.returnType = (some .int)) {M' : xwM} {o : Int32} {kf : Int32 → Int32 → Int32 → xwM → Option (Int32 × xwM)} (hk : ∀ (yx1 : Int32) (yx2 : Int32) (yx3 : Int32) (M : xwM), kf yx1 yx2 yx3 M = some (o, M') → XV G (xw_qi G 431 ad (xm_ce ad cs M') o) 4 0 0 ad cs M 28 [some (.ref (ad 418)), some (.int yx1), some (.int yx2), some (.int yx3)] []) {x1 : Int32} {x2 : Int32} {x3 : Int32} {M : xwM} (hf : fX3_announce_75 kf x1 x2 x3 M = some (o, M')) : XV G (xw_qi G 431 ad (xm_ce ad cs M') o) 4 0 0 ad cs M 75 [some (.ref (ad 418)), some (.int x1), some (.int x2), some (.int x3)] [] := by
  unfold fX3_announce_75 at hf
  refine xw_iinc C dX3_announce_75 rfl (show _ + Int32.ofInt (1) = _ + (1) from congrArg _ (by decide)) (by decide) ?_
  refine xw_goto (tgt := 28) C dX3_announce_78 (by decide) ?_
  exact xl_sub (xl_c rfl (xl_c rfl (xl_c rfl (xl_c rfl xl_e)))) (hk _ _ _ _ hf)
def fX3_announce_69 (kf : Int32 → Int32 → Int32 → xwM → Option (Int32 × xwM)) (x1 : Int32) (x2 : Int32) (x3 : Int32) (M : xwM) : Option (Int32 × xwM) :=
  bnv (fX3_tellsAll x1 x3 M) fun M17 =>
  fX3_announce_75 kf x1 x2 x3 M17
set_option maxHeartbeats 4000000 in
set_option maxRecDepth 100000 in
theorem kX3_announce_69 {G : xwG} {ad : Nat → Nat} {cs : xmC} (C : xw_C G cX3_announce 4 RX3 431 ad) (hR : xgR G = rX3_announce) (ht : xgt G = xm_tys cs) (hr : (xgM G).sig.returnType = (some .int)) {M' : xwM} {o : Int32} {kf : Int32 → Int32 → Int32 → xwM → Option (Int32 × xwM)} (hk : ∀ (yx1 : Int32) (yx2 : Int32) (yx3 : Int32) (M : xwM), kf yx1 yx2 yx3 M = some (o, M') → XV G (xw_qi G 431 ad (xm_ce ad cs M') o) 4 0 0 ad cs M 28 [some (.ref (ad 418)), some (.int yx1), some (.int yx2), some (.int yx3)] []) {x1 : Int32} {x2 : Int32} {x3 : Int32} {M : xwM} (hf : fX3_announce_69 kf x1 x2 x3 M = some (o, M')) : XV G (xw_qi G 431 ad (xm_ce ad cs M') o) 4 0 0 ad cs M 69 [some (.ref (ad 418)), some (.int x1), some (.int x2), some (.int x3)] [] := by
  unfold fX3_announce_69 at hf
  refine xw_aload_n C dX3_announce_69 0 rfl rfl ?_
  refine xw_iload_n C dX3_announce_70 1 rfl rfl ?_
  refine xw_iload_n C dX3_announce_71 3 rfl rfl ?_
  obtain ⟨M_M17, g_18, hf⟩ := bnv_s hf
  refine xc_Vv C (mX3_tellsAll (xgl G) C.2.2.2.2.2.2.2.2.1 ht  g_18) FX3_tellsAll hw_583 (by decide) xs_M rfl (by rw [hR]; decide) (by rw [hR]; decide) rfl (Nat.le_of_ble_eq_true rfl) dX3_announce_72 rfl ?_
  exact xl_sub (xl_c rfl (xl_c rfl (xl_c rfl (xl_c rfl xl_e)))) (kX3_announce_75 C hR ht hr hk  hf)
def fX3_announce_28 : Nat → Int32 → Int32 → Int32 →  xwM → Option (Int32 × xwM)
  | 0, _, _, _, _ => none
  | fu + 1, x1, x2, x3, M =>
  if 12 ≤ x3 then
    (some (((M 418 14) - x2), M))
  else
    (if x3 = x1 then
        (fX3_announce_69 (fX3_announce_28 fu) x1 x2 x3 M)
      else
        (ld M 423 144 ((12 * x1) + x3) fun v11 =>
          if v11 = (-1) then
            (ld M 422 144 ((12 * x1) + x3) fun v14 =>
              if v14 = (-1) then
                (fX3_announce_75 (fX3_announce_28 fu) x1 x2 x3 M)
              else
                (fX3_announce_69 (fX3_announce_28 fu) x1 x2 x3 M))
          else
            (fX3_announce_69 (fX3_announce_28 fu) x1 x2 x3 M)))
set_option maxHeartbeats 4000000 in
set_option maxRecDepth 100000 in
theorem kX3_announce_28 {G : xwG} {ad : Nat → Nat} {cs : xmC} (C : xw_C G cX3_announce 4 RX3 431 ad) (hR : xgR G = rX3_announce) (ht : xgt G = xm_tys cs) (hr : (xgM G).sig.returnType = (some .int)) {M' : xwM} {o : Int32} : ∀ (fu : Nat) (x1 : Int32) (x2 : Int32) (x3 : Int32) (M : xwM), fX3_announce_28 fu x1 x2 x3 M = some (o, M') → XV G (xw_qi G 431 ad (xm_ce ad cs M') o) 4 0 0 ad cs M 28 [some (.ref (ad 418)), some (.int x1), some (.int x2), some (.int x3)] [] := by
  intro fu
  induction fu with
  | zero =>
    intro x1 x2 x3 M  hf
    cases hf
  | succ fu ih =>
    intro x1 x2 x3 M  hf
    rw [fX3_announce_28] at hf
    refine xw_iload_n C dX3_announce_28 3 rfl rfl ?_
    refine xw_bipush (v := 12) C dX3_announce_29 (by decide) ?_
    refine xw_icmp_ge (tgt := 81) C dX3_announce_31 (by decide) (fun c_9 => ?_) (fun c_9 => ?_)
    · have hf := it_t hf c_9
      refine xw_aload_n C dX3_announce_81 0 rfl rfl ?_
      refine xv_getf C (by decide) xs_M rfl inB3 14 (by decide) hw_497 rfl dX3_announce_82 ?_
      refine xw_iload_n C dX3_announce_85 2 rfl rfl ?_
      refine xw_isub C dX3_announce_86 ?_
      cases hf
      exact xw_reti C hr dX3_announce_87
    · have hf := it_f hf c_9
      refine xw_iload_n C dX3_announce_34 3 rfl rfl ?_
      refine xw_iload_n C dX3_announce_35 1 rfl rfl ?_
      refine xw_icmp_eq (tgt := 69) C dX3_announce_36 (by decide) (fun c_10 => ?_) (fun c_10 => ?_)
      · have hf := it_t hf c_10
        exact xl_sub (xl_c rfl (xl_c rfl (xl_c rfl (xl_c rfl xl_e)))) (kX3_announce_69 C hR ht hr ih  hf)
      · have hf := it_f hf c_10
        refine xw_aload_n C dX3_announce_39 0 rfl rfl ?_
        refine xv_getf C (by decide) xs_M rfl inB3 6 (by decide) hw_489 rfl dX3_announce_40 ?_
        refine xw_bipush (v := 12) C dX3_announce_43 (by decide) ?_
        refine xw_iload_n C dX3_announce_45 1 rfl rfl ?_
        refine xw_imul C dX3_announce_46 ?_
        refine xw_iload_n C dX3_announce_47 3 rfl rfl ?_
        refine xw_iadd C dX3_announce_48 ?_
        obtain ⟨i_12, hf⟩ := ld_s hf
        refine xv_iald C ht (by decide) ((fun _ => xs_423) _) i_12 dX3_announce_49 ?_
        refine xw_iconst (v := -1) C dX3_announce_50 (by decide) ?_
        refine xw_icmp_ne (tgt := 69) C dX3_announce_51 (by decide) (fun c_13 => ?_) (fun c_13 => ?_)
        · have hf := it_f hf c_13
          exact xl_sub (xl_c rfl (xl_c rfl (xl_c rfl (xl_c rfl xl_e)))) (kX3_announce_69 C hR ht hr ih  hf)
        · have hf := it_t hf c_13
          refine xw_aload_n C dX3_announce_54 0 rfl rfl ?_
          refine xv_getf C (by decide) xs_M rfl inB3 5 (by decide) hw_488 rfl dX3_announce_55 ?_
          refine xw_bipush (v := 12) C dX3_announce_58 (by decide) ?_
          refine xw_iload_n C dX3_announce_60 1 rfl rfl ?_
          refine xw_imul C dX3_announce_61 ?_
          refine xw_iload_n C dX3_announce_62 3 rfl rfl ?_
          refine xw_iadd C dX3_announce_63 ?_
          obtain ⟨i_15, hf⟩ := ld_s hf
          refine xv_iald C ht (by decide) ((fun _ => xs_422) _) i_15 dX3_announce_64 ?_
          refine xw_iconst (v := -1) C dX3_announce_65 (by decide) ?_
          refine xw_icmp_eq (tgt := 75) C dX3_announce_66 (by decide) (fun c_16 => ?_) (fun c_16 => ?_)
          · have hf := it_t hf c_16
            exact xl_sub (xl_c rfl (xl_c rfl (xl_c rfl (xl_c rfl xl_e)))) (kX3_announce_75 C hR ht hr ih  hf)
          · have hf := it_f hf c_16
            exact xl_sub (xl_c rfl (xl_c rfl (xl_c rfl (xl_c rfl xl_e)))) (kX3_announce_69 C hR ht hr ih  hf)
def fX3_announce_13 (x1 : Int32) (s1 : Int32) (M : xwM) : Option (Int32 × xwM) :=
  bni (fX3_refuses s1 M) fun v5 M6 =>
  if v5 = 0 then
    (fX3_announce_28 2001 x1 ((M6 418 14)) 0 M6)
  else
    (some (0, M6))
set_option maxHeartbeats 4000000 in
set_option maxRecDepth 100000 in
theorem kX3_announce_13 {G : xwG} {ad : Nat → Nat} {cs : xmC} (C : xw_C G cX3_announce 4 RX3 431 ad) (hR : xgR G = rX3_announce) (ht : xgt G = xm_tys cs) (hr : (xgM G).sig.returnType = (some .int)) {M' : xwM} {o : Int32} {x1 : Int32} {s1 : Int32} {M : xwM} (hf : fX3_announce_13 x1 s1 M = some (o, M')) : XV G (xw_qi G 431 ad (xm_ce ad cs M') o) 4 0 0 ad cs M 13 [some (.ref (ad 418)), some (.int x1), none, none] [.int s1, .ref (ad 418)] := by
  unfold fX3_announce_13 at hf
  obtain ⟨r_v5, M_M6, g_7, hf⟩ := bni_s hf
  refine xc_Vi C (mX3_refuses (xgl G) C.2.2.2.2.2.2.2.2.1 ht  g_7) FX3_refuses hw_546 (by decide) xs_M rfl (by rw [hR]; decide) (by rw [hR]; decide) rfl (Nat.le_of_ble_eq_true rfl) dX3_announce_13 rfl ?_
  refine xw_if_eq (tgt := 21) C dX3_announce_16 (by decide) (fun c_8 => ?_) (fun c_8 => ?_)
  · have hf := it_t hf c_8
    refine xw_aload_n C dX3_announce_21 0 rfl rfl ?_
    refine xv_getf C (by decide) xs_M rfl inB3 14 (by decide) hw_497 rfl dX3_announce_22 ?_
    refine xw_istore_n C dX3_announce_25 2 rfl (by decide) ?_
    refine xw_iconst (v := 0) C dX3_announce_26 (by decide) ?_
    refine xw_istore_n C dX3_announce_27 3 rfl (by decide) ?_
    exact xl_sub (xl_c rfl (xl_c rfl (xl_c rfl (xl_c rfl xl_e)))) (kX3_announce_28 C hR ht hr 2001 _ _ _ _ hf)
  · have hf := it_f hf c_8
    refine xw_iconst (v := 0) C dX3_announce_19 (by decide) ?_
    cases hf
    exact xw_reti C hr dX3_announce_20
def fX3_announce (x1 : Int32) (M : xwM) : Option (Int32 × xwM) :=
  bni (fX3_isNode x1 M) fun v1 M2 =>
  if v1 = 0 then
    (fX3_announce_13 x1 1 M2)
  else
    (fX3_announce_13 x1 0 M2)
set_option maxHeartbeats 4000000 in
set_option maxRecDepth 100000 in
theorem kX3_announce_0 {G : xwG} {ad : Nat → Nat} {cs : xmC} (C : xw_C G cX3_announce 4 RX3 431 ad) (hR : xgR G = rX3_announce) (ht : xgt G = xm_tys cs) (hr : (xgM G).sig.returnType = (some .int)) {M' : xwM} {o : Int32} {x1 : Int32} {M : xwM} (hf : fX3_announce x1 M = some (o, M')) : XV G (xw_qi G 431 ad (xm_ce ad cs M') o) 4 0 0 ad cs M 0 [some (.ref (ad 418)), some (.int x1), none, none] [] := by
  unfold fX3_announce at hf
  refine xw_aload_n C dX3_announce_0 0 rfl rfl ?_
  refine xw_iload_n C dX3_announce_1 1 rfl rfl ?_
  obtain ⟨r_v1, M_M2, g_3, hf⟩ := bni_s hf
  refine xc_Si C (mX3_isNode (xgl G) C.2.2.2.2.2.2.2.2.1 ht  g_3) FX3_isNode hw_543 (by rw [hR]; decide) (by rw [hR]; decide) rfl (Nat.le_of_ble_eq_true rfl) dX3_announce_2 rfl ?_
  refine xw_if_eq (tgt := 12) C dX3_announce_5 (by decide) (fun c_4 => ?_) (fun c_4 => ?_)
  · have hf := it_t hf c_4
    refine xw_iconst (v := 1) C dX3_announce_12 (by decide) ?_
    exact xl_sub (xl_c rfl (xl_c rfl (xl_n (xl_n xl_e)))) (kX3_announce_13 C hR ht hr  hf)
  · have hf := it_f hf c_4
    refine xw_iconst (v := 0) C dX3_announce_8 (by decide) ?_
    refine xw_goto (tgt := 13) C dX3_announce_9 (by decide) ?_
    exact xl_sub (xl_c rfl (xl_c rfl (xl_n (xl_n xl_e)))) (kX3_announce_13 C hR ht hr  hf)
theorem mX3_announce (l : Launch) {D : va_G} {tys : List (ClassId × FieldType)} {base : Nat} {ad : Nat → Nat} {cs : xmC} (hJ : xw_J 431 ad base) (ht : tys = xm_tys cs) {x1 : Int32} {M M' : xwM} {o : Int32} (hf : fX3_announce x1 M = some (o, M')) : xk_i l yX3_announce cX3_announce 4 (some .int) rX3_announce D tys base 431 ad [.ref (ad 418), .int x1] (xm_ce ad cs M) (xm_ce ad cs M') o :=
  xk_ofi 2 (by decide) hJ (List.forall_mem_cons.mpr ⟨rfl, List.forall_mem_cons.mpr ⟨rfl, List.forall_mem_nil _⟩⟩) (Nat.le_of_ble_eq_true rfl) (fun G e1 e2 e3 e4 e5 hr C => kX3_announce_0 C e2 (e4.trans ht) hr  hf)

abbrev rX3_renew : Room := { frames := 3, cells := 0, slots := 0, locals := 76 }
def fX3_renew_13 (x1 : Int32) (s1 : Int32) (M : xwM) : Option (Int32 × xwM) :=
  bni (fX3_refuses s1 M) fun v5 M6 =>
  if v5 = 0 then
    (ld M6 420 12 x1 fun v9 =>
      sto M6 420 12 x1 ((v9 + 1) &&& 65535) fun M11 =>
      bnv (fX3_tellsAll x1 x1 M11) fun M13 =>
      ld M13 420 12 x1 fun v15 =>
      some (v15, M13))
  else
    (some (0, M6))
set_option maxHeartbeats 4000000 in
set_option maxRecDepth 100000 in
theorem kX3_renew_13 {G : xwG} {ad : Nat → Nat} {cs : xmC} (C : xw_C G cX3_renew 2 RX3 431 ad) (hR : xgR G = rX3_renew) (ht : xgt G = xm_tys cs) (hr : (xgM G).sig.returnType = (some .int)) {M' : xwM} {o : Int32} {x1 : Int32} {s1 : Int32} {M : xwM} (hf : fX3_renew_13 x1 s1 M = some (o, M')) : XV G (xw_qi G 431 ad (xm_ce ad cs M') o) 2 0 0 ad cs M 13 [some (.ref (ad 418)), some (.int x1)] [.int s1, .ref (ad 418)] := by
  unfold fX3_renew_13 at hf
  obtain ⟨r_v5, M_M6, g_7, hf⟩ := bni_s hf
  refine xc_Vi C (mX3_refuses (xgl G) C.2.2.2.2.2.2.2.2.1 ht  g_7) FX3_refuses hw_546 (by decide) xs_M rfl (by rw [hR]; decide) (by rw [hR]; decide) rfl (Nat.le_of_ble_eq_true rfl) dX3_renew_13 rfl ?_
  refine xw_if_eq (tgt := 21) C dX3_renew_16 (by decide) (fun c_8 => ?_) (fun c_8 => ?_)
  · have hf := it_t hf c_8
    refine xw_aload_n C dX3_renew_21 0 rfl rfl ?_
    refine xv_getf C (by decide) xs_M rfl inB3 3 (by decide) hw_486 rfl dX3_renew_22 ?_
    refine xw_iload_n C dX3_renew_25 1 rfl rfl ?_
    refine xw_aload_n C dX3_renew_26 0 rfl rfl ?_
    refine xv_getf C (by decide) xs_M rfl inB3 3 (by decide) hw_486 rfl dX3_renew_27 ?_
    refine xw_iload_n C dX3_renew_30 1 rfl rfl ?_
    obtain ⟨i_10, hf⟩ := ld_s hf
    refine xv_iald C ht (by decide) ((fun _ => xs_420) _) i_10 dX3_renew_31 ?_
    refine xw_iconst (v := 1) C dX3_renew_32 (by decide) ?_
    refine xw_iadd C dX3_renew_33 ?_
    refine xw_ldc C hw_562 dX3_renew_34 ?_
    refine xw_iand C dX3_renew_36 ?_
    obtain ⟨i_12, hf⟩ := sto_s hf
    refine xv_iast C ht (by decide) (fun _ => xs_420) i_12 dX3_renew_37 ?_
    refine xw_aload_n C dX3_renew_38 0 rfl rfl ?_
    refine xw_iload_n C dX3_renew_39 1 rfl rfl ?_
    refine xw_iload_n C dX3_renew_40 1 rfl rfl ?_
    obtain ⟨M_M13, g_14, hf⟩ := bnv_s hf
    refine xc_Vv C (mX3_tellsAll (xgl G) C.2.2.2.2.2.2.2.2.1 ht  g_14) FX3_tellsAll hw_583 (by decide) xs_M rfl (by rw [hR]; decide) (by rw [hR]; decide) rfl (Nat.le_of_ble_eq_true rfl) dX3_renew_41 rfl ?_
    refine xw_aload_n C dX3_renew_44 0 rfl rfl ?_
    refine xv_getf C (by decide) xs_M rfl inB3 3 (by decide) hw_486 rfl dX3_renew_45 ?_
    refine xw_iload_n C dX3_renew_48 1 rfl rfl ?_
    obtain ⟨i_16, hf⟩ := ld_s hf
    refine xv_iald C ht (by decide) ((fun _ => xs_420) _) i_16 dX3_renew_49 ?_
    cases hf
    exact xw_reti C hr dX3_renew_50
  · have hf := it_f hf c_8
    refine xw_iconst (v := 0) C dX3_renew_19 (by decide) ?_
    cases hf
    exact xw_reti C hr dX3_renew_20
def fX3_renew (x1 : Int32) (M : xwM) : Option (Int32 × xwM) :=
  bni (fX3_isNode x1 M) fun v1 M2 =>
  if v1 = 0 then
    (fX3_renew_13 x1 1 M2)
  else
    (fX3_renew_13 x1 0 M2)
set_option maxHeartbeats 4000000 in
set_option maxRecDepth 100000 in
theorem kX3_renew_0 {G : xwG} {ad : Nat → Nat} {cs : xmC} (C : xw_C G cX3_renew 2 RX3 431 ad) (hR : xgR G = rX3_renew) (ht : xgt G = xm_tys cs) (hr : (xgM G).sig.returnType = (some .int)) {M' : xwM} {o : Int32} {x1 : Int32} {M : xwM} (hf : fX3_renew x1 M = some (o, M')) : XV G (xw_qi G 431 ad (xm_ce ad cs M') o) 2 0 0 ad cs M 0 [some (.ref (ad 418)), some (.int x1)] [] := by
  unfold fX3_renew at hf
  refine xw_aload_n C dX3_renew_0 0 rfl rfl ?_
  refine xw_iload_n C dX3_renew_1 1 rfl rfl ?_
  obtain ⟨r_v1, M_M2, g_3, hf⟩ := bni_s hf
  refine xc_Si C (mX3_isNode (xgl G) C.2.2.2.2.2.2.2.2.1 ht  g_3) FX3_isNode hw_543 (by rw [hR]; decide) (by rw [hR]; decide) rfl (Nat.le_of_ble_eq_true rfl) dX3_renew_2 rfl ?_
  refine xw_if_eq (tgt := 12) C dX3_renew_5 (by decide) (fun c_4 => ?_) (fun c_4 => ?_)
  · have hf := it_t hf c_4
    refine xw_iconst (v := 1) C dX3_renew_12 (by decide) ?_
    exact xl_sub (xl_c rfl (xl_c rfl xl_e)) (kX3_renew_13 C hR ht hr  hf)
  · have hf := it_f hf c_4
    refine xw_iconst (v := 0) C dX3_renew_8 (by decide) ?_
    refine xw_goto (tgt := 13) C dX3_renew_9 (by decide) ?_
    exact xl_sub (xl_c rfl (xl_c rfl xl_e)) (kX3_renew_13 C hR ht hr  hf)
theorem mX3_renew (l : Launch) {D : va_G} {tys : List (ClassId × FieldType)} {base : Nat} {ad : Nat → Nat} {cs : xmC} (hJ : xw_J 431 ad base) (ht : tys = xm_tys cs) {x1 : Int32} {M M' : xwM} {o : Int32} (hf : fX3_renew x1 M = some (o, M')) : xk_i l yX3_renew cX3_renew 2 (some .int) rX3_renew D tys base 431 ad [.ref (ad 418), .int x1] (xm_ce ad cs M) (xm_ce ad cs M') o :=
  xk_ofi 0 (by decide) hJ (List.forall_mem_cons.mpr ⟨rfl, List.forall_mem_cons.mpr ⟨rfl, List.forall_mem_nil _⟩⟩) (Nat.le_of_ble_eq_true rfl) (fun G e1 e2 e3 e4 e5 hr C => kX3_renew_0 C e2 (e4.trans ht) hr  hf)

abbrev rX3_ask : Room := { frames := 2, cells := 0, slots := 0, locals := 53 }
def fX3_ask_68 (x3 : Int32) (M : xwM) : Option (Int32 × xwM) :=
  some (((M 418 14) - x3), M)
set_option maxHeartbeats 4000000 in
set_option maxRecDepth 100000 in
theorem kX3_ask_68 {G : xwG} {ad : Nat → Nat} {cs : xmC} (C : xw_C G cX3_ask 4 RX3 431 ad) (hR : xgR G = rX3_ask) (ht : xgt G = xm_tys cs) (hr : (xgM G).sig.returnType = (some .int)) {M' : xwM} {o : Int32} {x3 : Int32} {M : xwM} (hf : fX3_ask_68 x3 M = some (o, M')) : XV G (xw_qi G 431 ad (xm_ce ad cs M') o) 4 0 0 ad cs M 68 [some (.ref (ad 418)), none, none, some (.int x3)] [] := by
  unfold fX3_ask_68 at hf
  refine xw_aload_n C dX3_ask_68 0 rfl rfl ?_
  refine xv_getf C (by decide) xs_M rfl inB3 14 (by decide) hw_497 rfl dX3_ask_69 ?_
  refine xw_iload_n C dX3_ask_72 3 rfl rfl ?_
  refine xw_isub C dX3_ask_73 ?_
  cases hf
  exact xw_reti C hr dX3_ask_74
def fX3_ask_25 (x1 : Int32) (x2 : Int32) (s1 : Int32) (M : xwM) : Option (Int32 × xwM) :=
  bni (fX3_refuses s1 M) fun v10 M11 =>
  if v10 = 0 then
    (ld M11 423 144 ((12 * x1) + x2) fun v14 =>
      if v14 = (-1) then
        (bni (fX3_wanted x1 x2 M11) fun v17 M18 =>
          bnv (fX3_asks x1 x2 v17 8 (-1) M18) fun M20 =>
          fX3_ask_68 ((M11 418 14)) M20)
      else
        (fX3_ask_68 ((M11 418 14)) M11))
  else
    (some (0, M11))
set_option maxHeartbeats 4000000 in
set_option maxRecDepth 100000 in
theorem kX3_ask_25 {G : xwG} {ad : Nat → Nat} {cs : xmC} (C : xw_C G cX3_ask 4 RX3 431 ad) (hR : xgR G = rX3_ask) (ht : xgt G = xm_tys cs) (hr : (xgM G).sig.returnType = (some .int)) {M' : xwM} {o : Int32} {x1 : Int32} {x2 : Int32} {s1 : Int32} {M : xwM} (hf : fX3_ask_25 x1 x2 s1 M = some (o, M')) : XV G (xw_qi G 431 ad (xm_ce ad cs M') o) 4 0 0 ad cs M 25 [some (.ref (ad 418)), some (.int x1), some (.int x2), none] [.int s1, .ref (ad 418)] := by
  unfold fX3_ask_25 at hf
  obtain ⟨r_v10, M_M11, g_12, hf⟩ := bni_s hf
  refine xc_Vi C (mX3_refuses (xgl G) C.2.2.2.2.2.2.2.2.1 ht  g_12) FX3_refuses hw_546 (by decide) xs_M rfl (by rw [hR]; decide) (by rw [hR]; decide) rfl (Nat.le_of_ble_eq_true rfl) dX3_ask_25 rfl ?_
  refine xw_if_eq (tgt := 33) C dX3_ask_28 (by decide) (fun c_13 => ?_) (fun c_13 => ?_)
  · have hf := it_t hf c_13
    refine xw_aload_n C dX3_ask_33 0 rfl rfl ?_
    refine xv_getf C (by decide) xs_M rfl inB3 14 (by decide) hw_497 rfl dX3_ask_34 ?_
    refine xw_istore_n C dX3_ask_37 3 rfl (by decide) ?_
    refine xw_aload_n C dX3_ask_38 0 rfl rfl ?_
    refine xv_getf C (by decide) xs_M rfl inB3 6 (by decide) hw_489 rfl dX3_ask_39 ?_
    refine xw_bipush (v := 12) C dX3_ask_42 (by decide) ?_
    refine xw_iload_n C dX3_ask_44 1 rfl rfl ?_
    refine xw_imul C dX3_ask_45 ?_
    refine xw_iload_n C dX3_ask_46 2 rfl rfl ?_
    refine xw_iadd C dX3_ask_47 ?_
    obtain ⟨i_15, hf⟩ := ld_s hf
    refine xv_iald C ht (by decide) ((fun _ => xs_423) _) i_15 dX3_ask_48 ?_
    refine xw_iconst (v := -1) C dX3_ask_49 (by decide) ?_
    refine xw_icmp_ne (tgt := 68) C dX3_ask_50 (by decide) (fun c_16 => ?_) (fun c_16 => ?_)
    · have hf := it_f hf c_16
      exact xl_sub (xl_c rfl (xl_n (xl_n (xl_c rfl xl_e)))) (kX3_ask_68 C hR ht hr  hf)
    · have hf := it_t hf c_16
      refine xw_aload_n C dX3_ask_53 0 rfl rfl ?_
      refine xw_iload_n C dX3_ask_54 1 rfl rfl ?_
      refine xw_iload_n C dX3_ask_55 2 rfl rfl ?_
      refine xw_aload_n C dX3_ask_56 0 rfl rfl ?_
      refine xw_iload_n C dX3_ask_57 1 rfl rfl ?_
      refine xw_iload_n C dX3_ask_58 2 rfl rfl ?_
      obtain ⟨r_v17, M_M18, g_19, hf⟩ := bni_s hf
      refine xc_Vi C (mX3_wanted (xgl G) C.2.2.2.2.2.2.2.2.1 ht  g_19) FX3_wanted hw_587 (by decide) xs_M rfl (by rw [hR]; decide) (by rw [hR]; decide) rfl (Nat.le_of_ble_eq_true rfl) dX3_ask_59 rfl ?_
      refine xw_bipush (v := 8) C dX3_ask_62 (by decide) ?_
      refine xw_iconst (v := -1) C dX3_ask_64 (by decide) ?_
      obtain ⟨M_M20, g_21, hf⟩ := bnv_s hf
      refine xc_Vv C (mX3_asks (xgl G) C.2.2.2.2.2.2.2.2.1 ht  g_21) FX3_asks hw_591 (by decide) xs_M rfl (by rw [hR]; decide) (by rw [hR]; decide) rfl (Nat.le_of_ble_eq_true rfl) dX3_ask_65 rfl ?_
      exact xl_sub (xl_c rfl (xl_n (xl_n (xl_c rfl xl_e)))) (kX3_ask_68 C hR ht hr  hf)
  · have hf := it_f hf c_13
    refine xw_iconst (v := 0) C dX3_ask_31 (by decide) ?_
    cases hf
    exact xw_reti C hr dX3_ask_32
def fX3_ask_20 (x1 : Int32) (x2 : Int32) (M : xwM) : Option (Int32 × xwM) :=
  fX3_ask_25 x1 x2 1 M
set_option maxHeartbeats 4000000 in
set_option maxRecDepth 100000 in
theorem kX3_ask_20 {G : xwG} {ad : Nat → Nat} {cs : xmC} (C : xw_C G cX3_ask 4 RX3 431 ad) (hR : xgR G = rX3_ask) (ht : xgt G = xm_tys cs) (hr : (xgM G).sig.returnType = (some .int)) {M' : xwM} {o : Int32} {x1 : Int32} {x2 : Int32} {M : xwM} (hf : fX3_ask_20 x1 x2 M = some (o, M')) : XV G (xw_qi G 431 ad (xm_ce ad cs M') o) 4 0 0 ad cs M 20 [some (.ref (ad 418)), some (.int x1), some (.int x2), none] [.ref (ad 418)] := by
  unfold fX3_ask_20 at hf
  refine xw_iconst (v := 1) C dX3_ask_20 (by decide) ?_
  refine xw_goto (tgt := 25) C dX3_ask_21 (by decide) ?_
  exact xl_sub (xl_c rfl (xl_c rfl (xl_c rfl (xl_n xl_e)))) (kX3_ask_25 C hR ht hr  hf)
def fX3_ask (x1 : Int32) (x2 : Int32) (M : xwM) : Option (Int32 × xwM) :=
  bni (fX3_isNode x1 M) fun v1 M2 =>
  if v1 = 0 then
    (fX3_ask_20 x1 x2 M2)
  else
    (bni (fX3_isNode x2 M2) fun v5 M6 =>
      if v5 = 0 then
        (fX3_ask_20 x1 x2 M6)
      else
        (if x1 = x2 then
            (fX3_ask_20 x1 x2 M6)
          else
            (fX3_ask_25 x1 x2 0 M6)))
set_option maxHeartbeats 4000000 in
set_option maxRecDepth 100000 in
theorem kX3_ask_0 {G : xwG} {ad : Nat → Nat} {cs : xmC} (C : xw_C G cX3_ask 4 RX3 431 ad) (hR : xgR G = rX3_ask) (ht : xgt G = xm_tys cs) (hr : (xgM G).sig.returnType = (some .int)) {M' : xwM} {o : Int32} {x1 : Int32} {x2 : Int32} {M : xwM} (hf : fX3_ask x1 x2 M = some (o, M')) : XV G (xw_qi G 431 ad (xm_ce ad cs M') o) 4 0 0 ad cs M 0 [some (.ref (ad 418)), some (.int x1), some (.int x2), none] [] := by
  unfold fX3_ask at hf
  refine xw_aload_n C dX3_ask_0 0 rfl rfl ?_
  refine xw_iload_n C dX3_ask_1 1 rfl rfl ?_
  obtain ⟨r_v1, M_M2, g_3, hf⟩ := bni_s hf
  refine xc_Si C (mX3_isNode (xgl G) C.2.2.2.2.2.2.2.2.1 ht  g_3) FX3_isNode hw_543 (by rw [hR]; decide) (by rw [hR]; decide) rfl (Nat.le_of_ble_eq_true rfl) dX3_ask_2 rfl ?_
  refine xw_if_eq (tgt := 20) C dX3_ask_5 (by decide) (fun c_4 => ?_) (fun c_4 => ?_)
  · have hf := it_t hf c_4
    exact xl_sub (xl_c rfl (xl_c rfl (xl_c rfl (xl_n xl_e)))) (kX3_ask_20 C hR ht hr  hf)
  · have hf := it_f hf c_4
    refine xw_iload_n C dX3_ask_8 2 rfl rfl ?_
    obtain ⟨r_v5, M_M6, g_7, hf⟩ := bni_s hf
    refine xc_Si C (mX3_isNode (xgl G) C.2.2.2.2.2.2.2.2.1 ht  g_7) FX3_isNode hw_543 (by rw [hR]; decide) (by rw [hR]; decide) rfl (Nat.le_of_ble_eq_true rfl) dX3_ask_9 rfl ?_
    refine xw_if_eq (tgt := 20) C dX3_ask_12 (by decide) (fun c_8 => ?_) (fun c_8 => ?_)
    · have hf := it_t hf c_8
      exact xl_sub (xl_c rfl (xl_c rfl (xl_c rfl (xl_n xl_e)))) (kX3_ask_20 C hR ht hr  hf)
    · have hf := it_f hf c_8
      refine xw_iload_n C dX3_ask_15 1 rfl rfl ?_
      refine xw_iload_n C dX3_ask_16 2 rfl rfl ?_
      refine xw_icmp_ne (tgt := 24) C dX3_ask_17 (by decide) (fun c_9 => ?_) (fun c_9 => ?_)
      · have hf := it_f hf c_9
        refine xw_iconst (v := 0) C dX3_ask_24 (by decide) ?_
        exact xl_sub (xl_c rfl (xl_c rfl (xl_c rfl (xl_n xl_e)))) (kX3_ask_25 C hR ht hr  hf)
      · have hf := it_t hf c_9
        exact xl_sub (xl_c rfl (xl_c rfl (xl_c rfl (xl_n xl_e)))) (kX3_ask_20 C hR ht hr  hf)
theorem mX3_ask (l : Launch) {D : va_G} {tys : List (ClassId × FieldType)} {base : Nat} {ad : Nat → Nat} {cs : xmC} (hJ : xw_J 431 ad base) (ht : tys = xm_tys cs) {x1 : Int32} {x2 : Int32} {M M' : xwM} {o : Int32} (hf : fX3_ask x1 x2 M = some (o, M')) : xk_i l yX3_ask cX3_ask 4 (some .int) rX3_ask D tys base 431 ad [.ref (ad 418), .int x1, .int x2] (xm_ce ad cs M) (xm_ce ad cs M') o :=
  xk_ofi 1 (by decide) hJ (List.forall_mem_cons.mpr ⟨rfl, List.forall_mem_cons.mpr ⟨rfl, List.forall_mem_cons.mpr ⟨rfl, List.forall_mem_nil _⟩⟩⟩) (Nat.le_of_ble_eq_true rfl) (fun G e1 e2 e3 e4 e5 hr C => kX3_ask_0 C e2 (e4.trans ht) hr  hf)

abbrev rX3_reboot : Room := { frames := 1, cells := 0, slots := 0, locals := 22 }
def fX3_reboot_40 (kf : Int32 → Int32 → Int32 → xwM → Option (Int32 × xwM)) (x1 : Int32) (x3 : Int32) (s0 : Int32) (M : xwM) : Option (Int32 × xwM) :=
  kf x1 s0 ((x3 + 1)) M
set_option maxHeartbeats 4000000 in
set_option maxRecDepth 100000 in
theorem kX3_reboot_40 {G : xwG} {ad : Nat → Nat} {cs : xmC} (C : xw_C G cX3_reboot 5 RX3 431 ad) (hR : xgR G = rX3_reboot) (ht : xgt G = xm_tys cs) (hr : (xgM G).sig.returnType = (some .int)) {M' : xwM} {o : Int32} {kf : Int32 → Int32 → Int32 → xwM → Option (Int32 × xwM)} (hk : ∀ (yx1 : Int32) (yx2 : Int32) (yx3 : Int32) (M : xwM), kf yx1 yx2 yx3 M = some (o, M') → XV G (xw_qi G 431 ad (xm_ce ad cs M') o) 5 0 0 ad cs M 4 [some (.ref (ad 418)), some (.int yx1), some (.int yx2), some (.int yx3), none] []) {x1 : Int32} {x3 : Int32} {s0 : Int32} {M : xwM} (hf : fX3_reboot_40 kf x1 x3 s0 M = some (o, M')) : XV G (xw_qi G 431 ad (xm_ce ad cs M') o) 5 0 0 ad cs M 40 [some (.ref (ad 418)), some (.int x1), none, some (.int x3), none] [.int s0] := by
  unfold fX3_reboot_40 at hf
  refine xw_istore_n C dX3_reboot_40 2 rfl (by decide) ?_
  refine xw_iinc C dX3_reboot_41 rfl (show _ + Int32.ofInt (1) = _ + (1) from congrArg _ (by decide)) (by decide) ?_
  refine xw_goto (tgt := 4) C dX3_reboot_44 (by decide) ?_
  exact xl_sub (xl_c rfl (xl_c rfl (xl_c rfl (xl_c rfl (xl_n xl_e))))) (hk _ _ _ _ hf)
def fX3_reboot_35 (kf : Int32 → Int32 → Int32 → xwM → Option (Int32 × xwM)) (x1 : Int32) (x3 : Int32) (M : xwM) : Option (Int32 × xwM) :=
  fX3_reboot_40 kf x1 x3 1 M
set_option maxHeartbeats 4000000 in
set_option maxRecDepth 100000 in
theorem kX3_reboot_35 {G : xwG} {ad : Nat → Nat} {cs : xmC} (C : xw_C G cX3_reboot 5 RX3 431 ad) (hR : xgR G = rX3_reboot) (ht : xgt G = xm_tys cs) (hr : (xgM G).sig.returnType = (some .int)) {M' : xwM} {o : Int32} {kf : Int32 → Int32 → Int32 → xwM → Option (Int32 × xwM)} (hk : ∀ (yx1 : Int32) (yx2 : Int32) (yx3 : Int32) (M : xwM), kf yx1 yx2 yx3 M = some (o, M') → XV G (xw_qi G 431 ad (xm_ce ad cs M') o) 5 0 0 ad cs M 4 [some (.ref (ad 418)), some (.int yx1), some (.int yx2), some (.int yx3), none] []) {x1 : Int32} {x3 : Int32} {M : xwM} (hf : fX3_reboot_35 kf x1 x3 M = some (o, M')) : XV G (xw_qi G 431 ad (xm_ce ad cs M') o) 5 0 0 ad cs M 35 [some (.ref (ad 418)), some (.int x1), none, some (.int x3), none] [] := by
  unfold fX3_reboot_35 at hf
  refine xw_iconst (v := 1) C dX3_reboot_35 (by decide) ?_
  refine xw_goto (tgt := 40) C dX3_reboot_36 (by decide) ?_
  exact xl_sub (xl_c rfl (xl_c rfl (xl_n (xl_c rfl (xl_n xl_e))))) (kX3_reboot_40 C hR ht hr hk  hf)
def fX3_reboot_182 (kf : Int32 → Int32 → Int32 → xwM → Option (Int32 × xwM)) (x1 : Int32) (x3 : Int32) (x4 : Int32) (M : xwM) : Option (Int32 × xwM) :=
  kf x1 x3 ((x4 + (-1))) M
set_option maxHeartbeats 4000000 in
set_option maxRecDepth 100000 in
theorem kX3_reboot_182 {G : xwG} {ad : Nat → Nat} {cs : xmC} (C : xw_C G cX3_reboot 5 RX3 431 ad) (hR : xgR G = rX3_reboot) (ht : xgt G = xm_tys cs) (hr : (xgM G).sig.returnType = (some .int)) {M' : xwM} {o : Int32} {kf : Int32 → Int32 → Int32 → xwM → Option (Int32 × xwM)} (hk : ∀ (yx1 : Int32) (yx3 : Int32) (yx4 : Int32) (M : xwM), kf yx1 yx3 yx4 M = some (o, M') → XV G (xw_qi G 431 ad (xm_ce ad cs M') o) 5 0 0 ad cs M 136 [some (.ref (ad 418)), some (.int yx1), none, some (.int yx3), some (.int yx4)] []) {x1 : Int32} {x3 : Int32} {x4 : Int32} {M : xwM} (hf : fX3_reboot_182 kf x1 x3 x4 M = some (o, M')) : XV G (xw_qi G 431 ad (xm_ce ad cs M') o) 5 0 0 ad cs M 182 [some (.ref (ad 418)), some (.int x1), none, some (.int x3), some (.int x4)] [] := by
  unfold fX3_reboot_182 at hf
  refine xw_iinc C dX3_reboot_182 rfl (show _ + Int32.ofInt (-1) = _ + (-1) from congrArg _ (by decide)) (by decide) ?_
  refine xw_goto (tgt := 136) C dX3_reboot_185 (by decide) ?_
  exact xl_sub (xl_c rfl (xl_c rfl (xl_n (xl_c rfl (xl_c rfl xl_e))))) (hk _ _ _ _ hf)
def fX3_reboot_173 (kf : Int32 → Int32 → Int32 → xwM → Option (Int32 × xwM)) (x1 : Int32) (x3 : Int32) (x4 : Int32) (M : xwM) : Option (Int32 × xwM) :=
  bnv (fX3_takes x4 M) fun M34 =>
  fX3_reboot_182 kf x1 ((x3 + 1)) x4 M34
set_option maxHeartbeats 4000000 in
set_option maxRecDepth 100000 in
theorem kX3_reboot_173 {G : xwG} {ad : Nat → Nat} {cs : xmC} (C : xw_C G cX3_reboot 5 RX3 431 ad) (hR : xgR G = rX3_reboot) (ht : xgt G = xm_tys cs) (hr : (xgM G).sig.returnType = (some .int)) {M' : xwM} {o : Int32} {kf : Int32 → Int32 → Int32 → xwM → Option (Int32 × xwM)} (hk : ∀ (yx1 : Int32) (yx3 : Int32) (yx4 : Int32) (M : xwM), kf yx1 yx3 yx4 M = some (o, M') → XV G (xw_qi G 431 ad (xm_ce ad cs M') o) 5 0 0 ad cs M 136 [some (.ref (ad 418)), some (.int yx1), none, some (.int yx3), some (.int yx4)] []) {x1 : Int32} {x3 : Int32} {x4 : Int32} {M : xwM} (hf : fX3_reboot_173 kf x1 x3 x4 M = some (o, M')) : XV G (xw_qi G 431 ad (xm_ce ad cs M') o) 5 0 0 ad cs M 173 [some (.ref (ad 418)), some (.int x1), none, some (.int x3), some (.int x4)] [] := by
  unfold fX3_reboot_173 at hf
  refine xw_aload_n C dX3_reboot_173 0 rfl rfl ?_
  refine xw_iload C dX3_reboot_174 rfl ?_
  obtain ⟨M_M34, g_35, hf⟩ := bnv_s hf
  refine xc_Vv C (mX3_takes (xgl G) C.2.2.2.2.2.2.2.2.1 ht  g_35) FX3_takes hw_611 (by decide) xs_M rfl (by rw [hR]; decide) (by rw [hR]; decide) rfl (Nat.le_of_ble_eq_true rfl) dX3_reboot_176 rfl ?_
  refine xw_iinc C dX3_reboot_179 rfl (show _ + Int32.ofInt (1) = _ + (1) from congrArg _ (by decide)) (by decide) ?_
  exact xl_sub (xl_c rfl (xl_c rfl (xl_n (xl_c rfl (xl_c rfl xl_e))))) (kX3_reboot_182 C hR ht hr hk  hf)
def fX3_reboot_136 : Nat → Int32 → Int32 → Int32 →  xwM → Option (Int32 × xwM)
  | 0, _, _, _, _ => none
  | fu + 1, x1, x3, x4, M =>
  if x4 < 0 then
    (xlet (ms M 418 16 ((M 418 16) + x3)) fun M27 =>
      some (x3, M27))
  else
    (ld M 429 1806 ((6 * x4) + 1) fun v28 =>
      if v28 = x1 then
        (fX3_reboot_173 (fX3_reboot_136 fu) x1 x3 x4 M)
      else
        (ld M 429 1806 ((6 * x4) + 2) fun v31 =>
          if v31 = x1 then
            (fX3_reboot_173 (fX3_reboot_136 fu) x1 x3 x4 M)
          else
            (fX3_reboot_182 (fX3_reboot_136 fu) x1 x3 x4 M)))
set_option maxHeartbeats 4000000 in
set_option maxRecDepth 100000 in
theorem kX3_reboot_136 {G : xwG} {ad : Nat → Nat} {cs : xmC} (C : xw_C G cX3_reboot 5 RX3 431 ad) (hR : xgR G = rX3_reboot) (ht : xgt G = xm_tys cs) (hr : (xgM G).sig.returnType = (some .int)) {M' : xwM} {o : Int32} : ∀ (fu : Nat) (x1 : Int32) (x3 : Int32) (x4 : Int32) (M : xwM), fX3_reboot_136 fu x1 x3 x4 M = some (o, M') → XV G (xw_qi G 431 ad (xm_ce ad cs M') o) 5 0 0 ad cs M 136 [some (.ref (ad 418)), some (.int x1), none, some (.int x3), some (.int x4)] [] := by
  intro fu
  induction fu with
  | zero =>
    intro x1 x3 x4 M  hf
    cases hf
  | succ fu ih =>
    intro x1 x3 x4 M  hf
    rw [fX3_reboot_136] at hf
    refine xw_iload C dX3_reboot_136 rfl ?_
    refine xw_if_lt (tgt := 188) C dX3_reboot_138 (by decide) (fun c_26 => ?_) (fun c_26 => ?_)
    · have hf := it_t hf c_26
      refine xw_aload_n C dX3_reboot_188 0 rfl rfl ?_
      refine xw_dup C dX3_reboot_189 rfl ?_
      refine xv_getf C (by decide) xs_M rfl inB3 16 (by decide) hw_499 rfl dX3_reboot_190 ?_
      refine xw_iload_n C dX3_reboot_193 3 rfl rfl ?_
      refine xw_iadd C dX3_reboot_194 ?_
      refine xv_putf (fs := xl_X3 ad) C (by decide) (fun _ => xs_M) rfl inB3 tyX3 tyX3_ok nmX3 16 (by decide) hw_499 rfl rfl (fun _ => by simp [xl_X3]) (fun _ => rfl) dX3_reboot_195 ?_
      have hf := xlet_s hf
      refine xw_iload_n C dX3_reboot_198 3 rfl rfl ?_
      cases hf
      exact xw_reti C hr dX3_reboot_199
    · have hf := it_f hf c_26
      refine xw_aload_n C dX3_reboot_141 0 rfl rfl ?_
      refine xv_getf C (by decide) xs_M rfl inB3 12 (by decide) hw_495 rfl dX3_reboot_142 ?_
      refine xw_bipush (v := 6) C dX3_reboot_145 (by decide) ?_
      refine xw_iload C dX3_reboot_147 rfl ?_
      refine xw_imul C dX3_reboot_149 ?_
      refine xw_iconst (v := 1) C dX3_reboot_150 (by decide) ?_
      refine xw_iadd C dX3_reboot_151 ?_
      obtain ⟨i_29, hf⟩ := ld_s hf
      refine xv_iald C ht (by decide) ((fun _ => xs_429) _) i_29 dX3_reboot_152 ?_
      refine xw_iload_n C dX3_reboot_153 1 rfl rfl ?_
      refine xw_icmp_eq (tgt := 173) C dX3_reboot_154 (by decide) (fun c_30 => ?_) (fun c_30 => ?_)
      · have hf := it_t hf c_30
        exact xl_sub (xl_c rfl (xl_c rfl (xl_n (xl_c rfl (xl_c rfl xl_e))))) (kX3_reboot_173 C hR ht hr ih  hf)
      · have hf := it_f hf c_30
        refine xw_aload_n C dX3_reboot_157 0 rfl rfl ?_
        refine xv_getf C (by decide) xs_M rfl inB3 12 (by decide) hw_495 rfl dX3_reboot_158 ?_
        refine xw_bipush (v := 6) C dX3_reboot_161 (by decide) ?_
        refine xw_iload C dX3_reboot_163 rfl ?_
        refine xw_imul C dX3_reboot_165 ?_
        refine xw_iconst (v := 2) C dX3_reboot_166 (by decide) ?_
        refine xw_iadd C dX3_reboot_167 ?_
        obtain ⟨i_32, hf⟩ := ld_s hf
        refine xv_iald C ht (by decide) ((fun _ => xs_429) _) i_32 dX3_reboot_168 ?_
        refine xw_iload_n C dX3_reboot_169 1 rfl rfl ?_
        refine xw_icmp_ne (tgt := 182) C dX3_reboot_170 (by decide) (fun c_33 => ?_) (fun c_33 => ?_)
        · have hf := it_f hf c_33
          exact xl_sub (xl_c rfl (xl_c rfl (xl_n (xl_c rfl (xl_c rfl xl_e))))) (kX3_reboot_182 C hR ht hr ih  hf)
        · have hf := it_t hf c_33
          exact xl_sub (xl_c rfl (xl_c rfl (xl_n (xl_c rfl (xl_c rfl xl_e))))) (kX3_reboot_173 C hR ht hr ih  hf)
def fX3_reboot_78 : Nat → Int32 → Int32 →  xwM → Option (Int32 × xwM)
  | 0, _, _, _ => none
  | fu + 1, x1, x3, M =>
  if 12 ≤ x3 then
    (fX3_reboot_136 2001 x1 0 (((M 418 13) - 1)) M)
  else
    (sto M 421 144 ((12 * x1) + x3) (-1) fun M20 =>
      sto M20 422 144 ((12 * x1) + x3) (-1) fun M22 =>
      sto M22 426 144 ((12 * x1) + x3) (-1) fun M24 =>
      fX3_reboot_78 fu x1 ((x3 + 1)) M24)
set_option maxHeartbeats 4000000 in
set_option maxRecDepth 100000 in
theorem kX3_reboot_78 {G : xwG} {ad : Nat → Nat} {cs : xmC} (C : xw_C G cX3_reboot 5 RX3 431 ad) (hR : xgR G = rX3_reboot) (ht : xgt G = xm_tys cs) (hr : (xgM G).sig.returnType = (some .int)) {M' : xwM} {o : Int32} : ∀ (fu : Nat) (x1 : Int32) (x3 : Int32) (M : xwM), fX3_reboot_78 fu x1 x3 M = some (o, M') → XV G (xw_qi G 431 ad (xm_ce ad cs M') o) 5 0 0 ad cs M 78 [some (.ref (ad 418)), some (.int x1), none, some (.int x3), none] [] := by
  intro fu
  induction fu with
  | zero =>
    intro x1 x3 M  hf
    cases hf
  | succ fu ih =>
    intro x1 x3 M  hf
    rw [fX3_reboot_78] at hf
    refine xw_iload_n C dX3_reboot_78 3 rfl rfl ?_
    refine xw_bipush (v := 12) C dX3_reboot_79 (by decide) ?_
    refine xw_icmp_ge (tgt := 126) C dX3_reboot_81 (by decide) (fun c_19 => ?_) (fun c_19 => ?_)
    · have hf := it_t hf c_19
      refine xw_iconst (v := 0) C dX3_reboot_126 (by decide) ?_
      refine xw_istore_n C dX3_reboot_127 3 rfl (by decide) ?_
      refine xw_aload_n C dX3_reboot_128 0 rfl rfl ?_
      refine xv_getf C (by decide) xs_M rfl inB3 13 (by decide) hw_496 rfl dX3_reboot_129 ?_
      refine xw_iconst (v := 1) C dX3_reboot_132 (by decide) ?_
      refine xw_isub C dX3_reboot_133 ?_
      refine xw_istore C dX3_reboot_134 (by decide) ?_
      exact xl_sub (xl_c rfl (xl_c rfl (xl_n (xl_c rfl (xl_c rfl xl_e))))) (kX3_reboot_136 C hR ht hr 2001 _ _ _ _ hf)
    · have hf := it_f hf c_19
      refine xw_aload_n C dX3_reboot_84 0 rfl rfl ?_
      refine xv_getf C (by decide) xs_M rfl inB3 4 (by decide) hw_487 rfl dX3_reboot_85 ?_
      refine xw_bipush (v := 12) C dX3_reboot_88 (by decide) ?_
      refine xw_iload_n C dX3_reboot_90 1 rfl rfl ?_
      refine xw_imul C dX3_reboot_91 ?_
      refine xw_iload_n C dX3_reboot_92 3 rfl rfl ?_
      refine xw_iadd C dX3_reboot_93 ?_
      refine xw_iconst (v := -1) C dX3_reboot_94 (by decide) ?_
      obtain ⟨i_21, hf⟩ := sto_s hf
      refine xv_iast C ht (by decide) (fun _ => xs_421) i_21 dX3_reboot_95 ?_
      refine xw_aload_n C dX3_reboot_96 0 rfl rfl ?_
      refine xv_getf C (by decide) xs_M rfl inB3 5 (by decide) hw_488 rfl dX3_reboot_97 ?_
      refine xw_bipush (v := 12) C dX3_reboot_100 (by decide) ?_
      refine xw_iload_n C dX3_reboot_102 1 rfl rfl ?_
      refine xw_imul C dX3_reboot_103 ?_
      refine xw_iload_n C dX3_reboot_104 3 rfl rfl ?_
      refine xw_iadd C dX3_reboot_105 ?_
      refine xw_iconst (v := -1) C dX3_reboot_106 (by decide) ?_
      obtain ⟨i_23, hf⟩ := sto_s hf
      refine xv_iast C ht (by decide) (fun _ => xs_422) i_23 dX3_reboot_107 ?_
      refine xw_aload_n C dX3_reboot_108 0 rfl rfl ?_
      refine xv_getf C (by decide) xs_M rfl inB3 9 (by decide) hw_492 rfl dX3_reboot_109 ?_
      refine xw_bipush (v := 12) C dX3_reboot_112 (by decide) ?_
      refine xw_iload_n C dX3_reboot_114 1 rfl rfl ?_
      refine xw_imul C dX3_reboot_115 ?_
      refine xw_iload_n C dX3_reboot_116 3 rfl rfl ?_
      refine xw_iadd C dX3_reboot_117 ?_
      refine xw_iconst (v := -1) C dX3_reboot_118 (by decide) ?_
      obtain ⟨i_25, hf⟩ := sto_s hf
      refine xv_iast C ht (by decide) (fun _ => xs_426) i_25 dX3_reboot_119 ?_
      refine xw_iinc C dX3_reboot_120 rfl (show _ + Int32.ofInt (1) = _ + (1) from congrArg _ (by decide)) (by decide) ?_
      refine xw_goto (tgt := 78) C dX3_reboot_123 (by decide) ?_
      exact xl_sub (xl_c rfl (xl_c rfl (xl_n (xl_c rfl (xl_n xl_e))))) (ih _ _ _ hf)
def fX3_reboot_68 (x1 : Int32) (s1 : Int32) (M : xwM) : Option (Int32 × xwM) :=
  bni (fX3_refuses s1 M) fun v15 M16 =>
  if v15 = 0 then
    (fX3_reboot_78 2001 x1 0 M16)
  else
    (some (0, M16))
set_option maxHeartbeats 4000000 in
set_option maxRecDepth 100000 in
theorem kX3_reboot_68 {G : xwG} {ad : Nat → Nat} {cs : xmC} (C : xw_C G cX3_reboot 5 RX3 431 ad) (hR : xgR G = rX3_reboot) (ht : xgt G = xm_tys cs) (hr : (xgM G).sig.returnType = (some .int)) {M' : xwM} {o : Int32} {x1 : Int32} {s1 : Int32} {M : xwM} (hf : fX3_reboot_68 x1 s1 M = some (o, M')) : XV G (xw_qi G 431 ad (xm_ce ad cs M') o) 5 0 0 ad cs M 68 [some (.ref (ad 418)), some (.int x1), none, none, none] [.int s1, .ref (ad 418)] := by
  unfold fX3_reboot_68 at hf
  obtain ⟨r_v15, M_M16, g_17, hf⟩ := bni_s hf
  refine xc_Vi C (mX3_refuses (xgl G) C.2.2.2.2.2.2.2.2.1 ht  g_17) FX3_refuses hw_546 (by decide) xs_M rfl (by rw [hR]; decide) (by rw [hR]; decide) rfl (Nat.le_of_ble_eq_true rfl) dX3_reboot_68 rfl ?_
  refine xw_if_eq (tgt := 76) C dX3_reboot_71 (by decide) (fun c_18 => ?_) (fun c_18 => ?_)
  · have hf := it_t hf c_18
    refine xw_iconst (v := 0) C dX3_reboot_76 (by decide) ?_
    refine xw_istore_n C dX3_reboot_77 3 rfl (by decide) ?_
    exact xl_sub (xl_c rfl (xl_c rfl (xl_n (xl_c rfl (xl_n xl_e))))) (kX3_reboot_78 C hR ht hr 2001 _ _ _ hf)
  · have hf := it_f hf c_18
    refine xw_iconst (v := 0) C dX3_reboot_74 (by decide) ?_
    cases hf
    exact xw_reti C hr dX3_reboot_75
def fX3_reboot_47 (x1 : Int32) (x2 : Int32) (M : xwM) : Option (Int32 × xwM) :=
  bni (fX3_isNode x1 M) fun v10 M11 =>
  if v10 = 0 then
    (fX3_reboot_68 x1 1 M11)
  else
    (if x2 = 0 then
        (fX3_reboot_68 x1 0 M11)
      else
        (fX3_reboot_68 x1 2 M11))
set_option maxHeartbeats 4000000 in
set_option maxRecDepth 100000 in
theorem kX3_reboot_47 {G : xwG} {ad : Nat → Nat} {cs : xmC} (C : xw_C G cX3_reboot 5 RX3 431 ad) (hR : xgR G = rX3_reboot) (ht : xgt G = xm_tys cs) (hr : (xgM G).sig.returnType = (some .int)) {M' : xwM} {o : Int32} {x1 : Int32} {x2 : Int32} {M : xwM} (hf : fX3_reboot_47 x1 x2 M = some (o, M')) : XV G (xw_qi G 431 ad (xm_ce ad cs M') o) 5 0 0 ad cs M 47 [some (.ref (ad 418)), some (.int x1), some (.int x2), none, none] [] := by
  unfold fX3_reboot_47 at hf
  refine xw_aload_n C dX3_reboot_47 0 rfl rfl ?_
  refine xw_iload_n C dX3_reboot_48 1 rfl rfl ?_
  obtain ⟨r_v10, M_M11, g_12, hf⟩ := bni_s hf
  refine xc_Si C (mX3_isNode (xgl G) C.2.2.2.2.2.2.2.2.1 ht  g_12) FX3_isNode hw_543 (by rw [hR]; decide) (by rw [hR]; decide) rfl (Nat.le_of_ble_eq_true rfl) dX3_reboot_49 rfl ?_
  refine xw_if_ne (tgt := 59) C dX3_reboot_52 (by decide) (fun c_13 => ?_) (fun c_13 => ?_)
  · have hf := it_f hf c_13
    refine xw_iload_n C dX3_reboot_59 2 rfl rfl ?_
    refine xw_if_eq (tgt := 67) C dX3_reboot_60 (by decide) (fun c_14 => ?_) (fun c_14 => ?_)
    · have hf := it_t hf c_14
      refine xw_iconst (v := 0) C dX3_reboot_67 (by decide) ?_
      exact xl_sub (xl_c rfl (xl_c rfl (xl_n (xl_n (xl_n xl_e))))) (kX3_reboot_68 C hR ht hr  hf)
    · have hf := it_f hf c_14
      refine xw_iconst (v := 2) C dX3_reboot_63 (by decide) ?_
      refine xw_goto (tgt := 68) C dX3_reboot_64 (by decide) ?_
      exact xl_sub (xl_c rfl (xl_c rfl (xl_n (xl_n (xl_n xl_e))))) (kX3_reboot_68 C hR ht hr  hf)
  · have hf := it_t hf c_13
    refine xw_iconst (v := 1) C dX3_reboot_55 (by decide) ?_
    refine xw_goto (tgt := 68) C dX3_reboot_56 (by decide) ?_
    exact xl_sub (xl_c rfl (xl_c rfl (xl_n (xl_n (xl_n xl_e))))) (kX3_reboot_68 C hR ht hr  hf)
def fX3_reboot_4 : Nat → Int32 → Int32 → Int32 →  xwM → Option (Int32 × xwM)
  | 0, _, _, _, _ => none
  | fu + 1, x1, x2, x3, M =>
  if 12 ≤ x3 then
    (fX3_reboot_47 x1 x2 M)
  else
    (bni (fX3_isNode x1 M) fun v2 M3 =>
      if v2 = 0 then
        (fX3_reboot_47 x1 x2 M3)
      else
        (if x2 = 0 then
            (ld M3 419 144 ((12 * x1) + x3) fun v7 =>
              if v7 ≤ 0 then
                (fX3_reboot_40 (fX3_reboot_4 fu) x1 x3 0 M3)
              else
                (fX3_reboot_35 (fX3_reboot_4 fu) x1 x3 M3))
          else
            (fX3_reboot_35 (fX3_reboot_4 fu) x1 x3 M3)))
set_option maxHeartbeats 4000000 in
set_option maxRecDepth 100000 in
theorem kX3_reboot_4 {G : xwG} {ad : Nat → Nat} {cs : xmC} (C : xw_C G cX3_reboot 5 RX3 431 ad) (hR : xgR G = rX3_reboot) (ht : xgt G = xm_tys cs) (hr : (xgM G).sig.returnType = (some .int)) {M' : xwM} {o : Int32} : ∀ (fu : Nat) (x1 : Int32) (x2 : Int32) (x3 : Int32) (M : xwM), fX3_reboot_4 fu x1 x2 x3 M = some (o, M') → XV G (xw_qi G 431 ad (xm_ce ad cs M') o) 5 0 0 ad cs M 4 [some (.ref (ad 418)), some (.int x1), some (.int x2), some (.int x3), none] [] := by
  intro fu
  induction fu with
  | zero =>
    intro x1 x2 x3 M  hf
    cases hf
  | succ fu ih =>
    intro x1 x2 x3 M  hf
    rw [fX3_reboot_4] at hf
    refine xw_iload_n C dX3_reboot_4 3 rfl rfl ?_
    refine xw_bipush (v := 12) C dX3_reboot_5 (by decide) ?_
    refine xw_icmp_ge (tgt := 47) C dX3_reboot_7 (by decide) (fun c_1 => ?_) (fun c_1 => ?_)
    · have hf := it_t hf c_1
      exact xl_sub (xl_c rfl (xl_c rfl (xl_c rfl (xl_n (xl_n xl_e))))) (kX3_reboot_47 C hR ht hr  hf)
    · have hf := it_f hf c_1
      refine xw_iload_n C dX3_reboot_10 1 rfl rfl ?_
      obtain ⟨r_v2, M_M3, g_4, hf⟩ := bni_s hf
      refine xc_Si C (mX3_isNode (xgl G) C.2.2.2.2.2.2.2.2.1 ht  g_4) FX3_isNode hw_543 (by rw [hR]; decide) (by rw [hR]; decide) rfl (Nat.le_of_ble_eq_true rfl) dX3_reboot_11 rfl ?_
      refine xw_if_eq (tgt := 47) C dX3_reboot_14 (by decide) (fun c_5 => ?_) (fun c_5 => ?_)
      · have hf := it_t hf c_5
        exact xl_sub (xl_c rfl (xl_c rfl (xl_c rfl (xl_n (xl_n xl_e))))) (kX3_reboot_47 C hR ht hr  hf)
      · have hf := it_f hf c_5
        refine xw_iload_n C dX3_reboot_17 2 rfl rfl ?_
        refine xw_if_ne (tgt := 35) C dX3_reboot_18 (by decide) (fun c_6 => ?_) (fun c_6 => ?_)
        · have hf := it_f hf c_6
          exact xl_sub (xl_c rfl (xl_c rfl (xl_n (xl_c rfl (xl_n xl_e))))) (kX3_reboot_35 C hR ht hr ih  hf)
        · have hf := it_t hf c_6
          refine xw_aload_n C dX3_reboot_21 0 rfl rfl ?_
          refine xv_getf C (by decide) xs_M rfl inB3 1 (by decide) hw_484 rfl dX3_reboot_22 ?_
          refine xw_bipush (v := 12) C dX3_reboot_25 (by decide) ?_
          refine xw_iload_n C dX3_reboot_27 1 rfl rfl ?_
          refine xw_imul C dX3_reboot_28 ?_
          refine xw_iload_n C dX3_reboot_29 3 rfl rfl ?_
          refine xw_iadd C dX3_reboot_30 ?_
          obtain ⟨i_8, hf⟩ := ld_s hf
          refine xv_iald C ht (by decide) ((fun _ => xs_419) _) i_8 dX3_reboot_31 ?_
          refine xw_if_le (tgt := 39) C dX3_reboot_32 (by decide) (fun c_9 => ?_) (fun c_9 => ?_)
          · have hf := it_t hf c_9
            refine xw_iconst (v := 0) C dX3_reboot_39 (by decide) ?_
            exact xl_sub (xl_c rfl (xl_c rfl (xl_n (xl_c rfl (xl_n xl_e))))) (kX3_reboot_40 C hR ht hr ih  hf)
          · have hf := it_f hf c_9
            exact xl_sub (xl_c rfl (xl_c rfl (xl_n (xl_c rfl (xl_n xl_e))))) (kX3_reboot_35 C hR ht hr ih  hf)
def fX3_reboot (x1 : Int32) (M : xwM) : Option (Int32 × xwM) :=
  fX3_reboot_4 2001 x1 0 0 M
set_option maxHeartbeats 4000000 in
set_option maxRecDepth 100000 in
theorem kX3_reboot_0 {G : xwG} {ad : Nat → Nat} {cs : xmC} (C : xw_C G cX3_reboot 5 RX3 431 ad) (hR : xgR G = rX3_reboot) (ht : xgt G = xm_tys cs) (hr : (xgM G).sig.returnType = (some .int)) {M' : xwM} {o : Int32} {x1 : Int32} {M : xwM} (hf : fX3_reboot x1 M = some (o, M')) : XV G (xw_qi G 431 ad (xm_ce ad cs M') o) 5 0 0 ad cs M 0 [some (.ref (ad 418)), some (.int x1), none, none, none] [] := by
  unfold fX3_reboot at hf
  refine xw_iconst (v := 0) C dX3_reboot_0 (by decide) ?_
  refine xw_istore_n C dX3_reboot_1 2 rfl (by decide) ?_
  refine xw_iconst (v := 0) C dX3_reboot_2 (by decide) ?_
  refine xw_istore_n C dX3_reboot_3 3 rfl (by decide) ?_
  exact xl_sub (xl_c rfl (xl_c rfl (xl_c rfl (xl_c rfl (xl_n xl_e))))) (kX3_reboot_4 C hR ht hr 2001 _ _ _ _ hf)
theorem mX3_reboot (l : Launch) {D : va_G} {tys : List (ClassId × FieldType)} {base : Nat} {ad : Nat → Nat} {cs : xmC} (hJ : xw_J 431 ad base) (ht : tys = xm_tys cs) {x1 : Int32} {M M' : xwM} {o : Int32} (hf : fX3_reboot x1 M = some (o, M')) : xk_i l yX3_reboot cX3_reboot 5 (some .int) rX3_reboot D tys base 431 ad [.ref (ad 418), .int x1] (xm_ce ad cs M) (xm_ce ad cs M') o :=
  xk_ofi 3 (by decide) hJ (List.forall_mem_cons.mpr ⟨rfl, List.forall_mem_cons.mpr ⟨rfl, List.forall_mem_nil _⟩⟩) (Nat.le_of_ble_eq_true rfl) (fun G e1 e2 e3 e4 e5 hr C => kX3_reboot_0 C e2 (e4.trans ht) hr  hf)

abbrev rX3_requested : Room := { frames := 3, cells := 0, slots := 0, locals := 76 }
def fX3_requested_152 (M : xwM) : Option (xwM) :=
  some M
set_option maxHeartbeats 4000000 in
set_option maxRecDepth 100000 in
theorem kX3_requested_152 {G : xwG} {ad : Nat → Nat} {cs : xmC} (C : xw_C G cX3_requested 7 RX3 431 ad) (hR : xgR G = rX3_requested) (ht : xgt G = xm_tys cs) (hr : (xgM G).sig.returnType = none) {M' : xwM} {M : xwM} (hf : fX3_requested_152  M = some M') : XV G (xw_qv G 431 ad (xm_ce ad cs M')) 7 0 0 ad cs M 152 [none, none, none, none, none, none, none] [] := by
  unfold fX3_requested_152 at hf
  cases hf
  exact xw_retv C hr dX3_requested_152
def fX3_requested_52 (x1 : Int32) (s1 : Int32) (s2 : Int32) (M : xwM) : Option (xwM) :=
  sto M 420 12 s1 s2 fun M23 =>
  bnv (fX3_tellsAll x1 x1 M23) fun M25 =>
  fX3_requested_152  M25
set_option maxHeartbeats 4000000 in
set_option maxRecDepth 100000 in
theorem kX3_requested_52 {G : xwG} {ad : Nat → Nat} {cs : xmC} (C : xw_C G cX3_requested 7 RX3 431 ad) (hR : xgR G = rX3_requested) (ht : xgt G = xm_tys cs) (hr : (xgM G).sig.returnType = none) {M' : xwM} {x1 : Int32} {s1 : Int32} {s2 : Int32} {M : xwM} (hf : fX3_requested_52 x1 s1 s2 M = some M') : XV G (xw_qv G 431 ad (xm_ce ad cs M')) 7 0 0 ad cs M 52 [some (.ref (ad 418)), some (.int x1), none, none, none, none, none] [.int s2, .int s1, .ref (ad 420)] := by
  unfold fX3_requested_52 at hf
  obtain ⟨i_24, hf⟩ := sto_s hf
  refine xv_iast C ht (by decide) (fun _ => xs_420) i_24 dX3_requested_52 ?_
  refine xw_aload_n C dX3_requested_53 0 rfl rfl ?_
  refine xw_iload_n C dX3_requested_54 1 rfl rfl ?_
  refine xw_iload_n C dX3_requested_55 1 rfl rfl ?_
  obtain ⟨M_M25, g_26, hf⟩ := bnv_s hf
  refine xc_Vv C (mX3_tellsAll (xgl G) C.2.2.2.2.2.2.2.2.1 ht  g_26) FX3_tellsAll hw_583 (by decide) xs_M rfl (by rw [hR]; decide) (by rw [hR]; decide) rfl (Nat.le_of_ble_eq_true rfl) dX3_requested_56 rfl ?_
  refine xw_goto (tgt := 152) C dX3_requested_59 (by decide) ?_
  exact xl_sub (xl_n (xl_n (xl_n (xl_n (xl_n (xl_n (xl_n xl_e))))))) (kX3_requested_152 C hR ht hr  hf)
def fX3_requested_130 (x1 : Int32) (x2 : Int32) (x3 : Int32) (x4 : Int32) (x5 : Int32) (x6 : Int32) (M : xwM) : Option (xwM) :=
  sto M 426 144 x6 x4 fun M37 =>
  bnv (fX3_asks x1 x3 x4 (x5 - 1) x2 M37) fun M39 =>
  fX3_requested_152  M39
set_option maxHeartbeats 4000000 in
set_option maxRecDepth 100000 in
theorem kX3_requested_130 {G : xwG} {ad : Nat → Nat} {cs : xmC} (C : xw_C G cX3_requested 7 RX3 431 ad) (hR : xgR G = rX3_requested) (ht : xgt G = xm_tys cs) (hr : (xgM G).sig.returnType = none) {M' : xwM} {x1 : Int32} {x2 : Int32} {x3 : Int32} {x4 : Int32} {x5 : Int32} {x6 : Int32} {M : xwM} (hf : fX3_requested_130 x1 x2 x3 x4 x5 x6 M = some M') : XV G (xw_qv G 431 ad (xm_ce ad cs M')) 7 0 0 ad cs M 130 [some (.ref (ad 418)), some (.int x1), some (.int x2), some (.int x3), some (.int x4), some (.int x5), some (.int x6)] [] := by
  unfold fX3_requested_130 at hf
  refine xw_aload_n C dX3_requested_130 0 rfl rfl ?_
  refine xv_getf C (by decide) xs_M rfl inB3 9 (by decide) hw_492 rfl dX3_requested_131 ?_
  refine xw_iload C dX3_requested_134 rfl ?_
  refine xw_iload C dX3_requested_136 rfl ?_
  obtain ⟨i_38, hf⟩ := sto_s hf
  refine xv_iast C ht (by decide) (fun _ => xs_426) i_38 dX3_requested_138 ?_
  refine xw_aload_n C dX3_requested_139 0 rfl rfl ?_
  refine xw_iload_n C dX3_requested_140 1 rfl rfl ?_
  refine xw_iload_n C dX3_requested_141 3 rfl rfl ?_
  refine xw_iload C dX3_requested_142 rfl ?_
  refine xw_iload C dX3_requested_144 rfl ?_
  refine xw_iconst (v := 1) C dX3_requested_146 (by decide) ?_
  refine xw_isub C dX3_requested_147 ?_
  refine xw_iload_n C dX3_requested_148 2 rfl rfl ?_
  obtain ⟨M_M39, g_40, hf⟩ := bnv_s hf
  refine xc_Vv C (mX3_asks (xgl G) C.2.2.2.2.2.2.2.2.1 ht  g_40) FX3_asks hw_591 (by decide) xs_M rfl (by rw [hR]; decide) (by rw [hR]; decide) rfl (Nat.le_of_ble_eq_true rfl) dX3_requested_149 rfl ?_
  exact xl_sub (xl_n (xl_n (xl_n (xl_n (xl_n (xl_n (xl_n xl_e))))))) (kX3_requested_152 C hR ht hr  hf)
def fX3_requested_98 (x1 : Int32) (x2 : Int32) (x3 : Int32) (x4 : Int32) (x5 : Int32) (x6 : Int32) (M : xwM) : Option (xwM) :=
  if x5 ≤ 1 then
    (fX3_requested_152  M)
  else
    (ld M 426 144 x6 fun v28 =>
      if v28 = (-1) then
        (fX3_requested_130 x1 x2 x3 x4 x5 x6 M)
      else
        (ld M 426 144 x6 fun v31 =>
          bni (fX3_newer x4 v31 M) fun v33 M34 =>
          if v33 = 0 then
            (fX3_requested_152  M34)
          else
            (fX3_requested_130 x1 x2 x3 x4 x5 x6 M34)))
set_option maxHeartbeats 4000000 in
set_option maxRecDepth 100000 in
theorem kX3_requested_98 {G : xwG} {ad : Nat → Nat} {cs : xmC} (C : xw_C G cX3_requested 7 RX3 431 ad) (hR : xgR G = rX3_requested) (ht : xgt G = xm_tys cs) (hr : (xgM G).sig.returnType = none) {M' : xwM} {x1 : Int32} {x2 : Int32} {x3 : Int32} {x4 : Int32} {x5 : Int32} {x6 : Int32} {M : xwM} (hf : fX3_requested_98 x1 x2 x3 x4 x5 x6 M = some M') : XV G (xw_qv G 431 ad (xm_ce ad cs M')) 7 0 0 ad cs M 98 [some (.ref (ad 418)), some (.int x1), some (.int x2), some (.int x3), some (.int x4), some (.int x5), some (.int x6)] [] := by
  unfold fX3_requested_98 at hf
  refine xw_iload C dX3_requested_98 rfl ?_
  refine xw_iconst (v := 1) C dX3_requested_100 (by decide) ?_
  refine xw_icmp_le (tgt := 152) C dX3_requested_101 (by decide) (fun c_27 => ?_) (fun c_27 => ?_)
  · have hf := it_t hf c_27
    exact xl_sub (xl_n (xl_n (xl_n (xl_n (xl_n (xl_n (xl_n xl_e))))))) (kX3_requested_152 C hR ht hr  hf)
  · have hf := it_f hf c_27
    refine xw_aload_n C dX3_requested_104 0 rfl rfl ?_
    refine xv_getf C (by decide) xs_M rfl inB3 9 (by decide) hw_492 rfl dX3_requested_105 ?_
    refine xw_iload C dX3_requested_108 rfl ?_
    obtain ⟨i_29, hf⟩ := ld_s hf
    refine xv_iald C ht (by decide) ((fun _ => xs_426) _) i_29 dX3_requested_110 ?_
    refine xw_iconst (v := -1) C dX3_requested_111 (by decide) ?_
    refine xw_icmp_eq (tgt := 130) C dX3_requested_112 (by decide) (fun c_30 => ?_) (fun c_30 => ?_)
    · have hf := it_t hf c_30
      exact xl_sub (xl_c rfl (xl_c rfl (xl_c rfl (xl_c rfl (xl_c rfl (xl_c rfl (xl_c rfl xl_e))))))) (kX3_requested_130 C hR ht hr  hf)
    · have hf := it_f hf c_30
      refine xw_iload C dX3_requested_115 rfl ?_
      refine xw_aload_n C dX3_requested_117 0 rfl rfl ?_
      refine xv_getf C (by decide) xs_M rfl inB3 9 (by decide) hw_492 rfl dX3_requested_118 ?_
      refine xw_iload C dX3_requested_121 rfl ?_
      obtain ⟨i_32, hf⟩ := ld_s hf
      refine xv_iald C ht (by decide) ((fun _ => xs_426) _) i_32 dX3_requested_123 ?_
      obtain ⟨r_v33, M_M34, g_35, hf⟩ := bni_s hf
      refine xc_Si C (mX3_newer (xgl G) C.2.2.2.2.2.2.2.2.1 ht  g_35) FX3_newer hw_563 (by rw [hR]; decide) (by rw [hR]; decide) rfl (Nat.le_of_ble_eq_true rfl) dX3_requested_124 rfl ?_
      refine xw_if_eq (tgt := 152) C dX3_requested_127 (by decide) (fun c_36 => ?_) (fun c_36 => ?_)
      · have hf := it_t hf c_36
        exact xl_sub (xl_n (xl_n (xl_n (xl_n (xl_n (xl_n (xl_n xl_e))))))) (kX3_requested_152 C hR ht hr  hf)
      · have hf := it_f hf c_36
        exact xl_sub (xl_c rfl (xl_c rfl (xl_c rfl (xl_c rfl (xl_c rfl (xl_c rfl (xl_c rfl xl_e))))))) (kX3_requested_130 C hR ht hr  hf)
def fX3_requested (x1 : Int32) (x2 : Int32) (x3 : Int32) (x4 : Int32) (x5 : Int32) (M : xwM) : Option (xwM) :=
  if x1 = x3 then
    (ld M 420 12 x1 fun v13 =>
      bni (fX3_newer x4 v13 M) fun v15 M16 =>
      if v15 = 0 then
        (ld M16 420 12 x1 fun v19 =>
          fX3_requested_52 x1 x1 v19 M16)
      else
        (ld M16 420 12 x1 fun v21 =>
          fX3_requested_52 x1 x1 (((v21 + 1) &&& 65535)) M16))
  else
    (ld M 423 144 ((12 * x1) + x3) fun v2 =>
      if v2 = (-1) then
        (fX3_requested_98 x1 x2 x3 x4 x5 (((12 * x1) + x3)) M)
      else
        (ld M 424 144 ((12 * x1) + x3) fun v5 =>
          bni (fX3_newer x4 v5 M) fun v7 M8 =>
          if v7 = 0 then
            (bnv (fX3_tells x1 x2 x3 M8) fun M11 =>
              fX3_requested_152  M11)
          else
            (fX3_requested_98 x1 x2 x3 x4 x5 (((12 * x1) + x3)) M8)))
set_option maxHeartbeats 4000000 in
set_option maxRecDepth 100000 in
theorem kX3_requested_0 {G : xwG} {ad : Nat → Nat} {cs : xmC} (C : xw_C G cX3_requested 7 RX3 431 ad) (hR : xgR G = rX3_requested) (ht : xgt G = xm_tys cs) (hr : (xgM G).sig.returnType = none) {M' : xwM} {x1 : Int32} {x2 : Int32} {x3 : Int32} {x4 : Int32} {x5 : Int32} {M : xwM} (hf : fX3_requested x1 x2 x3 x4 x5 M = some M') : XV G (xw_qv G 431 ad (xm_ce ad cs M')) 7 0 0 ad cs M 0 [some (.ref (ad 418)), some (.int x1), some (.int x2), some (.int x3), some (.int x4), some (.int x5), none] [] := by
  unfold fX3_requested at hf
  refine xw_bipush (v := 12) C dX3_requested_0 (by decide) ?_
  refine xw_iload_n C dX3_requested_2 1 rfl rfl ?_
  refine xw_imul C dX3_requested_3 ?_
  refine xw_iload_n C dX3_requested_4 3 rfl rfl ?_
  refine xw_iadd C dX3_requested_5 ?_
  refine xw_istore C dX3_requested_6 (by decide) ?_
  refine xw_iload_n C dX3_requested_8 1 rfl rfl ?_
  refine xw_iload_n C dX3_requested_9 3 rfl rfl ?_
  refine xw_icmp_ne (tgt := 62) C dX3_requested_10 (by decide) (fun c_1 => ?_) (fun c_1 => ?_)
  · have hf := it_f hf c_1
    refine xw_aload_n C dX3_requested_62 0 rfl rfl ?_
    refine xv_getf C (by decide) xs_M rfl inB3 6 (by decide) hw_489 rfl dX3_requested_63 ?_
    refine xw_iload C dX3_requested_66 rfl ?_
    obtain ⟨i_3, hf⟩ := ld_s hf
    refine xv_iald C ht (by decide) ((fun _ => xs_423) _) i_3 dX3_requested_68 ?_
    refine xw_iconst (v := -1) C dX3_requested_69 (by decide) ?_
    refine xw_icmp_eq (tgt := 98) C dX3_requested_70 (by decide) (fun c_4 => ?_) (fun c_4 => ?_)
    · have hf := it_t hf c_4
      exact xl_sub (xl_c rfl (xl_c rfl (xl_c rfl (xl_c rfl (xl_c rfl (xl_c rfl (xl_c rfl xl_e))))))) (kX3_requested_98 C hR ht hr  hf)
    · have hf := it_f hf c_4
      refine xw_iload C dX3_requested_73 rfl ?_
      refine xw_aload_n C dX3_requested_75 0 rfl rfl ?_
      refine xv_getf C (by decide) xs_M rfl inB3 7 (by decide) hw_490 rfl dX3_requested_76 ?_
      refine xw_iload C dX3_requested_79 rfl ?_
      obtain ⟨i_6, hf⟩ := ld_s hf
      refine xv_iald C ht (by decide) ((fun _ => xs_424) _) i_6 dX3_requested_81 ?_
      obtain ⟨r_v7, M_M8, g_9, hf⟩ := bni_s hf
      refine xc_Si C (mX3_newer (xgl G) C.2.2.2.2.2.2.2.2.1 ht  g_9) FX3_newer hw_563 (by rw [hR]; decide) (by rw [hR]; decide) rfl (Nat.le_of_ble_eq_true rfl) dX3_requested_82 rfl ?_
      refine xw_if_ne (tgt := 98) C dX3_requested_85 (by decide) (fun c_10 => ?_) (fun c_10 => ?_)
      · have hf := it_f hf c_10
        exact xl_sub (xl_c rfl (xl_c rfl (xl_c rfl (xl_c rfl (xl_c rfl (xl_c rfl (xl_c rfl xl_e))))))) (kX3_requested_98 C hR ht hr  hf)
      · have hf := it_t hf c_10
        refine xw_aload_n C dX3_requested_88 0 rfl rfl ?_
        refine xw_iload_n C dX3_requested_89 1 rfl rfl ?_
        refine xw_iload_n C dX3_requested_90 2 rfl rfl ?_
        refine xw_iload_n C dX3_requested_91 3 rfl rfl ?_
        obtain ⟨M_M11, g_12, hf⟩ := bnv_s hf
        refine xc_Vv C (mX3_tells (xgl G) C.2.2.2.2.2.2.2.2.1 ht  g_12) FX3_tells hw_554 (by decide) xs_M rfl (by rw [hR]; decide) (by rw [hR]; decide) rfl (Nat.le_of_ble_eq_true rfl) dX3_requested_92 rfl ?_
        refine xw_goto (tgt := 152) C dX3_requested_95 (by decide) ?_
        exact xl_sub (xl_n (xl_n (xl_n (xl_n (xl_n (xl_n (xl_n xl_e))))))) (kX3_requested_152 C hR ht hr  hf)
  · have hf := it_t hf c_1
    refine xw_aload_n C dX3_requested_13 0 rfl rfl ?_
    refine xv_getf C (by decide) xs_M rfl inB3 3 (by decide) hw_486 rfl dX3_requested_14 ?_
    refine xw_iload_n C dX3_requested_17 1 rfl rfl ?_
    refine xw_iload C dX3_requested_18 rfl ?_
    refine xw_aload_n C dX3_requested_20 0 rfl rfl ?_
    refine xv_getf C (by decide) xs_M rfl inB3 3 (by decide) hw_486 rfl dX3_requested_21 ?_
    refine xw_iload_n C dX3_requested_24 1 rfl rfl ?_
    obtain ⟨i_14, hf⟩ := ld_s hf
    refine xv_iald C ht (by decide) ((fun _ => xs_420) _) i_14 dX3_requested_25 ?_
    obtain ⟨r_v15, M_M16, g_17, hf⟩ := bni_s hf
    refine xc_Si C (mX3_newer (xgl G) C.2.2.2.2.2.2.2.2.1 ht  g_17) FX3_newer hw_563 (by rw [hR]; decide) (by rw [hR]; decide) rfl (Nat.le_of_ble_eq_true rfl) dX3_requested_26 rfl ?_
    refine xw_if_eq (tgt := 46) C dX3_requested_29 (by decide) (fun c_18 => ?_) (fun c_18 => ?_)
    · have hf := it_t hf c_18
      refine xw_aload_n C dX3_requested_46 0 rfl rfl ?_
      refine xv_getf C (by decide) xs_M rfl inB3 3 (by decide) hw_486 rfl dX3_requested_47 ?_
      refine xw_iload_n C dX3_requested_50 1 rfl rfl ?_
      obtain ⟨i_20, hf⟩ := ld_s hf
      refine xv_iald C ht (by decide) ((fun _ => xs_420) _) i_20 dX3_requested_51 ?_
      exact xl_sub (xl_c rfl (xl_c rfl (xl_n (xl_n (xl_n (xl_n (xl_n xl_e))))))) (kX3_requested_52 C hR ht hr  hf)
    · have hf := it_f hf c_18
      refine xw_aload_n C dX3_requested_32 0 rfl rfl ?_
      refine xv_getf C (by decide) xs_M rfl inB3 3 (by decide) hw_486 rfl dX3_requested_33 ?_
      refine xw_iload_n C dX3_requested_36 1 rfl rfl ?_
      obtain ⟨i_22, hf⟩ := ld_s hf
      refine xv_iald C ht (by decide) ((fun _ => xs_420) _) i_22 dX3_requested_37 ?_
      refine xw_iconst (v := 1) C dX3_requested_38 (by decide) ?_
      refine xw_iadd C dX3_requested_39 ?_
      refine xw_ldc C hw_562 dX3_requested_40 ?_
      refine xw_iand C dX3_requested_42 ?_
      refine xw_goto (tgt := 52) C dX3_requested_43 (by decide) ?_
      exact xl_sub (xl_c rfl (xl_c rfl (xl_n (xl_n (xl_n (xl_n (xl_n xl_e))))))) (kX3_requested_52 C hR ht hr  hf)
theorem mX3_requested (l : Launch) {D : va_G} {tys : List (ClassId × FieldType)} {base : Nat} {ad : Nat → Nat} {cs : xmC} (hJ : xw_J 431 ad base) (ht : tys = xm_tys cs) {x1 : Int32} {x2 : Int32} {x3 : Int32} {x4 : Int32} {x5 : Int32} {M M' : xwM} (hf : fX3_requested x1 x2 x3 x4 x5 M = some M') : xk_v l yX3_requested cX3_requested 7 none rX3_requested D tys base 431 ad [.ref (ad 418), .int x1, .int x2, .int x3, .int x4, .int x5] (xm_ce ad cs M) (xm_ce ad cs M') :=
  xk_ofv 1 (by decide) hJ (List.forall_mem_cons.mpr ⟨rfl, List.forall_mem_cons.mpr ⟨rfl, List.forall_mem_cons.mpr ⟨rfl, List.forall_mem_cons.mpr ⟨rfl, List.forall_mem_cons.mpr ⟨rfl, List.forall_mem_cons.mpr ⟨rfl, List.forall_mem_nil _⟩⟩⟩⟩⟩⟩) (Nat.le_of_ble_eq_true rfl) (fun G e1 e2 e3 e4 e5 hr C => kX3_requested_0 C e2 (e4.trans ht) hr  hf)

abbrev rX3_hands : Room := { frames := 4, cells := 0, slots := 0, locals := 103 }
def fX3_hands_203 (x7 : Int32) (M : xwM) : Option (Int32 × xwM) :=
  some (((M 418 14) - x7), M)
set_option maxHeartbeats 4000000 in
set_option maxRecDepth 100000 in
theorem kX3_hands_203 {G : xwG} {ad : Nat → Nat} {cs : xmC} (C : xw_C G cX3_hands 8 RX3 431 ad) (hR : xgR G = rX3_hands) (ht : xgt G = xm_tys cs) (hr : (xgM G).sig.returnType = (some .int)) {M' : xwM} {o : Int32} {x7 : Int32} {M : xwM} (hf : fX3_hands_203 x7 M = some (o, M')) : XV G (xw_qi G 431 ad (xm_ce ad cs M') o) 8 0 0 ad cs M 203 [some (.ref (ad 418)), none, none, none, none, none, none, some (.int x7)] [] := by
  unfold fX3_hands_203 at hf
  refine xw_aload_n C dX3_hands_203 0 rfl rfl ?_
  refine xv_getf C (by decide) xs_M rfl inB3 14 (by decide) hw_497 rfl dX3_hands_204 ?_
  refine xw_iload C dX3_hands_207 rfl ?_
  refine xw_isub C dX3_hands_209 ?_
  cases hf
  exact xw_reti C hr dX3_hands_210
def fX3_hands_196 (x3 : Int32) (x4 : Int32) (x7 : Int32) (M : xwM) : Option (Int32 × xwM) :=
  bnv (fX3_chooses x3 x4 M) fun M31 =>
  fX3_hands_203 x7 M31
set_option maxHeartbeats 4000000 in
set_option maxRecDepth 100000 in
theorem kX3_hands_196 {G : xwG} {ad : Nat → Nat} {cs : xmC} (C : xw_C G cX3_hands 8 RX3 431 ad) (hR : xgR G = rX3_hands) (ht : xgt G = xm_tys cs) (hr : (xgM G).sig.returnType = (some .int)) {M' : xwM} {o : Int32} {x3 : Int32} {x4 : Int32} {x7 : Int32} {M : xwM} (hf : fX3_hands_196 x3 x4 x7 M = some (o, M')) : XV G (xw_qi G 431 ad (xm_ce ad cs M') o) 8 0 0 ad cs M 196 [some (.ref (ad 418)), none, none, some (.int x3), some (.int x4), none, none, some (.int x7)] [] := by
  unfold fX3_hands_196 at hf
  refine xw_aload_n C dX3_hands_196 0 rfl rfl ?_
  refine xw_iload_n C dX3_hands_197 3 rfl rfl ?_
  refine xw_iload C dX3_hands_198 rfl ?_
  obtain ⟨M_M31, g_32, hf⟩ := bnv_s hf
  refine xc_Vv C (mX3_chooses (xgl G) C.2.2.2.2.2.2.2.2.1 ht  g_32) FX3_chooses hw_570 (by decide) xs_M rfl (by rw [hR]; decide) (by rw [hR]; decide) rfl (Nat.le_of_ble_eq_true rfl) dX3_hands_200 rfl ?_
  exact xl_sub (xl_c rfl (xl_n (xl_n (xl_n (xl_n (xl_n (xl_n (xl_c rfl xl_e)))))))) (kX3_hands_203 C hR ht hr  hf)
def fX3_hands_156 (x2 : Int32) (x3 : Int32) (x4 : Int32) (x5 : Int32) (x6 : Int32) (x7 : Int32) (M : xwM) : Option (Int32 × xwM) :=
  sto M 427 1728 (((144 * x3) + (12 * x2)) + x4) x5 fun M33 =>
  sto M33 428 1728 (((144 * x3) + (12 * x2)) + x4) x6 fun M35 =>
  fX3_hands_196 x3 x4 x7 M35
set_option maxHeartbeats 4000000 in
set_option maxRecDepth 100000 in
theorem kX3_hands_156 {G : xwG} {ad : Nat → Nat} {cs : xmC} (C : xw_C G cX3_hands 8 RX3 431 ad) (hR : xgR G = rX3_hands) (ht : xgt G = xm_tys cs) (hr : (xgM G).sig.returnType = (some .int)) {M' : xwM} {o : Int32} {x2 : Int32} {x3 : Int32} {x4 : Int32} {x5 : Int32} {x6 : Int32} {x7 : Int32} {M : xwM} (hf : fX3_hands_156 x2 x3 x4 x5 x6 x7 M = some (o, M')) : XV G (xw_qi G 431 ad (xm_ce ad cs M') o) 8 0 0 ad cs M 156 [some (.ref (ad 418)), none, some (.int x2), some (.int x3), some (.int x4), some (.int x5), some (.int x6), some (.int x7)] [] := by
  unfold fX3_hands_156 at hf
  refine xw_aload_n C dX3_hands_156 0 rfl rfl ?_
  refine xv_getf C (by decide) xs_M rfl inB3 10 (by decide) hw_493 rfl dX3_hands_157 ?_
  refine xw_sipush (v := 144) C dX3_hands_160 (by decide) ?_
  refine xw_iload_n C dX3_hands_163 3 rfl rfl ?_
  refine xw_imul C dX3_hands_164 ?_
  refine xw_bipush (v := 12) C dX3_hands_165 (by decide) ?_
  refine xw_iload_n C dX3_hands_167 2 rfl rfl ?_
  refine xw_imul C dX3_hands_168 ?_
  refine xw_iadd C dX3_hands_169 ?_
  refine xw_iload C dX3_hands_170 rfl ?_
  refine xw_iadd C dX3_hands_172 ?_
  refine xw_iload C dX3_hands_173 rfl ?_
  obtain ⟨i_34, hf⟩ := sto_s hf
  refine xv_iast C ht (by decide) (fun _ => xs_427) i_34 dX3_hands_175 ?_
  refine xw_aload_n C dX3_hands_176 0 rfl rfl ?_
  refine xv_getf C (by decide) xs_M rfl inB3 11 (by decide) hw_494 rfl dX3_hands_177 ?_
  refine xw_sipush (v := 144) C dX3_hands_180 (by decide) ?_
  refine xw_iload_n C dX3_hands_183 3 rfl rfl ?_
  refine xw_imul C dX3_hands_184 ?_
  refine xw_bipush (v := 12) C dX3_hands_185 (by decide) ?_
  refine xw_iload_n C dX3_hands_187 2 rfl rfl ?_
  refine xw_imul C dX3_hands_188 ?_
  refine xw_iadd C dX3_hands_189 ?_
  refine xw_iload C dX3_hands_190 rfl ?_
  refine xw_iadd C dX3_hands_192 ?_
  refine xw_iload C dX3_hands_193 rfl ?_
  obtain ⟨i_36, hf⟩ := sto_s hf
  refine xv_iast C ht (by decide) (fun _ => xs_428) i_36 dX3_hands_195 ?_
  exact xl_sub (xl_c rfl (xl_n (xl_n (xl_c rfl (xl_c rfl (xl_n (xl_n (xl_c rfl xl_e)))))))) (kX3_hands_196 C hR ht hr  hf)
def fX3_hands (x1 : Int32) (M : xwM) : Option (Int32 × xwM) :=
  bnv (fX3_takes x1 M) fun M1 =>
  ld M1 429 1806 1801 fun v3 =>
  ld M1 429 1806 1802 fun v5 =>
  ld M1 429 1806 1803 fun v7 =>
  ld M1 429 1806 1804 fun v9 =>
  ld M1 429 1806 1805 fun v11 =>
  ld M1 419 144 ((12 * v3) + v5) fun v13 =>
  if v13 = 0 then
    (xlet (ms M1 418 16 ((M1 418 16) + 1)) fun M30 =>
      fX3_hands_203 ((M1 418 14)) M30)
  else
    (ld M1 429 1806 1800 fun v16 =>
      if v16 = 2 then
        (bnv (fX3_requested v5 v3 v7 v9 v11 M1) fun M28 =>
          fX3_hands_203 ((M1 418 14)) M28)
      else
        (if v5 = v7 then
            (fX3_hands_203 ((M1 418 14)) M1)
          else
            (ld M1 423 144 ((12 * v5) + v7) fun v20 =>
              if v20 = v3 then
                (if v11 = 65535 then
                    (fX3_hands_156 v3 v5 v7 v9 v11 ((M1 418 14)) M1)
                  else
                    (bni (fX3_isGood v5 v7 v9 v11 M1) fun v24 M25 =>
                      if v24 = 0 then
                        (fX3_hands_196 v5 v7 ((M1 418 14)) M25)
                      else
                        (fX3_hands_156 v3 v5 v7 v9 v11 ((M1 418 14)) M25)))
              else
                (fX3_hands_156 v3 v5 v7 v9 v11 ((M1 418 14)) M1))))
set_option maxHeartbeats 4000000 in
set_option maxRecDepth 100000 in
theorem kX3_hands_0 {G : xwG} {ad : Nat → Nat} {cs : xmC} (C : xw_C G cX3_hands 8 RX3 431 ad) (hR : xgR G = rX3_hands) (ht : xgt G = xm_tys cs) (hr : (xgM G).sig.returnType = (some .int)) {M' : xwM} {o : Int32} {x1 : Int32} {M : xwM} (hf : fX3_hands x1 M = some (o, M')) : XV G (xw_qi G 431 ad (xm_ce ad cs M') o) 8 0 0 ad cs M 0 [some (.ref (ad 418)), some (.int x1), none, none, none, none, none, none] [] := by
  unfold fX3_hands at hf
  refine xw_aload_n C dX3_hands_0 0 rfl rfl ?_
  refine xw_iload_n C dX3_hands_1 1 rfl rfl ?_
  obtain ⟨M_M1, g_2, hf⟩ := bnv_s hf
  refine xc_Vv C (mX3_takes (xgl G) C.2.2.2.2.2.2.2.2.1 ht  g_2) FX3_takes hw_611 (by decide) xs_M rfl (by rw [hR]; decide) (by rw [hR]; decide) rfl (Nat.le_of_ble_eq_true rfl) dX3_hands_2 rfl ?_
  refine xw_aload_n C dX3_hands_5 0 rfl rfl ?_
  refine xv_getf C (by decide) xs_M rfl inB3 12 (by decide) hw_495 rfl dX3_hands_6 ?_
  refine xw_sipush (v := 1801) C dX3_hands_9 (by decide) ?_
  obtain ⟨i_4, hf⟩ := ld_s hf
  refine xv_iald C ht (by decide) ((fun _ => xs_429) _) i_4 dX3_hands_12 ?_
  refine xw_istore_n C dX3_hands_13 2 rfl (by decide) ?_
  refine xw_aload_n C dX3_hands_14 0 rfl rfl ?_
  refine xv_getf C (by decide) xs_M rfl inB3 12 (by decide) hw_495 rfl dX3_hands_15 ?_
  refine xw_sipush (v := 1802) C dX3_hands_18 (by decide) ?_
  obtain ⟨i_6, hf⟩ := ld_s hf
  refine xv_iald C ht (by decide) ((fun _ => xs_429) _) i_6 dX3_hands_21 ?_
  refine xw_istore_n C dX3_hands_22 3 rfl (by decide) ?_
  refine xw_aload_n C dX3_hands_23 0 rfl rfl ?_
  refine xv_getf C (by decide) xs_M rfl inB3 12 (by decide) hw_495 rfl dX3_hands_24 ?_
  refine xw_sipush (v := 1803) C dX3_hands_27 (by decide) ?_
  obtain ⟨i_8, hf⟩ := ld_s hf
  refine xv_iald C ht (by decide) ((fun _ => xs_429) _) i_8 dX3_hands_30 ?_
  refine xw_istore C dX3_hands_31 (by decide) ?_
  refine xw_aload_n C dX3_hands_33 0 rfl rfl ?_
  refine xv_getf C (by decide) xs_M rfl inB3 12 (by decide) hw_495 rfl dX3_hands_34 ?_
  refine xw_sipush (v := 1804) C dX3_hands_37 (by decide) ?_
  obtain ⟨i_10, hf⟩ := ld_s hf
  refine xv_iald C ht (by decide) ((fun _ => xs_429) _) i_10 dX3_hands_40 ?_
  refine xw_istore C dX3_hands_41 (by decide) ?_
  refine xw_aload_n C dX3_hands_43 0 rfl rfl ?_
  refine xv_getf C (by decide) xs_M rfl inB3 12 (by decide) hw_495 rfl dX3_hands_44 ?_
  refine xw_sipush (v := 1805) C dX3_hands_47 (by decide) ?_
  obtain ⟨i_12, hf⟩ := ld_s hf
  refine xv_iald C ht (by decide) ((fun _ => xs_429) _) i_12 dX3_hands_50 ?_
  refine xw_istore C dX3_hands_51 (by decide) ?_
  refine xw_aload_n C dX3_hands_53 0 rfl rfl ?_
  refine xv_getf C (by decide) xs_M rfl inB3 14 (by decide) hw_497 rfl dX3_hands_54 ?_
  refine xw_istore C dX3_hands_57 (by decide) ?_
  refine xw_aload_n C dX3_hands_59 0 rfl rfl ?_
  refine xv_getf C (by decide) xs_M rfl inB3 1 (by decide) hw_484 rfl dX3_hands_60 ?_
  refine xw_bipush (v := 12) C dX3_hands_63 (by decide) ?_
  refine xw_iload_n C dX3_hands_65 2 rfl rfl ?_
  refine xw_imul C dX3_hands_66 ?_
  refine xw_iload_n C dX3_hands_67 3 rfl rfl ?_
  refine xw_iadd C dX3_hands_68 ?_
  obtain ⟨i_14, hf⟩ := ld_s hf
  refine xv_iald C ht (by decide) ((fun _ => xs_419) _) i_14 dX3_hands_69 ?_
  refine xw_if_ne (tgt := 86) C dX3_hands_70 (by decide) (fun c_15 => ?_) (fun c_15 => ?_)
  · have hf := it_f hf c_15
    refine xw_aload_n C dX3_hands_86 0 rfl rfl ?_
    refine xv_getf C (by decide) xs_M rfl inB3 12 (by decide) hw_495 rfl dX3_hands_87 ?_
    refine xw_sipush (v := 1800) C dX3_hands_90 (by decide) ?_
    obtain ⟨i_17, hf⟩ := ld_s hf
    refine xv_iald C ht (by decide) ((fun _ => xs_429) _) i_17 dX3_hands_93 ?_
    refine xw_iconst (v := 2) C dX3_hands_94 (by decide) ?_
    refine xw_icmp_ne (tgt := 113) C dX3_hands_95 (by decide) (fun c_18 => ?_) (fun c_18 => ?_)
    · have hf := it_f hf c_18
      refine xw_iload_n C dX3_hands_113 3 rfl rfl ?_
      refine xw_iload C dX3_hands_114 rfl ?_
      refine xw_icmp_eq (tgt := 203) C dX3_hands_116 (by decide) (fun c_19 => ?_) (fun c_19 => ?_)
      · have hf := it_t hf c_19
        exact xl_sub (xl_c rfl (xl_n (xl_n (xl_n (xl_n (xl_n (xl_n (xl_c rfl xl_e)))))))) (kX3_hands_203 C hR ht hr  hf)
      · have hf := it_f hf c_19
        refine xw_aload_n C dX3_hands_119 0 rfl rfl ?_
        refine xv_getf C (by decide) xs_M rfl inB3 6 (by decide) hw_489 rfl dX3_hands_120 ?_
        refine xw_bipush (v := 12) C dX3_hands_123 (by decide) ?_
        refine xw_iload_n C dX3_hands_125 3 rfl rfl ?_
        refine xw_imul C dX3_hands_126 ?_
        refine xw_iload C dX3_hands_127 rfl ?_
        refine xw_iadd C dX3_hands_129 ?_
        obtain ⟨i_21, hf⟩ := ld_s hf
        refine xv_iald C ht (by decide) ((fun _ => xs_423) _) i_21 dX3_hands_130 ?_
        refine xw_iload_n C dX3_hands_131 2 rfl rfl ?_
        refine xw_icmp_ne (tgt := 156) C dX3_hands_132 (by decide) (fun c_22 => ?_) (fun c_22 => ?_)
        · have hf := it_f hf c_22
          exact xl_sub (xl_c rfl (xl_n (xl_c rfl (xl_c rfl (xl_c rfl (xl_c rfl (xl_c rfl (xl_c rfl xl_e)))))))) (kX3_hands_156 C hR ht hr  hf)
        · have hf := it_t hf c_22
          refine xw_iload C dX3_hands_135 rfl ?_
          refine xw_ldc C hw_562 dX3_hands_137 ?_
          refine xw_icmp_eq (tgt := 156) C dX3_hands_139 (by decide) (fun c_23 => ?_) (fun c_23 => ?_)
          · have hf := it_t hf c_23
            exact xl_sub (xl_c rfl (xl_n (xl_c rfl (xl_c rfl (xl_c rfl (xl_c rfl (xl_c rfl (xl_c rfl xl_e)))))))) (kX3_hands_156 C hR ht hr  hf)
          · have hf := it_f hf c_23
            refine xw_aload_n C dX3_hands_142 0 rfl rfl ?_
            refine xw_iload_n C dX3_hands_143 3 rfl rfl ?_
            refine xw_iload C dX3_hands_144 rfl ?_
            refine xw_iload C dX3_hands_146 rfl ?_
            refine xw_iload C dX3_hands_148 rfl ?_
            obtain ⟨r_v24, M_M25, g_26, hf⟩ := bni_s hf
            refine xc_Vi C (mX3_isGood (xgl G) C.2.2.2.2.2.2.2.2.1 ht  g_26) FX3_isGood hw_578 (by decide) xs_M rfl (by rw [hR]; decide) (by rw [hR]; decide) rfl (Nat.le_of_ble_eq_true rfl) dX3_hands_150 rfl ?_
            refine xw_if_eq (tgt := 196) C dX3_hands_153 (by decide) (fun c_27 => ?_) (fun c_27 => ?_)
            · have hf := it_t hf c_27
              exact xl_sub (xl_c rfl (xl_n (xl_n (xl_c rfl (xl_c rfl (xl_n (xl_n (xl_c rfl xl_e)))))))) (kX3_hands_196 C hR ht hr  hf)
            · have hf := it_f hf c_27
              exact xl_sub (xl_c rfl (xl_n (xl_c rfl (xl_c rfl (xl_c rfl (xl_c rfl (xl_c rfl (xl_c rfl xl_e)))))))) (kX3_hands_156 C hR ht hr  hf)
    · have hf := it_t hf c_18
      refine xw_aload_n C dX3_hands_98 0 rfl rfl ?_
      refine xw_iload_n C dX3_hands_99 3 rfl rfl ?_
      refine xw_iload_n C dX3_hands_100 2 rfl rfl ?_
      refine xw_iload C dX3_hands_101 rfl ?_
      refine xw_iload C dX3_hands_103 rfl ?_
      refine xw_iload C dX3_hands_105 rfl ?_
      obtain ⟨M_M28, g_29, hf⟩ := bnv_s hf
      refine xc_Vv C (mX3_requested (xgl G) C.2.2.2.2.2.2.2.2.1 ht  g_29) FX3_requested hw_623 (by decide) xs_M rfl (by rw [hR]; decide) (by rw [hR]; decide) rfl (Nat.le_of_ble_eq_true rfl) dX3_hands_107 rfl ?_
      refine xw_goto (tgt := 203) C dX3_hands_110 (by decide) ?_
      exact xl_sub (xl_c rfl (xl_n (xl_n (xl_n (xl_n (xl_n (xl_n (xl_c rfl xl_e)))))))) (kX3_hands_203 C hR ht hr  hf)
  · have hf := it_t hf c_15
    refine xw_aload_n C dX3_hands_73 0 rfl rfl ?_
    refine xw_dup C dX3_hands_74 rfl ?_
    refine xv_getf C (by decide) xs_M rfl inB3 16 (by decide) hw_499 rfl dX3_hands_75 ?_
    refine xw_iconst (v := 1) C dX3_hands_78 (by decide) ?_
    refine xw_iadd C dX3_hands_79 ?_
    refine xv_putf (fs := xl_X3 ad) C (by decide) (fun _ => xs_M) rfl inB3 tyX3 tyX3_ok nmX3 16 (by decide) hw_499 rfl rfl (fun _ => by simp [xl_X3]) (fun _ => rfl) dX3_hands_80 ?_
    have hf := xlet_s hf
    refine xw_goto (tgt := 203) C dX3_hands_83 (by decide) ?_
    exact xl_sub (xl_c rfl (xl_n (xl_n (xl_n (xl_n (xl_n (xl_n (xl_c rfl xl_e)))))))) (kX3_hands_203 C hR ht hr  hf)
theorem mX3_hands (l : Launch) {D : va_G} {tys : List (ClassId × FieldType)} {base : Nat} {ad : Nat → Nat} {cs : xmC} (hJ : xw_J 431 ad base) (ht : tys = xm_tys cs) {x1 : Int32} {M M' : xwM} {o : Int32} (hf : fX3_hands x1 M = some (o, M')) : xk_i l yX3_hands cX3_hands 8 (some .int) rX3_hands D tys base 431 ad [.ref (ad 418), .int x1] (xm_ce ad cs M) (xm_ce ad cs M') o :=
  xk_ofi 6 (by decide) hJ (List.forall_mem_cons.mpr ⟨rfl, List.forall_mem_cons.mpr ⟨rfl, List.forall_mem_nil _⟩⟩) (Nat.le_of_ble_eq_true rfl) (fun G e1 e2 e3 e4 e5 hr C => kX3_hands_0 C e2 (e4.trans ht) hr  hf)

abbrev rX3_deliver : Room := { frames := 5, cells := 0, slots := 0, locals := 130 }
def fX3_deliver_18 (x1 : Int32) (s1 : Int32) (M : xwM) : Option (Int32 × xwM) :=
  bni (fX3_refuses s1 M) fun v3 M4 =>
  if v3 = 0 then
    (bni (fX3_hands x1 M4) fun v7 M8 =>
      some (v7, M8))
  else
    (some (0, M4))
set_option maxHeartbeats 4000000 in
set_option maxRecDepth 100000 in
theorem kX3_deliver_18 {G : xwG} {ad : Nat → Nat} {cs : xmC} (C : xw_C G cX3_deliver 2 RX3 431 ad) (hR : xgR G = rX3_deliver) (ht : xgt G = xm_tys cs) (hr : (xgM G).sig.returnType = (some .int)) {M' : xwM} {o : Int32} {x1 : Int32} {s1 : Int32} {M : xwM} (hf : fX3_deliver_18 x1 s1 M = some (o, M')) : XV G (xw_qi G 431 ad (xm_ce ad cs M') o) 2 0 0 ad cs M 18 [some (.ref (ad 418)), some (.int x1)] [.int s1, .ref (ad 418)] := by
  unfold fX3_deliver_18 at hf
  obtain ⟨r_v3, M_M4, g_5, hf⟩ := bni_s hf
  refine xc_Vi C (mX3_refuses (xgl G) C.2.2.2.2.2.2.2.2.1 ht  g_5) FX3_refuses hw_546 (by decide) xs_M rfl (by rw [hR]; decide) (by rw [hR]; decide) rfl (Nat.le_of_ble_eq_true rfl) dX3_deliver_18 rfl ?_
  refine xw_if_eq (tgt := 26) C dX3_deliver_21 (by decide) (fun c_6 => ?_) (fun c_6 => ?_)
  · have hf := it_t hf c_6
    refine xw_aload_n C dX3_deliver_26 0 rfl rfl ?_
    refine xw_iload_n C dX3_deliver_27 1 rfl rfl ?_
    obtain ⟨r_v7, M_M8, g_9, hf⟩ := bni_s hf
    refine xc_Vi C (mX3_hands (xgl G) C.2.2.2.2.2.2.2.2.1 ht  g_9) FX3_hands hw_619 (by decide) xs_M rfl (by rw [hR]; decide) (by rw [hR]; decide) rfl (Nat.le_of_ble_eq_true rfl) dX3_deliver_28 rfl ?_
    cases hf
    exact xw_reti C hr dX3_deliver_31
  · have hf := it_f hf c_6
    refine xw_iconst (v := 0) C dX3_deliver_24 (by decide) ?_
    cases hf
    exact xw_reti C hr dX3_deliver_25
def fX3_deliver_13 (x1 : Int32) (M : xwM) : Option (Int32 × xwM) :=
  fX3_deliver_18 x1 1 M
set_option maxHeartbeats 4000000 in
set_option maxRecDepth 100000 in
theorem kX3_deliver_13 {G : xwG} {ad : Nat → Nat} {cs : xmC} (C : xw_C G cX3_deliver 2 RX3 431 ad) (hR : xgR G = rX3_deliver) (ht : xgt G = xm_tys cs) (hr : (xgM G).sig.returnType = (some .int)) {M' : xwM} {o : Int32} {x1 : Int32} {M : xwM} (hf : fX3_deliver_13 x1 M = some (o, M')) : XV G (xw_qi G 431 ad (xm_ce ad cs M') o) 2 0 0 ad cs M 13 [some (.ref (ad 418)), some (.int x1)] [.ref (ad 418)] := by
  unfold fX3_deliver_13 at hf
  refine xw_iconst (v := 1) C dX3_deliver_13 (by decide) ?_
  refine xw_goto (tgt := 18) C dX3_deliver_14 (by decide) ?_
  exact xl_sub (xl_c rfl (xl_c rfl xl_e)) (kX3_deliver_18 C hR ht hr  hf)
def fX3_deliver (x1 : Int32) (M : xwM) : Option (Int32 × xwM) :=
  if x1 < 0 then
    (fX3_deliver_13 x1 M)
  else
    (if x1 < (M 418 13) then
        (fX3_deliver_18 x1 0 M)
      else
        (fX3_deliver_13 x1 M))
set_option maxHeartbeats 4000000 in
set_option maxRecDepth 100000 in
theorem kX3_deliver_0 {G : xwG} {ad : Nat → Nat} {cs : xmC} (C : xw_C G cX3_deliver 2 RX3 431 ad) (hR : xgR G = rX3_deliver) (ht : xgt G = xm_tys cs) (hr : (xgM G).sig.returnType = (some .int)) {M' : xwM} {o : Int32} {x1 : Int32} {M : xwM} (hf : fX3_deliver x1 M = some (o, M')) : XV G (xw_qi G 431 ad (xm_ce ad cs M') o) 2 0 0 ad cs M 0 [some (.ref (ad 418)), some (.int x1)] [] := by
  unfold fX3_deliver at hf
  refine xw_aload_n C dX3_deliver_0 0 rfl rfl ?_
  refine xw_iload_n C dX3_deliver_1 1 rfl rfl ?_
  refine xw_if_lt (tgt := 13) C dX3_deliver_2 (by decide) (fun c_1 => ?_) (fun c_1 => ?_)
  · have hf := it_t hf c_1
    exact xl_sub (xl_c rfl (xl_c rfl xl_e)) (kX3_deliver_13 C hR ht hr  hf)
  · have hf := it_f hf c_1
    refine xw_iload_n C dX3_deliver_5 1 rfl rfl ?_
    refine xw_aload_n C dX3_deliver_6 0 rfl rfl ?_
    refine xv_getf C (by decide) xs_M rfl inB3 13 (by decide) hw_496 rfl dX3_deliver_7 ?_
    refine xw_icmp_lt (tgt := 17) C dX3_deliver_10 (by decide) (fun c_2 => ?_) (fun c_2 => ?_)
    · have hf := it_t hf c_2
      refine xw_iconst (v := 0) C dX3_deliver_17 (by decide) ?_
      exact xl_sub (xl_c rfl (xl_c rfl xl_e)) (kX3_deliver_18 C hR ht hr  hf)
    · have hf := it_f hf c_2
      exact xl_sub (xl_c rfl (xl_c rfl xl_e)) (kX3_deliver_13 C hR ht hr  hf)
theorem mX3_deliver (l : Launch) {D : va_G} {tys : List (ClassId × FieldType)} {base : Nat} {ad : Nat → Nat} {cs : xmC} (hJ : xw_J 431 ad base) (ht : tys = xm_tys cs) {x1 : Int32} {M M' : xwM} {o : Int32} (hf : fX3_deliver x1 M = some (o, M')) : xk_i l yX3_deliver cX3_deliver 2 (some .int) rX3_deliver D tys base 431 ad [.ref (ad 418), .int x1] (xm_ce ad cs M) (xm_ce ad cs M') o :=
  xk_ofi 0 (by decide) hJ (List.forall_mem_cons.mpr ⟨rfl, List.forall_mem_cons.mpr ⟨rfl, List.forall_mem_nil _⟩⟩) (Nat.le_of_ble_eq_true rfl) (fun G e1 e2 e3 e4 e5 hr C => kX3_deliver_0 C e2 (e4.trans ht) hr  hf)

abbrev rX3_run : Room := { frames := 5, cells := 0, slots := 0, locals := 130 }
def fX3_run_51 (x2 : Int32) (M : xwM) : Option (Int32 × xwM) :=
  some (x2, M)
set_option maxHeartbeats 4000000 in
set_option maxRecDepth 100000 in
theorem kX3_run_51 {G : xwG} {ad : Nat → Nat} {cs : xmC} (C : xw_C G cX3_run 3 RX3 431 ad) (hR : xgR G = rX3_run) (ht : xgt G = xm_tys cs) (hr : (xgM G).sig.returnType = (some .int)) {M' : xwM} {o : Int32} {x2 : Int32} {M : xwM} (hf : fX3_run_51 x2 M = some (o, M')) : XV G (xw_qi G 431 ad (xm_ce ad cs M') o) 3 0 0 ad cs M 51 [none, none, some (.int x2)] [] := by
  unfold fX3_run_51 at hf
  refine xw_iload_n C dX3_run_51 2 rfl rfl ?_
  cases hf
  exact xw_reti C hr dX3_run_52
def fX3_run_27 : Nat → Int32 → Int32 →  xwM → Option (Int32 × xwM)
  | 0, _, _, _ => none
  | fu + 1, x1, x2, M =>
  if x1 ≤ x2 then
    (fX3_run_51 x2 M)
  else
    (if (M 418 13) ≤ 0 then
        (fX3_run_51 x2 M)
      else
        (bni (fX3_hands 0 M) fun v9 M10 =>
          fX3_run_27 fu x1 ((x2 + 1)) M10))
set_option maxHeartbeats 4000000 in
set_option maxRecDepth 100000 in
theorem kX3_run_27 {G : xwG} {ad : Nat → Nat} {cs : xmC} (C : xw_C G cX3_run 3 RX3 431 ad) (hR : xgR G = rX3_run) (ht : xgt G = xm_tys cs) (hr : (xgM G).sig.returnType = (some .int)) {M' : xwM} {o : Int32} : ∀ (fu : Nat) (x1 : Int32) (x2 : Int32) (M : xwM), fX3_run_27 fu x1 x2 M = some (o, M') → XV G (xw_qi G 431 ad (xm_ce ad cs M') o) 3 0 0 ad cs M 27 [some (.ref (ad 418)), some (.int x1), some (.int x2)] [] := by
  intro fu
  induction fu with
  | zero =>
    intro x1 x2 M  hf
    cases hf
  | succ fu ih =>
    intro x1 x2 M  hf
    rw [fX3_run_27] at hf
    refine xw_iload_n C dX3_run_27 2 rfl rfl ?_
    refine xw_iload_n C dX3_run_28 1 rfl rfl ?_
    refine xw_icmp_ge (tgt := 51) C dX3_run_29 (by decide) (fun c_7 => ?_) (fun c_7 => ?_)
    · have hf := it_t hf c_7
      exact xl_sub (xl_n (xl_n (xl_c rfl xl_e))) (kX3_run_51 C hR ht hr  hf)
    · have hf := it_f hf c_7
      refine xw_aload_n C dX3_run_32 0 rfl rfl ?_
      refine xv_getf C (by decide) xs_M rfl inB3 13 (by decide) hw_496 rfl dX3_run_33 ?_
      refine xw_if_le (tgt := 51) C dX3_run_36 (by decide) (fun c_8 => ?_) (fun c_8 => ?_)
      · have hf := it_t hf c_8
        exact xl_sub (xl_n (xl_n (xl_c rfl xl_e))) (kX3_run_51 C hR ht hr  hf)
      · have hf := it_f hf c_8
        refine xw_aload_n C dX3_run_39 0 rfl rfl ?_
        refine xw_iconst (v := 0) C dX3_run_40 (by decide) ?_
        obtain ⟨r_v9, M_M10, g_11, hf⟩ := bni_s hf
        refine xc_Vi C (mX3_hands (xgl G) C.2.2.2.2.2.2.2.2.1 ht  g_11) FX3_hands hw_619 (by decide) xs_M rfl (by rw [hR]; decide) (by rw [hR]; decide) rfl (Nat.le_of_ble_eq_true rfl) dX3_run_41 rfl ?_
        refine xw_pop C dX3_run_44 rfl ?_
        refine xw_iinc C dX3_run_45 rfl (show _ + Int32.ofInt (1) = _ + (1) from congrArg _ (by decide)) (by decide) ?_
        refine xw_goto (tgt := 27) C dX3_run_48 (by decide) ?_
        exact xl_sub (xl_c rfl (xl_c rfl (xl_c rfl xl_e))) (ih _ _ _ hf)
def fX3_run_17 (x1 : Int32) (s1 : Int32) (M : xwM) : Option (Int32 × xwM) :=
  bni (fX3_refuses s1 M) fun v3 M4 =>
  if v3 = 0 then
    (fX3_run_27 2001 x1 0 M4)
  else
    (some (0, M4))
set_option maxHeartbeats 4000000 in
set_option maxRecDepth 100000 in
theorem kX3_run_17 {G : xwG} {ad : Nat → Nat} {cs : xmC} (C : xw_C G cX3_run 3 RX3 431 ad) (hR : xgR G = rX3_run) (ht : xgt G = xm_tys cs) (hr : (xgM G).sig.returnType = (some .int)) {M' : xwM} {o : Int32} {x1 : Int32} {s1 : Int32} {M : xwM} (hf : fX3_run_17 x1 s1 M = some (o, M')) : XV G (xw_qi G 431 ad (xm_ce ad cs M') o) 3 0 0 ad cs M 17 [some (.ref (ad 418)), some (.int x1), none] [.int s1, .ref (ad 418)] := by
  unfold fX3_run_17 at hf
  obtain ⟨r_v3, M_M4, g_5, hf⟩ := bni_s hf
  refine xc_Vi C (mX3_refuses (xgl G) C.2.2.2.2.2.2.2.2.1 ht  g_5) FX3_refuses hw_546 (by decide) xs_M rfl (by rw [hR]; decide) (by rw [hR]; decide) rfl (Nat.le_of_ble_eq_true rfl) dX3_run_17 rfl ?_
  refine xw_if_eq (tgt := 25) C dX3_run_20 (by decide) (fun c_6 => ?_) (fun c_6 => ?_)
  · have hf := it_t hf c_6
    refine xw_iconst (v := 0) C dX3_run_25 (by decide) ?_
    refine xw_istore_n C dX3_run_26 2 rfl (by decide) ?_
    exact xl_sub (xl_c rfl (xl_c rfl (xl_c rfl xl_e))) (kX3_run_27 C hR ht hr 2001 _ _ _ hf)
  · have hf := it_f hf c_6
    refine xw_iconst (v := 0) C dX3_run_23 (by decide) ?_
    cases hf
    exact xw_reti C hr dX3_run_24
def fX3_run_12 (x1 : Int32) (M : xwM) : Option (Int32 × xwM) :=
  fX3_run_17 x1 1 M
set_option maxHeartbeats 4000000 in
set_option maxRecDepth 100000 in
theorem kX3_run_12 {G : xwG} {ad : Nat → Nat} {cs : xmC} (C : xw_C G cX3_run 3 RX3 431 ad) (hR : xgR G = rX3_run) (ht : xgt G = xm_tys cs) (hr : (xgM G).sig.returnType = (some .int)) {M' : xwM} {o : Int32} {x1 : Int32} {M : xwM} (hf : fX3_run_12 x1 M = some (o, M')) : XV G (xw_qi G 431 ad (xm_ce ad cs M') o) 3 0 0 ad cs M 12 [some (.ref (ad 418)), some (.int x1), none] [.ref (ad 418)] := by
  unfold fX3_run_12 at hf
  refine xw_iconst (v := 1) C dX3_run_12 (by decide) ?_
  refine xw_goto (tgt := 17) C dX3_run_13 (by decide) ?_
  exact xl_sub (xl_c rfl (xl_c rfl (xl_n xl_e))) (kX3_run_17 C hR ht hr  hf)
def fX3_run (x1 : Int32) (M : xwM) : Option (Int32 × xwM) :=
  if x1 < 0 then
    (fX3_run_12 x1 M)
  else
    (if x1 ≤ 500 then
        (fX3_run_17 x1 0 M)
      else
        (fX3_run_12 x1 M))
set_option maxHeartbeats 4000000 in
set_option maxRecDepth 100000 in
theorem kX3_run_0 {G : xwG} {ad : Nat → Nat} {cs : xmC} (C : xw_C G cX3_run 3 RX3 431 ad) (hR : xgR G = rX3_run) (ht : xgt G = xm_tys cs) (hr : (xgM G).sig.returnType = (some .int)) {M' : xwM} {o : Int32} {x1 : Int32} {M : xwM} (hf : fX3_run x1 M = some (o, M')) : XV G (xw_qi G 431 ad (xm_ce ad cs M') o) 3 0 0 ad cs M 0 [some (.ref (ad 418)), some (.int x1), none] [] := by
  unfold fX3_run at hf
  refine xw_aload_n C dX3_run_0 0 rfl rfl ?_
  refine xw_iload_n C dX3_run_1 1 rfl rfl ?_
  refine xw_if_lt (tgt := 12) C dX3_run_2 (by decide) (fun c_1 => ?_) (fun c_1 => ?_)
  · have hf := it_t hf c_1
    exact xl_sub (xl_c rfl (xl_c rfl (xl_n xl_e))) (kX3_run_12 C hR ht hr  hf)
  · have hf := it_f hf c_1
    refine xw_iload_n C dX3_run_5 1 rfl rfl ?_
    refine xw_sipush (v := 500) C dX3_run_6 (by decide) ?_
    refine xw_icmp_le (tgt := 16) C dX3_run_9 (by decide) (fun c_2 => ?_) (fun c_2 => ?_)
    · have hf := it_t hf c_2
      refine xw_iconst (v := 0) C dX3_run_16 (by decide) ?_
      exact xl_sub (xl_c rfl (xl_c rfl (xl_n xl_e))) (kX3_run_17 C hR ht hr  hf)
    · have hf := it_f hf c_2
      exact xl_sub (xl_c rfl (xl_c rfl (xl_n xl_e))) (kX3_run_12 C hR ht hr  hf)
theorem mX3_run (l : Launch) {D : va_G} {tys : List (ClassId × FieldType)} {base : Nat} {ad : Nat → Nat} {cs : xmC} (hJ : xw_J 431 ad base) (ht : tys = xm_tys cs) {x1 : Int32} {M M' : xwM} {o : Int32} (hf : fX3_run x1 M = some (o, M')) : xk_i l yX3_run cX3_run 3 (some .int) rX3_run D tys base 431 ad [.ref (ad 418), .int x1] (xm_ce ad cs M) (xm_ce ad cs M') o :=
  xk_ofi 1 (by decide) hJ (List.forall_mem_cons.mpr ⟨rfl, List.forall_mem_cons.mpr ⟨rfl, List.forall_mem_nil _⟩⟩) (Nat.le_of_ble_eq_true rfl) (fun G e1 e2 e3 e4 e5 hr C => kX3_run_0 C e2 (e4.trans ht) hr  hf)

abbrev rX3_drop : Room := { frames := 1, cells := 0, slots := 0, locals := 22 }
def fX3_drop_18 (x1 : Int32) (s1 : Int32) (M : xwM) : Option (Int32 × xwM) :=
  bni (fX3_refuses s1 M) fun v3 M4 =>
  if v3 = 0 then
    (bnv (fX3_takes x1 M4) fun M7 =>
      ld M7 429 1806 1800 fun v9 =>
      some (v9, M7))
  else
    (some (0, M4))
set_option maxHeartbeats 4000000 in
set_option maxRecDepth 100000 in
theorem kX3_drop_18 {G : xwG} {ad : Nat → Nat} {cs : xmC} (C : xw_C G cX3_drop 2 RX3 431 ad) (hR : xgR G = rX3_drop) (ht : xgt G = xm_tys cs) (hr : (xgM G).sig.returnType = (some .int)) {M' : xwM} {o : Int32} {x1 : Int32} {s1 : Int32} {M : xwM} (hf : fX3_drop_18 x1 s1 M = some (o, M')) : XV G (xw_qi G 431 ad (xm_ce ad cs M') o) 2 0 0 ad cs M 18 [some (.ref (ad 418)), some (.int x1)] [.int s1, .ref (ad 418)] := by
  unfold fX3_drop_18 at hf
  obtain ⟨r_v3, M_M4, g_5, hf⟩ := bni_s hf
  refine xc_Vi C (mX3_refuses (xgl G) C.2.2.2.2.2.2.2.2.1 ht  g_5) FX3_refuses hw_546 (by decide) xs_M rfl (by rw [hR]; decide) (by rw [hR]; decide) rfl (Nat.le_of_ble_eq_true rfl) dX3_drop_18 rfl ?_
  refine xw_if_eq (tgt := 26) C dX3_drop_21 (by decide) (fun c_6 => ?_) (fun c_6 => ?_)
  · have hf := it_t hf c_6
    refine xw_aload_n C dX3_drop_26 0 rfl rfl ?_
    refine xw_iload_n C dX3_drop_27 1 rfl rfl ?_
    obtain ⟨M_M7, g_8, hf⟩ := bnv_s hf
    refine xc_Vv C (mX3_takes (xgl G) C.2.2.2.2.2.2.2.2.1 ht  g_8) FX3_takes hw_611 (by decide) xs_M rfl (by rw [hR]; decide) (by rw [hR]; decide) rfl (Nat.le_of_ble_eq_true rfl) dX3_drop_28 rfl ?_
    refine xw_aload_n C dX3_drop_31 0 rfl rfl ?_
    refine xv_getf C (by decide) xs_M rfl inB3 12 (by decide) hw_495 rfl dX3_drop_32 ?_
    refine xw_sipush (v := 1800) C dX3_drop_35 (by decide) ?_
    obtain ⟨i_10, hf⟩ := ld_s hf
    refine xv_iald C ht (by decide) ((fun _ => xs_429) _) i_10 dX3_drop_38 ?_
    cases hf
    exact xw_reti C hr dX3_drop_39
  · have hf := it_f hf c_6
    refine xw_iconst (v := 0) C dX3_drop_24 (by decide) ?_
    cases hf
    exact xw_reti C hr dX3_drop_25
def fX3_drop_13 (x1 : Int32) (M : xwM) : Option (Int32 × xwM) :=
  fX3_drop_18 x1 1 M
set_option maxHeartbeats 4000000 in
set_option maxRecDepth 100000 in
theorem kX3_drop_13 {G : xwG} {ad : Nat → Nat} {cs : xmC} (C : xw_C G cX3_drop 2 RX3 431 ad) (hR : xgR G = rX3_drop) (ht : xgt G = xm_tys cs) (hr : (xgM G).sig.returnType = (some .int)) {M' : xwM} {o : Int32} {x1 : Int32} {M : xwM} (hf : fX3_drop_13 x1 M = some (o, M')) : XV G (xw_qi G 431 ad (xm_ce ad cs M') o) 2 0 0 ad cs M 13 [some (.ref (ad 418)), some (.int x1)] [.ref (ad 418)] := by
  unfold fX3_drop_13 at hf
  refine xw_iconst (v := 1) C dX3_drop_13 (by decide) ?_
  refine xw_goto (tgt := 18) C dX3_drop_14 (by decide) ?_
  exact xl_sub (xl_c rfl (xl_c rfl xl_e)) (kX3_drop_18 C hR ht hr  hf)
def fX3_drop (x1 : Int32) (M : xwM) : Option (Int32 × xwM) :=
  if x1 < 0 then
    (fX3_drop_13 x1 M)
  else
    (if x1 < (M 418 13) then
        (fX3_drop_18 x1 0 M)
      else
        (fX3_drop_13 x1 M))
set_option maxHeartbeats 4000000 in
set_option maxRecDepth 100000 in
theorem kX3_drop_0 {G : xwG} {ad : Nat → Nat} {cs : xmC} (C : xw_C G cX3_drop 2 RX3 431 ad) (hR : xgR G = rX3_drop) (ht : xgt G = xm_tys cs) (hr : (xgM G).sig.returnType = (some .int)) {M' : xwM} {o : Int32} {x1 : Int32} {M : xwM} (hf : fX3_drop x1 M = some (o, M')) : XV G (xw_qi G 431 ad (xm_ce ad cs M') o) 2 0 0 ad cs M 0 [some (.ref (ad 418)), some (.int x1)] [] := by
  unfold fX3_drop at hf
  refine xw_aload_n C dX3_drop_0 0 rfl rfl ?_
  refine xw_iload_n C dX3_drop_1 1 rfl rfl ?_
  refine xw_if_lt (tgt := 13) C dX3_drop_2 (by decide) (fun c_1 => ?_) (fun c_1 => ?_)
  · have hf := it_t hf c_1
    exact xl_sub (xl_c rfl (xl_c rfl xl_e)) (kX3_drop_13 C hR ht hr  hf)
  · have hf := it_f hf c_1
    refine xw_iload_n C dX3_drop_5 1 rfl rfl ?_
    refine xw_aload_n C dX3_drop_6 0 rfl rfl ?_
    refine xv_getf C (by decide) xs_M rfl inB3 13 (by decide) hw_496 rfl dX3_drop_7 ?_
    refine xw_icmp_lt (tgt := 17) C dX3_drop_10 (by decide) (fun c_2 => ?_) (fun c_2 => ?_)
    · have hf := it_t hf c_2
      refine xw_iconst (v := 0) C dX3_drop_17 (by decide) ?_
      exact xl_sub (xl_c rfl (xl_c rfl xl_e)) (kX3_drop_18 C hR ht hr  hf)
    · have hf := it_f hf c_2
      exact xl_sub (xl_c rfl (xl_c rfl xl_e)) (kX3_drop_13 C hR ht hr  hf)
theorem mX3_drop (l : Launch) {D : va_G} {tys : List (ClassId × FieldType)} {base : Nat} {ad : Nat → Nat} {cs : xmC} (hJ : xw_J 431 ad base) (ht : tys = xm_tys cs) {x1 : Int32} {M M' : xwM} {o : Int32} (hf : fX3_drop x1 M = some (o, M')) : xk_i l yX3_drop cX3_drop 2 (some .int) rX3_drop D tys base 431 ad [.ref (ad 418), .int x1] (xm_ce ad cs M) (xm_ce ad cs M') o :=
  xk_ofi 0 (by decide) hJ (List.forall_mem_cons.mpr ⟨rfl, List.forall_mem_cons.mpr ⟨rfl, List.forall_mem_nil _⟩⟩) (Nat.le_of_ble_eq_true rfl) (fun G e1 e2 e3 e4 e5 hr C => kX3_drop_0 C e2 (e4.trans ht) hr  hf)

abbrev rX3_copy : Room := { frames := 1, cells := 0, slots := 0, locals := 21 }
def fX3_copy_34 (M : xwM) : Option (Int32 × xwM) :=
  some (0, M)
set_option maxHeartbeats 4000000 in
set_option maxRecDepth 100000 in
theorem kX3_copy_34 {G : xwG} {ad : Nat → Nat} {cs : xmC} (C : xw_C G cX3_copy 3 RX3 431 ad) (hR : xgR G = rX3_copy) (ht : xgt G = xm_tys cs) (hr : (xgM G).sig.returnType = (some .boolean)) {M' : xwM} {o : Int32} {M : xwM} (hf : fX3_copy_34  M = some (o, M')) : XV G (xw_qi G 431 ad (xm_ce ad cs M') o) 3 0 0 ad cs M 34 [none, none, none] [] := by
  unfold fX3_copy_34 at hf
  refine xw_iconst (v := 0) C dX3_copy_34 (by decide) ?_
  cases hf
  exact xw_retz C hr (by decide) dX3_copy_35
def fX3_copy_38 : Nat → Int32 → Int32 →  xwM → Option (Int32 × xwM)
  | 0, _, _, _ => none
  | fu + 1, x1, x2, M =>
  if 6 ≤ x2 then
    (xlet (ms M 418 13 ((M 418 13) + 1)) fun M9 =>
      some (1, M9))
  else
    (ld M 429 1806 ((6 * x1) + x2) fun v10 =>
      sto M 429 1806 ((6 * (M 418 13)) + x2) v10 fun M12 =>
      fX3_copy_38 fu x1 ((x2 + 1)) M12)
set_option maxHeartbeats 4000000 in
set_option maxRecDepth 100000 in
theorem kX3_copy_38 {G : xwG} {ad : Nat → Nat} {cs : xmC} (C : xw_C G cX3_copy 3 RX3 431 ad) (hR : xgR G = rX3_copy) (ht : xgt G = xm_tys cs) (hr : (xgM G).sig.returnType = (some .boolean)) {M' : xwM} {o : Int32} : ∀ (fu : Nat) (x1 : Int32) (x2 : Int32) (M : xwM), fX3_copy_38 fu x1 x2 M = some (o, M') → XV G (xw_qi G 431 ad (xm_ce ad cs M') o) 3 0 0 ad cs M 38 [some (.ref (ad 418)), some (.int x1), some (.int x2)] [] := by
  intro fu
  induction fu with
  | zero =>
    intro x1 x2 M  hf
    cases hf
  | succ fu ih =>
    intro x1 x2 M  hf
    rw [fX3_copy_38] at hf
    refine xw_iload_n C dX3_copy_38 2 rfl rfl ?_
    refine xw_bipush (v := 6) C dX3_copy_39 (by decide) ?_
    refine xw_icmp_ge (tgt := 75) C dX3_copy_41 (by decide) (fun c_8 => ?_) (fun c_8 => ?_)
    · have hf := it_t hf c_8
      refine xw_aload_n C dX3_copy_75 0 rfl rfl ?_
      refine xw_dup C dX3_copy_76 rfl ?_
      refine xv_getf C (by decide) xs_M rfl inB3 13 (by decide) hw_496 rfl dX3_copy_77 ?_
      refine xw_iconst (v := 1) C dX3_copy_80 (by decide) ?_
      refine xw_iadd C dX3_copy_81 ?_
      refine xv_putf (fs := xl_X3 ad) C (by decide) (fun _ => xs_M) rfl inB3 tyX3 tyX3_ok nmX3 13 (by decide) hw_496 rfl rfl (fun _ => by simp [xl_X3]) (fun _ => rfl) dX3_copy_82 ?_
      have hf := xlet_s hf
      refine xw_iconst (v := 1) C dX3_copy_85 (by decide) ?_
      cases hf
      exact xw_retz C hr (by decide) dX3_copy_86
    · have hf := it_f hf c_8
      refine xw_aload_n C dX3_copy_44 0 rfl rfl ?_
      refine xv_getf C (by decide) xs_M rfl inB3 12 (by decide) hw_495 rfl dX3_copy_45 ?_
      refine xw_bipush (v := 6) C dX3_copy_48 (by decide) ?_
      refine xw_aload_n C dX3_copy_50 0 rfl rfl ?_
      refine xv_getf C (by decide) xs_M rfl inB3 13 (by decide) hw_496 rfl dX3_copy_51 ?_
      refine xw_imul C dX3_copy_54 ?_
      refine xw_iload_n C dX3_copy_55 2 rfl rfl ?_
      refine xw_iadd C dX3_copy_56 ?_
      refine xw_aload_n C dX3_copy_57 0 rfl rfl ?_
      refine xv_getf C (by decide) xs_M rfl inB3 12 (by decide) hw_495 rfl dX3_copy_58 ?_
      refine xw_bipush (v := 6) C dX3_copy_61 (by decide) ?_
      refine xw_iload_n C dX3_copy_63 1 rfl rfl ?_
      refine xw_imul C dX3_copy_64 ?_
      refine xw_iload_n C dX3_copy_65 2 rfl rfl ?_
      refine xw_iadd C dX3_copy_66 ?_
      obtain ⟨i_11, hf⟩ := ld_s hf
      refine xv_iald C ht (by decide) ((fun _ => xs_429) _) i_11 dX3_copy_67 ?_
      obtain ⟨i_13, hf⟩ := sto_s hf
      refine xv_iast C ht (by decide) (fun _ => xs_429) i_13 dX3_copy_68 ?_
      refine xw_iinc C dX3_copy_69 rfl (show _ + Int32.ofInt (1) = _ + (1) from congrArg _ (by decide)) (by decide) ?_
      refine xw_goto (tgt := 38) C dX3_copy_72 (by decide) ?_
      exact xl_sub (xl_c rfl (xl_c rfl (xl_c rfl xl_e))) (ih _ _ _ hf)
def fX3_copy_18 (x1 : Int32) (s1 : Int32) (M : xwM) : Option (Int32 × xwM) :=
  bni (fX3_refuses s1 M) fun v3 M4 =>
  if v3 = 0 then
    (if (M4 418 13) = 300 then
        (fX3_copy_34  M4)
      else
        (fX3_copy_38 2001 x1 0 M4))
  else
    (fX3_copy_34  M4)
set_option maxHeartbeats 4000000 in
set_option maxRecDepth 100000 in
theorem kX3_copy_18 {G : xwG} {ad : Nat → Nat} {cs : xmC} (C : xw_C G cX3_copy 3 RX3 431 ad) (hR : xgR G = rX3_copy) (ht : xgt G = xm_tys cs) (hr : (xgM G).sig.returnType = (some .boolean)) {M' : xwM} {o : Int32} {x1 : Int32} {s1 : Int32} {M : xwM} (hf : fX3_copy_18 x1 s1 M = some (o, M')) : XV G (xw_qi G 431 ad (xm_ce ad cs M') o) 3 0 0 ad cs M 18 [some (.ref (ad 418)), some (.int x1), none] [.int s1, .ref (ad 418)] := by
  unfold fX3_copy_18 at hf
  obtain ⟨r_v3, M_M4, g_5, hf⟩ := bni_s hf
  refine xc_Vi C (mX3_refuses (xgl G) C.2.2.2.2.2.2.2.2.1 ht  g_5) FX3_refuses hw_546 (by decide) xs_M rfl (by rw [hR]; decide) (by rw [hR]; decide) rfl (Nat.le_of_ble_eq_true rfl) dX3_copy_18 rfl ?_
  refine xw_if_ne (tgt := 34) C dX3_copy_21 (by decide) (fun c_6 => ?_) (fun c_6 => ?_)
  · have hf := it_f hf c_6
    exact xl_sub (xl_n (xl_n (xl_n xl_e))) (kX3_copy_34 C hR ht hr  hf)
  · have hf := it_t hf c_6
    refine xw_aload_n C dX3_copy_24 0 rfl rfl ?_
    refine xv_getf C (by decide) xs_M rfl inB3 13 (by decide) hw_496 rfl dX3_copy_25 ?_
    refine xw_sipush (v := 300) C dX3_copy_28 (by decide) ?_
    refine xw_icmp_ne (tgt := 36) C dX3_copy_31 (by decide) (fun c_7 => ?_) (fun c_7 => ?_)
    · have hf := it_f hf c_7
      refine xw_iconst (v := 0) C dX3_copy_36 (by decide) ?_
      refine xw_istore_n C dX3_copy_37 2 rfl (by decide) ?_
      exact xl_sub (xl_c rfl (xl_c rfl (xl_c rfl xl_e))) (kX3_copy_38 C hR ht hr 2001 _ _ _ hf)
    · have hf := it_t hf c_7
      exact xl_sub (xl_n (xl_n (xl_n xl_e))) (kX3_copy_34 C hR ht hr  hf)
def fX3_copy_13 (x1 : Int32) (M : xwM) : Option (Int32 × xwM) :=
  fX3_copy_18 x1 1 M
set_option maxHeartbeats 4000000 in
set_option maxRecDepth 100000 in
theorem kX3_copy_13 {G : xwG} {ad : Nat → Nat} {cs : xmC} (C : xw_C G cX3_copy 3 RX3 431 ad) (hR : xgR G = rX3_copy) (ht : xgt G = xm_tys cs) (hr : (xgM G).sig.returnType = (some .boolean)) {M' : xwM} {o : Int32} {x1 : Int32} {M : xwM} (hf : fX3_copy_13 x1 M = some (o, M')) : XV G (xw_qi G 431 ad (xm_ce ad cs M') o) 3 0 0 ad cs M 13 [some (.ref (ad 418)), some (.int x1), none] [.ref (ad 418)] := by
  unfold fX3_copy_13 at hf
  refine xw_iconst (v := 1) C dX3_copy_13 (by decide) ?_
  refine xw_goto (tgt := 18) C dX3_copy_14 (by decide) ?_
  exact xl_sub (xl_c rfl (xl_c rfl (xl_n xl_e))) (kX3_copy_18 C hR ht hr  hf)
def fX3_copy (x1 : Int32) (M : xwM) : Option (Int32 × xwM) :=
  if x1 < 0 then
    (fX3_copy_13 x1 M)
  else
    (if x1 < (M 418 13) then
        (fX3_copy_18 x1 0 M)
      else
        (fX3_copy_13 x1 M))
set_option maxHeartbeats 4000000 in
set_option maxRecDepth 100000 in
theorem kX3_copy_0 {G : xwG} {ad : Nat → Nat} {cs : xmC} (C : xw_C G cX3_copy 3 RX3 431 ad) (hR : xgR G = rX3_copy) (ht : xgt G = xm_tys cs) (hr : (xgM G).sig.returnType = (some .boolean)) {M' : xwM} {o : Int32} {x1 : Int32} {M : xwM} (hf : fX3_copy x1 M = some (o, M')) : XV G (xw_qi G 431 ad (xm_ce ad cs M') o) 3 0 0 ad cs M 0 [some (.ref (ad 418)), some (.int x1), none] [] := by
  unfold fX3_copy at hf
  refine xw_aload_n C dX3_copy_0 0 rfl rfl ?_
  refine xw_iload_n C dX3_copy_1 1 rfl rfl ?_
  refine xw_if_lt (tgt := 13) C dX3_copy_2 (by decide) (fun c_1 => ?_) (fun c_1 => ?_)
  · have hf := it_t hf c_1
    exact xl_sub (xl_c rfl (xl_c rfl (xl_n xl_e))) (kX3_copy_13 C hR ht hr  hf)
  · have hf := it_f hf c_1
    refine xw_iload_n C dX3_copy_5 1 rfl rfl ?_
    refine xw_aload_n C dX3_copy_6 0 rfl rfl ?_
    refine xv_getf C (by decide) xs_M rfl inB3 13 (by decide) hw_496 rfl dX3_copy_7 ?_
    refine xw_icmp_lt (tgt := 17) C dX3_copy_10 (by decide) (fun c_2 => ?_) (fun c_2 => ?_)
    · have hf := it_t hf c_2
      refine xw_iconst (v := 0) C dX3_copy_17 (by decide) ?_
      exact xl_sub (xl_c rfl (xl_c rfl (xl_n xl_e))) (kX3_copy_18 C hR ht hr  hf)
    · have hf := it_f hf c_2
      exact xl_sub (xl_c rfl (xl_c rfl (xl_n xl_e))) (kX3_copy_13 C hR ht hr  hf)
theorem mX3_copy (l : Launch) {D : va_G} {tys : List (ClassId × FieldType)} {base : Nat} {ad : Nat → Nat} {cs : xmC} (hJ : xw_J 431 ad base) (ht : tys = xm_tys cs) {x1 : Int32} {M M' : xwM} {o : Int32} (hf : fX3_copy x1 M = some (o, M')) : xk_i l yX3_copy cX3_copy 3 (some .boolean) rX3_copy D tys base 431 ad [.ref (ad 418), .int x1] (xm_ce ad cs M) (xm_ce ad cs M') o :=
  xk_ofi 1 (by decide) hJ (List.forall_mem_cons.mpr ⟨rfl, List.forall_mem_cons.mpr ⟨rfl, List.forall_mem_nil _⟩⟩) (Nat.le_of_ble_eq_true rfl) (fun G e1 e2 e3 e4 e5 hr C => kX3_copy_0 C e2 (e4.trans ht) hr  hf)

abbrev rX3_letter : Room := { frames := 1, cells := 0, slots := 0, locals := 21 }
def fX3_letter_48 (s0 : Int32) (M : xwM) : Option (Int32 × xwM) :=
  some (s0, M)
set_option maxHeartbeats 4000000 in
set_option maxRecDepth 100000 in
theorem kX3_letter_48 {G : xwG} {ad : Nat → Nat} {cs : xmC} (C : xw_C G cX3_letter 3 RX3 431 ad) (hR : xgR G = rX3_letter) (ht : xgt G = xm_tys cs) (hr : (xgM G).sig.returnType = (some .int)) {M' : xwM} {o : Int32} {s0 : Int32} {M : xwM} (hf : fX3_letter_48 s0 M = some (o, M')) : XV G (xw_qi G 431 ad (xm_ce ad cs M') o) 3 0 0 ad cs M 48 [none, none, none] [.int s0] := by
  unfold fX3_letter_48 at hf
  cases hf
  exact xw_reti C hr dX3_letter_48
def fX3_letter_27 (x1 : Int32) (x2 : Int32) (s1 : Int32) (M : xwM) : Option (Int32 × xwM) :=
  bni (fX3_refuses s1 M) fun v5 M6 =>
  if v5 = 0 then
    (ld M6 429 1806 ((6 * x1) + x2) fun v9 =>
      fX3_letter_48 v9 M6)
  else
    (fX3_letter_48 0 M6)
set_option maxHeartbeats 4000000 in
set_option maxRecDepth 100000 in
theorem kX3_letter_27 {G : xwG} {ad : Nat → Nat} {cs : xmC} (C : xw_C G cX3_letter 3 RX3 431 ad) (hR : xgR G = rX3_letter) (ht : xgt G = xm_tys cs) (hr : (xgM G).sig.returnType = (some .int)) {M' : xwM} {o : Int32} {x1 : Int32} {x2 : Int32} {s1 : Int32} {M : xwM} (hf : fX3_letter_27 x1 x2 s1 M = some (o, M')) : XV G (xw_qi G 431 ad (xm_ce ad cs M') o) 3 0 0 ad cs M 27 [some (.ref (ad 418)), some (.int x1), some (.int x2)] [.int s1, .ref (ad 418)] := by
  unfold fX3_letter_27 at hf
  obtain ⟨r_v5, M_M6, g_7, hf⟩ := bni_s hf
  refine xc_Vi C (mX3_refuses (xgl G) C.2.2.2.2.2.2.2.2.1 ht  g_7) FX3_refuses hw_546 (by decide) xs_M rfl (by rw [hR]; decide) (by rw [hR]; decide) rfl (Nat.le_of_ble_eq_true rfl) dX3_letter_27 rfl ?_
  refine xw_if_eq (tgt := 37) C dX3_letter_30 (by decide) (fun c_8 => ?_) (fun c_8 => ?_)
  · have hf := it_t hf c_8
    refine xw_aload_n C dX3_letter_37 0 rfl rfl ?_
    refine xv_getf C (by decide) xs_M rfl inB3 12 (by decide) hw_495 rfl dX3_letter_38 ?_
    refine xw_bipush (v := 6) C dX3_letter_41 (by decide) ?_
    refine xw_iload_n C dX3_letter_43 1 rfl rfl ?_
    refine xw_imul C dX3_letter_44 ?_
    refine xw_iload_n C dX3_letter_45 2 rfl rfl ?_
    refine xw_iadd C dX3_letter_46 ?_
    obtain ⟨i_10, hf⟩ := ld_s hf
    refine xv_iald C ht (by decide) ((fun _ => xs_429) _) i_10 dX3_letter_47 ?_
    exact xl_sub (xl_n (xl_n (xl_n xl_e))) (kX3_letter_48 C hR ht hr  hf)
  · have hf := it_f hf c_8
    refine xw_iconst (v := 0) C dX3_letter_33 (by decide) ?_
    refine xw_goto (tgt := 48) C dX3_letter_34 (by decide) ?_
    exact xl_sub (xl_n (xl_n (xl_n xl_e))) (kX3_letter_48 C hR ht hr  hf)
def fX3_letter_22 (x1 : Int32) (x2 : Int32) (M : xwM) : Option (Int32 × xwM) :=
  fX3_letter_27 x1 x2 1 M
set_option maxHeartbeats 4000000 in
set_option maxRecDepth 100000 in
theorem kX3_letter_22 {G : xwG} {ad : Nat → Nat} {cs : xmC} (C : xw_C G cX3_letter 3 RX3 431 ad) (hR : xgR G = rX3_letter) (ht : xgt G = xm_tys cs) (hr : (xgM G).sig.returnType = (some .int)) {M' : xwM} {o : Int32} {x1 : Int32} {x2 : Int32} {M : xwM} (hf : fX3_letter_22 x1 x2 M = some (o, M')) : XV G (xw_qi G 431 ad (xm_ce ad cs M') o) 3 0 0 ad cs M 22 [some (.ref (ad 418)), some (.int x1), some (.int x2)] [.ref (ad 418)] := by
  unfold fX3_letter_22 at hf
  refine xw_iconst (v := 1) C dX3_letter_22 (by decide) ?_
  refine xw_goto (tgt := 27) C dX3_letter_23 (by decide) ?_
  exact xl_sub (xl_c rfl (xl_c rfl (xl_c rfl xl_e))) (kX3_letter_27 C hR ht hr  hf)
def fX3_letter (x1 : Int32) (x2 : Int32) (M : xwM) : Option (Int32 × xwM) :=
  if x1 < 0 then
    (fX3_letter_22 x1 x2 M)
  else
    (if (M 418 13) ≤ x1 then
        (fX3_letter_22 x1 x2 M)
      else
        (if x2 < 0 then
            (fX3_letter_22 x1 x2 M)
          else
            (if x2 ≤ 5 then
                (fX3_letter_27 x1 x2 0 M)
              else
                (fX3_letter_22 x1 x2 M))))
set_option maxHeartbeats 4000000 in
set_option maxRecDepth 100000 in
theorem kX3_letter_0 {G : xwG} {ad : Nat → Nat} {cs : xmC} (C : xw_C G cX3_letter 3 RX3 431 ad) (hR : xgR G = rX3_letter) (ht : xgt G = xm_tys cs) (hr : (xgM G).sig.returnType = (some .int)) {M' : xwM} {o : Int32} {x1 : Int32} {x2 : Int32} {M : xwM} (hf : fX3_letter x1 x2 M = some (o, M')) : XV G (xw_qi G 431 ad (xm_ce ad cs M') o) 3 0 0 ad cs M 0 [some (.ref (ad 418)), some (.int x1), some (.int x2)] [] := by
  unfold fX3_letter at hf
  refine xw_aload_n C dX3_letter_0 0 rfl rfl ?_
  refine xw_iload_n C dX3_letter_1 1 rfl rfl ?_
  refine xw_if_lt (tgt := 22) C dX3_letter_2 (by decide) (fun c_1 => ?_) (fun c_1 => ?_)
  · have hf := it_t hf c_1
    exact xl_sub (xl_c rfl (xl_c rfl (xl_c rfl xl_e))) (kX3_letter_22 C hR ht hr  hf)
  · have hf := it_f hf c_1
    refine xw_iload_n C dX3_letter_5 1 rfl rfl ?_
    refine xw_aload_n C dX3_letter_6 0 rfl rfl ?_
    refine xv_getf C (by decide) xs_M rfl inB3 13 (by decide) hw_496 rfl dX3_letter_7 ?_
    refine xw_icmp_ge (tgt := 22) C dX3_letter_10 (by decide) (fun c_2 => ?_) (fun c_2 => ?_)
    · have hf := it_t hf c_2
      exact xl_sub (xl_c rfl (xl_c rfl (xl_c rfl xl_e))) (kX3_letter_22 C hR ht hr  hf)
    · have hf := it_f hf c_2
      refine xw_iload_n C dX3_letter_13 2 rfl rfl ?_
      refine xw_if_lt (tgt := 22) C dX3_letter_14 (by decide) (fun c_3 => ?_) (fun c_3 => ?_)
      · have hf := it_t hf c_3
        exact xl_sub (xl_c rfl (xl_c rfl (xl_c rfl xl_e))) (kX3_letter_22 C hR ht hr  hf)
      · have hf := it_f hf c_3
        refine xw_iload_n C dX3_letter_17 2 rfl rfl ?_
        refine xw_iconst (v := 5) C dX3_letter_18 (by decide) ?_
        refine xw_icmp_le (tgt := 26) C dX3_letter_19 (by decide) (fun c_4 => ?_) (fun c_4 => ?_)
        · have hf := it_t hf c_4
          refine xw_iconst (v := 0) C dX3_letter_26 (by decide) ?_
          exact xl_sub (xl_c rfl (xl_c rfl (xl_c rfl xl_e))) (kX3_letter_27 C hR ht hr  hf)
        · have hf := it_f hf c_4
          exact xl_sub (xl_c rfl (xl_c rfl (xl_c rfl xl_e))) (kX3_letter_22 C hR ht hr  hf)
theorem mX3_letter (l : Launch) {D : va_G} {tys : List (ClassId × FieldType)} {base : Nat} {ad : Nat → Nat} {cs : xmC} (hJ : xw_J 431 ad base) (ht : tys = xm_tys cs) {x1 : Int32} {x2 : Int32} {M M' : xwM} {o : Int32} (hf : fX3_letter x1 x2 M = some (o, M')) : xk_i l yX3_letter cX3_letter 3 (some .int) rX3_letter D tys base 431 ad [.ref (ad 418), .int x1, .int x2] (xm_ce ad cs M) (xm_ce ad cs M') o :=
  xk_ofi 0 (by decide) hJ (List.forall_mem_cons.mpr ⟨rfl, List.forall_mem_cons.mpr ⟨rfl, List.forall_mem_cons.mpr ⟨rfl, List.forall_mem_nil _⟩⟩⟩) (Nat.le_of_ble_eq_true rfl) (fun G e1 e2 e3 e4 e5 hr C => kX3_letter_0 C e2 (e4.trans ht) hr  hf)

abbrev rX3_way : Room := { frames := 1, cells := 0, slots := 0, locals := 21 }
def fX3_way_82 (s0 : Int32) (M : xwM) : Option (Int32 × xwM) :=
  some (s0, M)
set_option maxHeartbeats 4000000 in
set_option maxRecDepth 100000 in
theorem kX3_way_82 {G : xwG} {ad : Nat → Nat} {cs : xmC} (C : xw_C G cX3_way 5 RX3 431 ad) (hR : xgR G = rX3_way) (ht : xgt G = xm_tys cs) (hr : (xgM G).sig.returnType = (some .int)) {M' : xwM} {o : Int32} {s0 : Int32} {M : xwM} (hf : fX3_way_82 s0 M = some (o, M')) : XV G (xw_qi G 431 ad (xm_ce ad cs M') o) 5 0 0 ad cs M 82 [none, none, none, none, none] [.int s0] := by
  unfold fX3_way_82 at hf
  cases hf
  exact xw_reti C hr dX3_way_82
def fX3_way_149 (s0 : Int32) (M : xwM) : Option (Int32 × xwM) :=
  some (s0, M)
set_option maxHeartbeats 4000000 in
set_option maxRecDepth 100000 in
theorem kX3_way_149 {G : xwG} {ad : Nat → Nat} {cs : xmC} (C : xw_C G cX3_way 5 RX3 431 ad) (hR : xgR G = rX3_way) (ht : xgt G = xm_tys cs) (hr : (xgM G).sig.returnType = (some .int)) {M' : xwM} {o : Int32} {s0 : Int32} {M : xwM} (hf : fX3_way_149 s0 M = some (o, M')) : XV G (xw_qi G 431 ad (xm_ce ad cs M') o) 5 0 0 ad cs M 149 [none, none, none, none, none] [.int s0] := by
  unfold fX3_way_149 at hf
  cases hf
  exact xw_reti C hr dX3_way_149
def fX3_way_29 (x1 : Int32) (x2 : Int32) (x3 : Int32) (s1 : Int32) (M : xwM) : Option (Int32 × xwM) :=
  bni (fX3_refuses s1 M) fun v11 M12 =>
  if v11 = 0 then
    (if x1 = x2 then
        (if x3 = 0 then
            (fX3_way_82 x1 M12)
          else
            (if x3 = 1 then
                (ld M12 420 12 x1 fun v33 =>
                  fX3_way_82 v33 M12)
              else
                (if x3 = 2 then
                    (fX3_way_82 0 M12)
                  else
                    (fX3_way_82 (-1) M12))))
      else
        (if x3 = 0 then
            (ld M12 423 144 ((12 * x1) + x2) fun v28 =>
              fX3_way_149 v28 M12)
          else
            (if x3 = 1 then
                (ld M12 424 144 ((12 * x1) + x2) fun v26 =>
                  fX3_way_149 v26 M12)
              else
                (if x3 = 2 then
                    (ld M12 425 144 ((12 * x1) + x2) fun v24 =>
                      fX3_way_149 v24 M12)
                  else
                    (if x3 = 3 then
                        (ld M12 421 144 ((12 * x1) + x2) fun v22 =>
                          fX3_way_149 v22 M12)
                      else
                        (ld M12 422 144 ((12 * x1) + x2) fun v20 =>
                          fX3_way_149 v20 M12))))))
  else
    (some (0, M12))
set_option maxHeartbeats 4000000 in
set_option maxRecDepth 100000 in
theorem kX3_way_29 {G : xwG} {ad : Nat → Nat} {cs : xmC} (C : xw_C G cX3_way 5 RX3 431 ad) (hR : xgR G = rX3_way) (ht : xgt G = xm_tys cs) (hr : (xgM G).sig.returnType = (some .int)) {M' : xwM} {o : Int32} {x1 : Int32} {x2 : Int32} {x3 : Int32} {s1 : Int32} {M : xwM} (hf : fX3_way_29 x1 x2 x3 s1 M = some (o, M')) : XV G (xw_qi G 431 ad (xm_ce ad cs M') o) 5 0 0 ad cs M 29 [some (.ref (ad 418)), some (.int x1), some (.int x2), some (.int x3), none] [.int s1, .ref (ad 418)] := by
  unfold fX3_way_29 at hf
  obtain ⟨r_v11, M_M12, g_13, hf⟩ := bni_s hf
  refine xc_Vi C (mX3_refuses (xgl G) C.2.2.2.2.2.2.2.2.1 ht  g_13) FX3_refuses hw_546 (by decide) xs_M rfl (by rw [hR]; decide) (by rw [hR]; decide) rfl (Nat.le_of_ble_eq_true rfl) dX3_way_29 rfl ?_
  refine xw_if_eq (tgt := 37) C dX3_way_32 (by decide) (fun c_14 => ?_) (fun c_14 => ?_)
  · have hf := it_t hf c_14
    refine xw_bipush (v := 12) C dX3_way_37 (by decide) ?_
    refine xw_iload_n C dX3_way_39 1 rfl rfl ?_
    refine xw_imul C dX3_way_40 ?_
    refine xw_iload_n C dX3_way_41 2 rfl rfl ?_
    refine xw_iadd C dX3_way_42 ?_
    refine xw_istore C dX3_way_43 (by decide) ?_
    refine xw_iload_n C dX3_way_45 1 rfl rfl ?_
    refine xw_iload_n C dX3_way_46 2 rfl rfl ?_
    refine xw_icmp_ne (tgt := 83) C dX3_way_47 (by decide) (fun c_15 => ?_) (fun c_15 => ?_)
    · have hf := it_f hf c_15
      refine xw_iload_n C dX3_way_83 3 rfl rfl ?_
      refine xw_if_ne (tgt := 97) C dX3_way_84 (by decide) (fun c_16 => ?_) (fun c_16 => ?_)
      · have hf := it_f hf c_16
        refine xw_iload_n C dX3_way_97 3 rfl rfl ?_
        refine xw_iconst (v := 1) C dX3_way_98 (by decide) ?_
        refine xw_icmp_ne (tgt := 112) C dX3_way_99 (by decide) (fun c_17 => ?_) (fun c_17 => ?_)
        · have hf := it_f hf c_17
          refine xw_iload_n C dX3_way_112 3 rfl rfl ?_
          refine xw_iconst (v := 2) C dX3_way_113 (by decide) ?_
          refine xw_icmp_ne (tgt := 127) C dX3_way_114 (by decide) (fun c_18 => ?_) (fun c_18 => ?_)
          · have hf := it_f hf c_18
            refine xw_iload_n C dX3_way_127 3 rfl rfl ?_
            refine xw_iconst (v := 3) C dX3_way_128 (by decide) ?_
            refine xw_icmp_ne (tgt := 142) C dX3_way_129 (by decide) (fun c_19 => ?_) (fun c_19 => ?_)
            · have hf := it_f hf c_19
              refine xw_aload_n C dX3_way_142 0 rfl rfl ?_
              refine xv_getf C (by decide) xs_M rfl inB3 5 (by decide) hw_488 rfl dX3_way_143 ?_
              refine xw_iload C dX3_way_146 rfl ?_
              obtain ⟨i_21, hf⟩ := ld_s hf
              refine xv_iald C ht (by decide) ((fun _ => xs_422) _) i_21 dX3_way_148 ?_
              exact xl_sub (xl_n (xl_n (xl_n (xl_n (xl_n xl_e))))) (kX3_way_149 C hR ht hr  hf)
            · have hf := it_t hf c_19
              refine xw_aload_n C dX3_way_132 0 rfl rfl ?_
              refine xv_getf C (by decide) xs_M rfl inB3 4 (by decide) hw_487 rfl dX3_way_133 ?_
              refine xw_iload C dX3_way_136 rfl ?_
              obtain ⟨i_23, hf⟩ := ld_s hf
              refine xv_iald C ht (by decide) ((fun _ => xs_421) _) i_23 dX3_way_138 ?_
              refine xw_goto (tgt := 149) C dX3_way_139 (by decide) ?_
              exact xl_sub (xl_n (xl_n (xl_n (xl_n (xl_n xl_e))))) (kX3_way_149 C hR ht hr  hf)
          · have hf := it_t hf c_18
            refine xw_aload_n C dX3_way_117 0 rfl rfl ?_
            refine xv_getf C (by decide) xs_M rfl inB3 8 (by decide) hw_491 rfl dX3_way_118 ?_
            refine xw_iload C dX3_way_121 rfl ?_
            obtain ⟨i_25, hf⟩ := ld_s hf
            refine xv_iald C ht (by decide) ((fun _ => xs_425) _) i_25 dX3_way_123 ?_
            refine xw_goto (tgt := 149) C dX3_way_124 (by decide) ?_
            exact xl_sub (xl_n (xl_n (xl_n (xl_n (xl_n xl_e))))) (kX3_way_149 C hR ht hr  hf)
        · have hf := it_t hf c_17
          refine xw_aload_n C dX3_way_102 0 rfl rfl ?_
          refine xv_getf C (by decide) xs_M rfl inB3 7 (by decide) hw_490 rfl dX3_way_103 ?_
          refine xw_iload C dX3_way_106 rfl ?_
          obtain ⟨i_27, hf⟩ := ld_s hf
          refine xv_iald C ht (by decide) ((fun _ => xs_424) _) i_27 dX3_way_108 ?_
          refine xw_goto (tgt := 149) C dX3_way_109 (by decide) ?_
          exact xl_sub (xl_n (xl_n (xl_n (xl_n (xl_n xl_e))))) (kX3_way_149 C hR ht hr  hf)
      · have hf := it_t hf c_16
        refine xw_aload_n C dX3_way_87 0 rfl rfl ?_
        refine xv_getf C (by decide) xs_M rfl inB3 6 (by decide) hw_489 rfl dX3_way_88 ?_
        refine xw_iload C dX3_way_91 rfl ?_
        obtain ⟨i_29, hf⟩ := ld_s hf
        refine xv_iald C ht (by decide) ((fun _ => xs_423) _) i_29 dX3_way_93 ?_
        refine xw_goto (tgt := 149) C dX3_way_94 (by decide) ?_
        exact xl_sub (xl_n (xl_n (xl_n (xl_n (xl_n xl_e))))) (kX3_way_149 C hR ht hr  hf)
    · have hf := it_t hf c_15
      refine xw_iload_n C dX3_way_50 3 rfl rfl ?_
      refine xw_if_ne (tgt := 58) C dX3_way_51 (by decide) (fun c_30 => ?_) (fun c_30 => ?_)
      · have hf := it_f hf c_30
        refine xw_iload_n C dX3_way_58 3 rfl rfl ?_
        refine xw_iconst (v := 1) C dX3_way_59 (by decide) ?_
        refine xw_icmp_ne (tgt := 72) C dX3_way_60 (by decide) (fun c_31 => ?_) (fun c_31 => ?_)
        · have hf := it_f hf c_31
          refine xw_iload_n C dX3_way_72 3 rfl rfl ?_
          refine xw_iconst (v := 2) C dX3_way_73 (by decide) ?_
          refine xw_icmp_ne (tgt := 81) C dX3_way_74 (by decide) (fun c_32 => ?_) (fun c_32 => ?_)
          · have hf := it_f hf c_32
            refine xw_iconst (v := -1) C dX3_way_81 (by decide) ?_
            exact xl_sub (xl_n (xl_n (xl_n (xl_n (xl_n xl_e))))) (kX3_way_82 C hR ht hr  hf)
          · have hf := it_t hf c_32
            refine xw_iconst (v := 0) C dX3_way_77 (by decide) ?_
            refine xw_goto (tgt := 82) C dX3_way_78 (by decide) ?_
            exact xl_sub (xl_n (xl_n (xl_n (xl_n (xl_n xl_e))))) (kX3_way_82 C hR ht hr  hf)
        · have hf := it_t hf c_31
          refine xw_aload_n C dX3_way_63 0 rfl rfl ?_
          refine xv_getf C (by decide) xs_M rfl inB3 3 (by decide) hw_486 rfl dX3_way_64 ?_
          refine xw_iload_n C dX3_way_67 1 rfl rfl ?_
          obtain ⟨i_34, hf⟩ := ld_s hf
          refine xv_iald C ht (by decide) ((fun _ => xs_420) _) i_34 dX3_way_68 ?_
          refine xw_goto (tgt := 82) C dX3_way_69 (by decide) ?_
          exact xl_sub (xl_n (xl_n (xl_n (xl_n (xl_n xl_e))))) (kX3_way_82 C hR ht hr  hf)
      · have hf := it_t hf c_30
        refine xw_iload_n C dX3_way_54 1 rfl rfl ?_
        refine xw_goto (tgt := 82) C dX3_way_55 (by decide) ?_
        exact xl_sub (xl_n (xl_n (xl_n (xl_n (xl_n xl_e))))) (kX3_way_82 C hR ht hr  hf)
  · have hf := it_f hf c_14
    refine xw_iconst (v := 0) C dX3_way_35 (by decide) ?_
    cases hf
    exact xw_reti C hr dX3_way_36
def fX3_way_24 (x1 : Int32) (x2 : Int32) (x3 : Int32) (M : xwM) : Option (Int32 × xwM) :=
  fX3_way_29 x1 x2 x3 1 M
set_option maxHeartbeats 4000000 in
set_option maxRecDepth 100000 in
theorem kX3_way_24 {G : xwG} {ad : Nat → Nat} {cs : xmC} (C : xw_C G cX3_way 5 RX3 431 ad) (hR : xgR G = rX3_way) (ht : xgt G = xm_tys cs) (hr : (xgM G).sig.returnType = (some .int)) {M' : xwM} {o : Int32} {x1 : Int32} {x2 : Int32} {x3 : Int32} {M : xwM} (hf : fX3_way_24 x1 x2 x3 M = some (o, M')) : XV G (xw_qi G 431 ad (xm_ce ad cs M') o) 5 0 0 ad cs M 24 [some (.ref (ad 418)), some (.int x1), some (.int x2), some (.int x3), none] [.ref (ad 418)] := by
  unfold fX3_way_24 at hf
  refine xw_iconst (v := 1) C dX3_way_24 (by decide) ?_
  refine xw_goto (tgt := 29) C dX3_way_25 (by decide) ?_
  exact xl_sub (xl_c rfl (xl_c rfl (xl_c rfl (xl_c rfl (xl_n xl_e))))) (kX3_way_29 C hR ht hr  hf)
def fX3_way (x1 : Int32) (x2 : Int32) (x3 : Int32) (M : xwM) : Option (Int32 × xwM) :=
  bni (fX3_isNode x1 M) fun v1 M2 =>
  if v1 = 0 then
    (fX3_way_24 x1 x2 x3 M2)
  else
    (bni (fX3_isNode x2 M2) fun v5 M6 =>
      if v5 = 0 then
        (fX3_way_24 x1 x2 x3 M6)
      else
        (if x3 < 0 then
            (fX3_way_24 x1 x2 x3 M6)
          else
            (if x3 ≤ 4 then
                (fX3_way_29 x1 x2 x3 0 M6)
              else
                (fX3_way_24 x1 x2 x3 M6))))
set_option maxHeartbeats 4000000 in
set_option maxRecDepth 100000 in
theorem kX3_way_0 {G : xwG} {ad : Nat → Nat} {cs : xmC} (C : xw_C G cX3_way 5 RX3 431 ad) (hR : xgR G = rX3_way) (ht : xgt G = xm_tys cs) (hr : (xgM G).sig.returnType = (some .int)) {M' : xwM} {o : Int32} {x1 : Int32} {x2 : Int32} {x3 : Int32} {M : xwM} (hf : fX3_way x1 x2 x3 M = some (o, M')) : XV G (xw_qi G 431 ad (xm_ce ad cs M') o) 5 0 0 ad cs M 0 [some (.ref (ad 418)), some (.int x1), some (.int x2), some (.int x3), none] [] := by
  unfold fX3_way at hf
  refine xw_aload_n C dX3_way_0 0 rfl rfl ?_
  refine xw_iload_n C dX3_way_1 1 rfl rfl ?_
  obtain ⟨r_v1, M_M2, g_3, hf⟩ := bni_s hf
  refine xc_Si C (mX3_isNode (xgl G) C.2.2.2.2.2.2.2.2.1 ht  g_3) FX3_isNode hw_543 (by rw [hR]; decide) (by rw [hR]; decide) rfl (Nat.le_of_ble_eq_true rfl) dX3_way_2 rfl ?_
  refine xw_if_eq (tgt := 24) C dX3_way_5 (by decide) (fun c_4 => ?_) (fun c_4 => ?_)
  · have hf := it_t hf c_4
    exact xl_sub (xl_c rfl (xl_c rfl (xl_c rfl (xl_c rfl (xl_n xl_e))))) (kX3_way_24 C hR ht hr  hf)
  · have hf := it_f hf c_4
    refine xw_iload_n C dX3_way_8 2 rfl rfl ?_
    obtain ⟨r_v5, M_M6, g_7, hf⟩ := bni_s hf
    refine xc_Si C (mX3_isNode (xgl G) C.2.2.2.2.2.2.2.2.1 ht  g_7) FX3_isNode hw_543 (by rw [hR]; decide) (by rw [hR]; decide) rfl (Nat.le_of_ble_eq_true rfl) dX3_way_9 rfl ?_
    refine xw_if_eq (tgt := 24) C dX3_way_12 (by decide) (fun c_8 => ?_) (fun c_8 => ?_)
    · have hf := it_t hf c_8
      exact xl_sub (xl_c rfl (xl_c rfl (xl_c rfl (xl_c rfl (xl_n xl_e))))) (kX3_way_24 C hR ht hr  hf)
    · have hf := it_f hf c_8
      refine xw_iload_n C dX3_way_15 3 rfl rfl ?_
      refine xw_if_lt (tgt := 24) C dX3_way_16 (by decide) (fun c_9 => ?_) (fun c_9 => ?_)
      · have hf := it_t hf c_9
        exact xl_sub (xl_c rfl (xl_c rfl (xl_c rfl (xl_c rfl (xl_n xl_e))))) (kX3_way_24 C hR ht hr  hf)
      · have hf := it_f hf c_9
        refine xw_iload_n C dX3_way_19 3 rfl rfl ?_
        refine xw_iconst (v := 4) C dX3_way_20 (by decide) ?_
        refine xw_icmp_le (tgt := 28) C dX3_way_21 (by decide) (fun c_10 => ?_) (fun c_10 => ?_)
        · have hf := it_t hf c_10
          refine xw_iconst (v := 0) C dX3_way_28 (by decide) ?_
          exact xl_sub (xl_c rfl (xl_c rfl (xl_c rfl (xl_c rfl (xl_n xl_e))))) (kX3_way_29 C hR ht hr  hf)
        · have hf := it_f hf c_10
          exact xl_sub (xl_c rfl (xl_c rfl (xl_c rfl (xl_c rfl (xl_n xl_e))))) (kX3_way_24 C hR ht hr  hf)
theorem mX3_way (l : Launch) {D : va_G} {tys : List (ClassId × FieldType)} {base : Nat} {ad : Nat → Nat} {cs : xmC} (hJ : xw_J 431 ad base) (ht : tys = xm_tys cs) {x1 : Int32} {x2 : Int32} {x3 : Int32} {M M' : xwM} {o : Int32} (hf : fX3_way x1 x2 x3 M = some (o, M')) : xk_i l yX3_way cX3_way 5 (some .int) rX3_way D tys base 431 ad [.ref (ad 418), .int x1, .int x2, .int x3] (xm_ce ad cs M) (xm_ce ad cs M') o :=
  xk_ofi 1 (by decide) hJ (List.forall_mem_cons.mpr ⟨rfl, List.forall_mem_cons.mpr ⟨rfl, List.forall_mem_cons.mpr ⟨rfl, List.forall_mem_cons.mpr ⟨rfl, List.forall_mem_nil _⟩⟩⟩⟩) (Nat.le_of_ble_eq_true rfl) (fun G e1 e2 e3 e4 e5 hr C => kX3_way_0 C e2 (e4.trans ht) hr  hf)

abbrev rX3_told : Room := { frames := 2, cells := 0, slots := 0, locals := 47 }
def fX3_told_141 (s0 : Int32) (M : xwM) : Option (Int32 × xwM) :=
  some (s0, M)
set_option maxHeartbeats 4000000 in
set_option maxRecDepth 100000 in
theorem kX3_told_141 {G : xwG} {ad : Nat → Nat} {cs : xmC} (C : xw_C G cX3_told 7 RX3 431 ad) (hR : xgR G = rX3_told) (ht : xgt G = xm_tys cs) (hr : (xgM G).sig.returnType = (some .int)) {M' : xwM} {o : Int32} {s0 : Int32} {M : xwM} (hf : fX3_told_141 s0 M = some (o, M')) : XV G (xw_qi G 431 ad (xm_ce ad cs M') o) 7 0 0 ad cs M 141 [none, none, none, none, none, none, none] [.int s0] := by
  unfold fX3_told_141 at hf
  cases hf
  exact xw_reti C hr dX3_told_141
def fX3_told_60 (x1 : Int32) (x2 : Int32) (x3 : Int32) (x4 : Int32) (s1 : Int32) (M : xwM) : Option (Int32 × xwM) :=
  bni (fX3_refuses s1 M) fun v18 M19 =>
  if v18 = 0 then
    (if x4 = 0 then
        (ld M19 427 1728 (((144 * x1) + (12 * x2)) + x3) fun v34 =>
          fX3_told_141 v34 M19)
      else
        (if x4 = 1 then
            (ld M19 428 1728 (((144 * x1) + (12 * x2)) + x3) fun v32 =>
              fX3_told_141 v32 M19)
          else
            (ld M19 427 1728 (((144 * x1) + (12 * x2)) + x3) fun v24 =>
              ld M19 428 1728 (((144 * x1) + (12 * x2)) + x3) fun v26 =>
              bni (fX3_isGood x1 x3 v24 v26 M19) fun v28 M29 =>
              if v28 = 0 then
                (fX3_told_141 0 M29)
              else
                (fX3_told_141 1 M29))))
  else
    (some (0, M19))
set_option maxHeartbeats 4000000 in
set_option maxRecDepth 100000 in
theorem kX3_told_60 {G : xwG} {ad : Nat → Nat} {cs : xmC} (C : xw_C G cX3_told 7 RX3 431 ad) (hR : xgR G = rX3_told) (ht : xgt G = xm_tys cs) (hr : (xgM G).sig.returnType = (some .int)) {M' : xwM} {o : Int32} {x1 : Int32} {x2 : Int32} {x3 : Int32} {x4 : Int32} {s1 : Int32} {M : xwM} (hf : fX3_told_60 x1 x2 x3 x4 s1 M = some (o, M')) : XV G (xw_qi G 431 ad (xm_ce ad cs M') o) 7 0 0 ad cs M 60 [some (.ref (ad 418)), some (.int x1), some (.int x2), some (.int x3), some (.int x4), none, none] [.int s1, .ref (ad 418)] := by
  unfold fX3_told_60 at hf
  obtain ⟨r_v18, M_M19, g_20, hf⟩ := bni_s hf
  refine xc_Vi C (mX3_refuses (xgl G) C.2.2.2.2.2.2.2.2.1 ht  g_20) FX3_refuses hw_546 (by decide) xs_M rfl (by rw [hR]; decide) (by rw [hR]; decide) rfl (Nat.le_of_ble_eq_true rfl) dX3_told_60 rfl ?_
  refine xw_if_eq (tgt := 68) C dX3_told_63 (by decide) (fun c_21 => ?_) (fun c_21 => ?_)
  · have hf := it_t hf c_21
    refine xw_sipush (v := 144) C dX3_told_68 (by decide) ?_
    refine xw_iload_n C dX3_told_71 1 rfl rfl ?_
    refine xw_imul C dX3_told_72 ?_
    refine xw_bipush (v := 12) C dX3_told_73 (by decide) ?_
    refine xw_iload_n C dX3_told_75 2 rfl rfl ?_
    refine xw_imul C dX3_told_76 ?_
    refine xw_iadd C dX3_told_77 ?_
    refine xw_iload_n C dX3_told_78 3 rfl rfl ?_
    refine xw_iadd C dX3_told_79 ?_
    refine xw_istore C dX3_told_80 (by decide) ?_
    refine xw_iload C dX3_told_82 rfl ?_
    refine xw_if_ne (tgt := 97) C dX3_told_84 (by decide) (fun c_22 => ?_) (fun c_22 => ?_)
    · have hf := it_f hf c_22
      refine xw_iload C dX3_told_97 rfl ?_
      refine xw_iconst (v := 1) C dX3_told_99 (by decide) ?_
      refine xw_icmp_ne (tgt := 113) C dX3_told_100 (by decide) (fun c_23 => ?_) (fun c_23 => ?_)
      · have hf := it_f hf c_23
        refine xw_aload_n C dX3_told_113 0 rfl rfl ?_
        refine xw_iload_n C dX3_told_114 1 rfl rfl ?_
        refine xw_iload_n C dX3_told_115 3 rfl rfl ?_
        refine xw_aload_n C dX3_told_116 0 rfl rfl ?_
        refine xv_getf C (by decide) xs_M rfl inB3 10 (by decide) hw_493 rfl dX3_told_117 ?_
        refine xw_iload C dX3_told_120 rfl ?_
        obtain ⟨i_25, hf⟩ := ld_s hf
        refine xv_iald C ht (by decide) ((fun _ => xs_427) _) i_25 dX3_told_122 ?_
        refine xw_aload_n C dX3_told_123 0 rfl rfl ?_
        refine xv_getf C (by decide) xs_M rfl inB3 11 (by decide) hw_494 rfl dX3_told_124 ?_
        refine xw_iload C dX3_told_127 rfl ?_
        obtain ⟨i_27, hf⟩ := ld_s hf
        refine xv_iald C ht (by decide) ((fun _ => xs_428) _) i_27 dX3_told_129 ?_
        obtain ⟨r_v28, M_M29, g_30, hf⟩ := bni_s hf
        refine xc_Vi C (mX3_isGood (xgl G) C.2.2.2.2.2.2.2.2.1 ht  g_30) FX3_isGood hw_578 (by decide) xs_M rfl (by rw [hR]; decide) (by rw [hR]; decide) rfl (Nat.le_of_ble_eq_true rfl) dX3_told_130 rfl ?_
        refine xw_if_eq (tgt := 140) C dX3_told_133 (by decide) (fun c_31 => ?_) (fun c_31 => ?_)
        · have hf := it_t hf c_31
          refine xw_iconst (v := 0) C dX3_told_140 (by decide) ?_
          exact xl_sub (xl_n (xl_n (xl_n (xl_n (xl_n (xl_n (xl_n xl_e))))))) (kX3_told_141 C hR ht hr  hf)
        · have hf := it_f hf c_31
          refine xw_iconst (v := 1) C dX3_told_136 (by decide) ?_
          refine xw_goto (tgt := 141) C dX3_told_137 (by decide) ?_
          exact xl_sub (xl_n (xl_n (xl_n (xl_n (xl_n (xl_n (xl_n xl_e))))))) (kX3_told_141 C hR ht hr  hf)
      · have hf := it_t hf c_23
        refine xw_aload_n C dX3_told_103 0 rfl rfl ?_
        refine xv_getf C (by decide) xs_M rfl inB3 11 (by decide) hw_494 rfl dX3_told_104 ?_
        refine xw_iload C dX3_told_107 rfl ?_
        obtain ⟨i_33, hf⟩ := ld_s hf
        refine xv_iald C ht (by decide) ((fun _ => xs_428) _) i_33 dX3_told_109 ?_
        refine xw_goto (tgt := 141) C dX3_told_110 (by decide) ?_
        exact xl_sub (xl_n (xl_n (xl_n (xl_n (xl_n (xl_n (xl_n xl_e))))))) (kX3_told_141 C hR ht hr  hf)
    · have hf := it_t hf c_22
      refine xw_aload_n C dX3_told_87 0 rfl rfl ?_
      refine xv_getf C (by decide) xs_M rfl inB3 10 (by decide) hw_493 rfl dX3_told_88 ?_
      refine xw_iload C dX3_told_91 rfl ?_
      obtain ⟨i_35, hf⟩ := ld_s hf
      refine xv_iald C ht (by decide) ((fun _ => xs_427) _) i_35 dX3_told_93 ?_
      refine xw_goto (tgt := 141) C dX3_told_94 (by decide) ?_
      exact xl_sub (xl_n (xl_n (xl_n (xl_n (xl_n (xl_n (xl_n xl_e))))))) (kX3_told_141 C hR ht hr  hf)
  · have hf := it_f hf c_21
    refine xw_iconst (v := 0) C dX3_told_66 (by decide) ?_
    cases hf
    exact xw_reti C hr dX3_told_67
def fX3_told_47 (x1 : Int32) (x2 : Int32) (x3 : Int32) (x4 : Int32) (s0 : Int32) (M : xwM) : Option (Int32 × xwM) :=
  if s0 = 0 then
    (fX3_told_60 x1 x2 x3 x4 1 M)
  else
    (fX3_told_60 x1 x2 x3 x4 0 M)
set_option maxHeartbeats 4000000 in
set_option maxRecDepth 100000 in
theorem kX3_told_47 {G : xwG} {ad : Nat → Nat} {cs : xmC} (C : xw_C G cX3_told 7 RX3 431 ad) (hR : xgR G = rX3_told) (ht : xgt G = xm_tys cs) (hr : (xgM G).sig.returnType = (some .int)) {M' : xwM} {o : Int32} {x1 : Int32} {x2 : Int32} {x3 : Int32} {x4 : Int32} {s0 : Int32} {M : xwM} (hf : fX3_told_47 x1 x2 x3 x4 s0 M = some (o, M')) : XV G (xw_qi G 431 ad (xm_ce ad cs M') o) 7 0 0 ad cs M 47 [some (.ref (ad 418)), some (.int x1), some (.int x2), some (.int x3), some (.int x4), none, none] [.int s0] := by
  unfold fX3_told_47 at hf
  refine xw_istore C dX3_told_47 (by decide) ?_
  refine xw_aload_n C dX3_told_49 0 rfl rfl ?_
  refine xw_iload C dX3_told_50 rfl ?_
  refine xw_if_eq (tgt := 59) C dX3_told_52 (by decide) (fun c_17 => ?_) (fun c_17 => ?_)
  · have hf := it_t hf c_17
    refine xw_iconst (v := 1) C dX3_told_59 (by decide) ?_
    exact xl_sub (xl_c rfl (xl_c rfl (xl_c rfl (xl_c rfl (xl_c rfl (xl_n (xl_n xl_e))))))) (kX3_told_60 C hR ht hr  hf)
  · have hf := it_f hf c_17
    refine xw_iconst (v := 0) C dX3_told_55 (by decide) ?_
    refine xw_goto (tgt := 60) C dX3_told_56 (by decide) ?_
    exact xl_sub (xl_c rfl (xl_c rfl (xl_c rfl (xl_c rfl (xl_c rfl (xl_n (xl_n xl_e))))))) (kX3_told_60 C hR ht hr  hf)
def fX3_told_46 (x1 : Int32) (x2 : Int32) (x3 : Int32) (x4 : Int32) (M : xwM) : Option (Int32 × xwM) :=
  fX3_told_47 x1 x2 x3 x4 0 M
set_option maxHeartbeats 4000000 in
set_option maxRecDepth 100000 in
theorem kX3_told_46 {G : xwG} {ad : Nat → Nat} {cs : xmC} (C : xw_C G cX3_told 7 RX3 431 ad) (hR : xgR G = rX3_told) (ht : xgt G = xm_tys cs) (hr : (xgM G).sig.returnType = (some .int)) {M' : xwM} {o : Int32} {x1 : Int32} {x2 : Int32} {x3 : Int32} {x4 : Int32} {M : xwM} (hf : fX3_told_46 x1 x2 x3 x4 M = some (o, M')) : XV G (xw_qi G 431 ad (xm_ce ad cs M') o) 7 0 0 ad cs M 46 [some (.ref (ad 418)), some (.int x1), some (.int x2), some (.int x3), some (.int x4), none, none] [] := by
  unfold fX3_told_46 at hf
  refine xw_iconst (v := 0) C dX3_told_46 (by decide) ?_
  exact xl_sub (xl_c rfl (xl_c rfl (xl_c rfl (xl_c rfl (xl_c rfl (xl_n (xl_n xl_e))))))) (kX3_told_47 C hR ht hr  hf)
def fX3_told (x1 : Int32) (x2 : Int32) (x3 : Int32) (x4 : Int32) (M : xwM) : Option (Int32 × xwM) :=
  bni (fX3_isNode x1 M) fun v1 M2 =>
  if v1 = 0 then
    (fX3_told_46 x1 x2 x3 x4 M2)
  else
    (bni (fX3_isNode x2 M2) fun v5 M6 =>
      if v5 = 0 then
        (fX3_told_46 x1 x2 x3 x4 M6)
      else
        (bni (fX3_isNode x3 M6) fun v9 M10 =>
          if v9 = 0 then
            (fX3_told_46 x1 x2 x3 x4 M10)
          else
            (if x1 = x2 then
                (fX3_told_46 x1 x2 x3 x4 M10)
              else
                (if x1 = x3 then
                    (fX3_told_46 x1 x2 x3 x4 M10)
                  else
                    (if x4 < 0 then
                        (fX3_told_46 x1 x2 x3 x4 M10)
                      else
                        (if 2 < x4 then
                            (fX3_told_46 x1 x2 x3 x4 M10)
                          else
                            (fX3_told_47 x1 x2 x3 x4 1 M10)))))))
set_option maxHeartbeats 4000000 in
set_option maxRecDepth 100000 in
theorem kX3_told_0 {G : xwG} {ad : Nat → Nat} {cs : xmC} (C : xw_C G cX3_told 7 RX3 431 ad) (hR : xgR G = rX3_told) (ht : xgt G = xm_tys cs) (hr : (xgM G).sig.returnType = (some .int)) {M' : xwM} {o : Int32} {x1 : Int32} {x2 : Int32} {x3 : Int32} {x4 : Int32} {M : xwM} (hf : fX3_told x1 x2 x3 x4 M = some (o, M')) : XV G (xw_qi G 431 ad (xm_ce ad cs M') o) 7 0 0 ad cs M 0 [some (.ref (ad 418)), some (.int x1), some (.int x2), some (.int x3), some (.int x4), none, none] [] := by
  unfold fX3_told at hf
  refine xw_iload_n C dX3_told_0 1 rfl rfl ?_
  obtain ⟨r_v1, M_M2, g_3, hf⟩ := bni_s hf
  refine xc_Si C (mX3_isNode (xgl G) C.2.2.2.2.2.2.2.2.1 ht  g_3) FX3_isNode hw_543 (by rw [hR]; decide) (by rw [hR]; decide) rfl (Nat.le_of_ble_eq_true rfl) dX3_told_1 rfl ?_
  refine xw_if_eq (tgt := 46) C dX3_told_4 (by decide) (fun c_4 => ?_) (fun c_4 => ?_)
  · have hf := it_t hf c_4
    exact xl_sub (xl_c rfl (xl_c rfl (xl_c rfl (xl_c rfl (xl_c rfl (xl_n (xl_n xl_e))))))) (kX3_told_46 C hR ht hr  hf)
  · have hf := it_f hf c_4
    refine xw_iload_n C dX3_told_7 2 rfl rfl ?_
    obtain ⟨r_v5, M_M6, g_7, hf⟩ := bni_s hf
    refine xc_Si C (mX3_isNode (xgl G) C.2.2.2.2.2.2.2.2.1 ht  g_7) FX3_isNode hw_543 (by rw [hR]; decide) (by rw [hR]; decide) rfl (Nat.le_of_ble_eq_true rfl) dX3_told_8 rfl ?_
    refine xw_if_eq (tgt := 46) C dX3_told_11 (by decide) (fun c_8 => ?_) (fun c_8 => ?_)
    · have hf := it_t hf c_8
      exact xl_sub (xl_c rfl (xl_c rfl (xl_c rfl (xl_c rfl (xl_c rfl (xl_n (xl_n xl_e))))))) (kX3_told_46 C hR ht hr  hf)
    · have hf := it_f hf c_8
      refine xw_iload_n C dX3_told_14 3 rfl rfl ?_
      obtain ⟨r_v9, M_M10, g_11, hf⟩ := bni_s hf
      refine xc_Si C (mX3_isNode (xgl G) C.2.2.2.2.2.2.2.2.1 ht  g_11) FX3_isNode hw_543 (by rw [hR]; decide) (by rw [hR]; decide) rfl (Nat.le_of_ble_eq_true rfl) dX3_told_15 rfl ?_
      refine xw_if_eq (tgt := 46) C dX3_told_18 (by decide) (fun c_12 => ?_) (fun c_12 => ?_)
      · have hf := it_t hf c_12
        exact xl_sub (xl_c rfl (xl_c rfl (xl_c rfl (xl_c rfl (xl_c rfl (xl_n (xl_n xl_e))))))) (kX3_told_46 C hR ht hr  hf)
      · have hf := it_f hf c_12
        refine xw_iload_n C dX3_told_21 1 rfl rfl ?_
        refine xw_iload_n C dX3_told_22 2 rfl rfl ?_
        refine xw_icmp_eq (tgt := 46) C dX3_told_23 (by decide) (fun c_13 => ?_) (fun c_13 => ?_)
        · have hf := it_t hf c_13
          exact xl_sub (xl_c rfl (xl_c rfl (xl_c rfl (xl_c rfl (xl_c rfl (xl_n (xl_n xl_e))))))) (kX3_told_46 C hR ht hr  hf)
        · have hf := it_f hf c_13
          refine xw_iload_n C dX3_told_26 1 rfl rfl ?_
          refine xw_iload_n C dX3_told_27 3 rfl rfl ?_
          refine xw_icmp_eq (tgt := 46) C dX3_told_28 (by decide) (fun c_14 => ?_) (fun c_14 => ?_)
          · have hf := it_t hf c_14
            exact xl_sub (xl_c rfl (xl_c rfl (xl_c rfl (xl_c rfl (xl_c rfl (xl_n (xl_n xl_e))))))) (kX3_told_46 C hR ht hr  hf)
          · have hf := it_f hf c_14
            refine xw_iload C dX3_told_31 rfl ?_
            refine xw_if_lt (tgt := 46) C dX3_told_33 (by decide) (fun c_15 => ?_) (fun c_15 => ?_)
            · have hf := it_t hf c_15
              exact xl_sub (xl_c rfl (xl_c rfl (xl_c rfl (xl_c rfl (xl_c rfl (xl_n (xl_n xl_e))))))) (kX3_told_46 C hR ht hr  hf)
            · have hf := it_f hf c_15
              refine xw_iload C dX3_told_36 rfl ?_
              refine xw_iconst (v := 2) C dX3_told_38 (by decide) ?_
              refine xw_icmp_gt (tgt := 46) C dX3_told_39 (by decide) (fun c_16 => ?_) (fun c_16 => ?_)
              · have hf := it_t hf c_16
                exact xl_sub (xl_c rfl (xl_c rfl (xl_c rfl (xl_c rfl (xl_c rfl (xl_n (xl_n xl_e))))))) (kX3_told_46 C hR ht hr  hf)
              · have hf := it_f hf c_16
                refine xw_iconst (v := 1) C dX3_told_42 (by decide) ?_
                refine xw_goto (tgt := 47) C dX3_told_43 (by decide) ?_
                exact xl_sub (xl_c rfl (xl_c rfl (xl_c rfl (xl_c rfl (xl_c rfl (xl_n (xl_n xl_e))))))) (kX3_told_47 C hR ht hr  hf)
theorem mX3_told (l : Launch) {D : va_G} {tys : List (ClassId × FieldType)} {base : Nat} {ad : Nat → Nat} {cs : xmC} (hJ : xw_J 431 ad base) (ht : tys = xm_tys cs) {x1 : Int32} {x2 : Int32} {x3 : Int32} {x4 : Int32} {M M' : xwM} {o : Int32} (hf : fX3_told x1 x2 x3 x4 M = some (o, M')) : xk_i l yX3_told cX3_told 7 (some .int) rX3_told D tys base 431 ad [.ref (ad 418), .int x1, .int x2, .int x3, .int x4] (xm_ce ad cs M) (xm_ce ad cs M') o :=
  xk_ofi 2 (by decide) hJ (List.forall_mem_cons.mpr ⟨rfl, List.forall_mem_cons.mpr ⟨rfl, List.forall_mem_cons.mpr ⟨rfl, List.forall_mem_cons.mpr ⟨rfl, List.forall_mem_cons.mpr ⟨rfl, List.forall_mem_nil _⟩⟩⟩⟩⟩) (Nat.le_of_ble_eq_true rfl) (fun G e1 e2 e3 e4 e5 hr C => kX3_told_0 C e2 (e4.trans ht) hr  hf)

abbrev rX3_trace : Room := { frames := 1, cells := 0, slots := 0, locals := 21 }
def fX3_trace_79 (s0 : Int32) (M : xwM) : Option (Int32 × xwM) :=
  some (s0, M)
set_option maxHeartbeats 4000000 in
set_option maxRecDepth 100000 in
theorem kX3_trace_79 {G : xwG} {ad : Nat → Nat} {cs : xmC} (C : xw_C G cX3_trace 5 RX3 431 ad) (hR : xgR G = rX3_trace) (ht : xgt G = xm_tys cs) (hr : (xgM G).sig.returnType = (some .int)) {M' : xwM} {o : Int32} {s0 : Int32} {M : xwM} (hf : fX3_trace_79 s0 M = some (o, M')) : XV G (xw_qi G 431 ad (xm_ce ad cs M') o) 5 0 0 ad cs M 79 [none, none, none, none, none] [.int s0] := by
  unfold fX3_trace_79 at hf
  cases hf
  exact xw_reti C hr dX3_trace_79
def fX3_trace_68 (x2 : Int32) (x3 : Int32) (x4 : Int32) (M : xwM) : Option (Int32 × xwM) :=
  if x3 = x2 then
    (fX3_trace_79 x4 M)
  else
    (fX3_trace_79 (-1) M)
set_option maxHeartbeats 4000000 in
set_option maxRecDepth 100000 in
theorem kX3_trace_68 {G : xwG} {ad : Nat → Nat} {cs : xmC} (C : xw_C G cX3_trace 5 RX3 431 ad) (hR : xgR G = rX3_trace) (ht : xgt G = xm_tys cs) (hr : (xgM G).sig.returnType = (some .int)) {M' : xwM} {o : Int32} {x2 : Int32} {x3 : Int32} {x4 : Int32} {M : xwM} (hf : fX3_trace_68 x2 x3 x4 M = some (o, M')) : XV G (xw_qi G 431 ad (xm_ce ad cs M') o) 5 0 0 ad cs M 68 [none, none, some (.int x2), some (.int x3), some (.int x4)] [] := by
  unfold fX3_trace_68 at hf
  refine xw_iload_n C dX3_trace_68 3 rfl rfl ?_
  refine xw_iload_n C dX3_trace_69 2 rfl rfl ?_
  refine xw_icmp_ne (tgt := 78) C dX3_trace_70 (by decide) (fun c_18 => ?_) (fun c_18 => ?_)
  · have hf := it_f hf c_18
    refine xw_iconst (v := -1) C dX3_trace_78 (by decide) ?_
    exact xl_sub (xl_n (xl_n (xl_n (xl_n (xl_n xl_e))))) (kX3_trace_79 C hR ht hr  hf)
  · have hf := it_t hf c_18
    refine xw_iload C dX3_trace_73 rfl ?_
    refine xw_goto (tgt := 79) C dX3_trace_75 (by decide) ?_
    exact xl_sub (xl_n (xl_n (xl_n (xl_n (xl_n xl_e))))) (kX3_trace_79 C hR ht hr  hf)
def fX3_trace_33 : Nat → Int32 → Int32 → Int32 →  xwM → Option (Int32 × xwM)
  | 0, _, _, _, _ => none
  | fu + 1, x2, x3, x4, M =>
  if x3 = x2 then
    (fX3_trace_68 x2 x3 x4 M)
  else
    (if x3 = (-1) then
        (fX3_trace_68 x2 x3 x4 M)
      else
        (if 20 ≤ x4 then
            (fX3_trace_68 x2 x3 x4 M)
          else
            (ld M 423 144 ((12 * x3) + x2) fun v16 =>
              fX3_trace_33 fu x2 v16 ((x4 + 1)) M)))
set_option maxHeartbeats 4000000 in
set_option maxRecDepth 100000 in
theorem kX3_trace_33 {G : xwG} {ad : Nat → Nat} {cs : xmC} (C : xw_C G cX3_trace 5 RX3 431 ad) (hR : xgR G = rX3_trace) (ht : xgt G = xm_tys cs) (hr : (xgM G).sig.returnType = (some .int)) {M' : xwM} {o : Int32} : ∀ (fu : Nat) (x2 : Int32) (x3 : Int32) (x4 : Int32) (M : xwM), fX3_trace_33 fu x2 x3 x4 M = some (o, M') → XV G (xw_qi G 431 ad (xm_ce ad cs M') o) 5 0 0 ad cs M 33 [some (.ref (ad 418)), none, some (.int x2), some (.int x3), some (.int x4)] [] := by
  intro fu
  induction fu with
  | zero =>
    intro x2 x3 x4 M  hf
    cases hf
  | succ fu ih =>
    intro x2 x3 x4 M  hf
    rw [fX3_trace_33] at hf
    refine xw_iload_n C dX3_trace_33 3 rfl rfl ?_
    refine xw_iload_n C dX3_trace_34 2 rfl rfl ?_
    refine xw_icmp_eq (tgt := 68) C dX3_trace_35 (by decide) (fun c_13 => ?_) (fun c_13 => ?_)
    · have hf := it_t hf c_13
      exact xl_sub (xl_n (xl_n (xl_c rfl (xl_c rfl (xl_c rfl xl_e))))) (kX3_trace_68 C hR ht hr  hf)
    · have hf := it_f hf c_13
      refine xw_iload_n C dX3_trace_38 3 rfl rfl ?_
      refine xw_iconst (v := -1) C dX3_trace_39 (by decide) ?_
      refine xw_icmp_eq (tgt := 68) C dX3_trace_40 (by decide) (fun c_14 => ?_) (fun c_14 => ?_)
      · have hf := it_t hf c_14
        exact xl_sub (xl_n (xl_n (xl_c rfl (xl_c rfl (xl_c rfl xl_e))))) (kX3_trace_68 C hR ht hr  hf)
      · have hf := it_f hf c_14
        refine xw_iload C dX3_trace_43 rfl ?_
        refine xw_bipush (v := 20) C dX3_trace_45 (by decide) ?_
        refine xw_icmp_ge (tgt := 68) C dX3_trace_47 (by decide) (fun c_15 => ?_) (fun c_15 => ?_)
        · have hf := it_t hf c_15
          exact xl_sub (xl_n (xl_n (xl_c rfl (xl_c rfl (xl_c rfl xl_e))))) (kX3_trace_68 C hR ht hr  hf)
        · have hf := it_f hf c_15
          refine xw_aload_n C dX3_trace_50 0 rfl rfl ?_
          refine xv_getf C (by decide) xs_M rfl inB3 6 (by decide) hw_489 rfl dX3_trace_51 ?_
          refine xw_bipush (v := 12) C dX3_trace_54 (by decide) ?_
          refine xw_iload_n C dX3_trace_56 3 rfl rfl ?_
          refine xw_imul C dX3_trace_57 ?_
          refine xw_iload_n C dX3_trace_58 2 rfl rfl ?_
          refine xw_iadd C dX3_trace_59 ?_
          obtain ⟨i_17, hf⟩ := ld_s hf
          refine xv_iald C ht (by decide) ((fun _ => xs_423) _) i_17 dX3_trace_60 ?_
          refine xw_istore_n C dX3_trace_61 3 rfl (by decide) ?_
          refine xw_iinc C dX3_trace_62 rfl (show _ + Int32.ofInt (1) = _ + (1) from congrArg _ (by decide)) (by decide) ?_
          refine xw_goto (tgt := 33) C dX3_trace_65 (by decide) ?_
          exact xl_sub (xl_c rfl (xl_n (xl_c rfl (xl_c rfl (xl_c rfl xl_e))))) (ih _ _ _ _ hf)
def fX3_trace_20 (x1 : Int32) (x2 : Int32) (s1 : Int32) (M : xwM) : Option (Int32 × xwM) :=
  bni (fX3_refuses s1 M) fun v9 M10 =>
  if v9 = 0 then
    (fX3_trace_33 2001 x2 x1 0 M10)
  else
    (some (0, M10))
set_option maxHeartbeats 4000000 in
set_option maxRecDepth 100000 in
theorem kX3_trace_20 {G : xwG} {ad : Nat → Nat} {cs : xmC} (C : xw_C G cX3_trace 5 RX3 431 ad) (hR : xgR G = rX3_trace) (ht : xgt G = xm_tys cs) (hr : (xgM G).sig.returnType = (some .int)) {M' : xwM} {o : Int32} {x1 : Int32} {x2 : Int32} {s1 : Int32} {M : xwM} (hf : fX3_trace_20 x1 x2 s1 M = some (o, M')) : XV G (xw_qi G 431 ad (xm_ce ad cs M') o) 5 0 0 ad cs M 20 [some (.ref (ad 418)), some (.int x1), some (.int x2), none, none] [.int s1, .ref (ad 418)] := by
  unfold fX3_trace_20 at hf
  obtain ⟨r_v9, M_M10, g_11, hf⟩ := bni_s hf
  refine xc_Vi C (mX3_refuses (xgl G) C.2.2.2.2.2.2.2.2.1 ht  g_11) FX3_refuses hw_546 (by decide) xs_M rfl (by rw [hR]; decide) (by rw [hR]; decide) rfl (Nat.le_of_ble_eq_true rfl) dX3_trace_20 rfl ?_
  refine xw_if_eq (tgt := 28) C dX3_trace_23 (by decide) (fun c_12 => ?_) (fun c_12 => ?_)
  · have hf := it_t hf c_12
    refine xw_iload_n C dX3_trace_28 1 rfl rfl ?_
    refine xw_istore_n C dX3_trace_29 3 rfl (by decide) ?_
    refine xw_iconst (v := 0) C dX3_trace_30 (by decide) ?_
    refine xw_istore C dX3_trace_31 (by decide) ?_
    exact xl_sub (xl_c rfl (xl_n (xl_c rfl (xl_c rfl (xl_c rfl xl_e))))) (kX3_trace_33 C hR ht hr 2001 _ _ _ _ hf)
  · have hf := it_f hf c_12
    refine xw_iconst (v := 0) C dX3_trace_26 (by decide) ?_
    cases hf
    exact xw_reti C hr dX3_trace_27
def fX3_trace_15 (x1 : Int32) (x2 : Int32) (M : xwM) : Option (Int32 × xwM) :=
  fX3_trace_20 x1 x2 1 M
set_option maxHeartbeats 4000000 in
set_option maxRecDepth 100000 in
theorem kX3_trace_15 {G : xwG} {ad : Nat → Nat} {cs : xmC} (C : xw_C G cX3_trace 5 RX3 431 ad) (hR : xgR G = rX3_trace) (ht : xgt G = xm_tys cs) (hr : (xgM G).sig.returnType = (some .int)) {M' : xwM} {o : Int32} {x1 : Int32} {x2 : Int32} {M : xwM} (hf : fX3_trace_15 x1 x2 M = some (o, M')) : XV G (xw_qi G 431 ad (xm_ce ad cs M') o) 5 0 0 ad cs M 15 [some (.ref (ad 418)), some (.int x1), some (.int x2), none, none] [.ref (ad 418)] := by
  unfold fX3_trace_15 at hf
  refine xw_iconst (v := 1) C dX3_trace_15 (by decide) ?_
  refine xw_goto (tgt := 20) C dX3_trace_16 (by decide) ?_
  exact xl_sub (xl_c rfl (xl_c rfl (xl_c rfl (xl_n (xl_n xl_e))))) (kX3_trace_20 C hR ht hr  hf)
def fX3_trace (x1 : Int32) (x2 : Int32) (M : xwM) : Option (Int32 × xwM) :=
  bni (fX3_isNode x1 M) fun v1 M2 =>
  if v1 = 0 then
    (fX3_trace_15 x1 x2 M2)
  else
    (bni (fX3_isNode x2 M2) fun v5 M6 =>
      if v5 = 0 then
        (fX3_trace_15 x1 x2 M6)
      else
        (fX3_trace_20 x1 x2 0 M6))
set_option maxHeartbeats 4000000 in
set_option maxRecDepth 100000 in
theorem kX3_trace_0 {G : xwG} {ad : Nat → Nat} {cs : xmC} (C : xw_C G cX3_trace 5 RX3 431 ad) (hR : xgR G = rX3_trace) (ht : xgt G = xm_tys cs) (hr : (xgM G).sig.returnType = (some .int)) {M' : xwM} {o : Int32} {x1 : Int32} {x2 : Int32} {M : xwM} (hf : fX3_trace x1 x2 M = some (o, M')) : XV G (xw_qi G 431 ad (xm_ce ad cs M') o) 5 0 0 ad cs M 0 [some (.ref (ad 418)), some (.int x1), some (.int x2), none, none] [] := by
  unfold fX3_trace at hf
  refine xw_aload_n C dX3_trace_0 0 rfl rfl ?_
  refine xw_iload_n C dX3_trace_1 1 rfl rfl ?_
  obtain ⟨r_v1, M_M2, g_3, hf⟩ := bni_s hf
  refine xc_Si C (mX3_isNode (xgl G) C.2.2.2.2.2.2.2.2.1 ht  g_3) FX3_isNode hw_543 (by rw [hR]; decide) (by rw [hR]; decide) rfl (Nat.le_of_ble_eq_true rfl) dX3_trace_2 rfl ?_
  refine xw_if_eq (tgt := 15) C dX3_trace_5 (by decide) (fun c_4 => ?_) (fun c_4 => ?_)
  · have hf := it_t hf c_4
    exact xl_sub (xl_c rfl (xl_c rfl (xl_c rfl (xl_n (xl_n xl_e))))) (kX3_trace_15 C hR ht hr  hf)
  · have hf := it_f hf c_4
    refine xw_iload_n C dX3_trace_8 2 rfl rfl ?_
    obtain ⟨r_v5, M_M6, g_7, hf⟩ := bni_s hf
    refine xc_Si C (mX3_isNode (xgl G) C.2.2.2.2.2.2.2.2.1 ht  g_7) FX3_isNode hw_543 (by rw [hR]; decide) (by rw [hR]; decide) rfl (Nat.le_of_ble_eq_true rfl) dX3_trace_9 rfl ?_
    refine xw_if_ne (tgt := 19) C dX3_trace_12 (by decide) (fun c_8 => ?_) (fun c_8 => ?_)
    · have hf := it_f hf c_8
      refine xw_iconst (v := 0) C dX3_trace_19 (by decide) ?_
      exact xl_sub (xl_c rfl (xl_c rfl (xl_c rfl (xl_n (xl_n xl_e))))) (kX3_trace_20 C hR ht hr  hf)
    · have hf := it_t hf c_8
      exact xl_sub (xl_c rfl (xl_c rfl (xl_c rfl (xl_n (xl_n xl_e))))) (kX3_trace_15 C hR ht hr  hf)
theorem mX3_trace (l : Launch) {D : va_G} {tys : List (ClassId × FieldType)} {base : Nat} {ad : Nat → Nat} {cs : xmC} (hJ : xw_J 431 ad base) (ht : tys = xm_tys cs) {x1 : Int32} {x2 : Int32} {M M' : xwM} {o : Int32} (hf : fX3_trace x1 x2 M = some (o, M')) : xk_i l yX3_trace cX3_trace 5 (some .int) rX3_trace D tys base 431 ad [.ref (ad 418), .int x1, .int x2] (xm_ce ad cs M) (xm_ce ad cs M') o :=
  xk_ofi 2 (by decide) hJ (List.forall_mem_cons.mpr ⟨rfl, List.forall_mem_cons.mpr ⟨rfl, List.forall_mem_cons.mpr ⟨rfl, List.forall_mem_nil _⟩⟩⟩) (Nat.le_of_ble_eq_true rfl) (fun G e1 e2 e3 e4 e5 hr C => kX3_trace_0 C e2 (e4.trans ht) hr  hf)

abbrev rX3_cost : Room := { frames := 1, cells := 0, slots := 0, locals := 21 }
def fX3_cost_46 (s0 : Int32) (M : xwM) : Option (Int32 × xwM) :=
  some (s0, M)
set_option maxHeartbeats 4000000 in
set_option maxRecDepth 100000 in
theorem kX3_cost_46 {G : xwG} {ad : Nat → Nat} {cs : xmC} (C : xw_C G cX3_cost 3 RX3 431 ad) (hR : xgR G = rX3_cost) (ht : xgt G = xm_tys cs) (hr : (xgM G).sig.returnType = (some .int)) {M' : xwM} {o : Int32} {s0 : Int32} {M : xwM} (hf : fX3_cost_46 s0 M = some (o, M')) : XV G (xw_qi G 431 ad (xm_ce ad cs M') o) 3 0 0 ad cs M 46 [none, none, none] [.int s0] := by
  unfold fX3_cost_46 at hf
  cases hf
  exact xw_reti C hr dX3_cost_46
def fX3_cost_25 (x1 : Int32) (x2 : Int32) (s1 : Int32) (M : xwM) : Option (Int32 × xwM) :=
  bni (fX3_refuses s1 M) fun v10 M11 =>
  if v10 = 0 then
    (ld M11 419 144 ((12 * x1) + x2) fun v14 =>
      fX3_cost_46 v14 M11)
  else
    (fX3_cost_46 0 M11)
set_option maxHeartbeats 4000000 in
set_option maxRecDepth 100000 in
theorem kX3_cost_25 {G : xwG} {ad : Nat → Nat} {cs : xmC} (C : xw_C G cX3_cost 3 RX3 431 ad) (hR : xgR G = rX3_cost) (ht : xgt G = xm_tys cs) (hr : (xgM G).sig.returnType = (some .int)) {M' : xwM} {o : Int32} {x1 : Int32} {x2 : Int32} {s1 : Int32} {M : xwM} (hf : fX3_cost_25 x1 x2 s1 M = some (o, M')) : XV G (xw_qi G 431 ad (xm_ce ad cs M') o) 3 0 0 ad cs M 25 [some (.ref (ad 418)), some (.int x1), some (.int x2)] [.int s1, .ref (ad 418)] := by
  unfold fX3_cost_25 at hf
  obtain ⟨r_v10, M_M11, g_12, hf⟩ := bni_s hf
  refine xc_Vi C (mX3_refuses (xgl G) C.2.2.2.2.2.2.2.2.1 ht  g_12) FX3_refuses hw_546 (by decide) xs_M rfl (by rw [hR]; decide) (by rw [hR]; decide) rfl (Nat.le_of_ble_eq_true rfl) dX3_cost_25 rfl ?_
  refine xw_if_eq (tgt := 35) C dX3_cost_28 (by decide) (fun c_13 => ?_) (fun c_13 => ?_)
  · have hf := it_t hf c_13
    refine xw_aload_n C dX3_cost_35 0 rfl rfl ?_
    refine xv_getf C (by decide) xs_M rfl inB3 1 (by decide) hw_484 rfl dX3_cost_36 ?_
    refine xw_bipush (v := 12) C dX3_cost_39 (by decide) ?_
    refine xw_iload_n C dX3_cost_41 1 rfl rfl ?_
    refine xw_imul C dX3_cost_42 ?_
    refine xw_iload_n C dX3_cost_43 2 rfl rfl ?_
    refine xw_iadd C dX3_cost_44 ?_
    obtain ⟨i_15, hf⟩ := ld_s hf
    refine xv_iald C ht (by decide) ((fun _ => xs_419) _) i_15 dX3_cost_45 ?_
    exact xl_sub (xl_n (xl_n (xl_n xl_e))) (kX3_cost_46 C hR ht hr  hf)
  · have hf := it_f hf c_13
    refine xw_iconst (v := 0) C dX3_cost_31 (by decide) ?_
    refine xw_goto (tgt := 46) C dX3_cost_32 (by decide) ?_
    exact xl_sub (xl_n (xl_n (xl_n xl_e))) (kX3_cost_46 C hR ht hr  hf)
def fX3_cost_20 (x1 : Int32) (x2 : Int32) (M : xwM) : Option (Int32 × xwM) :=
  fX3_cost_25 x1 x2 1 M
set_option maxHeartbeats 4000000 in
set_option maxRecDepth 100000 in
theorem kX3_cost_20 {G : xwG} {ad : Nat → Nat} {cs : xmC} (C : xw_C G cX3_cost 3 RX3 431 ad) (hR : xgR G = rX3_cost) (ht : xgt G = xm_tys cs) (hr : (xgM G).sig.returnType = (some .int)) {M' : xwM} {o : Int32} {x1 : Int32} {x2 : Int32} {M : xwM} (hf : fX3_cost_20 x1 x2 M = some (o, M')) : XV G (xw_qi G 431 ad (xm_ce ad cs M') o) 3 0 0 ad cs M 20 [some (.ref (ad 418)), some (.int x1), some (.int x2)] [.ref (ad 418)] := by
  unfold fX3_cost_20 at hf
  refine xw_iconst (v := 1) C dX3_cost_20 (by decide) ?_
  refine xw_goto (tgt := 25) C dX3_cost_21 (by decide) ?_
  exact xl_sub (xl_c rfl (xl_c rfl (xl_c rfl xl_e))) (kX3_cost_25 C hR ht hr  hf)
def fX3_cost (x1 : Int32) (x2 : Int32) (M : xwM) : Option (Int32 × xwM) :=
  bni (fX3_isNode x1 M) fun v1 M2 =>
  if v1 = 0 then
    (fX3_cost_20 x1 x2 M2)
  else
    (bni (fX3_isNode x2 M2) fun v5 M6 =>
      if v5 = 0 then
        (fX3_cost_20 x1 x2 M6)
      else
        (if x1 = x2 then
            (fX3_cost_20 x1 x2 M6)
          else
            (fX3_cost_25 x1 x2 0 M6)))
set_option maxHeartbeats 4000000 in
set_option maxRecDepth 100000 in
theorem kX3_cost_0 {G : xwG} {ad : Nat → Nat} {cs : xmC} (C : xw_C G cX3_cost 3 RX3 431 ad) (hR : xgR G = rX3_cost) (ht : xgt G = xm_tys cs) (hr : (xgM G).sig.returnType = (some .int)) {M' : xwM} {o : Int32} {x1 : Int32} {x2 : Int32} {M : xwM} (hf : fX3_cost x1 x2 M = some (o, M')) : XV G (xw_qi G 431 ad (xm_ce ad cs M') o) 3 0 0 ad cs M 0 [some (.ref (ad 418)), some (.int x1), some (.int x2)] [] := by
  unfold fX3_cost at hf
  refine xw_aload_n C dX3_cost_0 0 rfl rfl ?_
  refine xw_iload_n C dX3_cost_1 1 rfl rfl ?_
  obtain ⟨r_v1, M_M2, g_3, hf⟩ := bni_s hf
  refine xc_Si C (mX3_isNode (xgl G) C.2.2.2.2.2.2.2.2.1 ht  g_3) FX3_isNode hw_543 (by rw [hR]; decide) (by rw [hR]; decide) rfl (Nat.le_of_ble_eq_true rfl) dX3_cost_2 rfl ?_
  refine xw_if_eq (tgt := 20) C dX3_cost_5 (by decide) (fun c_4 => ?_) (fun c_4 => ?_)
  · have hf := it_t hf c_4
    exact xl_sub (xl_c rfl (xl_c rfl (xl_c rfl xl_e))) (kX3_cost_20 C hR ht hr  hf)
  · have hf := it_f hf c_4
    refine xw_iload_n C dX3_cost_8 2 rfl rfl ?_
    obtain ⟨r_v5, M_M6, g_7, hf⟩ := bni_s hf
    refine xc_Si C (mX3_isNode (xgl G) C.2.2.2.2.2.2.2.2.1 ht  g_7) FX3_isNode hw_543 (by rw [hR]; decide) (by rw [hR]; decide) rfl (Nat.le_of_ble_eq_true rfl) dX3_cost_9 rfl ?_
    refine xw_if_eq (tgt := 20) C dX3_cost_12 (by decide) (fun c_8 => ?_) (fun c_8 => ?_)
    · have hf := it_t hf c_8
      exact xl_sub (xl_c rfl (xl_c rfl (xl_c rfl xl_e))) (kX3_cost_20 C hR ht hr  hf)
    · have hf := it_f hf c_8
      refine xw_iload_n C dX3_cost_15 1 rfl rfl ?_
      refine xw_iload_n C dX3_cost_16 2 rfl rfl ?_
      refine xw_icmp_ne (tgt := 24) C dX3_cost_17 (by decide) (fun c_9 => ?_) (fun c_9 => ?_)
      · have hf := it_f hf c_9
        refine xw_iconst (v := 0) C dX3_cost_24 (by decide) ?_
        exact xl_sub (xl_c rfl (xl_c rfl (xl_c rfl xl_e))) (kX3_cost_25 C hR ht hr  hf)
      · have hf := it_t hf c_9
        exact xl_sub (xl_c rfl (xl_c rfl (xl_c rfl xl_e))) (kX3_cost_20 C hR ht hr  hf)
theorem mX3_cost (l : Launch) {D : va_G} {tys : List (ClassId × FieldType)} {base : Nat} {ad : Nat → Nat} {cs : xmC} (hJ : xw_J 431 ad base) (ht : tys = xm_tys cs) {x1 : Int32} {x2 : Int32} {M M' : xwM} {o : Int32} (hf : fX3_cost x1 x2 M = some (o, M')) : xk_i l yX3_cost cX3_cost 3 (some .int) rX3_cost D tys base 431 ad [.ref (ad 418), .int x1, .int x2] (xm_ce ad cs M) (xm_ce ad cs M') o :=
  xk_ofi 0 (by decide) hJ (List.forall_mem_cons.mpr ⟨rfl, List.forall_mem_cons.mpr ⟨rfl, List.forall_mem_cons.mpr ⟨rfl, List.forall_mem_nil _⟩⟩⟩) (Nat.le_of_ble_eq_true rfl) (fun G e1 e2 e3 e4 e5 hr C => kX3_cost_0 C e2 (e4.trans ht) hr  hf)

abbrev rX3_total : Room := { frames := 1, cells := 0, slots := 0, locals := 21 }
def fX3_total_74 (s0 : Int32) (M : xwM) : Option (Int32 × xwM) :=
  some (s0, M)
set_option maxHeartbeats 4000000 in
set_option maxRecDepth 100000 in
theorem kX3_total_74 {G : xwG} {ad : Nat → Nat} {cs : xmC} (C : xw_C G cX3_total 2 RX3 431 ad) (hR : xgR G = rX3_total) (ht : xgt G = xm_tys cs) (hr : (xgM G).sig.returnType = (some .int)) {M' : xwM} {o : Int32} {s0 : Int32} {M : xwM} (hf : fX3_total_74 s0 M = some (o, M')) : XV G (xw_qi G 431 ad (xm_ce ad cs M') o) 2 0 0 ad cs M 74 [none, none] [.int s0] := by
  unfold fX3_total_74 at hf
  cases hf
  exact xw_reti C hr dX3_total_74
def fX3_total_15 (x1 : Int32) (s1 : Int32) (M : xwM) : Option (Int32 × xwM) :=
  bni (fX3_refuses s1 M) fun v3 M4 =>
  if v3 = 0 then
    (if x1 = 0 then
        (fX3_total_74 ((M4 418 13)) M4)
      else
        (if x1 = 1 then
            (fX3_total_74 ((M4 418 14)) M4)
          else
            (if x1 = 2 then
                (fX3_total_74 ((M4 418 15)) M4)
              else
                (if x1 = 3 then
                    (fX3_total_74 ((M4 418 16)) M4)
                  else
                    (fX3_total_74 ((M4 418 2)) M4)))))
  else
    (some (0, M4))
set_option maxHeartbeats 4000000 in
set_option maxRecDepth 100000 in
theorem kX3_total_15 {G : xwG} {ad : Nat → Nat} {cs : xmC} (C : xw_C G cX3_total 2 RX3 431 ad) (hR : xgR G = rX3_total) (ht : xgt G = xm_tys cs) (hr : (xgM G).sig.returnType = (some .int)) {M' : xwM} {o : Int32} {x1 : Int32} {s1 : Int32} {M : xwM} (hf : fX3_total_15 x1 s1 M = some (o, M')) : XV G (xw_qi G 431 ad (xm_ce ad cs M') o) 2 0 0 ad cs M 15 [some (.ref (ad 418)), some (.int x1)] [.int s1, .ref (ad 418)] := by
  unfold fX3_total_15 at hf
  obtain ⟨r_v3, M_M4, g_5, hf⟩ := bni_s hf
  refine xc_Vi C (mX3_refuses (xgl G) C.2.2.2.2.2.2.2.2.1 ht  g_5) FX3_refuses hw_546 (by decide) xs_M rfl (by rw [hR]; decide) (by rw [hR]; decide) rfl (Nat.le_of_ble_eq_true rfl) dX3_total_15 rfl ?_
  refine xw_if_eq (tgt := 23) C dX3_total_18 (by decide) (fun c_6 => ?_) (fun c_6 => ?_)
  · have hf := it_t hf c_6
    refine xw_iload_n C dX3_total_23 1 rfl rfl ?_
    refine xw_if_ne (tgt := 34) C dX3_total_24 (by decide) (fun c_7 => ?_) (fun c_7 => ?_)
    · have hf := it_f hf c_7
      refine xw_iload_n C dX3_total_34 1 rfl rfl ?_
      refine xw_iconst (v := 1) C dX3_total_35 (by decide) ?_
      refine xw_icmp_ne (tgt := 46) C dX3_total_36 (by decide) (fun c_8 => ?_) (fun c_8 => ?_)
      · have hf := it_f hf c_8
        refine xw_iload_n C dX3_total_46 1 rfl rfl ?_
        refine xw_iconst (v := 2) C dX3_total_47 (by decide) ?_
        refine xw_icmp_ne (tgt := 58) C dX3_total_48 (by decide) (fun c_9 => ?_) (fun c_9 => ?_)
        · have hf := it_f hf c_9
          refine xw_iload_n C dX3_total_58 1 rfl rfl ?_
          refine xw_iconst (v := 3) C dX3_total_59 (by decide) ?_
          refine xw_icmp_ne (tgt := 70) C dX3_total_60 (by decide) (fun c_10 => ?_) (fun c_10 => ?_)
          · have hf := it_f hf c_10
            refine xw_aload_n C dX3_total_70 0 rfl rfl ?_
            refine xv_getf C (by decide) xs_M rfl inB3 2 (by decide) hw_485 rfl dX3_total_71 ?_
            exact xl_sub (xl_n (xl_n xl_e)) (kX3_total_74 C hR ht hr  hf)
          · have hf := it_t hf c_10
            refine xw_aload_n C dX3_total_63 0 rfl rfl ?_
            refine xv_getf C (by decide) xs_M rfl inB3 16 (by decide) hw_499 rfl dX3_total_64 ?_
            refine xw_goto (tgt := 74) C dX3_total_67 (by decide) ?_
            exact xl_sub (xl_n (xl_n xl_e)) (kX3_total_74 C hR ht hr  hf)
        · have hf := it_t hf c_9
          refine xw_aload_n C dX3_total_51 0 rfl rfl ?_
          refine xv_getf C (by decide) xs_M rfl inB3 15 (by decide) hw_498 rfl dX3_total_52 ?_
          refine xw_goto (tgt := 74) C dX3_total_55 (by decide) ?_
          exact xl_sub (xl_n (xl_n xl_e)) (kX3_total_74 C hR ht hr  hf)
      · have hf := it_t hf c_8
        refine xw_aload_n C dX3_total_39 0 rfl rfl ?_
        refine xv_getf C (by decide) xs_M rfl inB3 14 (by decide) hw_497 rfl dX3_total_40 ?_
        refine xw_goto (tgt := 74) C dX3_total_43 (by decide) ?_
        exact xl_sub (xl_n (xl_n xl_e)) (kX3_total_74 C hR ht hr  hf)
    · have hf := it_t hf c_7
      refine xw_aload_n C dX3_total_27 0 rfl rfl ?_
      refine xv_getf C (by decide) xs_M rfl inB3 13 (by decide) hw_496 rfl dX3_total_28 ?_
      refine xw_goto (tgt := 74) C dX3_total_31 (by decide) ?_
      exact xl_sub (xl_n (xl_n xl_e)) (kX3_total_74 C hR ht hr  hf)
  · have hf := it_f hf c_6
    refine xw_iconst (v := 0) C dX3_total_21 (by decide) ?_
    cases hf
    exact xw_reti C hr dX3_total_22
def fX3_total_10 (x1 : Int32) (M : xwM) : Option (Int32 × xwM) :=
  fX3_total_15 x1 1 M
set_option maxHeartbeats 4000000 in
set_option maxRecDepth 100000 in
theorem kX3_total_10 {G : xwG} {ad : Nat → Nat} {cs : xmC} (C : xw_C G cX3_total 2 RX3 431 ad) (hR : xgR G = rX3_total) (ht : xgt G = xm_tys cs) (hr : (xgM G).sig.returnType = (some .int)) {M' : xwM} {o : Int32} {x1 : Int32} {M : xwM} (hf : fX3_total_10 x1 M = some (o, M')) : XV G (xw_qi G 431 ad (xm_ce ad cs M') o) 2 0 0 ad cs M 10 [some (.ref (ad 418)), some (.int x1)] [.ref (ad 418)] := by
  unfold fX3_total_10 at hf
  refine xw_iconst (v := 1) C dX3_total_10 (by decide) ?_
  refine xw_goto (tgt := 15) C dX3_total_11 (by decide) ?_
  exact xl_sub (xl_c rfl (xl_c rfl xl_e)) (kX3_total_15 C hR ht hr  hf)
def fX3_total (x1 : Int32) (M : xwM) : Option (Int32 × xwM) :=
  if x1 < 0 then
    (fX3_total_10 x1 M)
  else
    (if x1 ≤ 4 then
        (fX3_total_15 x1 0 M)
      else
        (fX3_total_10 x1 M))
set_option maxHeartbeats 4000000 in
set_option maxRecDepth 100000 in
theorem kX3_total_0 {G : xwG} {ad : Nat → Nat} {cs : xmC} (C : xw_C G cX3_total 2 RX3 431 ad) (hR : xgR G = rX3_total) (ht : xgt G = xm_tys cs) (hr : (xgM G).sig.returnType = (some .int)) {M' : xwM} {o : Int32} {x1 : Int32} {M : xwM} (hf : fX3_total x1 M = some (o, M')) : XV G (xw_qi G 431 ad (xm_ce ad cs M') o) 2 0 0 ad cs M 0 [some (.ref (ad 418)), some (.int x1)] [] := by
  unfold fX3_total at hf
  refine xw_aload_n C dX3_total_0 0 rfl rfl ?_
  refine xw_iload_n C dX3_total_1 1 rfl rfl ?_
  refine xw_if_lt (tgt := 10) C dX3_total_2 (by decide) (fun c_1 => ?_) (fun c_1 => ?_)
  · have hf := it_t hf c_1
    exact xl_sub (xl_c rfl (xl_c rfl xl_e)) (kX3_total_10 C hR ht hr  hf)
  · have hf := it_f hf c_1
    refine xw_iload_n C dX3_total_5 1 rfl rfl ?_
    refine xw_iconst (v := 4) C dX3_total_6 (by decide) ?_
    refine xw_icmp_le (tgt := 14) C dX3_total_7 (by decide) (fun c_2 => ?_) (fun c_2 => ?_)
    · have hf := it_t hf c_2
      refine xw_iconst (v := 0) C dX3_total_14 (by decide) ?_
      exact xl_sub (xl_c rfl (xl_c rfl xl_e)) (kX3_total_15 C hR ht hr  hf)
    · have hf := it_f hf c_2
      exact xl_sub (xl_c rfl (xl_c rfl xl_e)) (kX3_total_10 C hR ht hr  hf)
theorem mX3_total (l : Launch) {D : va_G} {tys : List (ClassId × FieldType)} {base : Nat} {ad : Nat → Nat} {cs : xmC} (hJ : xw_J 431 ad base) (ht : tys = xm_tys cs) {x1 : Int32} {M M' : xwM} {o : Int32} (hf : fX3_total x1 M = some (o, M')) : xk_i l yX3_total cX3_total 2 (some .int) rX3_total D tys base 431 ad [.ref (ad 418), .int x1] (xm_ce ad cs M) (xm_ce ad cs M') o :=
  xk_ofi 0 (by decide) hJ (List.forall_mem_cons.mpr ⟨rfl, List.forall_mem_cons.mpr ⟨rfl, List.forall_mem_nil _⟩⟩) (Nat.le_of_ble_eq_true rfl) (fun G e1 e2 e3 e4 e5 hr C => kX3_total_0 C e2 (e4.trans ht) hr  hf)
