abbrev rX0_placeOf : Room := { frames := 0, cells := 0, slots := 0, locals := 0 }
def fX0_placeOf_23 (s0 : Int32) (M : xwM) : Option (Int32 × xwM) :=
  some (s0, M)
set_option maxHeartbeats 4000000 in
set_option maxRecDepth 100000 in
theorem kX0_placeOf_23 {G : xwG} {ad : Nat → Nat} {cs : xmC} (C : xw_C G cX0_placeOf 3 RX0 431 ad) (hR : xgR G = rX0_placeOf) (ht : xgt G = xm_tys cs) (hr : (xgM G).sig.returnType = (some .int)) {M' : xwM} {o : Int32} {s0 : Int32} {M : xwM} (hf : fX0_placeOf_23 s0 M = some (o, M')) : XV G (xw_qi G 431 ad (xm_ce ad cs M') o) 3 0 0 ad cs M 23 [none, none, none] [.int s0] := by
  unfold fX0_placeOf_23 at hf
  cases hf
  exact xw_reti C hr dX0_placeOf_23
def fX0_placeOf (x1 : Int32) (M : xwM) : Option (Int32 × xwM) :=
  if ((M 410 1) + x1) < 300 then
    (fX0_placeOf_23 (((M 410 1) + x1)) M)
  else
    (fX0_placeOf_23 ((((M 410 1) + x1) - 300)) M)
set_option maxHeartbeats 4000000 in
set_option maxRecDepth 100000 in
theorem kX0_placeOf_0 {G : xwG} {ad : Nat → Nat} {cs : xmC} (C : xw_C G cX0_placeOf 3 RX0 431 ad) (hR : xgR G = rX0_placeOf) (ht : xgt G = xm_tys cs) (hr : (xgM G).sig.returnType = (some .int)) {M' : xwM} {o : Int32} {x1 : Int32} {M : xwM} (hf : fX0_placeOf x1 M = some (o, M')) : XV G (xw_qi G 431 ad (xm_ce ad cs M') o) 3 0 0 ad cs M 0 [some (.ref (ad 410)), some (.int x1), none] [] := by
  unfold fX0_placeOf at hf
  refine xw_aload_n C dX0_placeOf_0 0 rfl rfl ?_
  refine xv_getf C (by decide) xs_L rfl inB0 1 (by decide) hw_111 rfl dX0_placeOf_1 ?_
  refine xw_iload_n C dX0_placeOf_4 1 rfl rfl ?_
  refine xw_iadd C dX0_placeOf_5 ?_
  refine xw_istore_n C dX0_placeOf_6 2 rfl (by decide) ?_
  refine xw_iload_n C dX0_placeOf_7 2 rfl rfl ?_
  refine xw_sipush (v := 300) C dX0_placeOf_8 (by decide) ?_
  refine xw_icmp_lt (tgt := 22) C dX0_placeOf_11 (by decide) (fun c_1 => ?_) (fun c_1 => ?_)
  · have hf := it_t hf c_1
    refine xw_iload_n C dX0_placeOf_22 2 rfl rfl ?_
    exact xl_sub (xl_n (xl_n (xl_n xl_e))) (kX0_placeOf_23 C hR ht hr  hf)
  · have hf := it_f hf c_1
    refine xw_iload_n C dX0_placeOf_14 2 rfl rfl ?_
    refine xw_sipush (v := 300) C dX0_placeOf_15 (by decide) ?_
    refine xw_isub C dX0_placeOf_18 ?_
    refine xw_goto (tgt := 23) C dX0_placeOf_19 (by decide) ?_
    exact xl_sub (xl_n (xl_n (xl_n xl_e))) (kX0_placeOf_23 C hR ht hr  hf)
theorem mX0_placeOf (l : Launch) {D : va_G} {tys : List (ClassId × FieldType)} {base : Nat} {ad : Nat → Nat} {cs : xmC} (hJ : xw_J 431 ad base) (ht : tys = xm_tys cs) {x1 : Int32} {M M' : xwM} {o : Int32} (hf : fX0_placeOf x1 M = some (o, M')) : xk_i l yX0_placeOf cX0_placeOf 3 (some .int) rX0_placeOf D tys base 431 ad [.ref (ad 410), .int x1] (xm_ce ad cs M) (xm_ce ad cs M') o :=
  xk_ofi 1 (by decide) hJ (List.forall_mem_cons.mpr ⟨rfl, List.forall_mem_cons.mpr ⟨rfl, List.forall_mem_nil _⟩⟩) (Nat.le_of_ble_eq_true rfl) (fun G e1 e2 e3 e4 e5 hr C => kX0_placeOf_0 C e2 (e4.trans ht) hr  hf)

abbrev rX0_read : Room := { frames := 1, cells := 0, slots := 0, locals := 22 }
def fX0_read (x1 : Int32) (x2 : Int32) (M : xwM) : Option (Int32 × xwM) :=
  ixr 6 x2 fun n1 =>
  bni (fX0_placeOf x1 M) fun v4 M5 =>
  ld M5 (412 + n1) 300 v4 fun v7 =>
  some (v7, M5)
set_option maxHeartbeats 4000000 in
set_option maxRecDepth 100000 in
theorem kX0_read_0 {G : xwG} {ad : Nat → Nat} {cs : xmC} (C : xw_C G cX0_read 3 RX0 431 ad) (hR : xgR G = rX0_read) (ht : xgt G = xm_tys cs) (hr : (xgM G).sig.returnType = (some .int)) {M' : xwM} {o : Int32} {x1 : Int32} {x2 : Int32} {M : xwM} (hf : fX0_read x1 x2 M = some (o, M')) : XV G (xw_qi G 431 ad (xm_ce ad cs M') o) 3 0 0 ad cs M 0 [some (.ref (ad 410)), some (.int x1), some (.int x2)] [] := by
  unfold fX0_read at hf
  refine xw_aload_n C dX0_read_0 0 rfl rfl ?_
  refine xv_getf C (by decide) xs_L rfl inB0 0 (by decide) hw_110 rfl dX0_read_1 ?_
  refine xw_iload_n C dX0_read_4 2 rfl rfl ?_
  obtain ⟨i_2, q_3, hf⟩ := ixr_s hf
  refine xv_aldF C ht i_2 dX0_read_5 ?_
  refine xw_aload_n C dX0_read_6 0 rfl rfl ?_
  refine xw_iload_n C dX0_read_7 1 rfl rfl ?_
  obtain ⟨r_v4, M_M5, g_6, hf⟩ := bni_s hf
  refine xc_Vi C (mX0_placeOf (xgl G) C.2.2.2.2.2.2.2.2.1 ht  g_6) FX0_placeOf hw_253 (by decide) xs_L rfl (by rw [hR]; decide) (by rw [hR]; decide) rfl (Nat.le_of_ble_eq_true rfl) dX0_read_8 rfl ?_
  obtain ⟨i_8, hf⟩ := ld_s hf
  refine xv_iald C ht (by omega) ((fun _ => xs_W q_3) _) i_8 dX0_read_11 ?_
  cases hf
  exact xw_reti C hr dX0_read_12
theorem mX0_read (l : Launch) {D : va_G} {tys : List (ClassId × FieldType)} {base : Nat} {ad : Nat → Nat} {cs : xmC} (hJ : xw_J 431 ad base) (ht : tys = xm_tys cs) {x1 : Int32} {x2 : Int32} {M M' : xwM} {o : Int32} (hf : fX0_read x1 x2 M = some (o, M')) : xk_i l yX0_read cX0_read 3 (some .int) rX0_read D tys base 431 ad [.ref (ad 410), .int x1, .int x2] (xm_ce ad cs M) (xm_ce ad cs M') o :=
  xk_ofi 0 (by decide) hJ (List.forall_mem_cons.mpr ⟨rfl, List.forall_mem_cons.mpr ⟨rfl, List.forall_mem_cons.mpr ⟨rfl, List.forall_mem_nil _⟩⟩⟩) (Nat.le_of_ble_eq_true rfl) (fun G e1 e2 e3 e4 e5 hr C => kX0_read_0 C e2 (e4.trans ht) hr  hf)

abbrev rX0_send : Room := { frames := 1, cells := 0, slots := 0, locals := 22 }
def fX0_send (x1 : Int32) (x2 : Int32) (x3 : Int32) (x4 : Int32) (x5 : Int32) (x6 : Int32) (M : xwM) : Option (xwM) :=
  xlet (ms M 410 3 ((M 410 3) + 1)) fun M1 =>
  if (M1 410 2) < 300 then
    (bni (fX0_placeOf (M1 410 2) M1) fun v3 M4 =>
      ixr 6 0 fun n6 =>
      sto M4 (412 + n6) 300 v3 x1 fun M9 =>
      ixr 6 1 fun n11 =>
      sto M9 (412 + n11) 300 v3 x2 fun M14 =>
      ixr 6 2 fun n16 =>
      sto M14 (412 + n16) 300 v3 x3 fun M19 =>
      ixr 6 3 fun n21 =>
      sto M19 (412 + n21) 300 v3 x4 fun M24 =>
      ixr 6 4 fun n26 =>
      sto M24 (412 + n26) 300 v3 x5 fun M29 =>
      ixr 6 5 fun n31 =>
      sto M29 (412 + n31) 300 v3 x6 fun M34 =>
      xlet (ms M34 410 2 ((M34 410 2) + 1)) fun M36 =>
      some M36)
  else
    (xlet (ms M1 410 4 ((M1 410 4) + 1)) fun M37 =>
      some M37)
set_option maxHeartbeats 4000000 in
set_option maxRecDepth 100000 in
theorem kX0_send_0 {G : xwG} {ad : Nat → Nat} {cs : xmC} (C : xw_C G cX0_send 8 RX0 431 ad) (hR : xgR G = rX0_send) (ht : xgt G = xm_tys cs) (hr : (xgM G).sig.returnType = none) {M' : xwM} {x1 : Int32} {x2 : Int32} {x3 : Int32} {x4 : Int32} {x5 : Int32} {x6 : Int32} {M : xwM} (hf : fX0_send x1 x2 x3 x4 x5 x6 M = some M') : XV G (xw_qv G 431 ad (xm_ce ad cs M')) 8 0 0 ad cs M 0 [some (.ref (ad 410)), some (.int x1), some (.int x2), some (.int x3), some (.int x4), some (.int x5), some (.int x6), none] [] := by
  unfold fX0_send at hf
  refine xw_aload_n C dX0_send_0 0 rfl rfl ?_
  refine xw_dup C dX0_send_1 rfl ?_
  refine xv_getf C (by decide) xs_L rfl inB0 3 (by decide) hw_115 rfl dX0_send_2 ?_
  refine xw_iconst (v := 1) C dX0_send_5 (by decide) ?_
  refine xw_iadd C dX0_send_6 ?_
  refine xv_putf (fs := xl_X0 ad) C (by decide) (fun _ => xs_L) rfl inB0 tyX0 tyX0_ok nmX0 3 (by decide) hw_115 rfl rfl (fun _ => by simp [xl_X0]) (fun _ => rfl) dX0_send_7 ?_
  have hf := xlet_s hf
  refine xw_aload_n C dX0_send_10 0 rfl rfl ?_
  refine xv_getf C (by decide) xs_L rfl inB0 2 (by decide) hw_112 rfl dX0_send_11 ?_
  refine xw_sipush (v := 300) C dX0_send_14 (by decide) ?_
  refine xw_icmp_lt (tgt := 31) C dX0_send_17 (by decide) (fun c_2 => ?_) (fun c_2 => ?_)
  · have hf := it_t hf c_2
    refine xw_aload_n C dX0_send_31 0 rfl rfl ?_
    refine xw_aload_n C dX0_send_32 0 rfl rfl ?_
    refine xv_getf C (by decide) xs_L rfl inB0 2 (by decide) hw_112 rfl dX0_send_33 ?_
    obtain ⟨r_v3, M_M4, g_5, hf⟩ := bni_s hf
    refine xc_Vi C (mX0_placeOf (xgl G) C.2.2.2.2.2.2.2.2.1 ht  g_5) FX0_placeOf hw_253 (by decide) xs_L rfl (by rw [hR]; decide) (by rw [hR]; decide) rfl (Nat.le_of_ble_eq_true rfl) dX0_send_36 rfl ?_
    refine xw_istore C dX0_send_39 (by decide) ?_
    refine xw_aload_n C dX0_send_41 0 rfl rfl ?_
    refine xv_getf C (by decide) xs_L rfl inB0 0 (by decide) hw_110 rfl dX0_send_42 ?_
    refine xw_iconst (v := 0) C dX0_send_45 (by decide) ?_
    obtain ⟨i_7, q_8, hf⟩ := ixr_s hf
    refine xv_aldF C ht i_7 dX0_send_46 ?_
    refine xw_iload C dX0_send_47 rfl ?_
    refine xw_iload_n C dX0_send_49 1 rfl rfl ?_
    obtain ⟨i_10, hf⟩ := sto_s hf
    refine xv_iast C ht (by omega) (fun _ => xs_W q_8) i_10 dX0_send_50 ?_
    refine xw_aload_n C dX0_send_51 0 rfl rfl ?_
    refine xv_getf C (by decide) xs_L rfl inB0 0 (by decide) hw_110 rfl dX0_send_52 ?_
    refine xw_iconst (v := 1) C dX0_send_55 (by decide) ?_
    obtain ⟨i_12, q_13, hf⟩ := ixr_s hf
    refine xv_aldF C ht i_12 dX0_send_56 ?_
    refine xw_iload C dX0_send_57 rfl ?_
    refine xw_iload_n C dX0_send_59 2 rfl rfl ?_
    obtain ⟨i_15, hf⟩ := sto_s hf
    refine xv_iast C ht (by omega) (fun _ => xs_W q_13) i_15 dX0_send_60 ?_
    refine xw_aload_n C dX0_send_61 0 rfl rfl ?_
    refine xv_getf C (by decide) xs_L rfl inB0 0 (by decide) hw_110 rfl dX0_send_62 ?_
    refine xw_iconst (v := 2) C dX0_send_65 (by decide) ?_
    obtain ⟨i_17, q_18, hf⟩ := ixr_s hf
    refine xv_aldF C ht i_17 dX0_send_66 ?_
    refine xw_iload C dX0_send_67 rfl ?_
    refine xw_iload_n C dX0_send_69 3 rfl rfl ?_
    obtain ⟨i_20, hf⟩ := sto_s hf
    refine xv_iast C ht (by omega) (fun _ => xs_W q_18) i_20 dX0_send_70 ?_
    refine xw_aload_n C dX0_send_71 0 rfl rfl ?_
    refine xv_getf C (by decide) xs_L rfl inB0 0 (by decide) hw_110 rfl dX0_send_72 ?_
    refine xw_iconst (v := 3) C dX0_send_75 (by decide) ?_
    obtain ⟨i_22, q_23, hf⟩ := ixr_s hf
    refine xv_aldF C ht i_22 dX0_send_76 ?_
    refine xw_iload C dX0_send_77 rfl ?_
    refine xw_iload C dX0_send_79 rfl ?_
    obtain ⟨i_25, hf⟩ := sto_s hf
    refine xv_iast C ht (by omega) (fun _ => xs_W q_23) i_25 dX0_send_81 ?_
    refine xw_aload_n C dX0_send_82 0 rfl rfl ?_
    refine xv_getf C (by decide) xs_L rfl inB0 0 (by decide) hw_110 rfl dX0_send_83 ?_
    refine xw_iconst (v := 4) C dX0_send_86 (by decide) ?_
    obtain ⟨i_27, q_28, hf⟩ := ixr_s hf
    refine xv_aldF C ht i_27 dX0_send_87 ?_
    refine xw_iload C dX0_send_88 rfl ?_
    refine xw_iload C dX0_send_90 rfl ?_
    obtain ⟨i_30, hf⟩ := sto_s hf
    refine xv_iast C ht (by omega) (fun _ => xs_W q_28) i_30 dX0_send_92 ?_
    refine xw_aload_n C dX0_send_93 0 rfl rfl ?_
    refine xv_getf C (by decide) xs_L rfl inB0 0 (by decide) hw_110 rfl dX0_send_94 ?_
    refine xw_iconst (v := 5) C dX0_send_97 (by decide) ?_
    obtain ⟨i_32, q_33, hf⟩ := ixr_s hf
    refine xv_aldF C ht i_32 dX0_send_98 ?_
    refine xw_iload C dX0_send_99 rfl ?_
    refine xw_iload C dX0_send_101 rfl ?_
    obtain ⟨i_35, hf⟩ := sto_s hf
    refine xv_iast C ht (by omega) (fun _ => xs_W q_33) i_35 dX0_send_103 ?_
    refine xw_aload_n C dX0_send_104 0 rfl rfl ?_
    refine xw_dup C dX0_send_105 rfl ?_
    refine xv_getf C (by decide) xs_L rfl inB0 2 (by decide) hw_112 rfl dX0_send_106 ?_
    refine xw_iconst (v := 1) C dX0_send_109 (by decide) ?_
    refine xw_iadd C dX0_send_110 ?_
    refine xv_putf (fs := xl_X0 ad) C (by decide) (fun _ => xs_L) rfl inB0 tyX0 tyX0_ok nmX0 2 (by decide) hw_112 rfl rfl (fun _ => by simp [xl_X0]) (fun _ => rfl) dX0_send_111 ?_
    have hf := xlet_s hf
    cases hf
    exact xw_retv C hr dX0_send_114
  · have hf := it_f hf c_2
    refine xw_aload_n C dX0_send_20 0 rfl rfl ?_
    refine xw_dup C dX0_send_21 rfl ?_
    refine xv_getf C (by decide) xs_L rfl inB0 4 (by decide) hw_116 rfl dX0_send_22 ?_
    refine xw_iconst (v := 1) C dX0_send_25 (by decide) ?_
    refine xw_iadd C dX0_send_26 ?_
    refine xv_putf (fs := xl_X0 ad) C (by decide) (fun _ => xs_L) rfl inB0 tyX0 tyX0_ok nmX0 4 (by decide) hw_116 rfl rfl (fun _ => by simp [xl_X0]) (fun _ => rfl) dX0_send_27 ?_
    have hf := xlet_s hf
    cases hf
    exact xw_retv C hr dX0_send_30
theorem mX0_send (l : Launch) {D : va_G} {tys : List (ClassId × FieldType)} {base : Nat} {ad : Nat → Nat} {cs : xmC} (hJ : xw_J 431 ad base) (ht : tys = xm_tys cs) {x1 : Int32} {x2 : Int32} {x3 : Int32} {x4 : Int32} {x5 : Int32} {x6 : Int32} {M M' : xwM} (hf : fX0_send x1 x2 x3 x4 x5 x6 M = some M') : xk_v l yX0_send cX0_send 8 none rX0_send D tys base 431 ad [.ref (ad 410), .int x1, .int x2, .int x3, .int x4, .int x5, .int x6] (xm_ce ad cs M) (xm_ce ad cs M') :=
  xk_ofv 1 (by decide) hJ (List.forall_mem_cons.mpr ⟨rfl, List.forall_mem_cons.mpr ⟨rfl, List.forall_mem_cons.mpr ⟨rfl, List.forall_mem_cons.mpr ⟨rfl, List.forall_mem_cons.mpr ⟨rfl, List.forall_mem_cons.mpr ⟨rfl, List.forall_mem_cons.mpr ⟨rfl, List.forall_mem_nil _⟩⟩⟩⟩⟩⟩⟩) (Nat.le_of_ble_eq_true rfl) (fun G e1 e2 e3 e4 e5 hr C => kX0_send_0 C e2 (e4.trans ht) hr  hf)

abbrev rX0_put : Room := { frames := 1, cells := 0, slots := 0, locals := 22 }
def fX0_put_16 : Nat → Int32 → Int32 → Int32 →  xwM → Option (xwM)
  | 0, _, _, _, _ => none
  | fu + 1, x3, x4, x5, M =>
  if 6 ≤ x5 then
    (some M)
  else
    (ixr 6 x5 fun n8 =>
      ixr 6 x5 fun n11 =>
      ld M (412 + n11) 300 x3 fun v14 =>
      sto M (412 + n8) 300 x4 v14 fun M16 =>
      fX0_put_16 fu x3 x4 ((x5 + 1)) M16)
set_option maxHeartbeats 4000000 in
set_option maxRecDepth 100000 in
theorem kX0_put_16 {G : xwG} {ad : Nat → Nat} {cs : xmC} (C : xw_C G cX0_put 6 RX0 431 ad) (hR : xgR G = rX0_put) (ht : xgt G = xm_tys cs) (hr : (xgM G).sig.returnType = none) {M' : xwM} : ∀ (fu : Nat) (x3 : Int32) (x4 : Int32) (x5 : Int32) (M : xwM), fX0_put_16 fu x3 x4 x5 M = some M' → XV G (xw_qv G 431 ad (xm_ce ad cs M')) 6 0 0 ad cs M 16 [some (.ref (ad 410)), none, none, some (.int x3), some (.int x4), some (.int x5)] [] := by
  intro fu
  induction fu with
  | zero =>
    intro x3 x4 x5 M  hf
    cases hf
  | succ fu ih =>
    intro x3 x4 x5 M  hf
    rw [fX0_put_16] at hf
    refine xw_iload C dX0_put_16 rfl ?_
    refine xw_bipush (v := 6) C dX0_put_18 (by decide) ?_
    refine xw_icmp_ge (tgt := 48) C dX0_put_20 (by decide) (fun c_7 => ?_) (fun c_7 => ?_)
    · have hf := it_t hf c_7
      cases hf
      exact xw_retv C hr dX0_put_48
    · have hf := it_f hf c_7
      refine xw_aload_n C dX0_put_23 0 rfl rfl ?_
      refine xv_getf C (by decide) xs_L rfl inB0 0 (by decide) hw_110 rfl dX0_put_24 ?_
      refine xw_iload C dX0_put_27 rfl ?_
      obtain ⟨i_9, q_10, hf⟩ := ixr_s hf
      refine xv_aldF C ht i_9 dX0_put_29 ?_
      refine xw_iload C dX0_put_30 rfl ?_
      refine xw_aload_n C dX0_put_32 0 rfl rfl ?_
      refine xv_getf C (by decide) xs_L rfl inB0 0 (by decide) hw_110 rfl dX0_put_33 ?_
      refine xw_iload C dX0_put_36 rfl ?_
      obtain ⟨i_12, q_13, hf⟩ := ixr_s hf
      refine xv_aldF C ht i_12 dX0_put_38 ?_
      refine xw_iload_n C dX0_put_39 3 rfl rfl ?_
      obtain ⟨i_15, hf⟩ := ld_s hf
      refine xv_iald C ht (by omega) ((fun _ => xs_W q_13) _) i_15 dX0_put_40 ?_
      obtain ⟨i_17, hf⟩ := sto_s hf
      refine xv_iast C ht (by omega) (fun _ => xs_W q_10) i_17 dX0_put_41 ?_
      refine xw_iinc C dX0_put_42 rfl (show _ + Int32.ofInt (1) = _ + (1) from congrArg _ (by decide)) (by decide) ?_
      refine xw_goto (tgt := 16) C dX0_put_45 (by decide) ?_
      exact xl_sub (xl_c rfl (xl_n (xl_n (xl_c rfl (xl_c rfl (xl_c rfl xl_e)))))) (ih _ _ _ _ hf)
def fX0_put (x1 : Int32) (x2 : Int32) (M : xwM) : Option (xwM) :=
  bni (fX0_placeOf x1 M) fun v1 M2 =>
  bni (fX0_placeOf x2 M2) fun v4 M5 =>
  fX0_put_16 2001 v1 v4 0 M5
set_option maxHeartbeats 4000000 in
set_option maxRecDepth 100000 in
theorem kX0_put_0 {G : xwG} {ad : Nat → Nat} {cs : xmC} (C : xw_C G cX0_put 6 RX0 431 ad) (hR : xgR G = rX0_put) (ht : xgt G = xm_tys cs) (hr : (xgM G).sig.returnType = none) {M' : xwM} {x1 : Int32} {x2 : Int32} {M : xwM} (hf : fX0_put x1 x2 M = some M') : XV G (xw_qv G 431 ad (xm_ce ad cs M')) 6 0 0 ad cs M 0 [some (.ref (ad 410)), some (.int x1), some (.int x2), none, none, none] [] := by
  unfold fX0_put at hf
  refine xw_aload_n C dX0_put_0 0 rfl rfl ?_
  refine xw_iload_n C dX0_put_1 1 rfl rfl ?_
  obtain ⟨r_v1, M_M2, g_3, hf⟩ := bni_s hf
  refine xc_Vi C (mX0_placeOf (xgl G) C.2.2.2.2.2.2.2.2.1 ht  g_3) FX0_placeOf hw_253 (by decide) xs_L rfl (by rw [hR]; decide) (by rw [hR]; decide) rfl (Nat.le_of_ble_eq_true rfl) dX0_put_2 rfl ?_
  refine xw_istore_n C dX0_put_5 3 rfl (by decide) ?_
  refine xw_aload_n C dX0_put_6 0 rfl rfl ?_
  refine xw_iload_n C dX0_put_7 2 rfl rfl ?_
  obtain ⟨r_v4, M_M5, g_6, hf⟩ := bni_s hf
  refine xc_Vi C (mX0_placeOf (xgl G) C.2.2.2.2.2.2.2.2.1 ht  g_6) FX0_placeOf hw_253 (by decide) xs_L rfl (by rw [hR]; decide) (by rw [hR]; decide) rfl (Nat.le_of_ble_eq_true rfl) dX0_put_8 rfl ?_
  refine xw_istore C dX0_put_11 (by decide) ?_
  refine xw_iconst (v := 0) C dX0_put_13 (by decide) ?_
  refine xw_istore C dX0_put_14 (by decide) ?_
  exact xl_sub (xl_c rfl (xl_n (xl_n (xl_c rfl (xl_c rfl (xl_c rfl xl_e)))))) (kX0_put_16 C hR ht hr 2001 _ _ _ _ hf)
theorem mX0_put (l : Launch) {D : va_G} {tys : List (ClassId × FieldType)} {base : Nat} {ad : Nat → Nat} {cs : xmC} (hJ : xw_J 431 ad base) (ht : tys = xm_tys cs) {x1 : Int32} {x2 : Int32} {M M' : xwM} (hf : fX0_put x1 x2 M = some M') : xk_v l yX0_put cX0_put 6 none rX0_put D tys base 431 ad [.ref (ad 410), .int x1, .int x2] (xm_ce ad cs M) (xm_ce ad cs M') :=
  xk_ofv 3 (by decide) hJ (List.forall_mem_cons.mpr ⟨rfl, List.forall_mem_cons.mpr ⟨rfl, List.forall_mem_cons.mpr ⟨rfl, List.forall_mem_nil _⟩⟩⟩) (Nat.le_of_ble_eq_true rfl) (fun G e1 e2 e3 e4 e5 hr C => kX0_put_0 C e2 (e4.trans ht) hr  hf)

abbrev rX0_repeat : Room := { frames := 2, cells := 0, slots := 0, locals := 47 }
def fX0_repeat (x1 : Int32) (M : xwM) : Option (Int32 × xwM) :=
  if (M 410 2) < 300 then
    (bnv (fX0_put x1 (M 410 2) M) fun M2 =>
      xlet (ms M2 410 2 ((M2 410 2) + 1)) fun M4 =>
      some (1, M4))
  else
    (some (0, M))
set_option maxHeartbeats 4000000 in
set_option maxRecDepth 100000 in
theorem kX0_repeat_0 {G : xwG} {ad : Nat → Nat} {cs : xmC} (C : xw_C G cX0_repeat 2 RX0 431 ad) (hR : xgR G = rX0_repeat) (ht : xgt G = xm_tys cs) (hr : (xgM G).sig.returnType = (some .boolean)) {M' : xwM} {o : Int32} {x1 : Int32} {M : xwM} (hf : fX0_repeat x1 M = some (o, M')) : XV G (xw_qi G 431 ad (xm_ce ad cs M') o) 2 0 0 ad cs M 0 [some (.ref (ad 410)), some (.int x1)] [] := by
  unfold fX0_repeat at hf
  refine xw_aload_n C dX0_repeat_0 0 rfl rfl ?_
  refine xv_getf C (by decide) xs_L rfl inB0 2 (by decide) hw_112 rfl dX0_repeat_1 ?_
  refine xw_sipush (v := 300) C dX0_repeat_4 (by decide) ?_
  refine xw_icmp_lt (tgt := 12) C dX0_repeat_7 (by decide) (fun c_1 => ?_) (fun c_1 => ?_)
  · have hf := it_t hf c_1
    refine xw_aload_n C dX0_repeat_12 0 rfl rfl ?_
    refine xw_iload_n C dX0_repeat_13 1 rfl rfl ?_
    refine xw_aload_n C dX0_repeat_14 0 rfl rfl ?_
    refine xv_getf C (by decide) xs_L rfl inB0 2 (by decide) hw_112 rfl dX0_repeat_15 ?_
    obtain ⟨M_M2, g_3, hf⟩ := bnv_s hf
    refine xc_Vv C (mX0_put (xgl G) C.2.2.2.2.2.2.2.2.1 ht  g_3) FX0_put hw_368 (by decide) xs_L rfl (by rw [hR]; decide) (by rw [hR]; decide) rfl (Nat.le_of_ble_eq_true rfl) dX0_repeat_18 rfl ?_
    refine xw_aload_n C dX0_repeat_21 0 rfl rfl ?_
    refine xw_dup C dX0_repeat_22 rfl ?_
    refine xv_getf C (by decide) xs_L rfl inB0 2 (by decide) hw_112 rfl dX0_repeat_23 ?_
    refine xw_iconst (v := 1) C dX0_repeat_26 (by decide) ?_
    refine xw_iadd C dX0_repeat_27 ?_
    refine xv_putf (fs := xl_X0 ad) C (by decide) (fun _ => xs_L) rfl inB0 tyX0 tyX0_ok nmX0 2 (by decide) hw_112 rfl rfl (fun _ => by simp [xl_X0]) (fun _ => rfl) dX0_repeat_28 ?_
    have hf := xlet_s hf
    refine xw_iconst (v := 1) C dX0_repeat_31 (by decide) ?_
    cases hf
    exact xw_retz C hr (by decide) dX0_repeat_32
  · have hf := it_f hf c_1
    refine xw_iconst (v := 0) C dX0_repeat_10 (by decide) ?_
    cases hf
    exact xw_retz C hr (by decide) dX0_repeat_11
theorem mX0_repeat (l : Launch) {D : va_G} {tys : List (ClassId × FieldType)} {base : Nat} {ad : Nat → Nat} {cs : xmC} (hJ : xw_J 431 ad base) (ht : tys = xm_tys cs) {x1 : Int32} {M M' : xwM} {o : Int32} (hf : fX0_repeat x1 M = some (o, M')) : xk_i l yX0_repeat cX0_repeat 2 (some .boolean) rX0_repeat D tys base 431 ad [.ref (ad 410), .int x1] (xm_ce ad cs M) (xm_ce ad cs M') o :=
  xk_ofi 0 (by decide) hJ (List.forall_mem_cons.mpr ⟨rfl, List.forall_mem_cons.mpr ⟨rfl, List.forall_mem_nil _⟩⟩) (Nat.le_of_ble_eq_true rfl) (fun G e1 e2 e3 e4 e5 hr C => kX0_repeat_0 C e2 (e4.trans ht) hr  hf)

abbrev rX0_takeAway : Room := { frames := 2, cells := 0, slots := 0, locals := 47 }
def fX0_takeAway_2 : Nat → Int32 →  xwM → Option (xwM)
  | 0, _, _ => none
  | fu + 1, x2, M =>
  if x2 ≤ 0 then
    (bni (fX0_placeOf 1 M) fun v2 M3 =>
      xlet (ms M3 410 1 v2) fun M5 =>
      xlet (ms M5 410 2 ((M5 410 2) - 1)) fun M6 =>
      some M6)
  else
    (bnv (fX0_put (x2 - 1) x2 M) fun M7 =>
      fX0_takeAway_2 fu ((x2 + (-1))) M7)
set_option maxHeartbeats 4000000 in
set_option maxRecDepth 100000 in
theorem kX0_takeAway_2 {G : xwG} {ad : Nat → Nat} {cs : xmC} (C : xw_C G cX0_takeAway 3 RX0 431 ad) (hR : xgR G = rX0_takeAway) (ht : xgt G = xm_tys cs) (hr : (xgM G).sig.returnType = none) {M' : xwM} : ∀ (fu : Nat) (x2 : Int32) (M : xwM), fX0_takeAway_2 fu x2 M = some M' → XV G (xw_qv G 431 ad (xm_ce ad cs M')) 3 0 0 ad cs M 2 [some (.ref (ad 410)), none, some (.int x2)] [] := by
  intro fu
  induction fu with
  | zero =>
    intro x2 M  hf
    cases hf
  | succ fu ih =>
    intro x2 M  hf
    rw [fX0_takeAway_2] at hf
    refine xw_iload_n C dX0_takeAway_2 2 rfl rfl ?_
    refine xw_if_le (tgt := 20) C dX0_takeAway_3 (by decide) (fun c_1 => ?_) (fun c_1 => ?_)
    · have hf := it_t hf c_1
      refine xw_aload_n C dX0_takeAway_20 0 rfl rfl ?_
      refine xw_aload_n C dX0_takeAway_21 0 rfl rfl ?_
      refine xw_iconst (v := 1) C dX0_takeAway_22 (by decide) ?_
      obtain ⟨r_v2, M_M3, g_4, hf⟩ := bni_s hf
      refine xc_Vi C (mX0_placeOf (xgl G) C.2.2.2.2.2.2.2.2.1 ht  g_4) FX0_placeOf hw_253 (by decide) xs_L rfl (by rw [hR]; decide) (by rw [hR]; decide) rfl (Nat.le_of_ble_eq_true rfl) dX0_takeAway_23 rfl ?_
      refine xv_putf (fs := xl_X0 ad) C (by decide) (fun _ => xs_L) rfl inB0 tyX0 tyX0_ok nmX0 1 (by decide) hw_111 rfl rfl (fun _ => by simp [xl_X0]) (fun _ => rfl) dX0_takeAway_26 ?_
      have hf := xlet_s hf
      refine xw_aload_n C dX0_takeAway_29 0 rfl rfl ?_
      refine xw_dup C dX0_takeAway_30 rfl ?_
      refine xv_getf C (by decide) xs_L rfl inB0 2 (by decide) hw_112 rfl dX0_takeAway_31 ?_
      refine xw_iconst (v := 1) C dX0_takeAway_34 (by decide) ?_
      refine xw_isub C dX0_takeAway_35 ?_
      refine xv_putf (fs := xl_X0 ad) C (by decide) (fun _ => xs_L) rfl inB0 tyX0 tyX0_ok nmX0 2 (by decide) hw_112 rfl rfl (fun _ => by simp [xl_X0]) (fun _ => rfl) dX0_takeAway_36 ?_
      have hf := xlet_s hf
      cases hf
      exact xw_retv C hr dX0_takeAway_39
    · have hf := it_f hf c_1
      refine xw_aload_n C dX0_takeAway_6 0 rfl rfl ?_
      refine xw_iload_n C dX0_takeAway_7 2 rfl rfl ?_
      refine xw_iconst (v := 1) C dX0_takeAway_8 (by decide) ?_
      refine xw_isub C dX0_takeAway_9 ?_
      refine xw_iload_n C dX0_takeAway_10 2 rfl rfl ?_
      obtain ⟨M_M7, g_8, hf⟩ := bnv_s hf
      refine xc_Vv C (mX0_put (xgl G) C.2.2.2.2.2.2.2.2.1 ht  g_8) FX0_put hw_368 (by decide) xs_L rfl (by rw [hR]; decide) (by rw [hR]; decide) rfl (Nat.le_of_ble_eq_true rfl) dX0_takeAway_11 rfl ?_
      refine xw_iinc C dX0_takeAway_14 rfl (show _ + Int32.ofInt (-1) = _ + (-1) from congrArg _ (by decide)) (by decide) ?_
      refine xw_goto (tgt := 2) C dX0_takeAway_17 (by decide) ?_
      exact xl_sub (xl_c rfl (xl_n (xl_c rfl xl_e))) (ih _ _ hf)
def fX0_takeAway (x1 : Int32) (M : xwM) : Option (xwM) :=
  fX0_takeAway_2 2001 x1 M
set_option maxHeartbeats 4000000 in
set_option maxRecDepth 100000 in
theorem kX0_takeAway_0 {G : xwG} {ad : Nat → Nat} {cs : xmC} (C : xw_C G cX0_takeAway 3 RX0 431 ad) (hR : xgR G = rX0_takeAway) (ht : xgt G = xm_tys cs) (hr : (xgM G).sig.returnType = none) {M' : xwM} {x1 : Int32} {M : xwM} (hf : fX0_takeAway x1 M = some M') : XV G (xw_qv G 431 ad (xm_ce ad cs M')) 3 0 0 ad cs M 0 [some (.ref (ad 410)), some (.int x1), none] [] := by
  unfold fX0_takeAway at hf
  refine xw_iload_n C dX0_takeAway_0 1 rfl rfl ?_
  refine xw_istore_n C dX0_takeAway_1 2 rfl (by decide) ?_
  exact xl_sub (xl_c rfl (xl_n (xl_c rfl xl_e))) (kX0_takeAway_2 C hR ht hr 2001 _ _ hf)
theorem mX0_takeAway (l : Launch) {D : va_G} {tys : List (ClassId × FieldType)} {base : Nat} {ad : Nat → Nat} {cs : xmC} (hJ : xw_J 431 ad base) (ht : tys = xm_tys cs) {x1 : Int32} {M M' : xwM} (hf : fX0_takeAway x1 M = some M') : xk_v l yX0_takeAway cX0_takeAway 3 none rX0_takeAway D tys base 431 ad [.ref (ad 410), .int x1] (xm_ce ad cs M) (xm_ce ad cs M') :=
  xk_ofv 1 (by decide) hJ (List.forall_mem_cons.mpr ⟨rfl, List.forall_mem_cons.mpr ⟨rfl, List.forall_mem_nil _⟩⟩) (Nat.le_of_ble_eq_true rfl) (fun G e1 e2 e3 e4 e5 hr C => kX0_takeAway_0 C e2 (e4.trans ht) hr  hf)

abbrev rX0_loseAllOf : Room := { frames := 2, cells := 0, slots := 0, locals := 47 }
def fX0_loseAllOf_41 (kf : Int32 → Int32 → Int32 → xwM → Option (Int32 × xwM)) (x1 : Int32) (x2 : Int32) (x3 : Int32) (M : xwM) : Option (Int32 × xwM) :=
  kf x1 x2 ((x3 + 1)) M
set_option maxHeartbeats 4000000 in
set_option maxRecDepth 100000 in
theorem kX0_loseAllOf_41 {G : xwG} {ad : Nat → Nat} {cs : xmC} (C : xw_C G cX0_loseAllOf 4 RX0 431 ad) (hR : xgR G = rX0_loseAllOf) (ht : xgt G = xm_tys cs) (hr : (xgM G).sig.returnType = (some .int)) {M' : xwM} {o : Int32} {kf : Int32 → Int32 → Int32 → xwM → Option (Int32 × xwM)} (hk : ∀ (yx1 : Int32) (yx2 : Int32) (yx3 : Int32) (M : xwM), kf yx1 yx2 yx3 M = some (o, M') → XV G (xw_qi G 431 ad (xm_ce ad cs M') o) 4 0 0 ad cs M 4 [some (.ref (ad 410)), some (.int yx1), some (.int yx2), some (.int yx3)] []) {x1 : Int32} {x2 : Int32} {x3 : Int32} {M : xwM} (hf : fX0_loseAllOf_41 kf x1 x2 x3 M = some (o, M')) : XV G (xw_qi G 431 ad (xm_ce ad cs M') o) 4 0 0 ad cs M 41 [some (.ref (ad 410)), some (.int x1), some (.int x2), some (.int x3)] [] := by
  unfold fX0_loseAllOf_41 at hf
  refine xw_iinc C dX0_loseAllOf_41 rfl (show _ + Int32.ofInt (1) = _ + (1) from congrArg _ (by decide)) (by decide) ?_
  refine xw_goto (tgt := 4) C dX0_loseAllOf_44 (by decide) ?_
  exact xl_sub (xl_c rfl (xl_c rfl (xl_c rfl (xl_c rfl xl_e)))) (hk _ _ _ _ hf)
def fX0_loseAllOf_4 : Nat → Int32 → Int32 → Int32 →  xwM → Option (Int32 × xwM)
  | 0, _, _, _, _ => none
  | fu + 1, x1, x2, x3, M =>
  if (M 410 2) ≤ x3 then
    (xlet (ms M 410 2 x2) fun M2 =>
      xlet (ms M2 410 5 ((M2 410 5) + ((M 410 2) - x2))) fun M3 =>
      some (((M 410 2) - x2), M3))
  else
    (bni (fX0_read x3 1 M) fun v4 M5 =>
      if v4 = x1 then
        (fX0_loseAllOf_41 (fX0_loseAllOf_4 fu) x1 x2 x3 M5)
      else
        (bni (fX0_read x3 2 M5) fun v8 M9 =>
          if v8 = x1 then
            (fX0_loseAllOf_41 (fX0_loseAllOf_4 fu) x1 x2 x3 M9)
          else
            (bnv (fX0_put x3 x2 M9) fun M12 =>
              fX0_loseAllOf_41 (fX0_loseAllOf_4 fu) x1 ((x2 + 1)) x3 M12)))
set_option maxHeartbeats 4000000 in
set_option maxRecDepth 100000 in
theorem kX0_loseAllOf_4 {G : xwG} {ad : Nat → Nat} {cs : xmC} (C : xw_C G cX0_loseAllOf 4 RX0 431 ad) (hR : xgR G = rX0_loseAllOf) (ht : xgt G = xm_tys cs) (hr : (xgM G).sig.returnType = (some .int)) {M' : xwM} {o : Int32} : ∀ (fu : Nat) (x1 : Int32) (x2 : Int32) (x3 : Int32) (M : xwM), fX0_loseAllOf_4 fu x1 x2 x3 M = some (o, M') → XV G (xw_qi G 431 ad (xm_ce ad cs M') o) 4 0 0 ad cs M 4 [some (.ref (ad 410)), some (.int x1), some (.int x2), some (.int x3)] [] := by
  intro fu
  induction fu with
  | zero =>
    intro x1 x2 x3 M  hf
    cases hf
  | succ fu ih =>
    intro x1 x2 x3 M  hf
    rw [fX0_loseAllOf_4] at hf
    refine xw_iload_n C dX0_loseAllOf_4 3 rfl rfl ?_
    refine xw_aload_n C dX0_loseAllOf_5 0 rfl rfl ?_
    refine xv_getf C (by decide) xs_L rfl inB0 2 (by decide) hw_112 rfl dX0_loseAllOf_6 ?_
    refine xw_icmp_ge (tgt := 47) C dX0_loseAllOf_9 (by decide) (fun c_1 => ?_) (fun c_1 => ?_)
    · have hf := it_t hf c_1
      refine xw_aload_n C dX0_loseAllOf_47 0 rfl rfl ?_
      refine xv_getf C (by decide) xs_L rfl inB0 2 (by decide) hw_112 rfl dX0_loseAllOf_48 ?_
      refine xw_iload_n C dX0_loseAllOf_51 2 rfl rfl ?_
      refine xw_isub C dX0_loseAllOf_52 ?_
      refine xw_istore_n C dX0_loseAllOf_53 3 rfl (by decide) ?_
      refine xw_aload_n C dX0_loseAllOf_54 0 rfl rfl ?_
      refine xw_iload_n C dX0_loseAllOf_55 2 rfl rfl ?_
      refine xv_putf (fs := xl_X0 ad) C (by decide) (fun _ => xs_L) rfl inB0 tyX0 tyX0_ok nmX0 2 (by decide) hw_112 rfl rfl (fun _ => by simp [xl_X0]) (fun _ => rfl) dX0_loseAllOf_56 ?_
      have hf := xlet_s hf
      refine xw_aload_n C dX0_loseAllOf_59 0 rfl rfl ?_
      refine xw_dup C dX0_loseAllOf_60 rfl ?_
      refine xv_getf C (by decide) xs_L rfl inB0 5 (by decide) hw_118 rfl dX0_loseAllOf_61 ?_
      refine xw_iload_n C dX0_loseAllOf_64 3 rfl rfl ?_
      refine xw_iadd C dX0_loseAllOf_65 ?_
      refine xv_putf (fs := xl_X0 ad) C (by decide) (fun _ => xs_L) rfl inB0 tyX0 tyX0_ok nmX0 5 (by decide) hw_118 rfl rfl (fun _ => by simp [xl_X0]) (fun _ => rfl) dX0_loseAllOf_66 ?_
      have hf := xlet_s hf
      refine xw_iload_n C dX0_loseAllOf_69 3 rfl rfl ?_
      cases hf
      exact xw_reti C hr dX0_loseAllOf_70
    · have hf := it_f hf c_1
      refine xw_aload_n C dX0_loseAllOf_12 0 rfl rfl ?_
      refine xw_iload_n C dX0_loseAllOf_13 3 rfl rfl ?_
      refine xw_iconst (v := 1) C dX0_loseAllOf_14 (by decide) ?_
      obtain ⟨r_v4, M_M5, g_6, hf⟩ := bni_s hf
      refine xc_Vi C (mX0_read (xgl G) C.2.2.2.2.2.2.2.2.1 ht  g_6) FX0_read hw_364 (by decide) xs_L rfl (by rw [hR]; decide) (by rw [hR]; decide) rfl (Nat.le_of_ble_eq_true rfl) dX0_loseAllOf_15 rfl ?_
      refine xw_iload_n C dX0_loseAllOf_18 1 rfl rfl ?_
      refine xw_icmp_eq (tgt := 41) C dX0_loseAllOf_19 (by decide) (fun c_7 => ?_) (fun c_7 => ?_)
      · have hf := it_t hf c_7
        exact xl_sub (xl_c rfl (xl_c rfl (xl_c rfl (xl_c rfl xl_e)))) (kX0_loseAllOf_41 C hR ht hr ih  hf)
      · have hf := it_f hf c_7
        refine xw_aload_n C dX0_loseAllOf_22 0 rfl rfl ?_
        refine xw_iload_n C dX0_loseAllOf_23 3 rfl rfl ?_
        refine xw_iconst (v := 2) C dX0_loseAllOf_24 (by decide) ?_
        obtain ⟨r_v8, M_M9, g_10, hf⟩ := bni_s hf
        refine xc_Vi C (mX0_read (xgl G) C.2.2.2.2.2.2.2.2.1 ht  g_10) FX0_read hw_364 (by decide) xs_L rfl (by rw [hR]; decide) (by rw [hR]; decide) rfl (Nat.le_of_ble_eq_true rfl) dX0_loseAllOf_25 rfl ?_
        refine xw_iload_n C dX0_loseAllOf_28 1 rfl rfl ?_
        refine xw_icmp_eq (tgt := 41) C dX0_loseAllOf_29 (by decide) (fun c_11 => ?_) (fun c_11 => ?_)
        · have hf := it_t hf c_11
          exact xl_sub (xl_c rfl (xl_c rfl (xl_c rfl (xl_c rfl xl_e)))) (kX0_loseAllOf_41 C hR ht hr ih  hf)
        · have hf := it_f hf c_11
          refine xw_aload_n C dX0_loseAllOf_32 0 rfl rfl ?_
          refine xw_iload_n C dX0_loseAllOf_33 3 rfl rfl ?_
          refine xw_iload_n C dX0_loseAllOf_34 2 rfl rfl ?_
          obtain ⟨M_M12, g_13, hf⟩ := bnv_s hf
          refine xc_Vv C (mX0_put (xgl G) C.2.2.2.2.2.2.2.2.1 ht  g_13) FX0_put hw_368 (by decide) xs_L rfl (by rw [hR]; decide) (by rw [hR]; decide) rfl (Nat.le_of_ble_eq_true rfl) dX0_loseAllOf_35 rfl ?_
          refine xw_iinc C dX0_loseAllOf_38 rfl (show _ + Int32.ofInt (1) = _ + (1) from congrArg _ (by decide)) (by decide) ?_
          exact xl_sub (xl_c rfl (xl_c rfl (xl_c rfl (xl_c rfl xl_e)))) (kX0_loseAllOf_41 C hR ht hr ih  hf)
def fX0_loseAllOf (x1 : Int32) (M : xwM) : Option (Int32 × xwM) :=
  fX0_loseAllOf_4 2001 x1 0 0 M
set_option maxHeartbeats 4000000 in
set_option maxRecDepth 100000 in
theorem kX0_loseAllOf_0 {G : xwG} {ad : Nat → Nat} {cs : xmC} (C : xw_C G cX0_loseAllOf 4 RX0 431 ad) (hR : xgR G = rX0_loseAllOf) (ht : xgt G = xm_tys cs) (hr : (xgM G).sig.returnType = (some .int)) {M' : xwM} {o : Int32} {x1 : Int32} {M : xwM} (hf : fX0_loseAllOf x1 M = some (o, M')) : XV G (xw_qi G 431 ad (xm_ce ad cs M') o) 4 0 0 ad cs M 0 [some (.ref (ad 410)), some (.int x1), none, none] [] := by
  unfold fX0_loseAllOf at hf
  refine xw_iconst (v := 0) C dX0_loseAllOf_0 (by decide) ?_
  refine xw_istore_n C dX0_loseAllOf_1 2 rfl (by decide) ?_
  refine xw_iconst (v := 0) C dX0_loseAllOf_2 (by decide) ?_
  refine xw_istore_n C dX0_loseAllOf_3 3 rfl (by decide) ?_
  exact xl_sub (xl_c rfl (xl_c rfl (xl_c rfl (xl_c rfl xl_e)))) (kX0_loseAllOf_4 C hR ht hr 2001 _ _ _ _ hf)
theorem mX0_loseAllOf (l : Launch) {D : va_G} {tys : List (ClassId × FieldType)} {base : Nat} {ad : Nat → Nat} {cs : xmC} (hJ : xw_J 431 ad base) (ht : tys = xm_tys cs) {x1 : Int32} {M M' : xwM} {o : Int32} (hf : fX0_loseAllOf x1 M = some (o, M')) : xk_i l yX0_loseAllOf cX0_loseAllOf 4 (some .int) rX0_loseAllOf D tys base 431 ad [.ref (ad 410), .int x1] (xm_ce ad cs M) (xm_ce ad cs M') o :=
  xk_ofi 2 (by decide) hJ (List.forall_mem_cons.mpr ⟨rfl, List.forall_mem_cons.mpr ⟨rfl, List.forall_mem_nil _⟩⟩) (Nat.le_of_ble_eq_true rfl) (fun G e1 e2 e3 e4 e5 hr C => kX0_loseAllOf_0 C e2 (e4.trans ht) hr  hf)
