abbrev rX2_requireNode : Room := { frames := 6, cells := 1, slots := 6, locals := 90 }
def fX2_requireNode_10 (M : xwM) : Option (xwX) :=
  some (.inr "java/lang/IllegalArgumentException", M)
set_option maxHeartbeats 4000000 in
set_option maxRecDepth 100000 in
theorem kX2_requireNode_10 {G : xwG} {ad : Nat → Nat} {cs : xmC} (C : xw_C G cX2_requireNode 1 RX2 431 ad) (hR : xgR G = rX2_requireNode) (ht : xgt G = xm_tys cs) (hr : (xgM G).sig.returnType = none) (hl : (xgl G).stackTraces = false) (hE : ∀ x ∈ (xgc G).exceptionTable.toList, False) {M' : xwM} {o : Int32 ⊕ String} {M : xwM} (hf : fX2_requireNode_10  M = some (o, M')) : XV G (xw_qxv G 431 ad (xm_ce ad cs M') o 1 6) 1 0 0 ad cs M 10 [none] [] := by
  unfold fX2_requireNode_10 at hf
  cases hf
  exact xw_throw C hl hE (by decide +kernel) hw_154 hw_39 C.2.2.2.2.2.2.2.2.2.2.2.1 C.2.2.2.2.2.2.2.2.2.1.2.2.2.1 xl_atA xl_badA xl_goodA dX2_requireNode_10 dX2_requireNode_13 dX2_requireNode_14 dX2_requireNode_16 dX2_requireNode_19 (by rw [hR]; decide) (by decide)
def fX2_requireNode (x0 : Int32) (M : xwM) : Option (xwX) :=
  if x0 < 0 then
    (fX2_requireNode_10  M)
  else
    (if x0 < 12 then
        (some (.inl 0, M))
      else
        (fX2_requireNode_10  M))
set_option maxHeartbeats 4000000 in
set_option maxRecDepth 100000 in
theorem kX2_requireNode_0 {G : xwG} {ad : Nat → Nat} {cs : xmC} (C : xw_C G cX2_requireNode 1 RX2 431 ad) (hR : xgR G = rX2_requireNode) (ht : xgt G = xm_tys cs) (hr : (xgM G).sig.returnType = none) (hl : (xgl G).stackTraces = false) (hE : ∀ x ∈ (xgc G).exceptionTable.toList, False) {M' : xwM} {o : Int32 ⊕ String} {x0 : Int32} {M : xwM} (hf : fX2_requireNode x0 M = some (o, M')) : XV G (xw_qxv G 431 ad (xm_ce ad cs M') o 1 6) 1 0 0 ad cs M 0 [some (.int x0)] [] := by
  unfold fX2_requireNode at hf
  refine xw_iload_n C dX2_requireNode_0 0 rfl rfl ?_
  refine xw_if_lt (tgt := 10) C dX2_requireNode_1 (by decide) (fun c_1 => ?_) (fun c_1 => ?_)
  · have hf := it_t hf c_1
    exact xl_sub (xl_n xl_e) (kX2_requireNode_10 C hR ht hr hl hE  hf)
  · have hf := it_f hf c_1
    refine xw_iload_n C dX2_requireNode_4 0 rfl rfl ?_
    refine xw_bipush (v := 12) C dX2_requireNode_5 (by decide) ?_
    refine xw_icmp_lt (tgt := 20) C dX2_requireNode_7 (by decide) (fun c_2 => ?_) (fun c_2 => ?_)
    · have hf := it_t hf c_2
      cases hf
      exact xw_retxv C hr (by decide) (by decide) dX2_requireNode_20
    · have hf := it_f hf c_2
      exact xl_sub (xl_n xl_e) (kX2_requireNode_10 C hR ht hr hl hE  hf)
theorem mX2_requireNode (l : Launch) {D : va_G} {tys : List (ClassId × FieldType)} {base : Nat} {ad : Nat → Nat} {cs : xmC} (hJ : xw_J 431 ad base) (ht : tys = xm_tys cs) (hl : l.stackTraces = false) {x0 : Int32} {M M' : xwM} {o : Int32 ⊕ String} (hf : fX2_requireNode x0 M = some (o, M')) : xk_xv l yX2_requireNode cX2_requireNode 1 none rX2_requireNode D tys base 431 ad [.int x0] (xm_ce ad cs M) (xm_ce ad cs M') o 1 6 :=
  xk_ofxv 0 (by decide) hJ (List.forall_mem_cons.mpr ⟨rfl, List.forall_mem_nil _⟩) (Nat.le_of_ble_eq_true rfl) (fun G e1 e2 e3 e4 e5 hr hE C => kX2_requireNode_0 C e2 (e4.trans ht) hr (e1 ▸ hl) hE  hf)

abbrev rX2_requirePair : Room := { frames := 7, cells := 3, slots := 18, locals := 110 }
def fX2_requirePair (x0 : Int32) (x1 : Int32) (M : xwM) : Option (xwX) :=
  bnx (fX2_requireNode x0 M) fun _ M2 =>
  bnx (fX2_requireNode x1 M2) fun _ M6 =>
  if x0 = x1 then
    (some (.inr "java/lang/IllegalArgumentException", M6))
  else
    (some (.inl 0, M6))
set_option maxHeartbeats 4000000 in
set_option maxRecDepth 100000 in
theorem kX2_requirePair_0 {G : xwG} {ad : Nat → Nat} {cs : xmC} (C : xw_C G cX2_requirePair 2 RX2 431 ad) (hR : xgR G = rX2_requirePair) (ht : xgt G = xm_tys cs) (hr : (xgM G).sig.returnType = none) (hl : (xgl G).stackTraces = false) (hE : ∀ x ∈ (xgc G).exceptionTable.toList, False) {M' : xwM} {o : Int32 ⊕ String} {x0 : Int32} {x1 : Int32} {M : xwM} (hf : fX2_requirePair x0 x1 M = some (o, M')) : XV G (xw_qxv G 431 ad (xm_ce ad cs M') o 3 18) 2 0 0 ad cs M 0 [some (.int x0), some (.int x1)] [] := by
  unfold fX2_requirePair at hf
  refine xw_iload_n C dX2_requirePair_0 0 rfl rfl ?_
  rcases bnx_s hf with ⟨r_1, M_M2, g_3, hf⟩ | ⟨E_4, M_M2, g_3, hf⟩
  · refine xc_Sxv C (mX2_requireNode (xgl G) C.2.2.2.2.2.2.2.2.1 ht hl  g_3) FX2_requireNode hw_151 (by rw [hR]; decide) (by rw [hR]; decide) rfl (Nat.le_of_ble_eq_true rfl) dX2_requirePair_1 rfl ?_
    refine xw_iload_n C dX2_requirePair_4 1 rfl rfl ?_
    rcases bnx_s hf with ⟨r_5, M_M6, g_7, hf⟩ | ⟨E_8, M_M6, g_7, hf⟩
    · refine xc_Sxv C (mX2_requireNode (xgl G) C.2.2.2.2.2.2.2.2.1 ht hl  g_7) FX2_requireNode hw_151 (by rw [hR]; decide) (by rw [hR]; decide) rfl (Nat.le_of_ble_eq_true rfl) dX2_requirePair_5 rfl ?_
      refine xw_iload_n C dX2_requirePair_8 0 rfl rfl ?_
      refine xw_iload_n C dX2_requirePair_9 1 rfl rfl ?_
      refine xw_icmp_ne (tgt := 23) C dX2_requirePair_10 (by decide) (fun c_9 => ?_) (fun c_9 => ?_)
      · have hf := it_f hf c_9
        cases hf
        exact xw_retxv C hr (by decide) (by decide) dX2_requirePair_23
      · have hf := it_t hf c_9
        cases hf
        exact xw_throw C hl hE (by decide +kernel) hw_154 hw_39 C.2.2.2.2.2.2.2.2.2.2.2.2.1 C.2.2.2.2.2.2.2.2.2.1.2.2.2.1 xl_atA xl_badA xl_goodA dX2_requirePair_13 dX2_requirePair_16 dX2_requirePair_17 dX2_requirePair_19 dX2_requirePair_22 (by rw [hR]; decide) (by decide)
    · cases hf
      exact xc_outS C hE (mX2_requireNode (xgl G) C.2.2.2.2.2.2.2.2.1 ht hl  g_7) FX2_requireNode hw_151 (by rw [hR]; decide) (by rw [hR]; decide) (by decide) rfl (Nat.le_of_ble_eq_true rfl) dX2_requirePair_5 rfl
  · cases hf
    exact xc_outS C hE (mX2_requireNode (xgl G) C.2.2.2.2.2.2.2.2.1 ht hl  g_3) FX2_requireNode hw_151 (by rw [hR]; decide) (by rw [hR]; decide) (by decide) rfl (Nat.le_of_ble_eq_true rfl) dX2_requirePair_1 rfl
theorem mX2_requirePair (l : Launch) {D : va_G} {tys : List (ClassId × FieldType)} {base : Nat} {ad : Nat → Nat} {cs : xmC} (hJ : xw_J 431 ad base) (ht : tys = xm_tys cs) (hl : l.stackTraces = false) {x0 : Int32} {x1 : Int32} {M M' : xwM} {o : Int32 ⊕ String} (hf : fX2_requirePair x0 x1 M = some (o, M')) : xk_xv l yX2_requirePair cX2_requirePair 2 none rX2_requirePair D tys base 431 ad [.int x0, .int x1] (xm_ce ad cs M) (xm_ce ad cs M') o 3 18 :=
  xk_ofxv 0 (by decide) hJ (List.forall_mem_cons.mpr ⟨rfl, List.forall_mem_cons.mpr ⟨rfl, List.forall_mem_nil _⟩⟩) (Nat.le_of_ble_eq_true rfl) (fun G e1 e2 e3 e4 e5 hr hE C => kX2_requirePair_0 C e2 (e4.trans ht) hr (e1 ▸ hl) hE  hf)

abbrev rX2_requireUpTo : Room := { frames := 6, cells := 1, slots := 6, locals := 90 }
def fX2_requireUpTo_9 (M : xwM) : Option (xwX) :=
  some (.inr "java/lang/IllegalArgumentException", M)
set_option maxHeartbeats 4000000 in
set_option maxRecDepth 100000 in
theorem kX2_requireUpTo_9 {G : xwG} {ad : Nat → Nat} {cs : xmC} (C : xw_C G cX2_requireUpTo 2 RX2 431 ad) (hR : xgR G = rX2_requireUpTo) (ht : xgt G = xm_tys cs) (hr : (xgM G).sig.returnType = none) (hl : (xgl G).stackTraces = false) (hE : ∀ x ∈ (xgc G).exceptionTable.toList, False) {M' : xwM} {o : Int32 ⊕ String} {M : xwM} (hf : fX2_requireUpTo_9  M = some (o, M')) : XV G (xw_qxv G 431 ad (xm_ce ad cs M') o 1 6) 2 0 0 ad cs M 9 [none, none] [] := by
  unfold fX2_requireUpTo_9 at hf
  cases hf
  exact xw_throw C hl hE (by decide +kernel) hw_154 hw_39 C.2.2.2.2.2.2.2.2.2.2.2.2.2.1 C.2.2.2.2.2.2.2.2.2.1.2.2.2.1 xl_atA xl_badA xl_goodA dX2_requireUpTo_9 dX2_requireUpTo_12 dX2_requireUpTo_13 dX2_requireUpTo_15 dX2_requireUpTo_18 (by rw [hR]; decide) (by decide)
def fX2_requireUpTo (x0 : Int32) (x1 : Int32) (M : xwM) : Option (xwX) :=
  if x0 < 0 then
    (fX2_requireUpTo_9  M)
  else
    (if x0 ≤ x1 then
        (some (.inl 0, M))
      else
        (fX2_requireUpTo_9  M))
set_option maxHeartbeats 4000000 in
set_option maxRecDepth 100000 in
theorem kX2_requireUpTo_0 {G : xwG} {ad : Nat → Nat} {cs : xmC} (C : xw_C G cX2_requireUpTo 2 RX2 431 ad) (hR : xgR G = rX2_requireUpTo) (ht : xgt G = xm_tys cs) (hr : (xgM G).sig.returnType = none) (hl : (xgl G).stackTraces = false) (hE : ∀ x ∈ (xgc G).exceptionTable.toList, False) {M' : xwM} {o : Int32 ⊕ String} {x0 : Int32} {x1 : Int32} {M : xwM} (hf : fX2_requireUpTo x0 x1 M = some (o, M')) : XV G (xw_qxv G 431 ad (xm_ce ad cs M') o 1 6) 2 0 0 ad cs M 0 [some (.int x0), some (.int x1)] [] := by
  unfold fX2_requireUpTo at hf
  refine xw_iload_n C dX2_requireUpTo_0 0 rfl rfl ?_
  refine xw_if_lt (tgt := 9) C dX2_requireUpTo_1 (by decide) (fun c_1 => ?_) (fun c_1 => ?_)
  · have hf := it_t hf c_1
    exact xl_sub (xl_n (xl_n xl_e)) (kX2_requireUpTo_9 C hR ht hr hl hE  hf)
  · have hf := it_f hf c_1
    refine xw_iload_n C dX2_requireUpTo_4 0 rfl rfl ?_
    refine xw_iload_n C dX2_requireUpTo_5 1 rfl rfl ?_
    refine xw_icmp_le (tgt := 19) C dX2_requireUpTo_6 (by decide) (fun c_2 => ?_) (fun c_2 => ?_)
    · have hf := it_t hf c_2
      cases hf
      exact xw_retxv C hr (by decide) (by decide) dX2_requireUpTo_19
    · have hf := it_f hf c_2
      exact xl_sub (xl_n (xl_n xl_e)) (kX2_requireUpTo_9 C hR ht hr hl hE  hf)
theorem mX2_requireUpTo (l : Launch) {D : va_G} {tys : List (ClassId × FieldType)} {base : Nat} {ad : Nat → Nat} {cs : xmC} (hJ : xw_J 431 ad base) (ht : tys = xm_tys cs) (hl : l.stackTraces = false) {x0 : Int32} {x1 : Int32} {M M' : xwM} {o : Int32 ⊕ String} (hf : fX2_requireUpTo x0 x1 M = some (o, M')) : xk_xv l yX2_requireUpTo cX2_requireUpTo 2 none rX2_requireUpTo D tys base 431 ad [.int x0, .int x1] (xm_ce ad cs M) (xm_ce ad cs M') o 1 6 :=
  xk_ofxv 0 (by decide) hJ (List.forall_mem_cons.mpr ⟨rfl, List.forall_mem_cons.mpr ⟨rfl, List.forall_mem_nil _⟩⟩) (Nat.le_of_ble_eq_true rfl) (fun G e1 e2 e3 e4 e5 hr hE C => kX2_requireUpTo_0 C e2 (e4.trans ht) hr (e1 ▸ hl) hE  hf)

abbrev rX2_link : Room := { frames := 8, cells := 4, slots := 24, locals := 143 }
def fX2_link_120 (x4 : Int32) (x5 : Int32) (x6 : Int32) (M : xwM) : Option (xwX) :=
  bnv (fX2_chooseEverywhere x5 M) fun M41 =>
  bnv (fX2_chooseEverywhere x6 M41) fun M43 =>
  some (.inl x4, M43)
set_option maxHeartbeats 4000000 in
set_option maxRecDepth 100000 in
theorem kX2_link_120 {G : xwG} {ad : Nat → Nat} {cs : xmC} (C : xw_C G cX2_link 7 RX2 431 ad) (hR : xgR G = rX2_link) (ht : xgt G = xm_tys cs) (hr : (xgM G).sig.returnType = (some .int)) (hl : (xgl G).stackTraces = false) (hE : ∀ x ∈ (xgc G).exceptionTable.toList, False) {M' : xwM} {o : Int32 ⊕ String} {x4 : Int32} {x5 : Int32} {x6 : Int32} {M : xwM} (hf : fX2_link_120 x4 x5 x6 M = some (o, M')) : XV G (xw_qxi G 431 ad (xm_ce ad cs M') o 4 24) 7 4 24 ad cs M 120 [some (.ref (ad 0)), none, none, none, some (.int x4), some (.int x5), some (.int x6)] [] := by
  unfold fX2_link_120 at hf
  refine xw_aload_n C dX2_link_120 0 rfl rfl ?_
  refine xw_iload C dX2_link_121 rfl ?_
  obtain ⟨M_M41, g_42, hf⟩ := bnv_s hf
  refine xc_Vv C (mX2_chooseEverywhere (xgl G) C.2.2.2.2.2.2.2.2.1 ht  g_42) FX2_chooseEverywhere hw_269 (by decide) xs_0 rfl (by rw [hR]; decide) (by rw [hR]; decide) rfl (Nat.le_of_ble_eq_true rfl) dX2_link_123 rfl ?_
  refine xw_aload_n C dX2_link_126 0 rfl rfl ?_
  refine xw_iload C dX2_link_127 rfl ?_
  obtain ⟨M_M43, g_44, hf⟩ := bnv_s hf
  refine xc_Vv C (mX2_chooseEverywhere (xgl G) C.2.2.2.2.2.2.2.2.1 ht  g_44) FX2_chooseEverywhere hw_269 (by decide) xs_0 rfl (by rw [hR]; decide) (by rw [hR]; decide) rfl (Nat.le_of_ble_eq_true rfl) dX2_link_129 rfl ?_
  refine xw_iload C dX2_link_132 rfl ?_
  cases hf
  exact xw_retxi C hr (by decide) (by decide) dX2_link_134
def fX2_link (x1 : Int32) (x2 : Int32) (x3 : Int32) (M : xwM) : Option (xwX) :=
  bnx (fX2_requirePair x1 x2 M) fun _ M2 =>
  bnx (fX2_requireUpTo x3 1000 M2) fun _ M6 =>
  ixr 12 x1 fun n9 =>
  ld M6 (3 + 34 * n9) 12 x2 fun v12 =>
  if x3 = v12 then
    (some (.inl v12, M6))
  else
    (ixr 12 x1 fun n15 =>
      sto M6 (3 + 34 * n15) 12 x2 x3 fun M18 =>
      ixr 12 x2 fun n20 =>
      sto M18 (3 + 34 * n20) 12 x1 x3 fun M23 =>
      if v12 = 0 then
        (bnv (fX2_tellEveryWay (if x2 < x1 then x2 else x1) (if x1 < x2 then x2 else x1) M23) fun M37 =>
          bnv (fX2_tellEveryWay (if x1 < x2 then x2 else x1) (if x2 < x1 then x2 else x1) M37) fun M39 =>
          some (.inl v12, M39))
      else
        (if x3 = 0 then
            (ixr 12 x1 fun n27 =>
              bnv (fX1_forgetNeighbour n27 x2 M23) fun M30 =>
              ixr 12 x2 fun n32 =>
              bnv (fX1_forgetNeighbour n32 x1 M30) fun M35 =>
              fX2_link_120 v12 ((if x2 < x1 then x2 else x1)) ((if x1 < x2 then x2 else x1)) M35)
          else
            (fX2_link_120 v12 ((if x2 < x1 then x2 else x1)) ((if x1 < x2 then x2 else x1)) M23)))
set_option maxHeartbeats 4000000 in
set_option maxRecDepth 100000 in
theorem kX2_link_0 {G : xwG} {ad : Nat → Nat} {cs : xmC} (C : xw_C G cX2_link 7 RX2 431 ad) (hR : xgR G = rX2_link) (ht : xgt G = xm_tys cs) (hr : (xgM G).sig.returnType = (some .int)) (hl : (xgl G).stackTraces = false) (hE : ∀ x ∈ (xgc G).exceptionTable.toList, False) {M' : xwM} {o : Int32 ⊕ String} {x1 : Int32} {x2 : Int32} {x3 : Int32} {M : xwM} (hf : fX2_link x1 x2 x3 M = some (o, M')) : XV G (xw_qxi G 431 ad (xm_ce ad cs M') o 4 24) 7 0 0 ad cs M 0 [some (.ref (ad 0)), some (.int x1), some (.int x2), some (.int x3), none, none, none] [] := by
  unfold fX2_link at hf
  refine xw_iload_n C dX2_link_0 1 rfl rfl ?_
  refine xw_iload_n C dX2_link_1 2 rfl rfl ?_
  rcases bnx_s hf with ⟨r_1, M_M2, g_3, hf⟩ | ⟨E_4, M_M2, g_3, hf⟩
  · refine xc_Sxv C (mX2_requirePair (xgl G) C.2.2.2.2.2.2.2.2.1 ht hl  g_3) FX2_requirePair hw_148 (by rw [hR]; decide) (by rw [hR]; decide) rfl (Nat.le_of_ble_eq_true rfl) dX2_link_2 rfl ?_
    refine xw_iload_n C dX2_link_5 3 rfl rfl ?_
    refine xw_sipush (v := 1000) C dX2_link_6 (by decide) ?_
    rcases bnx_s hf with ⟨r_5, M_M6, g_7, hf⟩ | ⟨E_8, M_M6, g_7, hf⟩
    · refine xc_Sxv C (mX2_requireUpTo (xgl G) C.2.2.2.2.2.2.2.2.1 ht hl  g_7) FX2_requireUpTo hw_222 (by rw [hR]; decide) (by rw [hR]; decide) rfl (Nat.le_of_ble_eq_true rfl) dX2_link_9 rfl ?_
      refine xw_aload_n C dX2_link_12 0 rfl rfl ?_
      refine xv_getf C (by decide) xs_0 rfl inB2 0 (by decide) hw_133 rfl dX2_link_13 ?_
      refine xw_iload_n C dX2_link_16 1 rfl rfl ?_
      obtain ⟨i_10, q_11, hf⟩ := ixr_s hf
      refine xv_aldR C ht i_10 dX2_link_17 ?_
      refine xv_getf C (by omega) (xs_R q_11) rfl inB1 0 (by decide) hw_63 rfl dX2_link_18 ?_
      refine xw_iload_n C dX2_link_21 2 rfl rfl ?_
      obtain ⟨i_13, hf⟩ := ld_s hf
      refine xv_iald C ht (by omega) ((fun _ => xs_A 3 (by decide) q_11) _) i_13 dX2_link_22 ?_
      refine xw_istore C dX2_link_23 (by decide) ?_
      refine xw_iload_n C dX2_link_25 3 rfl rfl ?_
      refine xw_iload C dX2_link_26 rfl ?_
      refine xw_icmp_ne (tgt := 34) C dX2_link_28 (by decide) (fun c_14 => ?_) (fun c_14 => ?_)
      · have hf := it_f hf c_14
        refine xw_aload_n C dX2_link_34 0 rfl rfl ?_
        refine xv_getf C (by decide) xs_0 rfl inB2 0 (by decide) hw_133 rfl dX2_link_35 ?_
        refine xw_iload_n C dX2_link_38 1 rfl rfl ?_
        obtain ⟨i_16, q_17, hf⟩ := ixr_s hf
        refine xv_aldR C ht i_16 dX2_link_39 ?_
        refine xv_getf C (by omega) (xs_R q_17) rfl inB1 0 (by decide) hw_63 rfl dX2_link_40 ?_
        refine xw_iload_n C dX2_link_43 2 rfl rfl ?_
        refine xw_iload_n C dX2_link_44 3 rfl rfl ?_
        obtain ⟨i_19, hf⟩ := sto_s hf
        refine xv_iast C ht (by omega) (fun _ => xs_A 3 (by decide) q_17) i_19 dX2_link_45 ?_
        refine xw_aload_n C dX2_link_46 0 rfl rfl ?_
        refine xv_getf C (by decide) xs_0 rfl inB2 0 (by decide) hw_133 rfl dX2_link_47 ?_
        refine xw_iload_n C dX2_link_50 2 rfl rfl ?_
        obtain ⟨i_21, q_22, hf⟩ := ixr_s hf
        refine xv_aldR C ht i_21 dX2_link_51 ?_
        refine xv_getf C (by omega) (xs_R q_22) rfl inB1 0 (by decide) hw_63 rfl dX2_link_52 ?_
        refine xw_iload_n C dX2_link_55 1 rfl rfl ?_
        refine xw_iload_n C dX2_link_56 3 rfl rfl ?_
        obtain ⟨i_24, hf⟩ := sto_s hf
        refine xv_iast C ht (by omega) (fun _ => xs_A 3 (by decide) q_22) i_24 dX2_link_57 ?_
        refine xw_iload_n C dX2_link_58 1 rfl rfl ?_
        refine xw_iload_n C dX2_link_59 2 rfl rfl ?_
        refine xv_min C hw_226 hw_227 hw_40 hw_228 (by rw [hR]; decide) dX2_link_60 ?_
        refine xw_istore C dX2_link_63 (by decide) ?_
        refine xw_iload_n C dX2_link_65 1 rfl rfl ?_
        refine xw_iload_n C dX2_link_66 2 rfl rfl ?_
        refine xv_max C hw_229 hw_230 hw_40 hw_231 (by rw [hR]; decide) dX2_link_67 ?_
        refine xw_istore C dX2_link_70 (by decide) ?_
        refine xw_iload C dX2_link_72 rfl ?_
        refine xw_if_ne (tgt := 96) C dX2_link_74 (by decide) (fun c_25 => ?_) (fun c_25 => ?_)
        · have hf := it_f hf c_25
          refine xw_iload_n C dX2_link_96 3 rfl rfl ?_
          refine xw_if_ne (tgt := 120) C dX2_link_97 (by decide) (fun c_26 => ?_) (fun c_26 => ?_)
          · have hf := it_f hf c_26
            exact xl_sub (xl_c rfl (xl_n (xl_n (xl_n (xl_c rfl (xl_c rfl (xl_c rfl xl_e))))))) (kX2_link_120 C hR ht hr hl hE  hf)
          · have hf := it_t hf c_26
            refine xw_aload_n C dX2_link_100 0 rfl rfl ?_
            refine xv_getf C (by decide) xs_0 rfl inB2 0 (by decide) hw_133 rfl dX2_link_101 ?_
            refine xw_iload_n C dX2_link_104 1 rfl rfl ?_
            obtain ⟨i_28, q_29, hf⟩ := ixr_s hf
            refine xv_aldR C ht i_28 dX2_link_105 ?_
            refine xw_iload_n C dX2_link_106 2 rfl rfl ?_
            obtain ⟨M_M30, g_31, hf⟩ := bnv_s hf
            refine xc_Vv C (mX1_forgetNeighbour (xgl G) C.2.2.2.2.2.2.2.2.1 ht q_29 g_31) FX1_forgetNeighbour hw_265 (by omega) (xs_R q_29) rfl (by rw [hR]; decide) (by rw [hR]; decide) rfl (Nat.le_of_ble_eq_true rfl) dX2_link_107 rfl ?_
            refine xw_aload_n C dX2_link_110 0 rfl rfl ?_
            refine xv_getf C (by decide) xs_0 rfl inB2 0 (by decide) hw_133 rfl dX2_link_111 ?_
            refine xw_iload_n C dX2_link_114 2 rfl rfl ?_
            obtain ⟨i_33, q_34, hf⟩ := ixr_s hf
            refine xv_aldR C ht i_33 dX2_link_115 ?_
            refine xw_iload_n C dX2_link_116 1 rfl rfl ?_
            obtain ⟨M_M35, g_36, hf⟩ := bnv_s hf
            refine xc_Vv C (mX1_forgetNeighbour (xgl G) C.2.2.2.2.2.2.2.2.1 ht q_34 g_36) FX1_forgetNeighbour hw_265 (by omega) (xs_R q_34) rfl (by rw [hR]; decide) (by rw [hR]; decide) rfl (Nat.le_of_ble_eq_true rfl) dX2_link_117 rfl ?_
            exact xl_sub (xl_c rfl (xl_n (xl_n (xl_n (xl_c rfl (xl_c rfl (xl_c rfl xl_e))))))) (kX2_link_120 C hR ht hr hl hE  hf)
        · have hf := it_t hf c_25
          refine xw_aload_n C dX2_link_77 0 rfl rfl ?_
          refine xw_iload C dX2_link_78 rfl ?_
          refine xw_iload C dX2_link_80 rfl ?_
          obtain ⟨M_M37, g_38, hf⟩ := bnv_s hf
          refine xc_Vv C (mX2_tellEveryWay (xgl G) C.2.2.2.2.2.2.2.2.1 ht  g_38) FX2_tellEveryWay hw_232 (by decide) xs_0 rfl (by rw [hR]; decide) (by rw [hR]; decide) rfl (Nat.le_of_ble_eq_true rfl) dX2_link_82 rfl ?_
          refine xw_aload_n C dX2_link_85 0 rfl rfl ?_
          refine xw_iload C dX2_link_86 rfl ?_
          refine xw_iload C dX2_link_88 rfl ?_
          obtain ⟨M_M39, g_40, hf⟩ := bnv_s hf
          refine xc_Vv C (mX2_tellEveryWay (xgl G) C.2.2.2.2.2.2.2.2.1 ht  g_40) FX2_tellEveryWay hw_232 (by decide) xs_0 rfl (by rw [hR]; decide) (by rw [hR]; decide) rfl (Nat.le_of_ble_eq_true rfl) dX2_link_90 rfl ?_
          refine xw_iload C dX2_link_93 rfl ?_
          cases hf
          exact xw_retxi C hr (by decide) (by decide) dX2_link_95
      · have hf := it_t hf c_14
        refine xw_iload C dX2_link_31 rfl ?_
        cases hf
        exact xw_retxi C hr (by decide) (by decide) dX2_link_33
    · cases hf
      exact xc_outS C hE (mX2_requireUpTo (xgl G) C.2.2.2.2.2.2.2.2.1 ht hl  g_7) FX2_requireUpTo hw_222 (by rw [hR]; decide) (by rw [hR]; decide) (by decide) rfl (Nat.le_of_ble_eq_true rfl) dX2_link_9 rfl
  · cases hf
    exact xc_outS C hE (mX2_requirePair (xgl G) C.2.2.2.2.2.2.2.2.1 ht hl  g_3) FX2_requirePair hw_148 (by rw [hR]; decide) (by rw [hR]; decide) (by decide) rfl (Nat.le_of_ble_eq_true rfl) dX2_link_2 rfl
theorem mX2_link (l : Launch) {D : va_G} {tys : List (ClassId × FieldType)} {base : Nat} {ad : Nat → Nat} {cs : xmC} (hJ : xw_J 431 ad base) (ht : tys = xm_tys cs) (hl : l.stackTraces = false) {x1 : Int32} {x2 : Int32} {x3 : Int32} {M M' : xwM} {o : Int32 ⊕ String} (hf : fX2_link x1 x2 x3 M = some (o, M')) : xk_xi l yX2_link cX2_link 7 (some .int) rX2_link D tys base 431 ad [.ref (ad 0), .int x1, .int x2, .int x3] (xm_ce ad cs M) (xm_ce ad cs M') o 4 24 :=
  xk_ofxi 3 (by decide) hJ (List.forall_mem_cons.mpr ⟨rfl, List.forall_mem_cons.mpr ⟨rfl, List.forall_mem_cons.mpr ⟨rfl, List.forall_mem_cons.mpr ⟨rfl, List.forall_mem_nil _⟩⟩⟩⟩) (Nat.le_of_ble_eq_true rfl) (fun G e1 e2 e3 e4 e5 hr hE C => kX2_link_0 C e2 (e4.trans ht) hr (e1 ▸ hl) hE  hf)

abbrev rX2_announce : Room := { frames := 7, cells := 1, slots := 6, locals := 110 }
def fX2_announce_52 (kf : Int32 → Int32 → Int32 → xwM → Option (xwX)) (x1 : Int32) (x2 : Int32) (x3 : Int32) (M : xwM) : Option (xwX) :=
  kf x1 x2 ((x3 + 1)) M
set_option maxHeartbeats 4000000 in
set_option maxRecDepth 100000 in
theorem kX2_announce_52 {G : xwG} {ad : Nat → Nat} {cs : xmC} (C : xw_C G cX2_announce 4 RX2 431 ad) (hR : xgR G = rX2_announce) (ht : xgt G = xm_tys cs) (hr : (xgM G).sig.returnType = (some .int)) (hl : (xgl G).stackTraces = false) (hE : ∀ x ∈ (xgc G).exceptionTable.toList, False) {M' : xwM} {o : Int32 ⊕ String} {kf : Int32 → Int32 → Int32 → xwM → Option (xwX)} (hk : ∀ (yx1 : Int32) (yx2 : Int32) (yx3 : Int32) (M : xwM), kf yx1 yx2 yx3 M = some (o, M') → XV G (xw_qxi G 431 ad (xm_ce ad cs M') o 1 6) 4 1 6 ad cs M 14 [some (.ref (ad 0)), some (.int yx1), some (.int yx2), some (.int yx3)] []) {x1 : Int32} {x2 : Int32} {x3 : Int32} {M : xwM} (hf : fX2_announce_52 kf x1 x2 x3 M = some (o, M')) : XV G (xw_qxi G 431 ad (xm_ce ad cs M') o 1 6) 4 1 6 ad cs M 52 [some (.ref (ad 0)), some (.int x1), some (.int x2), some (.int x3)] [] := by
  unfold fX2_announce_52 at hf
  refine xw_iinc C dX2_announce_52 rfl (show _ + Int32.ofInt (1) = _ + (1) from congrArg _ (by decide)) (by decide) ?_
  refine xw_goto (tgt := 14) C dX2_announce_55 (by decide) ?_
  exact xl_sub (xl_c rfl (xl_c rfl (xl_c rfl (xl_c rfl xl_e)))) (hk _ _ _ _ hf)
def fX2_announce_46 (kf : Int32 → Int32 → Int32 → xwM → Option (xwX)) (x1 : Int32) (x2 : Int32) (x3 : Int32) (M : xwM) : Option (xwX) :=
  bnv (fX2_tellAll x1 x3 M) fun M20 =>
  fX2_announce_52 kf x1 x2 x3 M20
set_option maxHeartbeats 4000000 in
set_option maxRecDepth 100000 in
theorem kX2_announce_46 {G : xwG} {ad : Nat → Nat} {cs : xmC} (C : xw_C G cX2_announce 4 RX2 431 ad) (hR : xgR G = rX2_announce) (ht : xgt G = xm_tys cs) (hr : (xgM G).sig.returnType = (some .int)) (hl : (xgl G).stackTraces = false) (hE : ∀ x ∈ (xgc G).exceptionTable.toList, False) {M' : xwM} {o : Int32 ⊕ String} {kf : Int32 → Int32 → Int32 → xwM → Option (xwX)} (hk : ∀ (yx1 : Int32) (yx2 : Int32) (yx3 : Int32) (M : xwM), kf yx1 yx2 yx3 M = some (o, M') → XV G (xw_qxi G 431 ad (xm_ce ad cs M') o 1 6) 4 1 6 ad cs M 14 [some (.ref (ad 0)), some (.int yx1), some (.int yx2), some (.int yx3)] []) {x1 : Int32} {x2 : Int32} {x3 : Int32} {M : xwM} (hf : fX2_announce_46 kf x1 x2 x3 M = some (o, M')) : XV G (xw_qxi G 431 ad (xm_ce ad cs M') o 1 6) 4 1 6 ad cs M 46 [some (.ref (ad 0)), some (.int x1), some (.int x2), some (.int x3)] [] := by
  unfold fX2_announce_46 at hf
  refine xw_aload_n C dX2_announce_46 0 rfl rfl ?_
  refine xw_iload_n C dX2_announce_47 1 rfl rfl ?_
  refine xw_iload_n C dX2_announce_48 3 rfl rfl ?_
  obtain ⟨M_M20, g_21, hf⟩ := bnv_s hf
  refine xc_Vv C (mX2_tellAll (xgl G) C.2.2.2.2.2.2.2.2.1 ht  g_21) FX2_tellAll hw_287 (by decide) xs_0 rfl (by rw [hR]; decide) (by rw [hR]; decide) rfl (Nat.le_of_ble_eq_true rfl) dX2_announce_49 rfl ?_
  exact xl_sub (xl_c rfl (xl_c rfl (xl_c rfl (xl_c rfl xl_e)))) (kX2_announce_52 C hR ht hr hl hE hk  hf)
def fX2_announce_14 : Nat → Int32 → Int32 → Int32 →  xwM → Option (xwX)
  | 0, _, _, _, _ => none
  | fu + 1, x1, x2, x3, M =>
  if 12 ≤ x3 then
    (some (.inl ((M 410 3) - x2), M))
  else
    (ixr 12 x1 fun n6 =>
      bni (fX1_hasWay n6 x3 M) fun v9 M10 =>
      if v9 = 0 then
        (ixr 12 x1 fun n13 =>
          bni (fX1_hasBound n13 x3 M10) fun v16 M17 =>
          if v16 = 0 then
            (fX2_announce_52 (fX2_announce_14 fu) x1 x2 x3 M17)
          else
            (fX2_announce_46 (fX2_announce_14 fu) x1 x2 x3 M17))
      else
        (fX2_announce_46 (fX2_announce_14 fu) x1 x2 x3 M10))
set_option maxHeartbeats 4000000 in
set_option maxRecDepth 100000 in
theorem kX2_announce_14 {G : xwG} {ad : Nat → Nat} {cs : xmC} (C : xw_C G cX2_announce 4 RX2 431 ad) (hR : xgR G = rX2_announce) (ht : xgt G = xm_tys cs) (hr : (xgM G).sig.returnType = (some .int)) (hl : (xgl G).stackTraces = false) (hE : ∀ x ∈ (xgc G).exceptionTable.toList, False) {M' : xwM} {o : Int32 ⊕ String} : ∀ (fu : Nat) (x1 : Int32) (x2 : Int32) (x3 : Int32) (M : xwM), fX2_announce_14 fu x1 x2 x3 M = some (o, M') → XV G (xw_qxi G 431 ad (xm_ce ad cs M') o 1 6) 4 1 6 ad cs M 14 [some (.ref (ad 0)), some (.int x1), some (.int x2), some (.int x3)] [] := by
  intro fu
  induction fu with
  | zero =>
    intro x1 x2 x3 M  hf
    cases hf
  | succ fu ih =>
    intro x1 x2 x3 M  hf
    rw [fX2_announce_14] at hf
    refine xw_iload_n C dX2_announce_14 3 rfl rfl ?_
    refine xw_bipush (v := 12) C dX2_announce_15 (by decide) ?_
    refine xw_icmp_ge (tgt := 58) C dX2_announce_17 (by decide) (fun c_5 => ?_) (fun c_5 => ?_)
    · have hf := it_t hf c_5
      refine xw_aload_n C dX2_announce_58 0 rfl rfl ?_
      refine xv_getf C (by decide) xs_0 rfl inB2 1 (by decide) hw_134 rfl dX2_announce_59 ?_
      refine xv_getf C (by decide) xs_L rfl inB0 3 (by decide) hw_114 rfl dX2_announce_62 ?_
      refine xw_iload_n C dX2_announce_65 2 rfl rfl ?_
      refine xw_isub C dX2_announce_66 ?_
      cases hf
      exact xw_retxi C hr (by decide) (by decide) dX2_announce_67
    · have hf := it_f hf c_5
      refine xw_aload_n C dX2_announce_20 0 rfl rfl ?_
      refine xv_getf C (by decide) xs_0 rfl inB2 0 (by decide) hw_133 rfl dX2_announce_21 ?_
      refine xw_iload_n C dX2_announce_24 1 rfl rfl ?_
      obtain ⟨i_7, q_8, hf⟩ := ixr_s hf
      refine xv_aldR C ht i_7 dX2_announce_25 ?_
      refine xw_iload_n C dX2_announce_26 3 rfl rfl ?_
      obtain ⟨r_v9, M_M10, g_11, hf⟩ := bni_s hf
      refine xc_Vi C (mX1_hasWay (xgl G) C.2.2.2.2.2.2.2.2.1 ht q_8 g_11) FX1_hasWay hw_236 (by omega) (xs_R q_8) rfl (by rw [hR]; decide) (by rw [hR]; decide) rfl (Nat.le_of_ble_eq_true rfl) dX2_announce_27 rfl ?_
      refine xw_if_ne (tgt := 46) C dX2_announce_30 (by decide) (fun c_12 => ?_) (fun c_12 => ?_)
      · have hf := it_f hf c_12
        exact xl_sub (xl_c rfl (xl_c rfl (xl_c rfl (xl_c rfl xl_e)))) (kX2_announce_46 C hR ht hr hl hE ih  hf)
      · have hf := it_t hf c_12
        refine xw_aload_n C dX2_announce_33 0 rfl rfl ?_
        refine xv_getf C (by decide) xs_0 rfl inB2 0 (by decide) hw_133 rfl dX2_announce_34 ?_
        refine xw_iload_n C dX2_announce_37 1 rfl rfl ?_
        obtain ⟨i_14, q_15, hf⟩ := ixr_s hf
        refine xv_aldR C ht i_14 dX2_announce_38 ?_
        refine xw_iload_n C dX2_announce_39 3 rfl rfl ?_
        obtain ⟨r_v16, M_M17, g_18, hf⟩ := bni_s hf
        refine xc_Vi C (mX1_hasBound (xgl G) C.2.2.2.2.2.2.2.2.1 ht q_15 g_18) FX1_hasBound hw_244 (by omega) (xs_R q_15) rfl (by rw [hR]; decide) (by rw [hR]; decide) rfl (Nat.le_of_ble_eq_true rfl) dX2_announce_40 rfl ?_
        refine xw_if_eq (tgt := 52) C dX2_announce_43 (by decide) (fun c_19 => ?_) (fun c_19 => ?_)
        · have hf := it_t hf c_19
          exact xl_sub (xl_c rfl (xl_c rfl (xl_c rfl (xl_c rfl xl_e)))) (kX2_announce_52 C hR ht hr hl hE ih  hf)
        · have hf := it_f hf c_19
          exact xl_sub (xl_c rfl (xl_c rfl (xl_c rfl (xl_c rfl xl_e)))) (kX2_announce_46 C hR ht hr hl hE ih  hf)
def fX2_announce (x1 : Int32) (M : xwM) : Option (xwX) :=
  bnx (fX2_requireNode x1 M) fun _ M2 =>
  fX2_announce_14 2001 x1 ((M2 410 3)) 0 M2
set_option maxHeartbeats 4000000 in
set_option maxRecDepth 100000 in
theorem kX2_announce_0 {G : xwG} {ad : Nat → Nat} {cs : xmC} (C : xw_C G cX2_announce 4 RX2 431 ad) (hR : xgR G = rX2_announce) (ht : xgt G = xm_tys cs) (hr : (xgM G).sig.returnType = (some .int)) (hl : (xgl G).stackTraces = false) (hE : ∀ x ∈ (xgc G).exceptionTable.toList, False) {M' : xwM} {o : Int32 ⊕ String} {x1 : Int32} {M : xwM} (hf : fX2_announce x1 M = some (o, M')) : XV G (xw_qxi G 431 ad (xm_ce ad cs M') o 1 6) 4 0 0 ad cs M 0 [some (.ref (ad 0)), some (.int x1), none, none] [] := by
  unfold fX2_announce at hf
  refine xw_iload_n C dX2_announce_0 1 rfl rfl ?_
  rcases bnx_s hf with ⟨r_1, M_M2, g_3, hf⟩ | ⟨E_4, M_M2, g_3, hf⟩
  · refine xc_Sxv C (mX2_requireNode (xgl G) C.2.2.2.2.2.2.2.2.1 ht hl  g_3) FX2_requireNode hw_151 (by rw [hR]; decide) (by rw [hR]; decide) rfl (Nat.le_of_ble_eq_true rfl) dX2_announce_1 rfl ?_
    refine xw_aload_n C dX2_announce_4 0 rfl rfl ?_
    refine xv_getf C (by decide) xs_0 rfl inB2 1 (by decide) hw_134 rfl dX2_announce_5 ?_
    refine xv_getf C (by decide) xs_L rfl inB0 3 (by decide) hw_114 rfl dX2_announce_8 ?_
    refine xw_istore_n C dX2_announce_11 2 rfl (by decide) ?_
    refine xw_iconst (v := 0) C dX2_announce_12 (by decide) ?_
    refine xw_istore_n C dX2_announce_13 3 rfl (by decide) ?_
    exact xl_sub (xl_c rfl (xl_c rfl (xl_c rfl (xl_c rfl xl_e)))) (kX2_announce_14 C hR ht hr hl hE 2001 _ _ _ _ hf)
  · cases hf
    exact xc_outS C hE (mX2_requireNode (xgl G) C.2.2.2.2.2.2.2.2.1 ht hl  g_3) FX2_requireNode hw_151 (by rw [hR]; decide) (by rw [hR]; decide) (by decide) rfl (Nat.le_of_ble_eq_true rfl) dX2_announce_1 rfl
theorem mX2_announce (l : Launch) {D : va_G} {tys : List (ClassId × FieldType)} {base : Nat} {ad : Nat → Nat} {cs : xmC} (hJ : xw_J 431 ad base) (ht : tys = xm_tys cs) (hl : l.stackTraces = false) {x1 : Int32} {M M' : xwM} {o : Int32 ⊕ String} (hf : fX2_announce x1 M = some (o, M')) : xk_xi l yX2_announce cX2_announce 4 (some .int) rX2_announce D tys base 431 ad [.ref (ad 0), .int x1] (xm_ce ad cs M) (xm_ce ad cs M') o 1 6 :=
  xk_ofxi 2 (by decide) hJ (List.forall_mem_cons.mpr ⟨rfl, List.forall_mem_cons.mpr ⟨rfl, List.forall_mem_nil _⟩⟩) (Nat.le_of_ble_eq_true rfl) (fun G e1 e2 e3 e4 e5 hr hE C => kX2_announce_0 C e2 (e4.trans ht) hr (e1 ▸ hl) hE  hf)

abbrev rX2_renew : Room := { frames := 7, cells := 1, slots := 6, locals := 110 }
def fX2_renew (x1 : Int32) (M : xwM) : Option (xwX) :=
  bnx (fX2_requireNode x1 M) fun _ M2 =>
  ixr 12 x1 fun n5 =>
  bni (fX1_raiseOwnNumber n5 M2) fun v8 M9 =>
  bnv (fX2_tellAll x1 x1 M9) fun M11 =>
  some (.inl v8, M11)
set_option maxHeartbeats 4000000 in
set_option maxRecDepth 100000 in
theorem kX2_renew_0 {G : xwG} {ad : Nat → Nat} {cs : xmC} (C : xw_C G cX2_renew 3 RX2 431 ad) (hR : xgR G = rX2_renew) (ht : xgt G = xm_tys cs) (hr : (xgM G).sig.returnType = (some .int)) (hl : (xgl G).stackTraces = false) (hE : ∀ x ∈ (xgc G).exceptionTable.toList, False) {M' : xwM} {o : Int32 ⊕ String} {x1 : Int32} {M : xwM} (hf : fX2_renew x1 M = some (o, M')) : XV G (xw_qxi G 431 ad (xm_ce ad cs M') o 1 6) 3 0 0 ad cs M 0 [some (.ref (ad 0)), some (.int x1), none] [] := by
  unfold fX2_renew at hf
  refine xw_iload_n C dX2_renew_0 1 rfl rfl ?_
  rcases bnx_s hf with ⟨r_1, M_M2, g_3, hf⟩ | ⟨E_4, M_M2, g_3, hf⟩
  · refine xc_Sxv C (mX2_requireNode (xgl G) C.2.2.2.2.2.2.2.2.1 ht hl  g_3) FX2_requireNode hw_151 (by rw [hR]; decide) (by rw [hR]; decide) rfl (Nat.le_of_ble_eq_true rfl) dX2_renew_1 rfl ?_
    refine xw_aload_n C dX2_renew_4 0 rfl rfl ?_
    refine xv_getf C (by decide) xs_0 rfl inB2 0 (by decide) hw_133 rfl dX2_renew_5 ?_
    refine xw_iload_n C dX2_renew_8 1 rfl rfl ?_
    obtain ⟨i_6, q_7, hf⟩ := ixr_s hf
    refine xv_aldR C ht i_6 dX2_renew_9 ?_
    obtain ⟨r_v8, M_M9, g_10, hf⟩ := bni_s hf
    refine xc_Vi C (mX1_raiseOwnNumber (xgl G) C.2.2.2.2.2.2.2.2.1 ht q_7 g_10) FX1_raiseOwnNumber hw_316 (by omega) (xs_R q_7) rfl (by rw [hR]; decide) (by rw [hR]; decide) rfl (Nat.le_of_ble_eq_true rfl) dX2_renew_10 rfl ?_
    refine xw_istore_n C dX2_renew_13 2 rfl (by decide) ?_
    refine xw_aload_n C dX2_renew_14 0 rfl rfl ?_
    refine xw_iload_n C dX2_renew_15 1 rfl rfl ?_
    refine xw_iload_n C dX2_renew_16 1 rfl rfl ?_
    obtain ⟨M_M11, g_12, hf⟩ := bnv_s hf
    refine xc_Vv C (mX2_tellAll (xgl G) C.2.2.2.2.2.2.2.2.1 ht  g_12) FX2_tellAll hw_287 (by decide) xs_0 rfl (by rw [hR]; decide) (by rw [hR]; decide) rfl (Nat.le_of_ble_eq_true rfl) dX2_renew_17 rfl ?_
    refine xw_iload_n C dX2_renew_20 2 rfl rfl ?_
    cases hf
    exact xw_retxi C hr (by decide) (by decide) dX2_renew_21
  · cases hf
    exact xc_outS C hE (mX2_requireNode (xgl G) C.2.2.2.2.2.2.2.2.1 ht hl  g_3) FX2_requireNode hw_151 (by rw [hR]; decide) (by rw [hR]; decide) (by decide) rfl (Nat.le_of_ble_eq_true rfl) dX2_renew_1 rfl
theorem mX2_renew (l : Launch) {D : va_G} {tys : List (ClassId × FieldType)} {base : Nat} {ad : Nat → Nat} {cs : xmC} (hJ : xw_J 431 ad base) (ht : tys = xm_tys cs) (hl : l.stackTraces = false) {x1 : Int32} {M M' : xwM} {o : Int32 ⊕ String} (hf : fX2_renew x1 M = some (o, M')) : xk_xi l yX2_renew cX2_renew 3 (some .int) rX2_renew D tys base 431 ad [.ref (ad 0), .int x1] (xm_ce ad cs M) (xm_ce ad cs M') o 1 6 :=
  xk_ofxi 1 (by decide) hJ (List.forall_mem_cons.mpr ⟨rfl, List.forall_mem_cons.mpr ⟨rfl, List.forall_mem_nil _⟩⟩) (Nat.le_of_ble_eq_true rfl) (fun G e1 e2 e3 e4 e5 hr hE C => kX2_renew_0 C e2 (e4.trans ht) hr (e1 ▸ hl) hE  hf)

abbrev rX2_ask : Room := { frames := 8, cells := 3, slots := 18, locals := 131 }
def fX2_ask_32 (x3 : Int32) (M : xwM) : Option (xwX) :=
  some (.inl ((M 410 3) - x3), M)
set_option maxHeartbeats 4000000 in
set_option maxRecDepth 100000 in
theorem kX2_ask_32 {G : xwG} {ad : Nat → Nat} {cs : xmC} (C : xw_C G cX2_ask 4 RX2 431 ad) (hR : xgR G = rX2_ask) (ht : xgt G = xm_tys cs) (hr : (xgM G).sig.returnType = (some .int)) (hl : (xgl G).stackTraces = false) (hE : ∀ x ∈ (xgc G).exceptionTable.toList, False) {M' : xwM} {o : Int32 ⊕ String} {x3 : Int32} {M : xwM} (hf : fX2_ask_32 x3 M = some (o, M')) : XV G (xw_qxi G 431 ad (xm_ce ad cs M') o 3 18) 4 3 18 ad cs M 32 [some (.ref (ad 0)), none, none, some (.int x3)] [] := by
  unfold fX2_ask_32 at hf
  refine xw_aload_n C dX2_ask_32 0 rfl rfl ?_
  refine xv_getf C (by decide) xs_0 rfl inB2 1 (by decide) hw_134 rfl dX2_ask_33 ?_
  refine xv_getf C (by decide) xs_L rfl inB0 3 (by decide) hw_114 rfl dX2_ask_36 ?_
  refine xw_iload_n C dX2_ask_39 3 rfl rfl ?_
  refine xw_isub C dX2_ask_40 ?_
  cases hf
  exact xw_retxi C hr (by decide) (by decide) dX2_ask_41
def fX2_ask (x1 : Int32) (x2 : Int32) (M : xwM) : Option (xwX) :=
  bnx (fX2_requirePair x1 x2 M) fun _ M2 =>
  ixr 12 x1 fun n5 =>
  bni (fX1_hasWay n5 x2 M2) fun v8 M9 =>
  if v8 = 0 then
    (bnv (fX2_askAll x1 x2 M9) fun M12 =>
      fX2_ask_32 ((M2 410 3)) M12)
  else
    (fX2_ask_32 ((M2 410 3)) M9)
set_option maxHeartbeats 4000000 in
set_option maxRecDepth 100000 in
theorem kX2_ask_0 {G : xwG} {ad : Nat → Nat} {cs : xmC} (C : xw_C G cX2_ask 4 RX2 431 ad) (hR : xgR G = rX2_ask) (ht : xgt G = xm_tys cs) (hr : (xgM G).sig.returnType = (some .int)) (hl : (xgl G).stackTraces = false) (hE : ∀ x ∈ (xgc G).exceptionTable.toList, False) {M' : xwM} {o : Int32 ⊕ String} {x1 : Int32} {x2 : Int32} {M : xwM} (hf : fX2_ask x1 x2 M = some (o, M')) : XV G (xw_qxi G 431 ad (xm_ce ad cs M') o 3 18) 4 0 0 ad cs M 0 [some (.ref (ad 0)), some (.int x1), some (.int x2), none] [] := by
  unfold fX2_ask at hf
  refine xw_iload_n C dX2_ask_0 1 rfl rfl ?_
  refine xw_iload_n C dX2_ask_1 2 rfl rfl ?_
  rcases bnx_s hf with ⟨r_1, M_M2, g_3, hf⟩ | ⟨E_4, M_M2, g_3, hf⟩
  · refine xc_Sxv C (mX2_requirePair (xgl G) C.2.2.2.2.2.2.2.2.1 ht hl  g_3) FX2_requirePair hw_148 (by rw [hR]; decide) (by rw [hR]; decide) rfl (Nat.le_of_ble_eq_true rfl) dX2_ask_2 rfl ?_
    refine xw_aload_n C dX2_ask_5 0 rfl rfl ?_
    refine xv_getf C (by decide) xs_0 rfl inB2 1 (by decide) hw_134 rfl dX2_ask_6 ?_
    refine xv_getf C (by decide) xs_L rfl inB0 3 (by decide) hw_114 rfl dX2_ask_9 ?_
    refine xw_istore_n C dX2_ask_12 3 rfl (by decide) ?_
    refine xw_aload_n C dX2_ask_13 0 rfl rfl ?_
    refine xv_getf C (by decide) xs_0 rfl inB2 0 (by decide) hw_133 rfl dX2_ask_14 ?_
    refine xw_iload_n C dX2_ask_17 1 rfl rfl ?_
    obtain ⟨i_6, q_7, hf⟩ := ixr_s hf
    refine xv_aldR C ht i_6 dX2_ask_18 ?_
    refine xw_iload_n C dX2_ask_19 2 rfl rfl ?_
    obtain ⟨r_v8, M_M9, g_10, hf⟩ := bni_s hf
    refine xc_Vi C (mX1_hasWay (xgl G) C.2.2.2.2.2.2.2.2.1 ht q_7 g_10) FX1_hasWay hw_236 (by omega) (xs_R q_7) rfl (by rw [hR]; decide) (by rw [hR]; decide) rfl (Nat.le_of_ble_eq_true rfl) dX2_ask_20 rfl ?_
    refine xw_if_ne (tgt := 32) C dX2_ask_23 (by decide) (fun c_11 => ?_) (fun c_11 => ?_)
    · have hf := it_f hf c_11
      exact xl_sub (xl_c rfl (xl_n (xl_n (xl_c rfl xl_e)))) (kX2_ask_32 C hR ht hr hl hE  hf)
    · have hf := it_t hf c_11
      refine xw_aload_n C dX2_ask_26 0 rfl rfl ?_
      refine xw_iload_n C dX2_ask_27 1 rfl rfl ?_
      refine xw_iload_n C dX2_ask_28 2 rfl rfl ?_
      obtain ⟨M_M12, g_13, hf⟩ := bnv_s hf
      refine xc_Vv C (mX2_askAll (xgl G) C.2.2.2.2.2.2.2.2.1 ht  g_13) FX2_askAll hw_291 (by decide) xs_0 rfl (by rw [hR]; decide) (by rw [hR]; decide) rfl (Nat.le_of_ble_eq_true rfl) dX2_ask_29 rfl ?_
      exact xl_sub (xl_c rfl (xl_n (xl_n (xl_c rfl xl_e)))) (kX2_ask_32 C hR ht hr hl hE  hf)
  · cases hf
    exact xc_outS C hE (mX2_requirePair (xgl G) C.2.2.2.2.2.2.2.2.1 ht hl  g_3) FX2_requirePair hw_148 (by rw [hR]; decide) (by rw [hR]; decide) (by decide) rfl (Nat.le_of_ble_eq_true rfl) dX2_ask_2 rfl
theorem mX2_ask (l : Launch) {D : va_G} {tys : List (ClassId × FieldType)} {base : Nat} {ad : Nat → Nat} {cs : xmC} (hJ : xw_J 431 ad base) (ht : tys = xm_tys cs) (hl : l.stackTraces = false) {x1 : Int32} {x2 : Int32} {M M' : xwM} {o : Int32 ⊕ String} (hf : fX2_ask x1 x2 M = some (o, M')) : xk_xi l yX2_ask cX2_ask 4 (some .int) rX2_ask D tys base 431 ad [.ref (ad 0), .int x1, .int x2] (xm_ce ad cs M) (xm_ce ad cs M') o 3 18 :=
  xk_ofxi 1 (by decide) hJ (List.forall_mem_cons.mpr ⟨rfl, List.forall_mem_cons.mpr ⟨rfl, List.forall_mem_cons.mpr ⟨rfl, List.forall_mem_nil _⟩⟩⟩) (Nat.le_of_ble_eq_true rfl) (fun G e1 e2 e3 e4 e5 hr hE C => kX2_ask_0 C e2 (e4.trans ht) hr (e1 ▸ hl) hE  hf)

abbrev rX2_reboot : Room := { frames := 7, cells := 2, slots := 12, locals := 110 }
def fX2_reboot (x1 : Int32) (M : xwM) : Option (xwX) :=
  bnx (fX2_requireNode x1 M) fun _ M2 =>
  ixr 12 x1 fun n5 =>
  bni (fX1_countLinks n5 M2) fun v8 M9 =>
  if v8 = 0 then
    (ixr 12 x1 fun n12 =>
      bnv (fX1_forgetBounds n12 M9) fun M15 =>
      bni (fX0_loseAllOf x1 M15) fun v17 M18 =>
      some (.inl v17, M18))
  else
    (some (.inr "java/lang/IllegalStateException", M9))
set_option maxHeartbeats 4000000 in
set_option maxRecDepth 100000 in
theorem kX2_reboot_0 {G : xwG} {ad : Nat → Nat} {cs : xmC} (C : xw_C G cX2_reboot 2 RX2 431 ad) (hR : xgR G = rX2_reboot) (ht : xgt G = xm_tys cs) (hr : (xgM G).sig.returnType = (some .int)) (hl : (xgl G).stackTraces = false) (hE : ∀ x ∈ (xgc G).exceptionTable.toList, False) {M' : xwM} {o : Int32 ⊕ String} {x1 : Int32} {M : xwM} (hf : fX2_reboot x1 M = some (o, M')) : XV G (xw_qxi G 431 ad (xm_ce ad cs M') o 2 12) 2 0 0 ad cs M 0 [some (.ref (ad 0)), some (.int x1)] [] := by
  unfold fX2_reboot at hf
  refine xw_iload_n C dX2_reboot_0 1 rfl rfl ?_
  rcases bnx_s hf with ⟨r_1, M_M2, g_3, hf⟩ | ⟨E_4, M_M2, g_3, hf⟩
  · refine xc_Sxv C (mX2_requireNode (xgl G) C.2.2.2.2.2.2.2.2.1 ht hl  g_3) FX2_requireNode hw_151 (by rw [hR]; decide) (by rw [hR]; decide) rfl (Nat.le_of_ble_eq_true rfl) dX2_reboot_1 rfl ?_
    refine xw_aload_n C dX2_reboot_4 0 rfl rfl ?_
    refine xv_getf C (by decide) xs_0 rfl inB2 0 (by decide) hw_133 rfl dX2_reboot_5 ?_
    refine xw_iload_n C dX2_reboot_8 1 rfl rfl ?_
    obtain ⟨i_6, q_7, hf⟩ := ixr_s hf
    refine xv_aldR C ht i_6 dX2_reboot_9 ?_
    obtain ⟨r_v8, M_M9, g_10, hf⟩ := bni_s hf
    refine xc_Vi C (mX1_countLinks (xgl G) C.2.2.2.2.2.2.2.2.1 ht q_7 g_10) FX1_countLinks hw_336 (by omega) (xs_R q_7) rfl (by rw [hR]; decide) (by rw [hR]; decide) rfl (Nat.le_of_ble_eq_true rfl) dX2_reboot_10 rfl ?_
    refine xw_if_eq (tgt := 26) C dX2_reboot_13 (by decide) (fun c_11 => ?_) (fun c_11 => ?_)
    · have hf := it_t hf c_11
      refine xw_aload_n C dX2_reboot_26 0 rfl rfl ?_
      refine xv_getf C (by decide) xs_0 rfl inB2 0 (by decide) hw_133 rfl dX2_reboot_27 ?_
      refine xw_iload_n C dX2_reboot_30 1 rfl rfl ?_
      obtain ⟨i_13, q_14, hf⟩ := ixr_s hf
      refine xv_aldR C ht i_13 dX2_reboot_31 ?_
      obtain ⟨M_M15, g_16, hf⟩ := bnv_s hf
      refine xc_Vv C (mX1_forgetBounds (xgl G) C.2.2.2.2.2.2.2.2.1 ht q_14 g_16) FX1_forgetBounds hw_356 (by omega) (xs_R q_14) rfl (by rw [hR]; decide) (by rw [hR]; decide) rfl (Nat.le_of_ble_eq_true rfl) dX2_reboot_32 rfl ?_
      refine xw_aload_n C dX2_reboot_35 0 rfl rfl ?_
      refine xv_getf C (by decide) xs_0 rfl inB2 1 (by decide) hw_134 rfl dX2_reboot_36 ?_
      refine xw_iload_n C dX2_reboot_39 1 rfl rfl ?_
      obtain ⟨r_v17, M_M18, g_19, hf⟩ := bni_s hf
      refine xc_Vi C (mX0_loseAllOf (xgl G) C.2.2.2.2.2.2.2.2.1 ht  g_19) FX0_loseAllOf hw_360 (by decide) xs_L rfl (by rw [hR]; decide) (by rw [hR]; decide) rfl (Nat.le_of_ble_eq_true rfl) dX2_reboot_40 rfl ?_
      cases hf
      exact xw_retxi C hr (by decide) (by decide) dX2_reboot_43
    · have hf := it_f hf c_11
      cases hf
      exact xw_throw C hl hE (by decide +kernel) hw_340 hw_41 C.2.2.2.2.2.2.2.2.2.2.2.2.2.2.2 C.2.2.2.2.2.2.2.2.2.1.2.2.2.2.1 xl_atS xl_badS xl_goodS dX2_reboot_16 dX2_reboot_19 dX2_reboot_20 dX2_reboot_22 dX2_reboot_25 (by rw [hR]; decide) (by decide)
  · cases hf
    exact xc_outS C hE (mX2_requireNode (xgl G) C.2.2.2.2.2.2.2.2.1 ht hl  g_3) FX2_requireNode hw_151 (by rw [hR]; decide) (by rw [hR]; decide) (by decide) rfl (Nat.le_of_ble_eq_true rfl) dX2_reboot_1 rfl
theorem mX2_reboot (l : Launch) {D : va_G} {tys : List (ClassId × FieldType)} {base : Nat} {ad : Nat → Nat} {cs : xmC} (hJ : xw_J 431 ad base) (ht : tys = xm_tys cs) (hl : l.stackTraces = false) {x1 : Int32} {M M' : xwM} {o : Int32 ⊕ String} (hf : fX2_reboot x1 M = some (o, M')) : xk_xi l yX2_reboot cX2_reboot 2 (some .int) rX2_reboot D tys base 431 ad [.ref (ad 0), .int x1] (xm_ce ad cs M) (xm_ce ad cs M') o 2 12 :=
  xk_ofxi 0 (by decide) hJ (List.forall_mem_cons.mpr ⟨rfl, List.forall_mem_cons.mpr ⟨rfl, List.forall_mem_nil _⟩⟩) (Nat.le_of_ble_eq_true rfl) (fun G e1 e2 e3 e4 e5 hr hE C => kX2_reboot_0 C e2 (e4.trans ht) hr (e1 ▸ hl) hE  hf)

abbrev rX2_requireLetter : Room := { frames := 6, cells := 1, slots := 6, locals := 90 }
def fX2_requireLetter_15 (M : xwM) : Option (xwX) :=
  some (.inr "java/lang/IllegalArgumentException", M)
set_option maxHeartbeats 4000000 in
set_option maxRecDepth 100000 in
theorem kX2_requireLetter_15 {G : xwG} {ad : Nat → Nat} {cs : xmC} (C : xw_C G cX2_requireLetter 2 RX2 431 ad) (hR : xgR G = rX2_requireLetter) (ht : xgt G = xm_tys cs) (hr : (xgM G).sig.returnType = none) (hl : (xgl G).stackTraces = false) (hE : ∀ x ∈ (xgc G).exceptionTable.toList, False) {M' : xwM} {o : Int32 ⊕ String} {M : xwM} (hf : fX2_requireLetter_15  M = some (o, M')) : XV G (xw_qxv G 431 ad (xm_ce ad cs M') o 1 6) 2 0 0 ad cs M 15 [none, none] [] := by
  unfold fX2_requireLetter_15 at hf
  cases hf
  exact xw_throw C hl hE (by decide +kernel) hw_154 hw_39 C.2.2.2.2.2.2.2.2.2.2.2.2.2.2.1 C.2.2.2.2.2.2.2.2.2.1.2.2.2.1 xl_atA xl_badA xl_goodA dX2_requireLetter_15 dX2_requireLetter_18 dX2_requireLetter_19 dX2_requireLetter_21 dX2_requireLetter_24 (by rw [hR]; decide) (by decide)
def fX2_requireLetter (x1 : Int32) (M : xwM) : Option (xwX) :=
  if x1 < 0 then
    (fX2_requireLetter_15  M)
  else
    (if x1 < (M 410 2) then
        (some (.inl 0, M))
      else
        (fX2_requireLetter_15  M))
set_option maxHeartbeats 4000000 in
set_option maxRecDepth 100000 in
theorem kX2_requireLetter_0 {G : xwG} {ad : Nat → Nat} {cs : xmC} (C : xw_C G cX2_requireLetter 2 RX2 431 ad) (hR : xgR G = rX2_requireLetter) (ht : xgt G = xm_tys cs) (hr : (xgM G).sig.returnType = none) (hl : (xgl G).stackTraces = false) (hE : ∀ x ∈ (xgc G).exceptionTable.toList, False) {M' : xwM} {o : Int32 ⊕ String} {x1 : Int32} {M : xwM} (hf : fX2_requireLetter x1 M = some (o, M')) : XV G (xw_qxv G 431 ad (xm_ce ad cs M') o 1 6) 2 0 0 ad cs M 0 [some (.ref (ad 0)), some (.int x1)] [] := by
  unfold fX2_requireLetter at hf
  refine xw_iload_n C dX2_requireLetter_0 1 rfl rfl ?_
  refine xw_if_lt (tgt := 15) C dX2_requireLetter_1 (by decide) (fun c_1 => ?_) (fun c_1 => ?_)
  · have hf := it_t hf c_1
    exact xl_sub (xl_n (xl_n xl_e)) (kX2_requireLetter_15 C hR ht hr hl hE  hf)
  · have hf := it_f hf c_1
    refine xw_iload_n C dX2_requireLetter_4 1 rfl rfl ?_
    refine xw_aload_n C dX2_requireLetter_5 0 rfl rfl ?_
    refine xv_getf C (by decide) xs_0 rfl inB2 1 (by decide) hw_134 rfl dX2_requireLetter_6 ?_
    refine xv_getf C (by decide) xs_L rfl inB0 2 (by decide) hw_113 rfl dX2_requireLetter_9 ?_
    refine xw_icmp_lt (tgt := 25) C dX2_requireLetter_12 (by decide) (fun c_2 => ?_) (fun c_2 => ?_)
    · have hf := it_t hf c_2
      cases hf
      exact xw_retxv C hr (by decide) (by decide) dX2_requireLetter_25
    · have hf := it_f hf c_2
      exact xl_sub (xl_n (xl_n xl_e)) (kX2_requireLetter_15 C hR ht hr hl hE  hf)
theorem mX2_requireLetter (l : Launch) {D : va_G} {tys : List (ClassId × FieldType)} {base : Nat} {ad : Nat → Nat} {cs : xmC} (hJ : xw_J 431 ad base) (ht : tys = xm_tys cs) (hl : l.stackTraces = false) {x1 : Int32} {M M' : xwM} {o : Int32 ⊕ String} (hf : fX2_requireLetter x1 M = some (o, M')) : xk_xv l yX2_requireLetter cX2_requireLetter 2 none rX2_requireLetter D tys base 431 ad [.ref (ad 0), .int x1] (xm_ce ad cs M) (xm_ce ad cs M') o 1 6 :=
  xk_ofxv 0 (by decide) hJ (List.forall_mem_cons.mpr ⟨rfl, List.forall_mem_cons.mpr ⟨rfl, List.forall_mem_nil _⟩⟩) (Nat.le_of_ble_eq_true rfl) (fun G e1 e2 e3 e4 e5 hr hE C => kX2_requireLetter_0 C e2 (e4.trans ht) hr (e1 ▸ hl) hE  hf)

abbrev rX2_deliver : Room := { frames := 7, cells := 1, slots := 6, locals := 175 }
def fX2_deliver (x1 : Int32) (M : xwM) : Option (xwX) :=
  bnx (fX2_requireLetter x1 M) fun _ M2 =>
  bnv (fX2_handOver x1 M2) fun M5 =>
  some (.inl ((M5 410 3) - (M2 410 3)), M5)
set_option maxHeartbeats 4000000 in
set_option maxRecDepth 100000 in
theorem kX2_deliver_0 {G : xwG} {ad : Nat → Nat} {cs : xmC} (C : xw_C G cX2_deliver 3 RX2 431 ad) (hR : xgR G = rX2_deliver) (ht : xgt G = xm_tys cs) (hr : (xgM G).sig.returnType = (some .int)) (hl : (xgl G).stackTraces = false) (hE : ∀ x ∈ (xgc G).exceptionTable.toList, False) {M' : xwM} {o : Int32 ⊕ String} {x1 : Int32} {M : xwM} (hf : fX2_deliver x1 M = some (o, M')) : XV G (xw_qxi G 431 ad (xm_ce ad cs M') o 1 6) 3 0 0 ad cs M 0 [some (.ref (ad 0)), some (.int x1), none] [] := by
  unfold fX2_deliver at hf
  refine xw_aload_n C dX2_deliver_0 0 rfl rfl ?_
  refine xw_iload_n C dX2_deliver_1 1 rfl rfl ?_
  rcases bnx_s hf with ⟨r_1, M_M2, g_3, hf⟩ | ⟨E_4, M_M2, g_3, hf⟩
  · refine xc_Vxv C (mX2_requireLetter (xgl G) C.2.2.2.2.2.2.2.2.1 ht hl  g_3) FX2_requireLetter hw_379 (by decide) xs_0 rfl (by rw [hR]; decide) (by rw [hR]; decide) rfl (Nat.le_of_ble_eq_true rfl) dX2_deliver_2 rfl ?_
    refine xw_aload_n C dX2_deliver_5 0 rfl rfl ?_
    refine xv_getf C (by decide) xs_0 rfl inB2 1 (by decide) hw_134 rfl dX2_deliver_6 ?_
    refine xv_getf C (by decide) xs_L rfl inB0 3 (by decide) hw_114 rfl dX2_deliver_9 ?_
    refine xw_istore_n C dX2_deliver_12 2 rfl (by decide) ?_
    refine xw_aload_n C dX2_deliver_13 0 rfl rfl ?_
    refine xw_iload_n C dX2_deliver_14 1 rfl rfl ?_
    obtain ⟨M_M5, g_6, hf⟩ := bnv_s hf
    refine xc_Vv C (mX2_handOver (xgl G) C.2.2.2.2.2.2.2.2.1 ht  g_6) FX2_handOver hw_384 (by decide) xs_0 rfl (by rw [hR]; decide) (by rw [hR]; decide) rfl (Nat.le_of_ble_eq_true rfl) dX2_deliver_15 rfl ?_
    refine xw_aload_n C dX2_deliver_18 0 rfl rfl ?_
    refine xv_getf C (by decide) xs_0 rfl inB2 1 (by decide) hw_134 rfl dX2_deliver_19 ?_
    refine xv_getf C (by decide) xs_L rfl inB0 3 (by decide) hw_114 rfl dX2_deliver_22 ?_
    refine xw_iload_n C dX2_deliver_25 2 rfl rfl ?_
    refine xw_isub C dX2_deliver_26 ?_
    cases hf
    exact xw_retxi C hr (by decide) (by decide) dX2_deliver_27
  · cases hf
    exact xc_outV C hE (mX2_requireLetter (xgl G) C.2.2.2.2.2.2.2.2.1 ht hl  g_3) FX2_requireLetter hw_379 (by decide) xs_0 rfl (by rw [hR]; decide) (by rw [hR]; decide) (by decide) rfl (Nat.le_of_ble_eq_true rfl) dX2_deliver_2 rfl
theorem mX2_deliver (l : Launch) {D : va_G} {tys : List (ClassId × FieldType)} {base : Nat} {ad : Nat → Nat} {cs : xmC} (hJ : xw_J 431 ad base) (ht : tys = xm_tys cs) (hl : l.stackTraces = false) {x1 : Int32} {M M' : xwM} {o : Int32 ⊕ String} (hf : fX2_deliver x1 M = some (o, M')) : xk_xi l yX2_deliver cX2_deliver 3 (some .int) rX2_deliver D tys base 431 ad [.ref (ad 0), .int x1] (xm_ce ad cs M) (xm_ce ad cs M') o 1 6 :=
  xk_ofxi 1 (by decide) hJ (List.forall_mem_cons.mpr ⟨rfl, List.forall_mem_cons.mpr ⟨rfl, List.forall_mem_nil _⟩⟩) (Nat.le_of_ble_eq_true rfl) (fun G e1 e2 e3 e4 e5 hr hE C => kX2_deliver_0 C e2 (e4.trans ht) hr (e1 ▸ hl) hE  hf)

abbrev rX2_run : Room := { frames := 7, cells := 1, slots := 6, locals := 175 }
def fX2_run_35 (x2 : Int32) (M : xwM) : Option (xwX) :=
  some (.inl x2, M)
set_option maxHeartbeats 4000000 in
set_option maxRecDepth 100000 in
theorem kX2_run_35 {G : xwG} {ad : Nat → Nat} {cs : xmC} (C : xw_C G cX2_run 3 RX2 431 ad) (hR : xgR G = rX2_run) (ht : xgt G = xm_tys cs) (hr : (xgM G).sig.returnType = (some .int)) (hl : (xgl G).stackTraces = false) (hE : ∀ x ∈ (xgc G).exceptionTable.toList, False) {M' : xwM} {o : Int32 ⊕ String} {x2 : Int32} {M : xwM} (hf : fX2_run_35 x2 M = some (o, M')) : XV G (xw_qxi G 431 ad (xm_ce ad cs M') o 1 6) 3 1 6 ad cs M 35 [none, none, some (.int x2)] [] := by
  unfold fX2_run_35 at hf
  refine xw_iload_n C dX2_run_35 2 rfl rfl ?_
  cases hf
  exact xw_retxi C hr (by decide) (by decide) dX2_run_36
def fX2_run_9 : Nat → Int32 → Int32 →  xwM → Option (xwX)
  | 0, _, _, _ => none
  | fu + 1, x1, x2, M =>
  if x1 ≤ x2 then
    (fX2_run_35 x2 M)
  else
    (if (M 410 2) ≤ 0 then
        (fX2_run_35 x2 M)
      else
        (bnv (fX2_handOver 0 M) fun M7 =>
          fX2_run_9 fu x1 ((x2 + 1)) M7))
set_option maxHeartbeats 4000000 in
set_option maxRecDepth 100000 in
theorem kX2_run_9 {G : xwG} {ad : Nat → Nat} {cs : xmC} (C : xw_C G cX2_run 3 RX2 431 ad) (hR : xgR G = rX2_run) (ht : xgt G = xm_tys cs) (hr : (xgM G).sig.returnType = (some .int)) (hl : (xgl G).stackTraces = false) (hE : ∀ x ∈ (xgc G).exceptionTable.toList, False) {M' : xwM} {o : Int32 ⊕ String} : ∀ (fu : Nat) (x1 : Int32) (x2 : Int32) (M : xwM), fX2_run_9 fu x1 x2 M = some (o, M') → XV G (xw_qxi G 431 ad (xm_ce ad cs M') o 1 6) 3 1 6 ad cs M 9 [some (.ref (ad 0)), some (.int x1), some (.int x2)] [] := by
  intro fu
  induction fu with
  | zero =>
    intro x1 x2 M  hf
    cases hf
  | succ fu ih =>
    intro x1 x2 M  hf
    rw [fX2_run_9] at hf
    refine xw_iload_n C dX2_run_9 2 rfl rfl ?_
    refine xw_iload_n C dX2_run_10 1 rfl rfl ?_
    refine xw_icmp_ge (tgt := 35) C dX2_run_11 (by decide) (fun c_5 => ?_) (fun c_5 => ?_)
    · have hf := it_t hf c_5
      exact xl_sub (xl_n (xl_n (xl_c rfl xl_e))) (kX2_run_35 C hR ht hr hl hE  hf)
    · have hf := it_f hf c_5
      refine xw_aload_n C dX2_run_14 0 rfl rfl ?_
      refine xv_getf C (by decide) xs_0 rfl inB2 1 (by decide) hw_134 rfl dX2_run_15 ?_
      refine xv_getf C (by decide) xs_L rfl inB0 2 (by decide) hw_113 rfl dX2_run_18 ?_
      refine xw_if_le (tgt := 35) C dX2_run_21 (by decide) (fun c_6 => ?_) (fun c_6 => ?_)
      · have hf := it_t hf c_6
        exact xl_sub (xl_n (xl_n (xl_c rfl xl_e))) (kX2_run_35 C hR ht hr hl hE  hf)
      · have hf := it_f hf c_6
        refine xw_aload_n C dX2_run_24 0 rfl rfl ?_
        refine xw_iconst (v := 0) C dX2_run_25 (by decide) ?_
        obtain ⟨M_M7, g_8, hf⟩ := bnv_s hf
        refine xc_Vv C (mX2_handOver (xgl G) C.2.2.2.2.2.2.2.2.1 ht  g_8) FX2_handOver hw_384 (by decide) xs_0 rfl (by rw [hR]; decide) (by rw [hR]; decide) rfl (Nat.le_of_ble_eq_true rfl) dX2_run_26 rfl ?_
        refine xw_iinc C dX2_run_29 rfl (show _ + Int32.ofInt (1) = _ + (1) from congrArg _ (by decide)) (by decide) ?_
        refine xw_goto (tgt := 9) C dX2_run_32 (by decide) ?_
        exact xl_sub (xl_c rfl (xl_c rfl (xl_c rfl xl_e))) (ih _ _ _ hf)
def fX2_run (x1 : Int32) (M : xwM) : Option (xwX) :=
  bnx (fX2_requireUpTo x1 500 M) fun _ M2 =>
  fX2_run_9 2001 x1 0 M2
set_option maxHeartbeats 4000000 in
set_option maxRecDepth 100000 in
theorem kX2_run_0 {G : xwG} {ad : Nat → Nat} {cs : xmC} (C : xw_C G cX2_run 3 RX2 431 ad) (hR : xgR G = rX2_run) (ht : xgt G = xm_tys cs) (hr : (xgM G).sig.returnType = (some .int)) (hl : (xgl G).stackTraces = false) (hE : ∀ x ∈ (xgc G).exceptionTable.toList, False) {M' : xwM} {o : Int32 ⊕ String} {x1 : Int32} {M : xwM} (hf : fX2_run x1 M = some (o, M')) : XV G (xw_qxi G 431 ad (xm_ce ad cs M') o 1 6) 3 0 0 ad cs M 0 [some (.ref (ad 0)), some (.int x1), none] [] := by
  unfold fX2_run at hf
  refine xw_iload_n C dX2_run_0 1 rfl rfl ?_
  refine xw_sipush (v := 500) C dX2_run_1 (by decide) ?_
  rcases bnx_s hf with ⟨r_1, M_M2, g_3, hf⟩ | ⟨E_4, M_M2, g_3, hf⟩
  · refine xc_Sxv C (mX2_requireUpTo (xgl G) C.2.2.2.2.2.2.2.2.1 ht hl  g_3) FX2_requireUpTo hw_222 (by rw [hR]; decide) (by rw [hR]; decide) rfl (Nat.le_of_ble_eq_true rfl) dX2_run_4 rfl ?_
    refine xw_iconst (v := 0) C dX2_run_7 (by decide) ?_
    refine xw_istore_n C dX2_run_8 2 rfl (by decide) ?_
    exact xl_sub (xl_c rfl (xl_c rfl (xl_c rfl xl_e))) (kX2_run_9 C hR ht hr hl hE 2001 _ _ _ hf)
  · cases hf
    exact xc_outS C hE (mX2_requireUpTo (xgl G) C.2.2.2.2.2.2.2.2.1 ht hl  g_3) FX2_requireUpTo hw_222 (by rw [hR]; decide) (by rw [hR]; decide) (by decide) rfl (Nat.le_of_ble_eq_true rfl) dX2_run_4 rfl
theorem mX2_run (l : Launch) {D : va_G} {tys : List (ClassId × FieldType)} {base : Nat} {ad : Nat → Nat} {cs : xmC} (hJ : xw_J 431 ad base) (ht : tys = xm_tys cs) (hl : l.stackTraces = false) {x1 : Int32} {M M' : xwM} {o : Int32 ⊕ String} (hf : fX2_run x1 M = some (o, M')) : xk_xi l yX2_run cX2_run 3 (some .int) rX2_run D tys base 431 ad [.ref (ad 0), .int x1] (xm_ce ad cs M) (xm_ce ad cs M') o 1 6 :=
  xk_ofxi 1 (by decide) hJ (List.forall_mem_cons.mpr ⟨rfl, List.forall_mem_cons.mpr ⟨rfl, List.forall_mem_nil _⟩⟩) (Nat.le_of_ble_eq_true rfl) (fun G e1 e2 e3 e4 e5 hr hE C => kX2_run_0 C e2 (e4.trans ht) hr (e1 ▸ hl) hE  hf)

abbrev rX2_drop : Room := { frames := 7, cells := 1, slots := 6, locals := 111 }
def fX2_drop (x1 : Int32) (M : xwM) : Option (xwX) :=
  bnx (fX2_requireLetter x1 M) fun _ M2 =>
  bni (fX0_read x1 0 M2) fun v5 M6 =>
  bnv (fX0_takeAway x1 M6) fun M8 =>
  some (.inl v5, M8)
set_option maxHeartbeats 4000000 in
set_option maxRecDepth 100000 in
theorem kX2_drop_0 {G : xwG} {ad : Nat → Nat} {cs : xmC} (C : xw_C G cX2_drop 3 RX2 431 ad) (hR : xgR G = rX2_drop) (ht : xgt G = xm_tys cs) (hr : (xgM G).sig.returnType = (some .int)) (hl : (xgl G).stackTraces = false) (hE : ∀ x ∈ (xgc G).exceptionTable.toList, False) {M' : xwM} {o : Int32 ⊕ String} {x1 : Int32} {M : xwM} (hf : fX2_drop x1 M = some (o, M')) : XV G (xw_qxi G 431 ad (xm_ce ad cs M') o 1 6) 3 0 0 ad cs M 0 [some (.ref (ad 0)), some (.int x1), none] [] := by
  unfold fX2_drop at hf
  refine xw_aload_n C dX2_drop_0 0 rfl rfl ?_
  refine xw_iload_n C dX2_drop_1 1 rfl rfl ?_
  rcases bnx_s hf with ⟨r_1, M_M2, g_3, hf⟩ | ⟨E_4, M_M2, g_3, hf⟩
  · refine xc_Vxv C (mX2_requireLetter (xgl G) C.2.2.2.2.2.2.2.2.1 ht hl  g_3) FX2_requireLetter hw_379 (by decide) xs_0 rfl (by rw [hR]; decide) (by rw [hR]; decide) rfl (Nat.le_of_ble_eq_true rfl) dX2_drop_2 rfl ?_
    refine xw_aload_n C dX2_drop_5 0 rfl rfl ?_
    refine xv_getf C (by decide) xs_0 rfl inB2 1 (by decide) hw_134 rfl dX2_drop_6 ?_
    refine xw_iload_n C dX2_drop_9 1 rfl rfl ?_
    refine xw_iconst (v := 0) C dX2_drop_10 (by decide) ?_
    obtain ⟨r_v5, M_M6, g_7, hf⟩ := bni_s hf
    refine xc_Vi C (mX0_read (xgl G) C.2.2.2.2.2.2.2.2.1 ht  g_7) FX0_read hw_388 (by decide) xs_L rfl (by rw [hR]; decide) (by rw [hR]; decide) rfl (Nat.le_of_ble_eq_true rfl) dX2_drop_11 rfl ?_
    refine xw_istore_n C dX2_drop_14 2 rfl (by decide) ?_
    refine xw_aload_n C dX2_drop_15 0 rfl rfl ?_
    refine xv_getf C (by decide) xs_0 rfl inB2 1 (by decide) hw_134 rfl dX2_drop_16 ?_
    refine xw_iload_n C dX2_drop_19 1 rfl rfl ?_
    obtain ⟨M_M8, g_9, hf⟩ := bnv_s hf
    refine xc_Vv C (mX0_takeAway (xgl G) C.2.2.2.2.2.2.2.2.1 ht  g_9) FX0_takeAway hw_389 (by decide) xs_L rfl (by rw [hR]; decide) (by rw [hR]; decide) rfl (Nat.le_of_ble_eq_true rfl) dX2_drop_20 rfl ?_
    refine xw_iload_n C dX2_drop_23 2 rfl rfl ?_
    cases hf
    exact xw_retxi C hr (by decide) (by decide) dX2_drop_24
  · cases hf
    exact xc_outV C hE (mX2_requireLetter (xgl G) C.2.2.2.2.2.2.2.2.1 ht hl  g_3) FX2_requireLetter hw_379 (by decide) xs_0 rfl (by rw [hR]; decide) (by rw [hR]; decide) (by decide) rfl (Nat.le_of_ble_eq_true rfl) dX2_drop_2 rfl
theorem mX2_drop (l : Launch) {D : va_G} {tys : List (ClassId × FieldType)} {base : Nat} {ad : Nat → Nat} {cs : xmC} (hJ : xw_J 431 ad base) (ht : tys = xm_tys cs) (hl : l.stackTraces = false) {x1 : Int32} {M M' : xwM} {o : Int32 ⊕ String} (hf : fX2_drop x1 M = some (o, M')) : xk_xi l yX2_drop cX2_drop 3 (some .int) rX2_drop D tys base 431 ad [.ref (ad 0), .int x1] (xm_ce ad cs M) (xm_ce ad cs M') o 1 6 :=
  xk_ofxi 1 (by decide) hJ (List.forall_mem_cons.mpr ⟨rfl, List.forall_mem_cons.mpr ⟨rfl, List.forall_mem_nil _⟩⟩) (Nat.le_of_ble_eq_true rfl) (fun G e1 e2 e3 e4 e5 hr hE C => kX2_drop_0 C e2 (e4.trans ht) hr (e1 ▸ hl) hE  hf)

abbrev rX2_copy : Room := { frames := 7, cells := 1, slots := 6, locals := 111 }
def fX2_copy (x1 : Int32) (M : xwM) : Option (xwX) :=
  bnx (fX2_requireLetter x1 M) fun _ M2 =>
  bni (fX0_repeat x1 M2) fun v5 M6 =>
  if v5 = 0 ∨ v5 = 1 then some (.inl v5, M6) else none
set_option maxHeartbeats 4000000 in
set_option maxRecDepth 100000 in
theorem kX2_copy_0 {G : xwG} {ad : Nat → Nat} {cs : xmC} (C : xw_C G cX2_copy 2 RX2 431 ad) (hR : xgR G = rX2_copy) (ht : xgt G = xm_tys cs) (hr : (xgM G).sig.returnType = (some .boolean)) (hl : (xgl G).stackTraces = false) (hE : ∀ x ∈ (xgc G).exceptionTable.toList, False) {M' : xwM} {o : Int32 ⊕ String} {x1 : Int32} {M : xwM} (hf : fX2_copy x1 M = some (o, M')) : XV G (xw_qxi G 431 ad (xm_ce ad cs M') o 1 6) 2 0 0 ad cs M 0 [some (.ref (ad 0)), some (.int x1)] [] := by
  unfold fX2_copy at hf
  refine xw_aload_n C dX2_copy_0 0 rfl rfl ?_
  refine xw_iload_n C dX2_copy_1 1 rfl rfl ?_
  rcases bnx_s hf with ⟨r_1, M_M2, g_3, hf⟩ | ⟨E_4, M_M2, g_3, hf⟩
  · refine xc_Vxv C (mX2_requireLetter (xgl G) C.2.2.2.2.2.2.2.2.1 ht hl  g_3) FX2_requireLetter hw_379 (by decide) xs_0 rfl (by rw [hR]; decide) (by rw [hR]; decide) rfl (Nat.le_of_ble_eq_true rfl) dX2_copy_2 rfl ?_
    refine xw_aload_n C dX2_copy_5 0 rfl rfl ?_
    refine xv_getf C (by decide) xs_0 rfl inB2 1 (by decide) hw_134 rfl dX2_copy_6 ?_
    refine xw_iload_n C dX2_copy_9 1 rfl rfl ?_
    obtain ⟨r_v5, M_M6, g_7, hf⟩ := bni_s hf
    refine xc_Vi C (mX0_repeat (xgl G) C.2.2.2.2.2.2.2.2.1 ht  g_7) FX0_repeat hw_427 (by decide) xs_L rfl (by rw [hR]; decide) (by rw [hR]; decide) rfl (Nat.le_of_ble_eq_true rfl) dX2_copy_10 rfl ?_
    obtain ⟨hz, hf⟩ := xl_z hf
    cases hf
    exact xw_retxz C hr hz (by decide) (by decide) dX2_copy_13
  · cases hf
    exact xc_outV C hE (mX2_requireLetter (xgl G) C.2.2.2.2.2.2.2.2.1 ht hl  g_3) FX2_requireLetter hw_379 (by decide) xs_0 rfl (by rw [hR]; decide) (by rw [hR]; decide) (by decide) rfl (Nat.le_of_ble_eq_true rfl) dX2_copy_2 rfl
theorem mX2_copy (l : Launch) {D : va_G} {tys : List (ClassId × FieldType)} {base : Nat} {ad : Nat → Nat} {cs : xmC} (hJ : xw_J 431 ad base) (ht : tys = xm_tys cs) (hl : l.stackTraces = false) {x1 : Int32} {M M' : xwM} {o : Int32 ⊕ String} (hf : fX2_copy x1 M = some (o, M')) : xk_xi l yX2_copy cX2_copy 2 (some .boolean) rX2_copy D tys base 431 ad [.ref (ad 0), .int x1] (xm_ce ad cs M) (xm_ce ad cs M') o 1 6 :=
  xk_ofxi 0 (by decide) hJ (List.forall_mem_cons.mpr ⟨rfl, List.forall_mem_cons.mpr ⟨rfl, List.forall_mem_nil _⟩⟩) (Nat.le_of_ble_eq_true rfl) (fun G e1 e2 e3 e4 e5 hr hE C => kX2_copy_0 C e2 (e4.trans ht) hr (e1 ▸ hl) hE  hf)

abbrev rX2_letter : Room := { frames := 7, cells := 2, slots := 12, locals := 111 }
def fX2_letter (x1 : Int32) (x2 : Int32) (M : xwM) : Option (xwX) :=
  bnx (fX2_requireLetter x1 M) fun _ M2 =>
  bnx (fX2_requireUpTo x2 5 M2) fun _ M6 =>
  bni (fX0_read x1 x2 M6) fun v9 M10 =>
  some (.inl v9, M10)
set_option maxHeartbeats 4000000 in
set_option maxRecDepth 100000 in
theorem kX2_letter_0 {G : xwG} {ad : Nat → Nat} {cs : xmC} (C : xw_C G cX2_letter 3 RX2 431 ad) (hR : xgR G = rX2_letter) (ht : xgt G = xm_tys cs) (hr : (xgM G).sig.returnType = (some .int)) (hl : (xgl G).stackTraces = false) (hE : ∀ x ∈ (xgc G).exceptionTable.toList, False) {M' : xwM} {o : Int32 ⊕ String} {x1 : Int32} {x2 : Int32} {M : xwM} (hf : fX2_letter x1 x2 M = some (o, M')) : XV G (xw_qxi G 431 ad (xm_ce ad cs M') o 2 12) 3 0 0 ad cs M 0 [some (.ref (ad 0)), some (.int x1), some (.int x2)] [] := by
  unfold fX2_letter at hf
  refine xw_aload_n C dX2_letter_0 0 rfl rfl ?_
  refine xw_iload_n C dX2_letter_1 1 rfl rfl ?_
  rcases bnx_s hf with ⟨r_1, M_M2, g_3, hf⟩ | ⟨E_4, M_M2, g_3, hf⟩
  · refine xc_Vxv C (mX2_requireLetter (xgl G) C.2.2.2.2.2.2.2.2.1 ht hl  g_3) FX2_requireLetter hw_379 (by decide) xs_0 rfl (by rw [hR]; decide) (by rw [hR]; decide) rfl (Nat.le_of_ble_eq_true rfl) dX2_letter_2 rfl ?_
    refine xw_iload_n C dX2_letter_5 2 rfl rfl ?_
    refine xw_iconst (v := 5) C dX2_letter_6 (by decide) ?_
    rcases bnx_s hf with ⟨r_5, M_M6, g_7, hf⟩ | ⟨E_8, M_M6, g_7, hf⟩
    · refine xc_Sxv C (mX2_requireUpTo (xgl G) C.2.2.2.2.2.2.2.2.1 ht hl  g_7) FX2_requireUpTo hw_222 (by rw [hR]; decide) (by rw [hR]; decide) rfl (Nat.le_of_ble_eq_true rfl) dX2_letter_7 rfl ?_
      refine xw_aload_n C dX2_letter_10 0 rfl rfl ?_
      refine xv_getf C (by decide) xs_0 rfl inB2 1 (by decide) hw_134 rfl dX2_letter_11 ?_
      refine xw_iload_n C dX2_letter_14 1 rfl rfl ?_
      refine xw_iload_n C dX2_letter_15 2 rfl rfl ?_
      obtain ⟨r_v9, M_M10, g_11, hf⟩ := bni_s hf
      refine xc_Vi C (mX0_read (xgl G) C.2.2.2.2.2.2.2.2.1 ht  g_11) FX0_read hw_388 (by decide) xs_L rfl (by rw [hR]; decide) (by rw [hR]; decide) rfl (Nat.le_of_ble_eq_true rfl) dX2_letter_16 rfl ?_
      cases hf
      exact xw_retxi C hr (by decide) (by decide) dX2_letter_19
    · cases hf
      exact xc_outS C hE (mX2_requireUpTo (xgl G) C.2.2.2.2.2.2.2.2.1 ht hl  g_7) FX2_requireUpTo hw_222 (by rw [hR]; decide) (by rw [hR]; decide) (by decide) rfl (Nat.le_of_ble_eq_true rfl) dX2_letter_7 rfl
  · cases hf
    exact xc_outV C hE (mX2_requireLetter (xgl G) C.2.2.2.2.2.2.2.2.1 ht hl  g_3) FX2_requireLetter hw_379 (by decide) xs_0 rfl (by rw [hR]; decide) (by rw [hR]; decide) (by decide) rfl (Nat.le_of_ble_eq_true rfl) dX2_letter_2 rfl
theorem mX2_letter (l : Launch) {D : va_G} {tys : List (ClassId × FieldType)} {base : Nat} {ad : Nat → Nat} {cs : xmC} (hJ : xw_J 431 ad base) (ht : tys = xm_tys cs) (hl : l.stackTraces = false) {x1 : Int32} {x2 : Int32} {M M' : xwM} {o : Int32 ⊕ String} (hf : fX2_letter x1 x2 M = some (o, M')) : xk_xi l yX2_letter cX2_letter 3 (some .int) rX2_letter D tys base 431 ad [.ref (ad 0), .int x1, .int x2] (xm_ce ad cs M) (xm_ce ad cs M') o 2 12 :=
  xk_ofxi 0 (by decide) hJ (List.forall_mem_cons.mpr ⟨rfl, List.forall_mem_cons.mpr ⟨rfl, List.forall_mem_cons.mpr ⟨rfl, List.forall_mem_nil _⟩⟩⟩) (Nat.le_of_ble_eq_true rfl) (fun G e1 e2 e3 e4 e5 hr hE C => kX2_letter_0 C e2 (e4.trans ht) hr (e1 ▸ hl) hE  hf)

abbrev rX2_way : Room := { frames := 7, cells := 3, slots := 18, locals := 111 }
def fX2_way (x1 : Int32) (x2 : Int32) (x3 : Int32) (M : xwM) : Option (xwX) :=
  bnx (fX2_requireNode x1 M) fun _ M2 =>
  bnx (fX2_requireNode x2 M2) fun _ M6 =>
  bnx (fX2_requireUpTo x3 4 M6) fun _ M10 =>
  ixr 12 x1 fun n13 =>
  if x3 = 0 then
    (ld M10 (6 + 34 * n13) 12 x2 fun v17 =>
      some (.inl v17, M10))
  else
  if x3 = 1 then
    (ld M10 (7 + 34 * n13) 12 x2 fun v20 =>
      some (.inl v20, M10))
  else
  if x3 = 2 then
    (ld M10 (8 + 34 * n13) 12 x2 fun v23 =>
      some (.inl v23, M10))
  else
  if x3 = 3 then
    (ld M10 (4 + 34 * n13) 12 x2 fun v26 =>
      some (.inl v26, M10))
  else
  (ld M10 (5 + 34 * n13) 12 x2 fun v28 =>
    some (.inl v28, M10))
set_option maxHeartbeats 4000000 in
set_option maxRecDepth 100000 in
theorem kX2_way_0 {G : xwG} {ad : Nat → Nat} {cs : xmC} (C : xw_C G cX2_way 5 RX2 431 ad) (hR : xgR G = rX2_way) (ht : xgt G = xm_tys cs) (hr : (xgM G).sig.returnType = (some .int)) (hl : (xgl G).stackTraces = false) (hE : ∀ x ∈ (xgc G).exceptionTable.toList, False) {M' : xwM} {o : Int32 ⊕ String} {x1 : Int32} {x2 : Int32} {x3 : Int32} {M : xwM} (hf : fX2_way x1 x2 x3 M = some (o, M')) : XV G (xw_qxi G 431 ad (xm_ce ad cs M') o 3 18) 5 0 0 ad cs M 0 [some (.ref (ad 0)), some (.int x1), some (.int x2), some (.int x3), none] [] := by
  unfold fX2_way at hf
  refine xw_iload_n C dX2_way_0 1 rfl rfl ?_
  rcases bnx_s hf with ⟨r_1, M_M2, g_3, hf⟩ | ⟨E_4, M_M2, g_3, hf⟩
  · refine xc_Sxv C (mX2_requireNode (xgl G) C.2.2.2.2.2.2.2.2.1 ht hl  g_3) FX2_requireNode hw_151 (by rw [hR]; decide) (by rw [hR]; decide) rfl (Nat.le_of_ble_eq_true rfl) dX2_way_1 rfl ?_
    refine xw_iload_n C dX2_way_4 2 rfl rfl ?_
    rcases bnx_s hf with ⟨r_5, M_M6, g_7, hf⟩ | ⟨E_8, M_M6, g_7, hf⟩
    · refine xc_Sxv C (mX2_requireNode (xgl G) C.2.2.2.2.2.2.2.2.1 ht hl  g_7) FX2_requireNode hw_151 (by rw [hR]; decide) (by rw [hR]; decide) rfl (Nat.le_of_ble_eq_true rfl) dX2_way_5 rfl ?_
      refine xw_iload_n C dX2_way_8 3 rfl rfl ?_
      refine xw_iconst (v := 4) C dX2_way_9 (by decide) ?_
      rcases bnx_s hf with ⟨r_9, M_M10, g_11, hf⟩ | ⟨E_12, M_M10, g_11, hf⟩
      · refine xc_Sxv C (mX2_requireUpTo (xgl G) C.2.2.2.2.2.2.2.2.1 ht hl  g_11) FX2_requireUpTo hw_222 (by rw [hR]; decide) (by rw [hR]; decide) rfl (Nat.le_of_ble_eq_true rfl) dX2_way_10 rfl ?_
        refine xw_aload_n C dX2_way_13 0 rfl rfl ?_
        refine xv_getf C (by decide) xs_0 rfl inB2 0 (by decide) hw_133 rfl dX2_way_14 ?_
        refine xw_iload_n C dX2_way_17 1 rfl rfl ?_
        obtain ⟨i_14, q_15, hf⟩ := ixr_s hf
        refine xv_aldR C ht i_14 dX2_way_18 ?_
        refine xw_astore C dX2_way_19 (by decide) ?_
        refine xw_iload_n C dX2_way_21 3 rfl rfl ?_
        by_cases c_16 : x3 = 0
        · have hf := it_t hf c_16
          refine xv_tab (tgt := 52) C dX2_way_22 (by rw [c_16]; decide) (by rw [c_16]; decide) (by rw [c_16]; rfl) (by decide) ?_
          refine xw_aload C dX2_way_52 rfl ?_
          refine xv_getf C (by omega) (xs_R q_15) rfl inB1 3 (by decide) hw_69 rfl dX2_way_54 ?_
          refine xw_iload_n C dX2_way_57 2 rfl rfl ?_
          obtain ⟨i_18, hf⟩ := ld_s hf
          refine xv_iald C ht (by omega) ((fun _ => xs_A 6 (by decide) q_15) _) i_18 dX2_way_58 ?_
          cases hf
          exact xw_retxi C hr (by decide) (by decide) dX2_way_59
        · have hf := it_f hf c_16
          by_cases c_19 : x3 = 1
          · have hf := it_t hf c_19
            refine xv_tab (tgt := 60) C dX2_way_22 (by rw [c_19]; decide) (by rw [c_19]; decide) (by rw [c_19]; rfl) (by decide) ?_
            refine xw_aload C dX2_way_60 rfl ?_
            refine xv_getf C (by omega) (xs_R q_15) rfl inB1 4 (by decide) hw_71 rfl dX2_way_62 ?_
            refine xw_iload_n C dX2_way_65 2 rfl rfl ?_
            obtain ⟨i_21, hf⟩ := ld_s hf
            refine xv_iald C ht (by omega) ((fun _ => xs_A 7 (by decide) q_15) _) i_21 dX2_way_66 ?_
            cases hf
            exact xw_retxi C hr (by decide) (by decide) dX2_way_67
          · have hf := it_f hf c_19
            by_cases c_22 : x3 = 2
            · have hf := it_t hf c_22
              refine xv_tab (tgt := 68) C dX2_way_22 (by rw [c_22]; decide) (by rw [c_22]; decide) (by rw [c_22]; rfl) (by decide) ?_
              refine xw_aload C dX2_way_68 rfl ?_
              refine xv_getf C (by omega) (xs_R q_15) rfl inB1 5 (by decide) hw_73 rfl dX2_way_70 ?_
              refine xw_iload_n C dX2_way_73 2 rfl rfl ?_
              obtain ⟨i_24, hf⟩ := ld_s hf
              refine xv_iald C ht (by omega) ((fun _ => xs_A 8 (by decide) q_15) _) i_24 dX2_way_74 ?_
              cases hf
              exact xw_retxi C hr (by decide) (by decide) dX2_way_75
            · have hf := it_f hf c_22
              by_cases c_25 : x3 = 3
              · have hf := it_t hf c_25
                refine xv_tab (tgt := 76) C dX2_way_22 (by rw [c_25]; decide) (by rw [c_25]; decide) (by rw [c_25]; rfl) (by decide) ?_
                refine xw_aload C dX2_way_76 rfl ?_
                refine xv_getf C (by omega) (xs_R q_15) rfl inB1 1 (by decide) hw_65 rfl dX2_way_78 ?_
                refine xw_iload_n C dX2_way_81 2 rfl rfl ?_
                obtain ⟨i_27, hf⟩ := ld_s hf
                refine xv_iald C ht (by omega) ((fun _ => xs_A 4 (by decide) q_15) _) i_27 dX2_way_82 ?_
                cases hf
                exact xw_retxi C hr (by decide) (by decide) dX2_way_83
              · have hf := it_f hf c_25
                refine xv_tabO (tgt := 84) C dX2_way_22 (xl_tab4 c_16 c_19 c_22 c_25) (by decide) ?_
                refine xw_aload C dX2_way_84 rfl ?_
                refine xv_getf C (by omega) (xs_R q_15) rfl inB1 2 (by decide) hw_67 rfl dX2_way_86 ?_
                refine xw_iload_n C dX2_way_89 2 rfl rfl ?_
                obtain ⟨i_29, hf⟩ := ld_s hf
                refine xv_iald C ht (by omega) ((fun _ => xs_A 5 (by decide) q_15) _) i_29 dX2_way_90 ?_
                cases hf
                exact xw_retxi C hr (by decide) (by decide) dX2_way_91
      · cases hf
        exact xc_outS C hE (mX2_requireUpTo (xgl G) C.2.2.2.2.2.2.2.2.1 ht hl  g_11) FX2_requireUpTo hw_222 (by rw [hR]; decide) (by rw [hR]; decide) (by decide) rfl (Nat.le_of_ble_eq_true rfl) dX2_way_10 rfl
    · cases hf
      exact xc_outS C hE (mX2_requireNode (xgl G) C.2.2.2.2.2.2.2.2.1 ht hl  g_7) FX2_requireNode hw_151 (by rw [hR]; decide) (by rw [hR]; decide) (by decide) rfl (Nat.le_of_ble_eq_true rfl) dX2_way_5 rfl
  · cases hf
    exact xc_outS C hE (mX2_requireNode (xgl G) C.2.2.2.2.2.2.2.2.1 ht hl  g_3) FX2_requireNode hw_151 (by rw [hR]; decide) (by rw [hR]; decide) (by decide) rfl (Nat.le_of_ble_eq_true rfl) dX2_way_1 rfl
theorem mX2_way (l : Launch) {D : va_G} {tys : List (ClassId × FieldType)} {base : Nat} {ad : Nat → Nat} {cs : xmC} (hJ : xw_J 431 ad base) (ht : tys = xm_tys cs) (hl : l.stackTraces = false) {x1 : Int32} {x2 : Int32} {x3 : Int32} {M M' : xwM} {o : Int32 ⊕ String} (hf : fX2_way x1 x2 x3 M = some (o, M')) : xk_xi l yX2_way cX2_way 5 (some .int) rX2_way D tys base 431 ad [.ref (ad 0), .int x1, .int x2, .int x3] (xm_ce ad cs M) (xm_ce ad cs M') o 3 18 :=
  xk_ofxi 1 (by decide) hJ (List.forall_mem_cons.mpr ⟨rfl, List.forall_mem_cons.mpr ⟨rfl, List.forall_mem_cons.mpr ⟨rfl, List.forall_mem_cons.mpr ⟨rfl, List.forall_mem_nil _⟩⟩⟩⟩) (Nat.le_of_ble_eq_true rfl) (fun G e1 e2 e3 e4 e5 hr hE C => kX2_way_0 C e2 (e4.trans ht) hr (e1 ▸ hl) hE  hf)

abbrev rX2_told : Room := { frames := 8, cells := 7, slots := 42, locals := 131 }
def fX2_told_87 (s0 : Int32) (M : xwM) : Option (xwX) :=
  some (.inl s0, M)
set_option maxHeartbeats 4000000 in
set_option maxRecDepth 100000 in
theorem kX2_told_87 {G : xwG} {ad : Nat → Nat} {cs : xmC} (C : xw_C G cX2_told 8 RX2 431 ad) (hR : xgR G = rX2_told) (ht : xgt G = xm_tys cs) (hr : (xgM G).sig.returnType = (some .int)) (hl : (xgl G).stackTraces = false) (hE : ∀ x ∈ (xgc G).exceptionTable.toList, False) {M' : xwM} {o : Int32 ⊕ String} {s0 : Int32} {M : xwM} (hf : fX2_told_87 s0 M = some (o, M')) : XV G (xw_qxi G 431 ad (xm_ce ad cs M') o 7 42) 8 7 42 ad cs M 87 [none, none, none, none, none, none, none, none] [.int s0] := by
  unfold fX2_told_87 at hf
  cases hf
  exact xw_retxi C hr (by decide) (by decide) dX2_told_87
def fX2_told_86 (M : xwM) : Option (xwX) :=
  fX2_told_87 0 M
set_option maxHeartbeats 4000000 in
set_option maxRecDepth 100000 in
theorem kX2_told_86 {G : xwG} {ad : Nat → Nat} {cs : xmC} (C : xw_C G cX2_told 8 RX2 431 ad) (hR : xgR G = rX2_told) (ht : xgt G = xm_tys cs) (hr : (xgM G).sig.returnType = (some .int)) (hl : (xgl G).stackTraces = false) (hE : ∀ x ∈ (xgc G).exceptionTable.toList, False) {M' : xwM} {o : Int32 ⊕ String} {M : xwM} (hf : fX2_told_86  M = some (o, M')) : XV G (xw_qxi G 431 ad (xm_ce ad cs M') o 7 42) 8 7 42 ad cs M 86 [none, none, none, none, none, none, none, none] [] := by
  unfold fX2_told_86 at hf
  refine xw_iconst (v := 0) C dX2_told_86 (by decide) ?_
  exact xl_sub (xl_n (xl_n (xl_n (xl_n (xl_n (xl_n (xl_n (xl_n xl_e)))))))) (kX2_told_87 C hR ht hr hl hE  hf)
def fX2_told (x1 : Int32) (x2 : Int32) (x3 : Int32) (x4 : Int32) (M : xwM) : Option (xwX) :=
  bnx (fX2_requirePair x1 x2 M) fun _ M2 =>
  bnx (fX2_requirePair x1 x3 M2) fun _ M6 =>
  bnx (fX2_requireUpTo x4 2 M6) fun _ M10 =>
  ixr 12 x1 fun n13 =>
  ixr 12 x2 fun n16 =>
  ld M10 (10 + 34 * n13 + 1 + n16) 12 x3 fun v19 =>
  ixr 12 x2 fun n21 =>
  ld M10 (23 + 34 * n13 + 1 + n21) 12 x3 fun v24 =>
  if x4 = 0 then
    (some (.inl v19, M10))
  else
    (if x4 = 1 then
        (some (.inl v24, M10))
      else
        (if v19 = (-1) then
            (fX2_told_86  M10)
          else
            (bni (fX1_isGood n13 x3 v19 v24 M10) fun v29 M30 =>
              if v29 = 0 then
                (fX2_told_86  M30)
              else
                (fX2_told_87 1 M30))))
set_option maxHeartbeats 4000000 in
set_option maxRecDepth 100000 in
theorem kX2_told_0 {G : xwG} {ad : Nat → Nat} {cs : xmC} (C : xw_C G cX2_told 8 RX2 431 ad) (hR : xgR G = rX2_told) (ht : xgt G = xm_tys cs) (hr : (xgM G).sig.returnType = (some .int)) (hl : (xgl G).stackTraces = false) (hE : ∀ x ∈ (xgc G).exceptionTable.toList, False) {M' : xwM} {o : Int32 ⊕ String} {x1 : Int32} {x2 : Int32} {x3 : Int32} {x4 : Int32} {M : xwM} (hf : fX2_told x1 x2 x3 x4 M = some (o, M')) : XV G (xw_qxi G 431 ad (xm_ce ad cs M') o 7 42) 8 0 0 ad cs M 0 [some (.ref (ad 0)), some (.int x1), some (.int x2), some (.int x3), some (.int x4), none, none, none] [] := by
  unfold fX2_told at hf
  refine xw_iload_n C dX2_told_0 1 rfl rfl ?_
  refine xw_iload_n C dX2_told_1 2 rfl rfl ?_
  rcases bnx_s hf with ⟨r_1, M_M2, g_3, hf⟩ | ⟨E_4, M_M2, g_3, hf⟩
  · refine xc_Sxv C (mX2_requirePair (xgl G) C.2.2.2.2.2.2.2.2.1 ht hl  g_3) FX2_requirePair hw_148 (by rw [hR]; decide) (by rw [hR]; decide) rfl (Nat.le_of_ble_eq_true rfl) dX2_told_2 rfl ?_
    refine xw_iload_n C dX2_told_5 1 rfl rfl ?_
    refine xw_iload_n C dX2_told_6 3 rfl rfl ?_
    rcases bnx_s hf with ⟨r_5, M_M6, g_7, hf⟩ | ⟨E_8, M_M6, g_7, hf⟩
    · refine xc_Sxv C (mX2_requirePair (xgl G) C.2.2.2.2.2.2.2.2.1 ht hl  g_7) FX2_requirePair hw_148 (by rw [hR]; decide) (by rw [hR]; decide) rfl (Nat.le_of_ble_eq_true rfl) dX2_told_7 rfl ?_
      refine xw_iload C dX2_told_10 rfl ?_
      refine xw_iconst (v := 2) C dX2_told_12 (by decide) ?_
      rcases bnx_s hf with ⟨r_9, M_M10, g_11, hf⟩ | ⟨E_12, M_M10, g_11, hf⟩
      · refine xc_Sxv C (mX2_requireUpTo (xgl G) C.2.2.2.2.2.2.2.2.1 ht hl  g_11) FX2_requireUpTo hw_222 (by rw [hR]; decide) (by rw [hR]; decide) rfl (Nat.le_of_ble_eq_true rfl) dX2_told_13 rfl ?_
        refine xw_aload_n C dX2_told_16 0 rfl rfl ?_
        refine xv_getf C (by decide) xs_0 rfl inB2 0 (by decide) hw_133 rfl dX2_told_17 ?_
        refine xw_iload_n C dX2_told_20 1 rfl rfl ?_
        obtain ⟨i_14, q_15, hf⟩ := ixr_s hf
        refine xv_aldR C ht i_14 dX2_told_21 ?_
        refine xw_astore C dX2_told_22 (by decide) ?_
        refine xw_aload C dX2_told_24 rfl ?_
        refine xv_getf C (by omega) (xs_R q_15) rfl inB1 7 (by decide) hw_77 rfl dX2_told_26 ?_
        refine xw_iload_n C dX2_told_29 2 rfl rfl ?_
        obtain ⟨i_17, q_18, hf⟩ := ixr_s hf
        refine xv_aldT (j := 10) C ht (by decide) q_15 i_17 dX2_told_30 ?_
        refine xw_iload_n C dX2_told_31 3 rfl rfl ?_
        obtain ⟨i_20, hf⟩ := ld_s hf
        refine xv_iald C ht (by omega) ((fun _ => xs_T 10 (by decide) q_15 q_18) _) i_20 dX2_told_32 ?_
        refine xw_istore C dX2_told_33 (by decide) ?_
        refine xw_aload C dX2_told_35 rfl ?_
        refine xv_getf C (by omega) (xs_R q_15) rfl inB1 8 (by decide) hw_79 rfl dX2_told_37 ?_
        refine xw_iload_n C dX2_told_40 2 rfl rfl ?_
        obtain ⟨i_22, q_23, hf⟩ := ixr_s hf
        refine xv_aldT (j := 23) C ht (by decide) q_15 i_22 dX2_told_41 ?_
        refine xw_iload_n C dX2_told_42 3 rfl rfl ?_
        obtain ⟨i_25, hf⟩ := ld_s hf
        refine xv_iald C ht (by omega) ((fun _ => xs_T 23 (by decide) q_15 q_23) _) i_25 dX2_told_43 ?_
        refine xw_istore C dX2_told_44 (by decide) ?_
        refine xw_iload C dX2_told_46 rfl ?_
        refine xw_if_ne (tgt := 54) C dX2_told_48 (by decide) (fun c_26 => ?_) (fun c_26 => ?_)
        · have hf := it_f hf c_26
          refine xw_iload C dX2_told_54 rfl ?_
          refine xw_iconst (v := 1) C dX2_told_56 (by decide) ?_
          refine xw_icmp_ne (tgt := 63) C dX2_told_57 (by decide) (fun c_27 => ?_) (fun c_27 => ?_)
          · have hf := it_f hf c_27
            refine xw_iload C dX2_told_63 rfl ?_
            refine xw_iconst (v := -1) C dX2_told_65 (by decide) ?_
            refine xw_icmp_eq (tgt := 86) C dX2_told_66 (by decide) (fun c_28 => ?_) (fun c_28 => ?_)
            · have hf := it_t hf c_28
              exact xl_sub (xl_n (xl_n (xl_n (xl_n (xl_n (xl_n (xl_n (xl_n xl_e)))))))) (kX2_told_86 C hR ht hr hl hE  hf)
            · have hf := it_f hf c_28
              refine xw_aload C dX2_told_69 rfl ?_
              refine xw_iload_n C dX2_told_71 3 rfl rfl ?_
              refine xw_iload C dX2_told_72 rfl ?_
              refine xw_iload C dX2_told_74 rfl ?_
              obtain ⟨r_v29, M_M30, g_31, hf⟩ := bni_s hf
              refine xc_Vi C (mX1_isGood (xgl G) C.2.2.2.2.2.2.2.2.1 ht q_15 g_31) FX1_isGood hw_257 (by omega) (xs_R q_15) rfl (by rw [hR]; decide) (by rw [hR]; decide) rfl (Nat.le_of_ble_eq_true rfl) dX2_told_76 rfl ?_
              refine xw_if_eq (tgt := 86) C dX2_told_79 (by decide) (fun c_32 => ?_) (fun c_32 => ?_)
              · have hf := it_t hf c_32
                exact xl_sub (xl_n (xl_n (xl_n (xl_n (xl_n (xl_n (xl_n (xl_n xl_e)))))))) (kX2_told_86 C hR ht hr hl hE  hf)
              · have hf := it_f hf c_32
                refine xw_iconst (v := 1) C dX2_told_82 (by decide) ?_
                refine xw_goto (tgt := 87) C dX2_told_83 (by decide) ?_
                exact xl_sub (xl_n (xl_n (xl_n (xl_n (xl_n (xl_n (xl_n (xl_n xl_e)))))))) (kX2_told_87 C hR ht hr hl hE  hf)
          · have hf := it_t hf c_27
            refine xw_iload C dX2_told_60 rfl ?_
            cases hf
            exact xw_retxi C hr (by decide) (by decide) dX2_told_62
        · have hf := it_t hf c_26
          refine xw_iload C dX2_told_51 rfl ?_
          cases hf
          exact xw_retxi C hr (by decide) (by decide) dX2_told_53
      · cases hf
        exact xc_outS C hE (mX2_requireUpTo (xgl G) C.2.2.2.2.2.2.2.2.1 ht hl  g_11) FX2_requireUpTo hw_222 (by rw [hR]; decide) (by rw [hR]; decide) (by decide) rfl (Nat.le_of_ble_eq_true rfl) dX2_told_13 rfl
    · cases hf
      exact xc_outS C hE (mX2_requirePair (xgl G) C.2.2.2.2.2.2.2.2.1 ht hl  g_7) FX2_requirePair hw_148 (by rw [hR]; decide) (by rw [hR]; decide) (by decide) rfl (Nat.le_of_ble_eq_true rfl) dX2_told_7 rfl
  · cases hf
    exact xc_outS C hE (mX2_requirePair (xgl G) C.2.2.2.2.2.2.2.2.1 ht hl  g_3) FX2_requirePair hw_148 (by rw [hR]; decide) (by rw [hR]; decide) (by decide) rfl (Nat.le_of_ble_eq_true rfl) dX2_told_2 rfl
theorem mX2_told (l : Launch) {D : va_G} {tys : List (ClassId × FieldType)} {base : Nat} {ad : Nat → Nat} {cs : xmC} (hJ : xw_J 431 ad base) (ht : tys = xm_tys cs) (hl : l.stackTraces = false) {x1 : Int32} {x2 : Int32} {x3 : Int32} {x4 : Int32} {M M' : xwM} {o : Int32 ⊕ String} (hf : fX2_told x1 x2 x3 x4 M = some (o, M')) : xk_xi l yX2_told cX2_told 8 (some .int) rX2_told D tys base 431 ad [.ref (ad 0), .int x1, .int x2, .int x3, .int x4] (xm_ce ad cs M) (xm_ce ad cs M') o 7 42 :=
  xk_ofxi 3 (by decide) hJ (List.forall_mem_cons.mpr ⟨rfl, List.forall_mem_cons.mpr ⟨rfl, List.forall_mem_cons.mpr ⟨rfl, List.forall_mem_cons.mpr ⟨rfl, List.forall_mem_cons.mpr ⟨rfl, List.forall_mem_nil _⟩⟩⟩⟩⟩) (Nat.le_of_ble_eq_true rfl) (fun G e1 e2 e3 e4 e5 hr hE C => kX2_told_0 C e2 (e4.trans ht) hr (e1 ▸ hl) hE  hf)

abbrev rX2_trace : Room := { frames := 7, cells := 2, slots := 12, locals := 110 }
def fX2_trace_13 : Nat → Int32 → Int32 → Int32 →  xwM → Option (xwX)
  | 0, _, _, _, _ => none
  | fu + 1, x2, x3, x4, M =>
  if 12 ≤ x4 then
    (some (.inl (-1), M))
  else
    (if x3 = x2 then
        (some (.inl x4, M))
      else
        (ixr 12 x3 fun n11 =>
          ld M (6 + 34 * n11) 12 x2 fun v14 =>
          if v14 = (-1) then
            (some (.inl (-1), M))
          else
            (fX2_trace_13 fu x2 v14 ((x4 + 1)) M)))
set_option maxHeartbeats 4000000 in
set_option maxRecDepth 100000 in
theorem kX2_trace_13 {G : xwG} {ad : Nat → Nat} {cs : xmC} (C : xw_C G cX2_trace 5 RX2 431 ad) (hR : xgR G = rX2_trace) (ht : xgt G = xm_tys cs) (hr : (xgM G).sig.returnType = (some .int)) (hl : (xgl G).stackTraces = false) (hE : ∀ x ∈ (xgc G).exceptionTable.toList, False) {M' : xwM} {o : Int32 ⊕ String} : ∀ (fu : Nat) (x2 : Int32) (x3 : Int32) (x4 : Int32) (M : xwM), fX2_trace_13 fu x2 x3 x4 M = some (o, M') → XV G (xw_qxi G 431 ad (xm_ce ad cs M') o 2 12) 5 2 12 ad cs M 13 [some (.ref (ad 0)), none, some (.int x2), some (.int x3), some (.int x4)] [] := by
  intro fu
  induction fu with
  | zero =>
    intro x2 x3 x4 M  hf
    cases hf
  | succ fu ih =>
    intro x2 x3 x4 M  hf
    rw [fX2_trace_13] at hf
    refine xw_iload C dX2_trace_13 rfl ?_
    refine xw_bipush (v := 12) C dX2_trace_15 (by decide) ?_
    refine xw_icmp_ge (tgt := 53) C dX2_trace_17 (by decide) (fun c_9 => ?_) (fun c_9 => ?_)
    · have hf := it_t hf c_9
      refine xw_iconst (v := -1) C dX2_trace_53 (by decide) ?_
      cases hf
      exact xw_retxi C hr (by decide) (by decide) dX2_trace_54
    · have hf := it_f hf c_9
      refine xw_iload_n C dX2_trace_20 3 rfl rfl ?_
      refine xw_iload_n C dX2_trace_21 2 rfl rfl ?_
      refine xw_icmp_ne (tgt := 28) C dX2_trace_22 (by decide) (fun c_10 => ?_) (fun c_10 => ?_)
      · have hf := it_f hf c_10
        refine xw_aload_n C dX2_trace_28 0 rfl rfl ?_
        refine xv_getf C (by decide) xs_0 rfl inB2 0 (by decide) hw_133 rfl dX2_trace_29 ?_
        refine xw_iload_n C dX2_trace_32 3 rfl rfl ?_
        obtain ⟨i_12, q_13, hf⟩ := ixr_s hf
        refine xv_aldR C ht i_12 dX2_trace_33 ?_
        refine xv_getf C (by omega) (xs_R q_13) rfl inB1 3 (by decide) hw_69 rfl dX2_trace_34 ?_
        refine xw_iload_n C dX2_trace_37 2 rfl rfl ?_
        obtain ⟨i_15, hf⟩ := ld_s hf
        refine xv_iald C ht (by omega) ((fun _ => xs_A 6 (by decide) q_13) _) i_15 dX2_trace_38 ?_
        refine xw_istore_n C dX2_trace_39 3 rfl (by decide) ?_
        refine xw_iload_n C dX2_trace_40 3 rfl rfl ?_
        refine xw_iconst (v := -1) C dX2_trace_41 (by decide) ?_
        refine xw_icmp_ne (tgt := 47) C dX2_trace_42 (by decide) (fun c_16 => ?_) (fun c_16 => ?_)
        · have hf := it_f hf c_16
          refine xw_iinc C dX2_trace_47 rfl (show _ + Int32.ofInt (1) = _ + (1) from congrArg _ (by decide)) (by decide) ?_
          refine xw_goto (tgt := 13) C dX2_trace_50 (by decide) ?_
          exact xl_sub (xl_c rfl (xl_n (xl_c rfl (xl_c rfl (xl_c rfl xl_e))))) (ih _ _ _ _ hf)
        · have hf := it_t hf c_16
          refine xw_iconst (v := -1) C dX2_trace_45 (by decide) ?_
          cases hf
          exact xw_retxi C hr (by decide) (by decide) dX2_trace_46
      · have hf := it_t hf c_10
        refine xw_iload C dX2_trace_25 rfl ?_
        cases hf
        exact xw_retxi C hr (by decide) (by decide) dX2_trace_27
def fX2_trace (x1 : Int32) (x2 : Int32) (M : xwM) : Option (xwX) :=
  bnx (fX2_requireNode x1 M) fun _ M2 =>
  bnx (fX2_requireNode x2 M2) fun _ M6 =>
  fX2_trace_13 2001 x2 x1 0 M6
set_option maxHeartbeats 4000000 in
set_option maxRecDepth 100000 in
theorem kX2_trace_0 {G : xwG} {ad : Nat → Nat} {cs : xmC} (C : xw_C G cX2_trace 5 RX2 431 ad) (hR : xgR G = rX2_trace) (ht : xgt G = xm_tys cs) (hr : (xgM G).sig.returnType = (some .int)) (hl : (xgl G).stackTraces = false) (hE : ∀ x ∈ (xgc G).exceptionTable.toList, False) {M' : xwM} {o : Int32 ⊕ String} {x1 : Int32} {x2 : Int32} {M : xwM} (hf : fX2_trace x1 x2 M = some (o, M')) : XV G (xw_qxi G 431 ad (xm_ce ad cs M') o 2 12) 5 0 0 ad cs M 0 [some (.ref (ad 0)), some (.int x1), some (.int x2), none, none] [] := by
  unfold fX2_trace at hf
  refine xw_iload_n C dX2_trace_0 1 rfl rfl ?_
  rcases bnx_s hf with ⟨r_1, M_M2, g_3, hf⟩ | ⟨E_4, M_M2, g_3, hf⟩
  · refine xc_Sxv C (mX2_requireNode (xgl G) C.2.2.2.2.2.2.2.2.1 ht hl  g_3) FX2_requireNode hw_151 (by rw [hR]; decide) (by rw [hR]; decide) rfl (Nat.le_of_ble_eq_true rfl) dX2_trace_1 rfl ?_
    refine xw_iload_n C dX2_trace_4 2 rfl rfl ?_
    rcases bnx_s hf with ⟨r_5, M_M6, g_7, hf⟩ | ⟨E_8, M_M6, g_7, hf⟩
    · refine xc_Sxv C (mX2_requireNode (xgl G) C.2.2.2.2.2.2.2.2.1 ht hl  g_7) FX2_requireNode hw_151 (by rw [hR]; decide) (by rw [hR]; decide) rfl (Nat.le_of_ble_eq_true rfl) dX2_trace_5 rfl ?_
      refine xw_iload_n C dX2_trace_8 1 rfl rfl ?_
      refine xw_istore_n C dX2_trace_9 3 rfl (by decide) ?_
      refine xw_iconst (v := 0) C dX2_trace_10 (by decide) ?_
      refine xw_istore C dX2_trace_11 (by decide) ?_
      exact xl_sub (xl_c rfl (xl_n (xl_c rfl (xl_c rfl (xl_c rfl xl_e))))) (kX2_trace_13 C hR ht hr hl hE 2001 _ _ _ _ hf)
    · cases hf
      exact xc_outS C hE (mX2_requireNode (xgl G) C.2.2.2.2.2.2.2.2.1 ht hl  g_7) FX2_requireNode hw_151 (by rw [hR]; decide) (by rw [hR]; decide) (by decide) rfl (Nat.le_of_ble_eq_true rfl) dX2_trace_5 rfl
  · cases hf
    exact xc_outS C hE (mX2_requireNode (xgl G) C.2.2.2.2.2.2.2.2.1 ht hl  g_3) FX2_requireNode hw_151 (by rw [hR]; decide) (by rw [hR]; decide) (by decide) rfl (Nat.le_of_ble_eq_true rfl) dX2_trace_1 rfl
theorem mX2_trace (l : Launch) {D : va_G} {tys : List (ClassId × FieldType)} {base : Nat} {ad : Nat → Nat} {cs : xmC} (hJ : xw_J 431 ad base) (ht : tys = xm_tys cs) (hl : l.stackTraces = false) {x1 : Int32} {x2 : Int32} {M M' : xwM} {o : Int32 ⊕ String} (hf : fX2_trace x1 x2 M = some (o, M')) : xk_xi l yX2_trace cX2_trace 5 (some .int) rX2_trace D tys base 431 ad [.ref (ad 0), .int x1, .int x2] (xm_ce ad cs M) (xm_ce ad cs M') o 2 12 :=
  xk_ofxi 2 (by decide) hJ (List.forall_mem_cons.mpr ⟨rfl, List.forall_mem_cons.mpr ⟨rfl, List.forall_mem_cons.mpr ⟨rfl, List.forall_mem_nil _⟩⟩⟩) (Nat.le_of_ble_eq_true rfl) (fun G e1 e2 e3 e4 e5 hr hE C => kX2_trace_0 C e2 (e4.trans ht) hr (e1 ▸ hl) hE  hf)

abbrev rX2_cost : Room := { frames := 8, cells := 3, slots := 18, locals := 131 }
def fX2_cost (x1 : Int32) (x2 : Int32) (M : xwM) : Option (xwX) :=
  bnx (fX2_requirePair x1 x2 M) fun _ M2 =>
  ixr 12 x1 fun n5 =>
  ld M2 (3 + 34 * n5) 12 x2 fun v8 =>
  some (.inl v8, M2)
set_option maxHeartbeats 4000000 in
set_option maxRecDepth 100000 in
theorem kX2_cost_0 {G : xwG} {ad : Nat → Nat} {cs : xmC} (C : xw_C G cX2_cost 3 RX2 431 ad) (hR : xgR G = rX2_cost) (ht : xgt G = xm_tys cs) (hr : (xgM G).sig.returnType = (some .int)) (hl : (xgl G).stackTraces = false) (hE : ∀ x ∈ (xgc G).exceptionTable.toList, False) {M' : xwM} {o : Int32 ⊕ String} {x1 : Int32} {x2 : Int32} {M : xwM} (hf : fX2_cost x1 x2 M = some (o, M')) : XV G (xw_qxi G 431 ad (xm_ce ad cs M') o 3 18) 3 0 0 ad cs M 0 [some (.ref (ad 0)), some (.int x1), some (.int x2)] [] := by
  unfold fX2_cost at hf
  refine xw_iload_n C dX2_cost_0 1 rfl rfl ?_
  refine xw_iload_n C dX2_cost_1 2 rfl rfl ?_
  rcases bnx_s hf with ⟨r_1, M_M2, g_3, hf⟩ | ⟨E_4, M_M2, g_3, hf⟩
  · refine xc_Sxv C (mX2_requirePair (xgl G) C.2.2.2.2.2.2.2.2.1 ht hl  g_3) FX2_requirePair hw_148 (by rw [hR]; decide) (by rw [hR]; decide) rfl (Nat.le_of_ble_eq_true rfl) dX2_cost_2 rfl ?_
    refine xw_aload_n C dX2_cost_5 0 rfl rfl ?_
    refine xv_getf C (by decide) xs_0 rfl inB2 0 (by decide) hw_133 rfl dX2_cost_6 ?_
    refine xw_iload_n C dX2_cost_9 1 rfl rfl ?_
    obtain ⟨i_6, q_7, hf⟩ := ixr_s hf
    refine xv_aldR C ht i_6 dX2_cost_10 ?_
    refine xv_getf C (by omega) (xs_R q_7) rfl inB1 0 (by decide) hw_63 rfl dX2_cost_11 ?_
    refine xw_iload_n C dX2_cost_14 2 rfl rfl ?_
    obtain ⟨i_9, hf⟩ := ld_s hf
    refine xv_iald C ht (by omega) ((fun _ => xs_A 3 (by decide) q_7) _) i_9 dX2_cost_15 ?_
    cases hf
    exact xw_retxi C hr (by decide) (by decide) dX2_cost_16
  · cases hf
    exact xc_outS C hE (mX2_requirePair (xgl G) C.2.2.2.2.2.2.2.2.1 ht hl  g_3) FX2_requirePair hw_148 (by rw [hR]; decide) (by rw [hR]; decide) (by decide) rfl (Nat.le_of_ble_eq_true rfl) dX2_cost_2 rfl
theorem mX2_cost (l : Launch) {D : va_G} {tys : List (ClassId × FieldType)} {base : Nat} {ad : Nat → Nat} {cs : xmC} (hJ : xw_J 431 ad base) (ht : tys = xm_tys cs) (hl : l.stackTraces = false) {x1 : Int32} {x2 : Int32} {M M' : xwM} {o : Int32 ⊕ String} (hf : fX2_cost x1 x2 M = some (o, M')) : xk_xi l yX2_cost cX2_cost 3 (some .int) rX2_cost D tys base 431 ad [.ref (ad 0), .int x1, .int x2] (xm_ce ad cs M) (xm_ce ad cs M') o 3 18 :=
  xk_ofxi 0 (by decide) hJ (List.forall_mem_cons.mpr ⟨rfl, List.forall_mem_cons.mpr ⟨rfl, List.forall_mem_cons.mpr ⟨rfl, List.forall_mem_nil _⟩⟩⟩) (Nat.le_of_ble_eq_true rfl) (fun G e1 e2 e3 e4 e5 hr hE C => kX2_cost_0 C e2 (e4.trans ht) hr (e1 ▸ hl) hE  hf)

abbrev rX2_total : Room := { frames := 7, cells := 1, slots := 6, locals := 111 }
def fX2_total (x1 : Int32) (M : xwM) : Option (xwX) :=
  bnx (fX2_requireUpTo x1 4 M) fun _ M2 =>
  if x1 = 0 then
    (some (.inl (M2 410 2), M2))
  else
  if x1 = 1 then
    (some (.inl (M2 410 3), M2))
  else
  if x1 = 2 then
    (some (.inl (M2 410 4), M2))
  else
  if x1 = 3 then
    (some (.inl (M2 410 5), M2))
  else
  (bni (fX2_countAllLinks  M2) fun v9 M10 =>
    some (.inl v9, M10))
set_option maxHeartbeats 4000000 in
set_option maxRecDepth 100000 in
theorem kX2_total_0 {G : xwG} {ad : Nat → Nat} {cs : xmC} (C : xw_C G cX2_total 2 RX2 431 ad) (hR : xgR G = rX2_total) (ht : xgt G = xm_tys cs) (hr : (xgM G).sig.returnType = (some .int)) (hl : (xgl G).stackTraces = false) (hE : ∀ x ∈ (xgc G).exceptionTable.toList, False) {M' : xwM} {o : Int32 ⊕ String} {x1 : Int32} {M : xwM} (hf : fX2_total x1 M = some (o, M')) : XV G (xw_qxi G 431 ad (xm_ce ad cs M') o 1 6) 2 0 0 ad cs M 0 [some (.ref (ad 0)), some (.int x1)] [] := by
  unfold fX2_total at hf
  refine xw_iload_n C dX2_total_0 1 rfl rfl ?_
  refine xw_iconst (v := 4) C dX2_total_1 (by decide) ?_
  rcases bnx_s hf with ⟨r_1, M_M2, g_3, hf⟩ | ⟨E_4, M_M2, g_3, hf⟩
  · refine xc_Sxv C (mX2_requireUpTo (xgl G) C.2.2.2.2.2.2.2.2.1 ht hl  g_3) FX2_requireUpTo hw_222 (by rw [hR]; decide) (by rw [hR]; decide) rfl (Nat.le_of_ble_eq_true rfl) dX2_total_2 rfl ?_
    refine xw_iload_n C dX2_total_5 1 rfl rfl ?_
    by_cases c_5 : x1 = 0
    · have hf := it_t hf c_5
      refine xv_tab (tgt := 36) C dX2_total_6 (by rw [c_5]; decide) (by rw [c_5]; decide) (by rw [c_5]; rfl) (by decide) ?_
      refine xw_aload_n C dX2_total_36 0 rfl rfl ?_
      refine xv_getf C (by decide) xs_0 rfl inB2 1 (by decide) hw_134 rfl dX2_total_37 ?_
      refine xv_getf C (by decide) xs_L rfl inB0 2 (by decide) hw_113 rfl dX2_total_40 ?_
      cases hf
      exact xw_retxi C hr (by decide) (by decide) dX2_total_43
    · have hf := it_f hf c_5
      by_cases c_6 : x1 = 1
      · have hf := it_t hf c_6
        refine xv_tab (tgt := 44) C dX2_total_6 (by rw [c_6]; decide) (by rw [c_6]; decide) (by rw [c_6]; rfl) (by decide) ?_
        refine xw_aload_n C dX2_total_44 0 rfl rfl ?_
        refine xv_getf C (by decide) xs_0 rfl inB2 1 (by decide) hw_134 rfl dX2_total_45 ?_
        refine xv_getf C (by decide) xs_L rfl inB0 3 (by decide) hw_114 rfl dX2_total_48 ?_
        cases hf
        exact xw_retxi C hr (by decide) (by decide) dX2_total_51
      · have hf := it_f hf c_6
        by_cases c_7 : x1 = 2
        · have hf := it_t hf c_7
          refine xv_tab (tgt := 52) C dX2_total_6 (by rw [c_7]; decide) (by rw [c_7]; decide) (by rw [c_7]; rfl) (by decide) ?_
          refine xw_aload_n C dX2_total_52 0 rfl rfl ?_
          refine xv_getf C (by decide) xs_0 rfl inB2 1 (by decide) hw_134 rfl dX2_total_53 ?_
          refine xv_getf C (by decide) xs_L rfl inB0 4 (by decide) hw_117 rfl dX2_total_56 ?_
          cases hf
          exact xw_retxi C hr (by decide) (by decide) dX2_total_59
        · have hf := it_f hf c_7
          by_cases c_8 : x1 = 3
          · have hf := it_t hf c_8
            refine xv_tab (tgt := 60) C dX2_total_6 (by rw [c_8]; decide) (by rw [c_8]; decide) (by rw [c_8]; rfl) (by decide) ?_
            refine xw_aload_n C dX2_total_60 0 rfl rfl ?_
            refine xv_getf C (by decide) xs_0 rfl inB2 1 (by decide) hw_134 rfl dX2_total_61 ?_
            refine xv_getf C (by decide) xs_L rfl inB0 5 (by decide) hw_119 rfl dX2_total_64 ?_
            cases hf
            exact xw_retxi C hr (by decide) (by decide) dX2_total_67
          · have hf := it_f hf c_8
            refine xv_tabO (tgt := 68) C dX2_total_6 (xl_tab4 c_5 c_6 c_7 c_8) (by decide) ?_
            refine xw_aload_n C dX2_total_68 0 rfl rfl ?_
            obtain ⟨r_v9, M_M10, g_11, hf⟩ := bni_s hf
            refine xc_Vi C (mX2_countAllLinks (xgl G) C.2.2.2.2.2.2.2.2.1 ht  g_11) FX2_countAllLinks hw_473 (by decide) xs_0 rfl (by rw [hR]; decide) (by rw [hR]; decide) rfl (Nat.le_of_ble_eq_true rfl) dX2_total_69 rfl ?_
            cases hf
            exact xw_retxi C hr (by decide) (by decide) dX2_total_72
  · cases hf
    exact xc_outS C hE (mX2_requireUpTo (xgl G) C.2.2.2.2.2.2.2.2.1 ht hl  g_3) FX2_requireUpTo hw_222 (by rw [hR]; decide) (by rw [hR]; decide) (by decide) rfl (Nat.le_of_ble_eq_true rfl) dX2_total_2 rfl
theorem mX2_total (l : Launch) {D : va_G} {tys : List (ClassId × FieldType)} {base : Nat} {ad : Nat → Nat} {cs : xmC} (hJ : xw_J 431 ad base) (ht : tys = xm_tys cs) (hl : l.stackTraces = false) {x1 : Int32} {M M' : xwM} {o : Int32 ⊕ String} (hf : fX2_total x1 M = some (o, M')) : xk_xi l yX2_total cX2_total 2 (some .int) rX2_total D tys base 431 ad [.ref (ad 0), .int x1] (xm_ce ad cs M) (xm_ce ad cs M') o 1 6 :=
  xk_ofxi 0 (by decide) hJ (List.forall_mem_cons.mpr ⟨rfl, List.forall_mem_cons.mpr ⟨rfl, List.forall_mem_nil _⟩⟩) (Nat.le_of_ble_eq_true rfl) (fun G e1 e2 e3 e4 e5 hr hE C => kX2_total_0 C e2 (e4.trans ht) hr (e1 ▸ hl) hE  hf)
