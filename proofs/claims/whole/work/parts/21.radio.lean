abbrev rX1_hasWay : Room := { frames := 0, cells := 0, slots := 0, locals := 0 }
def fX1_hasWay_15 (s0 : Int32) (M : xwM) : Option (Int32 × xwM) :=
  if s0 = 0 ∨ s0 = 1 then some (s0, M) else none
set_option maxHeartbeats 4000000 in
set_option maxRecDepth 100000 in
theorem kX1_hasWay_15 {G : xwG} {ad : Nat → Nat} {cs : xmC} (C : xw_C G cX1_hasWay 2 RX1 431 ad) (hR : xgR G = rX1_hasWay) (ht : xgt G = xm_tys cs) (hr : (xgM G).sig.returnType = (some .boolean)) {M' : xwM} {o : Int32} {s0 : Int32} {M : xwM} (hf : fX1_hasWay_15 s0 M = some (o, M')) : XV G (xw_qi G 431 ad (xm_ce ad cs M') o) 2 0 0 ad cs M 15 [none, none] [.int s0] := by
  unfold fX1_hasWay_15 at hf
  obtain ⟨hz, hf⟩ := xl_z hf
  cases hf
  exact xw_retz C hr hz dX1_hasWay_15
def fX1_hasWay (x0 : Nat) (x1 : Int32) (M : xwM) : Option (Int32 × xwM) :=
  ld M (6 + 34 * x0) 12 x1 fun v1 =>
  if v1 = (-1) then
    (fX1_hasWay_15 0 M)
  else
    (fX1_hasWay_15 1 M)
set_option maxHeartbeats 4000000 in
set_option maxRecDepth 100000 in
theorem kX1_hasWay_0 {G : xwG} {ad : Nat → Nat} {cs : xmC} (C : xw_C G cX1_hasWay 2 RX1 431 ad) (hR : xgR G = rX1_hasWay) (ht : xgt G = xm_tys cs) (hr : (xgM G).sig.returnType = (some .boolean)) {M' : xwM} {o : Int32} {x0 : Nat} {x1 : Int32} (h0 : x0 < 12) {M : xwM} (hf : fX1_hasWay x0 x1 M = some (o, M')) : XV G (xw_qi G 431 ad (xm_ce ad cs M') o) 2 0 0 ad cs M 0 [some (.ref (ad (2 + 34 * x0))), some (.int x1)] [] := by
  unfold fX1_hasWay at hf
  refine xw_aload_n C dX1_hasWay_0 0 rfl rfl ?_
  refine xv_getf C (by omega) (xs_R h0) rfl inB1 3 (by decide) hw_68 rfl dX1_hasWay_1 ?_
  refine xw_iload_n C dX1_hasWay_4 1 rfl rfl ?_
  obtain ⟨i_2, hf⟩ := ld_s hf
  refine xv_iald C ht (by omega) ((fun _ => xs_A 6 (by decide) h0) _) i_2 dX1_hasWay_5 ?_
  refine xw_iconst (v := -1) C dX1_hasWay_6 (by decide) ?_
  refine xw_icmp_eq (tgt := 14) C dX1_hasWay_7 (by decide) (fun c_3 => ?_) (fun c_3 => ?_)
  · have hf := it_t hf c_3
    refine xw_iconst (v := 0) C dX1_hasWay_14 (by decide) ?_
    exact xl_sub (xl_n (xl_n xl_e)) (kX1_hasWay_15 C hR ht hr  hf)
  · have hf := it_f hf c_3
    refine xw_iconst (v := 1) C dX1_hasWay_10 (by decide) ?_
    refine xw_goto (tgt := 15) C dX1_hasWay_11 (by decide) ?_
    exact xl_sub (xl_n (xl_n xl_e)) (kX1_hasWay_15 C hR ht hr  hf)
theorem mX1_hasWay (l : Launch) {D : va_G} {tys : List (ClassId × FieldType)} {base : Nat} {ad : Nat → Nat} {cs : xmC} (hJ : xw_J 431 ad base) (ht : tys = xm_tys cs) {x0 : Nat} {x1 : Int32} (h0 : x0 < 12) {M M' : xwM} {o : Int32} (hf : fX1_hasWay x0 x1 M = some (o, M')) : xk_i l yX1_hasWay cX1_hasWay 2 (some .boolean) rX1_hasWay D tys base 431 ad [.ref (ad (2 + 34 * x0)), .int x1] (xm_ce ad cs M) (xm_ce ad cs M') o :=
  xk_ofi 0 (by decide) hJ (List.forall_mem_cons.mpr ⟨rfl, List.forall_mem_cons.mpr ⟨rfl, List.forall_mem_nil _⟩⟩) (Nat.le_of_ble_eq_true rfl) (fun G e1 e2 e3 e4 e5 hr C => kX1_hasWay_0 C e2 (e4.trans ht) hr h0 hf)

abbrev rX1_hasBound : Room := { frames := 0, cells := 0, slots := 0, locals := 0 }
def fX1_hasBound_15 (s0 : Int32) (M : xwM) : Option (Int32 × xwM) :=
  if s0 = 0 ∨ s0 = 1 then some (s0, M) else none
set_option maxHeartbeats 4000000 in
set_option maxRecDepth 100000 in
theorem kX1_hasBound_15 {G : xwG} {ad : Nat → Nat} {cs : xmC} (C : xw_C G cX1_hasBound 2 RX1 431 ad) (hR : xgR G = rX1_hasBound) (ht : xgt G = xm_tys cs) (hr : (xgM G).sig.returnType = (some .boolean)) {M' : xwM} {o : Int32} {s0 : Int32} {M : xwM} (hf : fX1_hasBound_15 s0 M = some (o, M')) : XV G (xw_qi G 431 ad (xm_ce ad cs M') o) 2 0 0 ad cs M 15 [none, none] [.int s0] := by
  unfold fX1_hasBound_15 at hf
  obtain ⟨hz, hf⟩ := xl_z hf
  cases hf
  exact xw_retz C hr hz dX1_hasBound_15
def fX1_hasBound (x0 : Nat) (x1 : Int32) (M : xwM) : Option (Int32 × xwM) :=
  ld M (4 + 34 * x0) 12 x1 fun v1 =>
  if v1 = (-1) then
    (fX1_hasBound_15 0 M)
  else
    (fX1_hasBound_15 1 M)
set_option maxHeartbeats 4000000 in
set_option maxRecDepth 100000 in
theorem kX1_hasBound_0 {G : xwG} {ad : Nat → Nat} {cs : xmC} (C : xw_C G cX1_hasBound 2 RX1 431 ad) (hR : xgR G = rX1_hasBound) (ht : xgt G = xm_tys cs) (hr : (xgM G).sig.returnType = (some .boolean)) {M' : xwM} {o : Int32} {x0 : Nat} {x1 : Int32} (h0 : x0 < 12) {M : xwM} (hf : fX1_hasBound x0 x1 M = some (o, M')) : XV G (xw_qi G 431 ad (xm_ce ad cs M') o) 2 0 0 ad cs M 0 [some (.ref (ad (2 + 34 * x0))), some (.int x1)] [] := by
  unfold fX1_hasBound at hf
  refine xw_aload_n C dX1_hasBound_0 0 rfl rfl ?_
  refine xv_getf C (by omega) (xs_R h0) rfl inB1 1 (by decide) hw_64 rfl dX1_hasBound_1 ?_
  refine xw_iload_n C dX1_hasBound_4 1 rfl rfl ?_
  obtain ⟨i_2, hf⟩ := ld_s hf
  refine xv_iald C ht (by omega) ((fun _ => xs_A 4 (by decide) h0) _) i_2 dX1_hasBound_5 ?_
  refine xw_iconst (v := -1) C dX1_hasBound_6 (by decide) ?_
  refine xw_icmp_eq (tgt := 14) C dX1_hasBound_7 (by decide) (fun c_3 => ?_) (fun c_3 => ?_)
  · have hf := it_t hf c_3
    refine xw_iconst (v := 0) C dX1_hasBound_14 (by decide) ?_
    exact xl_sub (xl_n (xl_n xl_e)) (kX1_hasBound_15 C hR ht hr  hf)
  · have hf := it_f hf c_3
    refine xw_iconst (v := 1) C dX1_hasBound_10 (by decide) ?_
    refine xw_goto (tgt := 15) C dX1_hasBound_11 (by decide) ?_
    exact xl_sub (xl_n (xl_n xl_e)) (kX1_hasBound_15 C hR ht hr  hf)
theorem mX1_hasBound (l : Launch) {D : va_G} {tys : List (ClassId × FieldType)} {base : Nat} {ad : Nat → Nat} {cs : xmC} (hJ : xw_J 431 ad base) (ht : tys = xm_tys cs) {x0 : Nat} {x1 : Int32} (h0 : x0 < 12) {M M' : xwM} {o : Int32} (hf : fX1_hasBound x0 x1 M = some (o, M')) : xk_i l yX1_hasBound cX1_hasBound 2 (some .boolean) rX1_hasBound D tys base 431 ad [.ref (ad (2 + 34 * x0)), .int x1] (xm_ce ad cs M) (xm_ce ad cs M') o :=
  xk_ofi 0 (by decide) hJ (List.forall_mem_cons.mpr ⟨rfl, List.forall_mem_cons.mpr ⟨rfl, List.forall_mem_nil _⟩⟩) (Nat.le_of_ble_eq_true rfl) (fun G e1 e2 e3 e4 e5 hr C => kX1_hasBound_0 C e2 (e4.trans ht) hr h0 hf)

abbrev rX1_isGood : Room := { frames := 1, cells := 0, slots := 0, locals := 22 }
def fX1_isGood_56 (s0 : Int32) (M : xwM) : Option (Int32 × xwM) :=
  if s0 = 0 ∨ s0 = 1 then some (s0, M) else none
set_option maxHeartbeats 4000000 in
set_option maxRecDepth 100000 in
theorem kX1_isGood_56 {G : xwG} {ad : Nat → Nat} {cs : xmC} (C : xw_C G cX1_isGood 4 RX1 431 ad) (hR : xgR G = rX1_isGood) (ht : xgt G = xm_tys cs) (hr : (xgM G).sig.returnType = (some .boolean)) {M' : xwM} {o : Int32} {s0 : Int32} {M : xwM} (hf : fX1_isGood_56 s0 M = some (o, M')) : XV G (xw_qi G 431 ad (xm_ce ad cs M') o) 4 0 0 ad cs M 56 [none, none, none, none] [.int s0] := by
  unfold fX1_isGood_56 at hf
  obtain ⟨hz, hf⟩ := xl_z hf
  cases hf
  exact xw_retz C hr hz dX1_isGood_56
def fX1_isGood_51 (M : xwM) : Option (Int32 × xwM) :=
  fX1_isGood_56 1 M
set_option maxHeartbeats 4000000 in
set_option maxRecDepth 100000 in
theorem kX1_isGood_51 {G : xwG} {ad : Nat → Nat} {cs : xmC} (C : xw_C G cX1_isGood 4 RX1 431 ad) (hR : xgR G = rX1_isGood) (ht : xgt G = xm_tys cs) (hr : (xgM G).sig.returnType = (some .boolean)) {M' : xwM} {o : Int32} {M : xwM} (hf : fX1_isGood_51  M = some (o, M')) : XV G (xw_qi G 431 ad (xm_ce ad cs M') o) 4 0 0 ad cs M 51 [none, none, none, none] [] := by
  unfold fX1_isGood_51 at hf
  refine xw_iconst (v := 1) C dX1_isGood_51 (by decide) ?_
  refine xw_goto (tgt := 56) C dX1_isGood_52 (by decide) ?_
  exact xl_sub (xl_n (xl_n (xl_n (xl_n xl_e)))) (kX1_isGood_56 C hR ht hr  hf)
def fX1_isGood_55 (M : xwM) : Option (Int32 × xwM) :=
  fX1_isGood_56 0 M
set_option maxHeartbeats 4000000 in
set_option maxRecDepth 100000 in
theorem kX1_isGood_55 {G : xwG} {ad : Nat → Nat} {cs : xmC} (C : xw_C G cX1_isGood 4 RX1 431 ad) (hR : xgR G = rX1_isGood) (ht : xgt G = xm_tys cs) (hr : (xgM G).sig.returnType = (some .boolean)) {M' : xwM} {o : Int32} {M : xwM} (hf : fX1_isGood_55  M = some (o, M')) : XV G (xw_qi G 431 ad (xm_ce ad cs M') o) 4 0 0 ad cs M 55 [none, none, none, none] [] := by
  unfold fX1_isGood_55 at hf
  refine xw_iconst (v := 0) C dX1_isGood_55 (by decide) ?_
  exact xl_sub (xl_n (xl_n (xl_n (xl_n xl_e)))) (kX1_isGood_56 C hR ht hr  hf)
def fX1_isGood (x0 : Nat) (x1 : Int32) (x2 : Int32) (x3 : Int32) (M : xwM) : Option (Int32 × xwM) :=
  if x3 = 65535 then
    (some (0, M))
  else
    (ld M (4 + 34 * x0) 12 x1 fun v2 =>
      if v2 = (-1) then
        (fX1_isGood_51  M)
      else
        (ld M (4 + 34 * x0) 12 x1 fun v5 =>
          bni (fX2_isNewer x2 v5 M) fun v7 M8 =>
          if v7 = 0 then
            (ld M8 (4 + 34 * x0) 12 x1 fun v11 =>
              if x2 = v11 then
                (ld M8 (5 + 34 * x0) 12 x1 fun v14 =>
                  if v14 ≤ x3 then
                    (fX1_isGood_55  M8)
                  else
                    (fX1_isGood_51  M8))
              else
                (fX1_isGood_55  M8))
          else
            (fX1_isGood_51  M8)))
set_option maxHeartbeats 4000000 in
set_option maxRecDepth 100000 in
theorem kX1_isGood_0 {G : xwG} {ad : Nat → Nat} {cs : xmC} (C : xw_C G cX1_isGood 4 RX1 431 ad) (hR : xgR G = rX1_isGood) (ht : xgt G = xm_tys cs) (hr : (xgM G).sig.returnType = (some .boolean)) {M' : xwM} {o : Int32} {x0 : Nat} {x1 : Int32} {x2 : Int32} {x3 : Int32} (h0 : x0 < 12) {M : xwM} (hf : fX1_isGood x0 x1 x2 x3 M = some (o, M')) : XV G (xw_qi G 431 ad (xm_ce ad cs M') o) 4 0 0 ad cs M 0 [some (.ref (ad (2 + 34 * x0))), some (.int x1), some (.int x2), some (.int x3)] [] := by
  unfold fX1_isGood at hf
  refine xw_iload_n C dX1_isGood_0 3 rfl rfl ?_
  refine xw_ldc C hw_261 dX1_isGood_1 ?_
  refine xw_icmp_ne (tgt := 8) C dX1_isGood_3 (by decide) (fun c_1 => ?_) (fun c_1 => ?_)
  · have hf := it_f hf c_1
    refine xw_aload_n C dX1_isGood_8 0 rfl rfl ?_
    refine xv_getf C (by omega) (xs_R h0) rfl inB1 1 (by decide) hw_64 rfl dX1_isGood_9 ?_
    refine xw_iload_n C dX1_isGood_12 1 rfl rfl ?_
    obtain ⟨i_3, hf⟩ := ld_s hf
    refine xv_iald C ht (by omega) ((fun _ => xs_A 4 (by decide) h0) _) i_3 dX1_isGood_13 ?_
    refine xw_iconst (v := -1) C dX1_isGood_14 (by decide) ?_
    refine xw_icmp_eq (tgt := 51) C dX1_isGood_15 (by decide) (fun c_4 => ?_) (fun c_4 => ?_)
    · have hf := it_t hf c_4
      exact xl_sub (xl_n (xl_n (xl_n (xl_n xl_e)))) (kX1_isGood_51 C hR ht hr  hf)
    · have hf := it_f hf c_4
      refine xw_iload_n C dX1_isGood_18 2 rfl rfl ?_
      refine xw_aload_n C dX1_isGood_19 0 rfl rfl ?_
      refine xv_getf C (by omega) (xs_R h0) rfl inB1 1 (by decide) hw_64 rfl dX1_isGood_20 ?_
      refine xw_iload_n C dX1_isGood_23 1 rfl rfl ?_
      obtain ⟨i_6, hf⟩ := ld_s hf
      refine xv_iald C ht (by omega) ((fun _ => xs_A 4 (by decide) h0) _) i_6 dX1_isGood_24 ?_
      obtain ⟨r_v7, M_M8, g_9, hf⟩ := bni_s hf
      refine xc_Ni C (mX2_isNewer (xgl G) C.2.2.2.2.2.2.2.2.1 ht  g_9) FX2_isNewer C.2.2.2.2.2.2.2.2.2.1.1 (by rw [hR]; decide) (by rw [hR]; decide) rfl (Nat.le_of_ble_eq_true rfl) dX1_isGood_25 rfl ?_
      refine xw_if_ne (tgt := 51) C dX1_isGood_28 (by decide) (fun c_10 => ?_) (fun c_10 => ?_)
      · have hf := it_f hf c_10
        exact xl_sub (xl_n (xl_n (xl_n (xl_n xl_e)))) (kX1_isGood_51 C hR ht hr  hf)
      · have hf := it_t hf c_10
        refine xw_iload_n C dX1_isGood_31 2 rfl rfl ?_
        refine xw_aload_n C dX1_isGood_32 0 rfl rfl ?_
        refine xv_getf C (by omega) (xs_R h0) rfl inB1 1 (by decide) hw_64 rfl dX1_isGood_33 ?_
        refine xw_iload_n C dX1_isGood_36 1 rfl rfl ?_
        obtain ⟨i_12, hf⟩ := ld_s hf
        refine xv_iald C ht (by omega) ((fun _ => xs_A 4 (by decide) h0) _) i_12 dX1_isGood_37 ?_
        refine xw_icmp_ne (tgt := 55) C dX1_isGood_38 (by decide) (fun c_13 => ?_) (fun c_13 => ?_)
        · have hf := it_f hf c_13
          exact xl_sub (xl_n (xl_n (xl_n (xl_n xl_e)))) (kX1_isGood_55 C hR ht hr  hf)
        · have hf := it_t hf c_13
          refine xw_iload_n C dX1_isGood_41 3 rfl rfl ?_
          refine xw_aload_n C dX1_isGood_42 0 rfl rfl ?_
          refine xv_getf C (by omega) (xs_R h0) rfl inB1 2 (by decide) hw_66 rfl dX1_isGood_43 ?_
          refine xw_iload_n C dX1_isGood_46 1 rfl rfl ?_
          obtain ⟨i_15, hf⟩ := ld_s hf
          refine xv_iald C ht (by omega) ((fun _ => xs_A 5 (by decide) h0) _) i_15 dX1_isGood_47 ?_
          refine xw_icmp_ge (tgt := 55) C dX1_isGood_48 (by decide) (fun c_16 => ?_) (fun c_16 => ?_)
          · have hf := it_t hf c_16
            exact xl_sub (xl_n (xl_n (xl_n (xl_n xl_e)))) (kX1_isGood_55 C hR ht hr  hf)
          · have hf := it_f hf c_16
            exact xl_sub (xl_n (xl_n (xl_n (xl_n xl_e)))) (kX1_isGood_51 C hR ht hr  hf)
  · have hf := it_t hf c_1
    refine xw_iconst (v := 0) C dX1_isGood_6 (by decide) ?_
    cases hf
    exact xw_retz C hr (by decide) dX1_isGood_7
theorem mX1_isGood (l : Launch) {D : va_G} {tys : List (ClassId × FieldType)} {base : Nat} {ad : Nat → Nat} {cs : xmC} (hJ : xw_J 431 ad base) (ht : tys = xm_tys cs) {x0 : Nat} {x1 : Int32} {x2 : Int32} {x3 : Int32} (h0 : x0 < 12) {M M' : xwM} {o : Int32} (hf : fX1_isGood x0 x1 x2 x3 M = some (o, M')) : xk_i l yX1_isGood cX1_isGood 4 (some .boolean) rX1_isGood D tys base 431 ad [.ref (ad (2 + 34 * x0)), .int x1, .int x2, .int x3] (xm_ce ad cs M) (xm_ce ad cs M') o :=
  xk_ofi 0 (by decide) hJ (List.forall_mem_cons.mpr ⟨rfl, List.forall_mem_cons.mpr ⟨rfl, List.forall_mem_cons.mpr ⟨rfl, List.forall_mem_cons.mpr ⟨rfl, List.forall_mem_nil _⟩⟩⟩⟩) (Nat.le_of_ble_eq_true rfl) (fun G e1 e2 e3 e4 e5 hr C => kX1_isGood_0 C e2 (e4.trans ht) hr h0 hf)

abbrev rX1_hasPassedOn : Room := { frames := 1, cells := 0, slots := 0, locals := 22 }
def fX1_hasPassedOn_30 (s0 : Int32) (M : xwM) : Option (Int32 × xwM) :=
  if s0 = 0 ∨ s0 = 1 then some (s0, M) else none
set_option maxHeartbeats 4000000 in
set_option maxRecDepth 100000 in
theorem kX1_hasPassedOn_30 {G : xwG} {ad : Nat → Nat} {cs : xmC} (C : xw_C G cX1_hasPassedOn 4 RX1 431 ad) (hR : xgR G = rX1_hasPassedOn) (ht : xgt G = xm_tys cs) (hr : (xgM G).sig.returnType = (some .boolean)) {M' : xwM} {o : Int32} {s0 : Int32} {M : xwM} (hf : fX1_hasPassedOn_30 s0 M = some (o, M')) : XV G (xw_qi G 431 ad (xm_ce ad cs M') o) 4 0 0 ad cs M 30 [none, none, none, none] [.int s0] := by
  unfold fX1_hasPassedOn_30 at hf
  obtain ⟨hz, hf⟩ := xl_z hf
  cases hf
  exact xw_retz C hr hz dX1_hasPassedOn_30
def fX1_hasPassedOn_25 (M : xwM) : Option (Int32 × xwM) :=
  fX1_hasPassedOn_30 1 M
set_option maxHeartbeats 4000000 in
set_option maxRecDepth 100000 in
theorem kX1_hasPassedOn_25 {G : xwG} {ad : Nat → Nat} {cs : xmC} (C : xw_C G cX1_hasPassedOn 4 RX1 431 ad) (hR : xgR G = rX1_hasPassedOn) (ht : xgt G = xm_tys cs) (hr : (xgM G).sig.returnType = (some .boolean)) {M' : xwM} {o : Int32} {M : xwM} (hf : fX1_hasPassedOn_25  M = some (o, M')) : XV G (xw_qi G 431 ad (xm_ce ad cs M') o) 4 0 0 ad cs M 25 [none, none, none, none] [] := by
  unfold fX1_hasPassedOn_25 at hf
  refine xw_iconst (v := 1) C dX1_hasPassedOn_25 (by decide) ?_
  refine xw_goto (tgt := 30) C dX1_hasPassedOn_26 (by decide) ?_
  exact xl_sub (xl_n (xl_n (xl_n (xl_n xl_e)))) (kX1_hasPassedOn_30 C hR ht hr  hf)
def fX1_hasPassedOn_29 (M : xwM) : Option (Int32 × xwM) :=
  fX1_hasPassedOn_30 0 M
set_option maxHeartbeats 4000000 in
set_option maxRecDepth 100000 in
theorem kX1_hasPassedOn_29 {G : xwG} {ad : Nat → Nat} {cs : xmC} (C : xw_C G cX1_hasPassedOn 4 RX1 431 ad) (hR : xgR G = rX1_hasPassedOn) (ht : xgt G = xm_tys cs) (hr : (xgM G).sig.returnType = (some .boolean)) {M' : xwM} {o : Int32} {M : xwM} (hf : fX1_hasPassedOn_29  M = some (o, M')) : XV G (xw_qi G 431 ad (xm_ce ad cs M') o) 4 0 0 ad cs M 29 [none, none, none, none] [] := by
  unfold fX1_hasPassedOn_29 at hf
  refine xw_iconst (v := 0) C dX1_hasPassedOn_29 (by decide) ?_
  exact xl_sub (xl_n (xl_n (xl_n (xl_n xl_e)))) (kX1_hasPassedOn_30 C hR ht hr  hf)
def fX1_hasPassedOn (x0 : Nat) (x1 : Int32) (x2 : Int32) (M : xwM) : Option (Int32 × xwM) :=
  ld M (9 + 34 * x0) 12 x1 fun v1 =>
  if v1 = (-1) then
    (fX1_hasPassedOn_29  M)
  else
    (if v1 = x2 then
        (fX1_hasPassedOn_25  M)
      else
        (bni (fX2_isNewer v1 x2 M) fun v5 M6 =>
          if v5 = 0 then
            (fX1_hasPassedOn_29  M6)
          else
            (fX1_hasPassedOn_25  M6)))
set_option maxHeartbeats 4000000 in
set_option maxRecDepth 100000 in
theorem kX1_hasPassedOn_0 {G : xwG} {ad : Nat → Nat} {cs : xmC} (C : xw_C G cX1_hasPassedOn 4 RX1 431 ad) (hR : xgR G = rX1_hasPassedOn) (ht : xgt G = xm_tys cs) (hr : (xgM G).sig.returnType = (some .boolean)) {M' : xwM} {o : Int32} {x0 : Nat} {x1 : Int32} {x2 : Int32} (h0 : x0 < 12) {M : xwM} (hf : fX1_hasPassedOn x0 x1 x2 M = some (o, M')) : XV G (xw_qi G 431 ad (xm_ce ad cs M') o) 4 0 0 ad cs M 0 [some (.ref (ad (2 + 34 * x0))), some (.int x1), some (.int x2), none] [] := by
  unfold fX1_hasPassedOn at hf
  refine xw_aload_n C dX1_hasPassedOn_0 0 rfl rfl ?_
  refine xv_getf C (by omega) (xs_R h0) rfl inB1 6 (by decide) hw_74 rfl dX1_hasPassedOn_1 ?_
  refine xw_iload_n C dX1_hasPassedOn_4 1 rfl rfl ?_
  obtain ⟨i_2, hf⟩ := ld_s hf
  refine xv_iald C ht (by omega) ((fun _ => xs_A 9 (by decide) h0) _) i_2 dX1_hasPassedOn_5 ?_
  refine xw_istore_n C dX1_hasPassedOn_6 3 rfl (by decide) ?_
  refine xw_iload_n C dX1_hasPassedOn_7 3 rfl rfl ?_
  refine xw_iconst (v := -1) C dX1_hasPassedOn_8 (by decide) ?_
  refine xw_icmp_eq (tgt := 29) C dX1_hasPassedOn_9 (by decide) (fun c_3 => ?_) (fun c_3 => ?_)
  · have hf := it_t hf c_3
    exact xl_sub (xl_n (xl_n (xl_n (xl_n xl_e)))) (kX1_hasPassedOn_29 C hR ht hr  hf)
  · have hf := it_f hf c_3
    refine xw_iload_n C dX1_hasPassedOn_12 3 rfl rfl ?_
    refine xw_iload_n C dX1_hasPassedOn_13 2 rfl rfl ?_
    refine xw_icmp_eq (tgt := 25) C dX1_hasPassedOn_14 (by decide) (fun c_4 => ?_) (fun c_4 => ?_)
    · have hf := it_t hf c_4
      exact xl_sub (xl_n (xl_n (xl_n (xl_n xl_e)))) (kX1_hasPassedOn_25 C hR ht hr  hf)
    · have hf := it_f hf c_4
      refine xw_iload_n C dX1_hasPassedOn_17 3 rfl rfl ?_
      refine xw_iload_n C dX1_hasPassedOn_18 2 rfl rfl ?_
      obtain ⟨r_v5, M_M6, g_7, hf⟩ := bni_s hf
      refine xc_Ni C (mX2_isNewer (xgl G) C.2.2.2.2.2.2.2.2.1 ht  g_7) FX2_isNewer C.2.2.2.2.2.2.2.2.2.1.1 (by rw [hR]; decide) (by rw [hR]; decide) rfl (Nat.le_of_ble_eq_true rfl) dX1_hasPassedOn_19 rfl ?_
      refine xw_if_eq (tgt := 29) C dX1_hasPassedOn_22 (by decide) (fun c_8 => ?_) (fun c_8 => ?_)
      · have hf := it_t hf c_8
        exact xl_sub (xl_n (xl_n (xl_n (xl_n xl_e)))) (kX1_hasPassedOn_29 C hR ht hr  hf)
      · have hf := it_f hf c_8
        exact xl_sub (xl_n (xl_n (xl_n (xl_n xl_e)))) (kX1_hasPassedOn_25 C hR ht hr  hf)
theorem mX1_hasPassedOn (l : Launch) {D : va_G} {tys : List (ClassId × FieldType)} {base : Nat} {ad : Nat → Nat} {cs : xmC} (hJ : xw_J 431 ad base) (ht : tys = xm_tys cs) {x0 : Nat} {x1 : Int32} {x2 : Int32} (h0 : x0 < 12) {M M' : xwM} {o : Int32} (hf : fX1_hasPassedOn x0 x1 x2 M = some (o, M')) : xk_i l yX1_hasPassedOn cX1_hasPassedOn 4 (some .boolean) rX1_hasPassedOn D tys base 431 ad [.ref (ad (2 + 34 * x0)), .int x1, .int x2] (xm_ce ad cs M) (xm_ce ad cs M') o :=
  xk_ofi 1 (by decide) hJ (List.forall_mem_cons.mpr ⟨rfl, List.forall_mem_cons.mpr ⟨rfl, List.forall_mem_cons.mpr ⟨rfl, List.forall_mem_nil _⟩⟩⟩) (Nat.le_of_ble_eq_true rfl) (fun G e1 e2 e3 e4 e5 hr C => kX1_hasPassedOn_0 C e2 (e4.trans ht) hr h0 hf)

abbrev rX1_raiseOwnNumber : Room := { frames := 1, cells := 0, slots := 0, locals := 20 }
def fX1_raiseOwnNumber (x0 : Nat) (M : xwM) : Option (Int32 × xwM) :=
  ld M (7 + 34 * x0) 12 (M (2 + 34 * x0) 9) fun v1 =>
  bni (fX2_nextNumber v1 M) fun v3 M4 =>
  sto M4 (7 + 34 * x0) 12 (M (2 + 34 * x0) 9) v3 fun M6 =>
  ld M6 (7 + 34 * x0) 12 (M6 (2 + 34 * x0) 9) fun v8 =>
  some (v8, M6)
set_option maxHeartbeats 4000000 in
set_option maxRecDepth 100000 in
theorem kX1_raiseOwnNumber_0 {G : xwG} {ad : Nat → Nat} {cs : xmC} (C : xw_C G cX1_raiseOwnNumber 1 RX1 431 ad) (hR : xgR G = rX1_raiseOwnNumber) (ht : xgt G = xm_tys cs) (hr : (xgM G).sig.returnType = (some .int)) {M' : xwM} {o : Int32} {x0 : Nat} (h0 : x0 < 12) {M : xwM} (hf : fX1_raiseOwnNumber x0 M = some (o, M')) : XV G (xw_qi G 431 ad (xm_ce ad cs M') o) 1 0 0 ad cs M 0 [some (.ref (ad (2 + 34 * x0)))] [] := by
  unfold fX1_raiseOwnNumber at hf
  refine xw_aload_n C dX1_raiseOwnNumber_0 0 rfl rfl ?_
  refine xv_getf C (by omega) (xs_R h0) rfl inB1 4 (by decide) hw_70 rfl dX1_raiseOwnNumber_1 ?_
  refine xw_aload_n C dX1_raiseOwnNumber_4 0 rfl rfl ?_
  refine xv_getf C (by omega) (xs_R h0) rfl inB1 9 (by decide) hw_80 rfl dX1_raiseOwnNumber_5 ?_
  refine xw_aload_n C dX1_raiseOwnNumber_8 0 rfl rfl ?_
  refine xv_getf C (by omega) (xs_R h0) rfl inB1 4 (by decide) hw_70 rfl dX1_raiseOwnNumber_9 ?_
  refine xw_aload_n C dX1_raiseOwnNumber_12 0 rfl rfl ?_
  refine xv_getf C (by omega) (xs_R h0) rfl inB1 9 (by decide) hw_80 rfl dX1_raiseOwnNumber_13 ?_
  obtain ⟨i_2, hf⟩ := ld_s hf
  refine xv_iald C ht (by omega) ((fun _ => xs_A 7 (by decide) h0) _) i_2 dX1_raiseOwnNumber_16 ?_
  obtain ⟨r_v3, M_M4, g_5, hf⟩ := bni_s hf
  refine xc_Ni C (mX2_nextNumber (xgl G) C.2.2.2.2.2.2.2.2.1 ht  g_5) FX2_nextNumber C.2.2.2.2.2.2.2.2.2.1.2.1 (by rw [hR]; decide) (by rw [hR]; decide) rfl (Nat.le_of_ble_eq_true rfl) dX1_raiseOwnNumber_17 rfl ?_
  obtain ⟨i_7, hf⟩ := sto_s hf
  refine xv_iast C ht (by omega) (fun _ => xs_A 7 (by decide) h0) i_7 dX1_raiseOwnNumber_20 ?_
  refine xw_aload_n C dX1_raiseOwnNumber_21 0 rfl rfl ?_
  refine xv_getf C (by omega) (xs_R h0) rfl inB1 4 (by decide) hw_70 rfl dX1_raiseOwnNumber_22 ?_
  refine xw_aload_n C dX1_raiseOwnNumber_25 0 rfl rfl ?_
  refine xv_getf C (by omega) (xs_R h0) rfl inB1 9 (by decide) hw_80 rfl dX1_raiseOwnNumber_26 ?_
  obtain ⟨i_9, hf⟩ := ld_s hf
  refine xv_iald C ht (by omega) ((fun _ => xs_A 7 (by decide) h0) _) i_9 dX1_raiseOwnNumber_29 ?_
  cases hf
  exact xw_reti C hr dX1_raiseOwnNumber_30
theorem mX1_raiseOwnNumber (l : Launch) {D : va_G} {tys : List (ClassId × FieldType)} {base : Nat} {ad : Nat → Nat} {cs : xmC} (hJ : xw_J 431 ad base) (ht : tys = xm_tys cs) {x0 : Nat} (h0 : x0 < 12) {M M' : xwM} {o : Int32} (hf : fX1_raiseOwnNumber x0 M = some (o, M')) : xk_i l yX1_raiseOwnNumber cX1_raiseOwnNumber 1 (some .int) rX1_raiseOwnNumber D tys base 431 ad [.ref (ad (2 + 34 * x0))] (xm_ce ad cs M) (xm_ce ad cs M') o :=
  xk_ofi 0 (by decide) hJ (List.forall_mem_cons.mpr ⟨rfl, List.forall_mem_nil _⟩) (Nat.le_of_ble_eq_true rfl) (fun G e1 e2 e3 e4 e5 hr C => kX1_raiseOwnNumber_0 C e2 (e4.trans ht) hr h0 hf)

abbrev rX1_countLinks : Room := { frames := 0, cells := 0, slots := 0, locals := 0 }
def fX1_countLinks_22 (kf : Nat → Int32 → Int32 → xwM → Option (Int32 × xwM)) (x0 : Nat) (x1 : Int32) (x2 : Int32) (M : xwM) : Option (Int32 × xwM) :=
  kf x0 x1 ((x2 + 1)) M
set_option maxHeartbeats 4000000 in
set_option maxRecDepth 100000 in
theorem kX1_countLinks_22 {G : xwG} {ad : Nat → Nat} {cs : xmC} (C : xw_C G cX1_countLinks 3 RX1 431 ad) (hR : xgR G = rX1_countLinks) (ht : xgt G = xm_tys cs) (hr : (xgM G).sig.returnType = (some .int)) {M' : xwM} {o : Int32} {kf : Nat → Int32 → Int32 → xwM → Option (Int32 × xwM)} (hk : ∀ (yx0 : Nat) (yx1 : Int32) (yx2 : Int32) (M : xwM) (_ : yx0 < 12), kf yx0 yx1 yx2 M = some (o, M') → XV G (xw_qi G 431 ad (xm_ce ad cs M') o) 3 0 0 ad cs M 4 [some (.ref (ad (2 + 34 * yx0))), some (.int yx1), some (.int yx2)] []) {x0 : Nat} {x1 : Int32} {x2 : Int32} (h0 : x0 < 12) {M : xwM} (hf : fX1_countLinks_22 kf x0 x1 x2 M = some (o, M')) : XV G (xw_qi G 431 ad (xm_ce ad cs M') o) 3 0 0 ad cs M 22 [some (.ref (ad (2 + 34 * x0))), some (.int x1), some (.int x2)] [] := by
  unfold fX1_countLinks_22 at hf
  refine xw_iinc C dX1_countLinks_22 rfl (show _ + Int32.ofInt (1) = _ + (1) from congrArg _ (by decide)) (by decide) ?_
  refine xw_goto (tgt := 4) C dX1_countLinks_25 (by decide) ?_
  exact xl_sub (xl_c rfl (xl_c rfl (xl_c rfl xl_e))) (hk _ _ _ _ h0 hf)
def fX1_countLinks_4 : Nat → Nat → Int32 → Int32 →  xwM → Option (Int32 × xwM)
  | 0, _, _, _, _ => none
  | fu + 1, x0, x1, x2, M =>
  if 12 ≤ x2 then
    (some (x1, M))
  else
    (ld M (3 + 34 * x0) 12 x2 fun v2 =>
      if v2 = 0 then
        (fX1_countLinks_22 (fX1_countLinks_4 fu) x0 x1 x2 M)
      else
        (fX1_countLinks_22 (fX1_countLinks_4 fu) x0 ((x1 + 1)) x2 M))
set_option maxHeartbeats 4000000 in
set_option maxRecDepth 100000 in
theorem kX1_countLinks_4 {G : xwG} {ad : Nat → Nat} {cs : xmC} (C : xw_C G cX1_countLinks 3 RX1 431 ad) (hR : xgR G = rX1_countLinks) (ht : xgt G = xm_tys cs) (hr : (xgM G).sig.returnType = (some .int)) {M' : xwM} {o : Int32} : ∀ (fu : Nat) (x0 : Nat) (x1 : Int32) (x2 : Int32) (M : xwM) (h0 : x0 < 12), fX1_countLinks_4 fu x0 x1 x2 M = some (o, M') → XV G (xw_qi G 431 ad (xm_ce ad cs M') o) 3 0 0 ad cs M 4 [some (.ref (ad (2 + 34 * x0))), some (.int x1), some (.int x2)] [] := by
  intro fu
  induction fu with
  | zero =>
    intro x0 x1 x2 M h0 hf
    cases hf
  | succ fu ih =>
    intro x0 x1 x2 M h0 hf
    rw [fX1_countLinks_4] at hf
    refine xw_iload_n C dX1_countLinks_4 2 rfl rfl ?_
    refine xw_bipush (v := 12) C dX1_countLinks_5 (by decide) ?_
    refine xw_icmp_ge (tgt := 28) C dX1_countLinks_7 (by decide) (fun c_1 => ?_) (fun c_1 => ?_)
    · have hf := it_t hf c_1
      refine xw_iload_n C dX1_countLinks_28 1 rfl rfl ?_
      cases hf
      exact xw_reti C hr dX1_countLinks_29
    · have hf := it_f hf c_1
      refine xw_aload_n C dX1_countLinks_10 0 rfl rfl ?_
      refine xv_getf C (by omega) (xs_R h0) rfl inB1 0 (by decide) hw_62 rfl dX1_countLinks_11 ?_
      refine xw_iload_n C dX1_countLinks_14 2 rfl rfl ?_
      obtain ⟨i_3, hf⟩ := ld_s hf
      refine xv_iald C ht (by omega) ((fun _ => xs_A 3 (by decide) h0) _) i_3 dX1_countLinks_15 ?_
      refine xw_if_eq (tgt := 22) C dX1_countLinks_16 (by decide) (fun c_4 => ?_) (fun c_4 => ?_)
      · have hf := it_t hf c_4
        exact xl_sub (xl_c rfl (xl_c rfl (xl_c rfl xl_e))) (kX1_countLinks_22 C hR ht hr ih h0 hf)
      · have hf := it_f hf c_4
        refine xw_iinc C dX1_countLinks_19 rfl (show _ + Int32.ofInt (1) = _ + (1) from congrArg _ (by decide)) (by decide) ?_
        exact xl_sub (xl_c rfl (xl_c rfl (xl_c rfl xl_e))) (kX1_countLinks_22 C hR ht hr ih h0 hf)
def fX1_countLinks (x0 : Nat) (M : xwM) : Option (Int32 × xwM) :=
  fX1_countLinks_4 2001 x0 0 0 M
set_option maxHeartbeats 4000000 in
set_option maxRecDepth 100000 in
theorem kX1_countLinks_0 {G : xwG} {ad : Nat → Nat} {cs : xmC} (C : xw_C G cX1_countLinks 3 RX1 431 ad) (hR : xgR G = rX1_countLinks) (ht : xgt G = xm_tys cs) (hr : (xgM G).sig.returnType = (some .int)) {M' : xwM} {o : Int32} {x0 : Nat} (h0 : x0 < 12) {M : xwM} (hf : fX1_countLinks x0 M = some (o, M')) : XV G (xw_qi G 431 ad (xm_ce ad cs M') o) 3 0 0 ad cs M 0 [some (.ref (ad (2 + 34 * x0))), none, none] [] := by
  unfold fX1_countLinks at hf
  refine xw_iconst (v := 0) C dX1_countLinks_0 (by decide) ?_
  refine xw_istore_n C dX1_countLinks_1 1 rfl (by decide) ?_
  refine xw_iconst (v := 0) C dX1_countLinks_2 (by decide) ?_
  refine xw_istore_n C dX1_countLinks_3 2 rfl (by decide) ?_
  exact xl_sub (xl_c rfl (xl_c rfl (xl_c rfl xl_e))) (kX1_countLinks_4 C hR ht hr 2001 _ _ _ _ h0 hf)
theorem mX1_countLinks (l : Launch) {D : va_G} {tys : List (ClassId × FieldType)} {base : Nat} {ad : Nat → Nat} {cs : xmC} (hJ : xw_J 431 ad base) (ht : tys = xm_tys cs) {x0 : Nat} (h0 : x0 < 12) {M M' : xwM} {o : Int32} (hf : fX1_countLinks x0 M = some (o, M')) : xk_i l yX1_countLinks cX1_countLinks 3 (some .int) rX1_countLinks D tys base 431 ad [.ref (ad (2 + 34 * x0))] (xm_ce ad cs M) (xm_ce ad cs M') o :=
  xk_ofi 2 (by decide) hJ (List.forall_mem_cons.mpr ⟨rfl, List.forall_mem_nil _⟩) (Nat.le_of_ble_eq_true rfl) (fun G e1 e2 e3 e4 e5 hr C => kX1_countLinks_0 C e2 (e4.trans ht) hr h0 hf)

abbrev rX1_forgetNeighbour : Room := { frames := 1, cells := 0, slots := 0, locals := 23 }
def fX1_forgetNeighbour (x0 : Nat) (x1 : Int32) (M : xwM) : Option (xwM) :=
  ixr 12 x1 fun n1 =>
  xlet (fil M (10 + 34 * x0 + 1 + n1) 12 (-1)) fun M4 =>
  ixr 12 x1 fun n5 =>
  xlet (fil M4 (23 + 34 * x0 + 1 + n5) 12 (-1)) fun M8 =>
  some M8
set_option maxHeartbeats 4000000 in
set_option maxRecDepth 100000 in
theorem kX1_forgetNeighbour_0 {G : xwG} {ad : Nat → Nat} {cs : xmC} (C : xw_C G cX1_forgetNeighbour 2 RX1 431 ad) (hR : xgR G = rX1_forgetNeighbour) (ht : xgt G = xm_tys cs) (hr : (xgM G).sig.returnType = none) {M' : xwM} {x0 : Nat} {x1 : Int32} (h0 : x0 < 12) {M : xwM} (hf : fX1_forgetNeighbour x0 x1 M = some M') : XV G (xw_qv G 431 ad (xm_ce ad cs M')) 2 0 0 ad cs M 0 [some (.ref (ad (2 + 34 * x0))), some (.int x1)] [] := by
  unfold fX1_forgetNeighbour at hf
  refine xw_aload_n C dX1_forgetNeighbour_0 0 rfl rfl ?_
  refine xv_getf C (by omega) (xs_R h0) rfl inB1 7 (by decide) hw_76 rfl dX1_forgetNeighbour_1 ?_
  refine xw_iload_n C dX1_forgetNeighbour_4 1 rfl rfl ?_
  obtain ⟨i_2, q_3, hf⟩ := ixr_s hf
  refine xv_aldT (j := 10) C ht (by decide) h0 i_2 dX1_forgetNeighbour_5 ?_
  refine xw_iconst (v := -1) C dX1_forgetNeighbour_6 (by decide) ?_
  refine xl_fill C ht (by omega) (fun _ => xs_T 10 (by decide) h0 q_3) (by decide) hw_59 (by rw [hR]; decide) (by rw [hR]; decide) (Nat.le_of_ble_eq_true rfl) dX1_forgetNeighbour_7 ?_
  have hf := xlet_s hf
  refine xw_aload_n C dX1_forgetNeighbour_10 0 rfl rfl ?_
  refine xv_getf C (by omega) (xs_R h0) rfl inB1 8 (by decide) hw_78 rfl dX1_forgetNeighbour_11 ?_
  refine xw_iload_n C dX1_forgetNeighbour_14 1 rfl rfl ?_
  obtain ⟨i_6, q_7, hf⟩ := ixr_s hf
  refine xv_aldT (j := 23) C ht (by decide) h0 i_6 dX1_forgetNeighbour_15 ?_
  refine xw_iconst (v := -1) C dX1_forgetNeighbour_16 (by decide) ?_
  refine xl_fill C ht (by omega) (fun _ => xs_T 23 (by decide) h0 q_7) (by decide) hw_59 (by rw [hR]; decide) (by rw [hR]; decide) (Nat.le_of_ble_eq_true rfl) dX1_forgetNeighbour_17 ?_
  have hf := xlet_s hf
  cases hf
  exact xw_retv C hr dX1_forgetNeighbour_20
theorem mX1_forgetNeighbour (l : Launch) {D : va_G} {tys : List (ClassId × FieldType)} {base : Nat} {ad : Nat → Nat} {cs : xmC} (hJ : xw_J 431 ad base) (ht : tys = xm_tys cs) {x0 : Nat} {x1 : Int32} (h0 : x0 < 12) {M M' : xwM} (hf : fX1_forgetNeighbour x0 x1 M = some M') : xk_v l yX1_forgetNeighbour cX1_forgetNeighbour 2 none rX1_forgetNeighbour D tys base 431 ad [.ref (ad (2 + 34 * x0)), .int x1] (xm_ce ad cs M) (xm_ce ad cs M') :=
  xk_ofv 0 (by decide) hJ (List.forall_mem_cons.mpr ⟨rfl, List.forall_mem_cons.mpr ⟨rfl, List.forall_mem_nil _⟩⟩) (Nat.le_of_ble_eq_true rfl) (fun G e1 e2 e3 e4 e5 hr C => kX1_forgetNeighbour_0 C e2 (e4.trans ht) hr h0 hf)

abbrev rX1_forgetBounds : Room := { frames := 1, cells := 0, slots := 0, locals := 23 }
def fX1_forgetBounds (x0 : Nat) (M : xwM) : Option (xwM) :=
  xlet (fil M (4 + 34 * x0) 12 (-1)) fun M1 =>
  xlet (fil M1 (5 + 34 * x0) 12 (-1)) fun M2 =>
  xlet (fil M2 (9 + 34 * x0) 12 (-1)) fun M3 =>
  some M3
set_option maxHeartbeats 4000000 in
set_option maxRecDepth 100000 in
theorem kX1_forgetBounds_0 {G : xwG} {ad : Nat → Nat} {cs : xmC} (C : xw_C G cX1_forgetBounds 1 RX1 431 ad) (hR : xgR G = rX1_forgetBounds) (ht : xgt G = xm_tys cs) (hr : (xgM G).sig.returnType = none) {M' : xwM} {x0 : Nat} (h0 : x0 < 12) {M : xwM} (hf : fX1_forgetBounds x0 M = some M') : XV G (xw_qv G 431 ad (xm_ce ad cs M')) 1 0 0 ad cs M 0 [some (.ref (ad (2 + 34 * x0)))] [] := by
  unfold fX1_forgetBounds at hf
  refine xw_aload_n C dX1_forgetBounds_0 0 rfl rfl ?_
  refine xv_getf C (by omega) (xs_R h0) rfl inB1 1 (by decide) hw_64 rfl dX1_forgetBounds_1 ?_
  refine xw_iconst (v := -1) C dX1_forgetBounds_4 (by decide) ?_
  refine xl_fill C ht (by omega) (fun _ => xs_A 4 (by decide) h0) (by decide) hw_59 (by rw [hR]; decide) (by rw [hR]; decide) (Nat.le_of_ble_eq_true rfl) dX1_forgetBounds_5 ?_
  have hf := xlet_s hf
  refine xw_aload_n C dX1_forgetBounds_8 0 rfl rfl ?_
  refine xv_getf C (by omega) (xs_R h0) rfl inB1 2 (by decide) hw_66 rfl dX1_forgetBounds_9 ?_
  refine xw_iconst (v := -1) C dX1_forgetBounds_12 (by decide) ?_
  refine xl_fill C ht (by omega) (fun _ => xs_A 5 (by decide) h0) (by decide) hw_59 (by rw [hR]; decide) (by rw [hR]; decide) (Nat.le_of_ble_eq_true rfl) dX1_forgetBounds_13 ?_
  have hf := xlet_s hf
  refine xw_aload_n C dX1_forgetBounds_16 0 rfl rfl ?_
  refine xv_getf C (by omega) (xs_R h0) rfl inB1 6 (by decide) hw_74 rfl dX1_forgetBounds_17 ?_
  refine xw_iconst (v := -1) C dX1_forgetBounds_20 (by decide) ?_
  refine xl_fill C ht (by omega) (fun _ => xs_A 9 (by decide) h0) (by decide) hw_59 (by rw [hR]; decide) (by rw [hR]; decide) (Nat.le_of_ble_eq_true rfl) dX1_forgetBounds_21 ?_
  have hf := xlet_s hf
  cases hf
  exact xw_retv C hr dX1_forgetBounds_24
theorem mX1_forgetBounds (l : Launch) {D : va_G} {tys : List (ClassId × FieldType)} {base : Nat} {ad : Nat → Nat} {cs : xmC} (hJ : xw_J 431 ad base) (ht : tys = xm_tys cs) {x0 : Nat} (h0 : x0 < 12) {M M' : xwM} (hf : fX1_forgetBounds x0 M = some M') : xk_v l yX1_forgetBounds cX1_forgetBounds 1 none rX1_forgetBounds D tys base 431 ad [.ref (ad (2 + 34 * x0))] (xm_ce ad cs M) (xm_ce ad cs M') :=
  xk_ofv 0 (by decide) hJ (List.forall_mem_cons.mpr ⟨rfl, List.forall_mem_nil _⟩) (Nat.le_of_ble_eq_true rfl) (fun G e1 e2 e3 e4 e5 hr C => kX1_forgetBounds_0 C e2 (e4.trans ht) hr h0 hf)

abbrev rX1_findBestNeighbour : Room := { frames := 2, cells := 0, slots := 0, locals := 45 }
def fX1_findBestNeighbour_106 (kf : Nat → Int32 → Int32 → Int32 → Int32 → xwM → Option (Int32 × xwM)) (x0 : Nat) (x1 : Int32) (x2 : Int32) (x3 : Int32) (x4 : Int32) (M : xwM) : Option (Int32 × xwM) :=
  kf x0 x1 x2 x3 ((x4 + 1)) M
set_option maxHeartbeats 4000000 in
set_option maxRecDepth 100000 in
theorem kX1_findBestNeighbour_106 {G : xwG} {ad : Nat → Nat} {cs : xmC} (C : xw_C G cX1_findBestNeighbour 8 RX1 431 ad) (hR : xgR G = rX1_findBestNeighbour) (ht : xgt G = xm_tys cs) (hr : (xgM G).sig.returnType = (some .int)) {M' : xwM} {o : Int32} {kf : Nat → Int32 → Int32 → Int32 → Int32 → xwM → Option (Int32 × xwM)} (hk : ∀ (yx0 : Nat) (yx1 : Int32) (yx2 : Int32) (yx3 : Int32) (yx4 : Int32) (M : xwM) (_ : yx0 < 12), kf yx0 yx1 yx2 yx3 yx4 M = some (o, M') → XV G (xw_qi G 431 ad (xm_ce ad cs M') o) 8 0 0 ad cs M 8 [some (.ref (ad (2 + 34 * yx0))), some (.int yx1), some (.int yx2), some (.int yx3), some (.int yx4), none, none, none] []) {x0 : Nat} {x1 : Int32} {x2 : Int32} {x3 : Int32} {x4 : Int32} (h0 : x0 < 12) {M : xwM} (hf : fX1_findBestNeighbour_106 kf x0 x1 x2 x3 x4 M = some (o, M')) : XV G (xw_qi G 431 ad (xm_ce ad cs M') o) 8 0 0 ad cs M 106 [some (.ref (ad (2 + 34 * x0))), some (.int x1), some (.int x2), some (.int x3), some (.int x4), none, none, none] [] := by
  unfold fX1_findBestNeighbour_106 at hf
  refine xw_iinc C dX1_findBestNeighbour_106 rfl (show _ + Int32.ofInt (1) = _ + (1) from congrArg _ (by decide)) (by decide) ?_
  refine xw_goto (tgt := 8) C dX1_findBestNeighbour_109 (by decide) ?_
  exact xl_sub (xl_c rfl (xl_c rfl (xl_c rfl (xl_c rfl (xl_c rfl (xl_n (xl_n (xl_n xl_e)))))))) (hk _ _ _ _ _ _ h0 hf)
def fX1_findBestNeighbour_100 (kf : Nat → Int32 → Int32 → Int32 → Int32 → xwM → Option (Int32 × xwM)) (x0 : Nat) (x1 : Int32) (x4 : Int32) (x7 : Int32) (M : xwM) : Option (Int32 × xwM) :=
  fX1_findBestNeighbour_106 kf x0 x1 x4 x7 x4 M
set_option maxHeartbeats 4000000 in
set_option maxRecDepth 100000 in
theorem kX1_findBestNeighbour_100 {G : xwG} {ad : Nat → Nat} {cs : xmC} (C : xw_C G cX1_findBestNeighbour 8 RX1 431 ad) (hR : xgR G = rX1_findBestNeighbour) (ht : xgt G = xm_tys cs) (hr : (xgM G).sig.returnType = (some .int)) {M' : xwM} {o : Int32} {kf : Nat → Int32 → Int32 → Int32 → Int32 → xwM → Option (Int32 × xwM)} (hk : ∀ (yx0 : Nat) (yx1 : Int32) (yx2 : Int32) (yx3 : Int32) (yx4 : Int32) (M : xwM) (_ : yx0 < 12), kf yx0 yx1 yx2 yx3 yx4 M = some (o, M') → XV G (xw_qi G 431 ad (xm_ce ad cs M') o) 8 0 0 ad cs M 8 [some (.ref (ad (2 + 34 * yx0))), some (.int yx1), some (.int yx2), some (.int yx3), some (.int yx4), none, none, none] []) {x0 : Nat} {x1 : Int32} {x4 : Int32} {x7 : Int32} (h0 : x0 < 12) {M : xwM} (hf : fX1_findBestNeighbour_100 kf x0 x1 x4 x7 M = some (o, M')) : XV G (xw_qi G 431 ad (xm_ce ad cs M') o) 8 0 0 ad cs M 100 [some (.ref (ad (2 + 34 * x0))), some (.int x1), none, none, some (.int x4), none, none, some (.int x7)] [] := by
  unfold fX1_findBestNeighbour_100 at hf
  refine xw_iload C dX1_findBestNeighbour_100 rfl ?_
  refine xw_istore_n C dX1_findBestNeighbour_102 2 rfl (by decide) ?_
  refine xw_iload C dX1_findBestNeighbour_103 rfl ?_
  refine xw_istore_n C dX1_findBestNeighbour_105 3 rfl (by decide) ?_
  exact xl_sub (xl_c rfl (xl_c rfl (xl_c rfl (xl_c rfl (xl_c rfl (xl_n (xl_n (xl_n xl_e)))))))) (kX1_findBestNeighbour_106 C hR ht hr hk h0 hf)
def fX1_findBestNeighbour_8 : Nat → Nat → Int32 → Int32 → Int32 → Int32 →  xwM → Option (Int32 × xwM)
  | 0, _, _, _, _, _, _ => none
  | fu + 1, x0, x1, x2, x3, x4, M =>
  if 12 ≤ x4 then
    (some (x2, M))
  else
    (ixr 12 x4 fun n2 =>
      ld M (10 + 34 * x0 + 1 + n2) 12 x1 fun v5 =>
      ixr 12 x4 fun n7 =>
      ld M (23 + 34 * x0 + 1 + n7) 12 x1 fun v10 =>
      ld M (3 + 34 * x0) 12 x4 fun v12 =>
      if v5 = (-1) then
        (fX1_findBestNeighbour_106 (fX1_findBestNeighbour_8 fu) x0 x1 x2 x3 x4 M)
      else
        (if 60000 < (v10 + v12) then
            (fX1_findBestNeighbour_106 (fX1_findBestNeighbour_8 fu) x0 x1 x2 x3 x4 M)
          else
            (bni (fX1_isGood x0 x1 v5 v10 M) fun v16 M17 =>
              if v16 = 0 then
                (fX1_findBestNeighbour_106 (fX1_findBestNeighbour_8 fu) x0 x1 x2 x3 x4 M17)
              else
                (if (v10 + v12) < x3 then
                    (fX1_findBestNeighbour_100 (fX1_findBestNeighbour_8 fu) x0 x1 x4 ((v10 + v12)) M17)
                  else
                    (if (v10 + v12) = x3 then
                        (ld M17 (6 + 34 * x0) 12 x1 fun v22 =>
                          if x4 = v22 then
                            (fX1_findBestNeighbour_100 (fX1_findBestNeighbour_8 fu) x0 x1 x4 ((v10 + v12)) M17)
                          else
                            (fX1_findBestNeighbour_106 (fX1_findBestNeighbour_8 fu) x0 x1 x2 x3 x4 M17))
                      else
                        (fX1_findBestNeighbour_106 (fX1_findBestNeighbour_8 fu) x0 x1 x2 x3 x4 M17))))))
set_option maxHeartbeats 4000000 in
set_option maxRecDepth 100000 in
theorem kX1_findBestNeighbour_8 {G : xwG} {ad : Nat → Nat} {cs : xmC} (C : xw_C G cX1_findBestNeighbour 8 RX1 431 ad) (hR : xgR G = rX1_findBestNeighbour) (ht : xgt G = xm_tys cs) (hr : (xgM G).sig.returnType = (some .int)) {M' : xwM} {o : Int32} : ∀ (fu : Nat) (x0 : Nat) (x1 : Int32) (x2 : Int32) (x3 : Int32) (x4 : Int32) (M : xwM) (h0 : x0 < 12), fX1_findBestNeighbour_8 fu x0 x1 x2 x3 x4 M = some (o, M') → XV G (xw_qi G 431 ad (xm_ce ad cs M') o) 8 0 0 ad cs M 8 [some (.ref (ad (2 + 34 * x0))), some (.int x1), some (.int x2), some (.int x3), some (.int x4), none, none, none] [] := by
  intro fu
  induction fu with
  | zero =>
    intro x0 x1 x2 x3 x4 M h0 hf
    cases hf
  | succ fu ih =>
    intro x0 x1 x2 x3 x4 M h0 hf
    rw [fX1_findBestNeighbour_8] at hf
    refine xw_iload C dX1_findBestNeighbour_8 rfl ?_
    refine xw_bipush (v := 12) C dX1_findBestNeighbour_10 (by decide) ?_
    refine xw_icmp_ge (tgt := 112) C dX1_findBestNeighbour_12 (by decide) (fun c_1 => ?_) (fun c_1 => ?_)
    · have hf := it_t hf c_1
      refine xw_iload_n C dX1_findBestNeighbour_112 2 rfl rfl ?_
      cases hf
      exact xw_reti C hr dX1_findBestNeighbour_113
    · have hf := it_f hf c_1
      refine xw_aload_n C dX1_findBestNeighbour_15 0 rfl rfl ?_
      refine xv_getf C (by omega) (xs_R h0) rfl inB1 7 (by decide) hw_76 rfl dX1_findBestNeighbour_16 ?_
      refine xw_iload C dX1_findBestNeighbour_19 rfl ?_
      obtain ⟨i_3, q_4, hf⟩ := ixr_s hf
      refine xv_aldT (j := 10) C ht (by decide) h0 i_3 dX1_findBestNeighbour_21 ?_
      refine xw_iload_n C dX1_findBestNeighbour_22 1 rfl rfl ?_
      obtain ⟨i_6, hf⟩ := ld_s hf
      refine xv_iald C ht (by omega) ((fun _ => xs_T 10 (by decide) h0 q_4) _) i_6 dX1_findBestNeighbour_23 ?_
      refine xw_istore C dX1_findBestNeighbour_24 (by decide) ?_
      refine xw_aload_n C dX1_findBestNeighbour_26 0 rfl rfl ?_
      refine xv_getf C (by omega) (xs_R h0) rfl inB1 8 (by decide) hw_78 rfl dX1_findBestNeighbour_27 ?_
      refine xw_iload C dX1_findBestNeighbour_30 rfl ?_
      obtain ⟨i_8, q_9, hf⟩ := ixr_s hf
      refine xv_aldT (j := 23) C ht (by decide) h0 i_8 dX1_findBestNeighbour_32 ?_
      refine xw_iload_n C dX1_findBestNeighbour_33 1 rfl rfl ?_
      obtain ⟨i_11, hf⟩ := ld_s hf
      refine xv_iald C ht (by omega) ((fun _ => xs_T 23 (by decide) h0 q_9) _) i_11 dX1_findBestNeighbour_34 ?_
      refine xw_istore C dX1_findBestNeighbour_35 (by decide) ?_
      refine xw_iload C dX1_findBestNeighbour_37 rfl ?_
      refine xw_aload_n C dX1_findBestNeighbour_39 0 rfl rfl ?_
      refine xv_getf C (by omega) (xs_R h0) rfl inB1 0 (by decide) hw_62 rfl dX1_findBestNeighbour_40 ?_
      refine xw_iload C dX1_findBestNeighbour_43 rfl ?_
      obtain ⟨i_13, hf⟩ := ld_s hf
      refine xv_iald C ht (by omega) ((fun _ => xs_A 3 (by decide) h0) _) i_13 dX1_findBestNeighbour_45 ?_
      refine xw_iadd C dX1_findBestNeighbour_46 ?_
      refine xw_istore C dX1_findBestNeighbour_47 (by decide) ?_
      refine xw_iload C dX1_findBestNeighbour_49 rfl ?_
      refine xw_iconst (v := -1) C dX1_findBestNeighbour_51 (by decide) ?_
      refine xw_icmp_eq (tgt := 106) C dX1_findBestNeighbour_52 (by decide) (fun c_14 => ?_) (fun c_14 => ?_)
      · have hf := it_t hf c_14
        exact xl_sub (xl_c rfl (xl_c rfl (xl_c rfl (xl_c rfl (xl_c rfl (xl_n (xl_n (xl_n xl_e)))))))) (kX1_findBestNeighbour_106 C hR ht hr ih h0 hf)
      · have hf := it_f hf c_14
        refine xw_iload C dX1_findBestNeighbour_55 rfl ?_
        refine xw_ldc C hw_285 dX1_findBestNeighbour_57 ?_
        refine xw_icmp_gt (tgt := 106) C dX1_findBestNeighbour_59 (by decide) (fun c_15 => ?_) (fun c_15 => ?_)
        · have hf := it_t hf c_15
          exact xl_sub (xl_c rfl (xl_c rfl (xl_c rfl (xl_c rfl (xl_c rfl (xl_n (xl_n (xl_n xl_e)))))))) (kX1_findBestNeighbour_106 C hR ht hr ih h0 hf)
        · have hf := it_f hf c_15
          refine xw_aload_n C dX1_findBestNeighbour_62 0 rfl rfl ?_
          refine xw_iload_n C dX1_findBestNeighbour_63 1 rfl rfl ?_
          refine xw_iload C dX1_findBestNeighbour_64 rfl ?_
          refine xw_iload C dX1_findBestNeighbour_66 rfl ?_
          obtain ⟨r_v16, M_M17, g_18, hf⟩ := bni_s hf
          refine xc_Vi C (mX1_isGood (xgl G) C.2.2.2.2.2.2.2.2.1 ht h0 g_18) FX1_isGood hw_286 (by omega) (xs_R h0) rfl (by rw [hR]; decide) (by rw [hR]; decide) rfl (Nat.le_of_ble_eq_true rfl) dX1_findBestNeighbour_68 rfl ?_
          refine xw_if_ne (tgt := 77) C dX1_findBestNeighbour_71 (by decide) (fun c_19 => ?_) (fun c_19 => ?_)
          · have hf := it_f hf c_19
            refine xw_iload C dX1_findBestNeighbour_77 rfl ?_
            refine xw_iload_n C dX1_findBestNeighbour_79 3 rfl rfl ?_
            refine xw_icmp_lt (tgt := 100) C dX1_findBestNeighbour_80 (by decide) (fun c_20 => ?_) (fun c_20 => ?_)
            · have hf := it_t hf c_20
              exact xl_sub (xl_c rfl (xl_c rfl (xl_n (xl_n (xl_c rfl (xl_n (xl_n (xl_c rfl xl_e)))))))) (kX1_findBestNeighbour_100 C hR ht hr ih h0 hf)
            · have hf := it_f hf c_20
              refine xw_iload C dX1_findBestNeighbour_83 rfl ?_
              refine xw_iload_n C dX1_findBestNeighbour_85 3 rfl rfl ?_
              refine xw_icmp_ne (tgt := 106) C dX1_findBestNeighbour_86 (by decide) (fun c_21 => ?_) (fun c_21 => ?_)
              · have hf := it_f hf c_21
                exact xl_sub (xl_c rfl (xl_c rfl (xl_c rfl (xl_c rfl (xl_c rfl (xl_n (xl_n (xl_n xl_e)))))))) (kX1_findBestNeighbour_106 C hR ht hr ih h0 hf)
              · have hf := it_t hf c_21
                refine xw_iload C dX1_findBestNeighbour_89 rfl ?_
                refine xw_aload_n C dX1_findBestNeighbour_91 0 rfl rfl ?_
                refine xv_getf C (by omega) (xs_R h0) rfl inB1 3 (by decide) hw_68 rfl dX1_findBestNeighbour_92 ?_
                refine xw_iload_n C dX1_findBestNeighbour_95 1 rfl rfl ?_
                obtain ⟨i_23, hf⟩ := ld_s hf
                refine xv_iald C ht (by omega) ((fun _ => xs_A 6 (by decide) h0) _) i_23 dX1_findBestNeighbour_96 ?_
                refine xw_icmp_ne (tgt := 106) C dX1_findBestNeighbour_97 (by decide) (fun c_24 => ?_) (fun c_24 => ?_)
                · have hf := it_f hf c_24
                  exact xl_sub (xl_c rfl (xl_c rfl (xl_c rfl (xl_c rfl (xl_c rfl (xl_n (xl_n (xl_n xl_e)))))))) (kX1_findBestNeighbour_106 C hR ht hr ih h0 hf)
                · have hf := it_t hf c_24
                  exact xl_sub (xl_c rfl (xl_c rfl (xl_n (xl_n (xl_c rfl (xl_n (xl_n (xl_c rfl xl_e)))))))) (kX1_findBestNeighbour_100 C hR ht hr ih h0 hf)
          · have hf := it_t hf c_19
            refine xw_goto (tgt := 106) C dX1_findBestNeighbour_74 (by decide) ?_
            exact xl_sub (xl_c rfl (xl_c rfl (xl_c rfl (xl_c rfl (xl_c rfl (xl_n (xl_n (xl_n xl_e)))))))) (kX1_findBestNeighbour_106 C hR ht hr ih h0 hf)
def fX1_findBestNeighbour (x0 : Nat) (x1 : Int32) (M : xwM) : Option (Int32 × xwM) :=
  fX1_findBestNeighbour_8 2001 x0 x1 (-1) 65535 0 M
set_option maxHeartbeats 4000000 in
set_option maxRecDepth 100000 in
theorem kX1_findBestNeighbour_0 {G : xwG} {ad : Nat → Nat} {cs : xmC} (C : xw_C G cX1_findBestNeighbour 8 RX1 431 ad) (hR : xgR G = rX1_findBestNeighbour) (ht : xgt G = xm_tys cs) (hr : (xgM G).sig.returnType = (some .int)) {M' : xwM} {o : Int32} {x0 : Nat} {x1 : Int32} (h0 : x0 < 12) {M : xwM} (hf : fX1_findBestNeighbour x0 x1 M = some (o, M')) : XV G (xw_qi G 431 ad (xm_ce ad cs M') o) 8 0 0 ad cs M 0 [some (.ref (ad (2 + 34 * x0))), some (.int x1), none, none, none, none, none, none] [] := by
  unfold fX1_findBestNeighbour at hf
  refine xw_iconst (v := -1) C dX1_findBestNeighbour_0 (by decide) ?_
  refine xw_istore_n C dX1_findBestNeighbour_1 2 rfl (by decide) ?_
  refine xw_ldc C hw_261 dX1_findBestNeighbour_2 ?_
  refine xw_istore_n C dX1_findBestNeighbour_4 3 rfl (by decide) ?_
  refine xw_iconst (v := 0) C dX1_findBestNeighbour_5 (by decide) ?_
  refine xw_istore C dX1_findBestNeighbour_6 (by decide) ?_
  exact xl_sub (xl_c rfl (xl_c rfl (xl_c rfl (xl_c rfl (xl_c rfl (xl_n (xl_n (xl_n xl_e)))))))) (kX1_findBestNeighbour_8 C hR ht hr 2001 _ _ _ _ _ _ h0 hf)
theorem mX1_findBestNeighbour (l : Launch) {D : va_G} {tys : List (ClassId × FieldType)} {base : Nat} {ad : Nat → Nat} {cs : xmC} (hJ : xw_J 431 ad base) (ht : tys = xm_tys cs) {x0 : Nat} {x1 : Int32} (h0 : x0 < 12) {M M' : xwM} {o : Int32} (hf : fX1_findBestNeighbour x0 x1 M = some (o, M')) : xk_i l yX1_findBestNeighbour cX1_findBestNeighbour 8 (some .int) rX1_findBestNeighbour D tys base 431 ad [.ref (ad (2 + 34 * x0)), .int x1] (xm_ce ad cs M) (xm_ce ad cs M') o :=
  xk_ofi 6 (by decide) hJ (List.forall_mem_cons.mpr ⟨rfl, List.forall_mem_cons.mpr ⟨rfl, List.forall_mem_nil _⟩⟩) (Nat.le_of_ble_eq_true rfl) (fun G e1 e2 e3 e4 e5 hr C => kX1_findBestNeighbour_0 C e2 (e4.trans ht) hr h0 hf)

abbrev rX1_takeBestWay : Room := { frames := 3, cells := 0, slots := 0, locals := 72 }
def fX1_takeBestWay_86 (x0 : Nat) (x1 : Int32) (x2 : Int32) (x3 : Int32) (x4 : Int32) (s0 : Int32) (M : xwM) : Option (Int32 × xwM) :=
  sto M (6 + 34 * x0) 12 x1 x2 fun M27 =>
  sto M27 (7 + 34 * x0) 12 x1 x3 fun M29 =>
  sto M29 (8 + 34 * x0) 12 x1 x4 fun M31 =>
  if s0 = 0 ∨ s0 = 1 then some (s0, M31) else none
set_option maxHeartbeats 4000000 in
set_option maxRecDepth 100000 in
theorem kX1_takeBestWay_86 {G : xwG} {ad : Nat → Nat} {cs : xmC} (C : xw_C G cX1_takeBestWay 6 RX1 431 ad) (hR : xgR G = rX1_takeBestWay) (ht : xgt G = xm_tys cs) (hr : (xgM G).sig.returnType = (some .boolean)) {M' : xwM} {o : Int32} {x0 : Nat} {x1 : Int32} {x2 : Int32} {x3 : Int32} {x4 : Int32} {s0 : Int32} (h0 : x0 < 12) {M : xwM} (hf : fX1_takeBestWay_86 x0 x1 x2 x3 x4 s0 M = some (o, M')) : XV G (xw_qi G 431 ad (xm_ce ad cs M') o) 6 0 0 ad cs M 86 [some (.ref (ad (2 + 34 * x0))), some (.int x1), some (.int x2), some (.int x3), some (.int x4), none] [.int s0] := by
  unfold fX1_takeBestWay_86 at hf
  refine xw_istore C dX1_takeBestWay_86 (by decide) ?_
  refine xw_aload_n C dX1_takeBestWay_88 0 rfl rfl ?_
  refine xv_getf C (by omega) (xs_R h0) rfl inB1 3 (by decide) hw_68 rfl dX1_takeBestWay_89 ?_
  refine xw_iload_n C dX1_takeBestWay_92 1 rfl rfl ?_
  refine xw_iload_n C dX1_takeBestWay_93 2 rfl rfl ?_
  obtain ⟨i_28, hf⟩ := sto_s hf
  refine xv_iast C ht (by omega) (fun _ => xs_A 6 (by decide) h0) i_28 dX1_takeBestWay_94 ?_
  refine xw_aload_n C dX1_takeBestWay_95 0 rfl rfl ?_
  refine xv_getf C (by omega) (xs_R h0) rfl inB1 4 (by decide) hw_70 rfl dX1_takeBestWay_96 ?_
  refine xw_iload_n C dX1_takeBestWay_99 1 rfl rfl ?_
  refine xw_iload_n C dX1_takeBestWay_100 3 rfl rfl ?_
  obtain ⟨i_30, hf⟩ := sto_s hf
  refine xv_iast C ht (by omega) (fun _ => xs_A 7 (by decide) h0) i_30 dX1_takeBestWay_101 ?_
  refine xw_aload_n C dX1_takeBestWay_102 0 rfl rfl ?_
  refine xv_getf C (by omega) (xs_R h0) rfl inB1 5 (by decide) hw_72 rfl dX1_takeBestWay_103 ?_
  refine xw_iload_n C dX1_takeBestWay_106 1 rfl rfl ?_
  refine xw_iload C dX1_takeBestWay_107 rfl ?_
  obtain ⟨i_32, hf⟩ := sto_s hf
  refine xv_iast C ht (by omega) (fun _ => xs_A 8 (by decide) h0) i_32 dX1_takeBestWay_109 ?_
  refine xw_iload C dX1_takeBestWay_110 rfl ?_
  obtain ⟨hz, hf⟩ := xl_z hf
  cases hf
  exact xw_retz C hr hz dX1_takeBestWay_112
def fX1_takeBestWay_81 (x0 : Nat) (x1 : Int32) (x2 : Int32) (x3 : Int32) (x4 : Int32) (M : xwM) : Option (Int32 × xwM) :=
  fX1_takeBestWay_86 x0 x1 x2 x3 x4 1 M
set_option maxHeartbeats 4000000 in
set_option maxRecDepth 100000 in
theorem kX1_takeBestWay_81 {G : xwG} {ad : Nat → Nat} {cs : xmC} (C : xw_C G cX1_takeBestWay 6 RX1 431 ad) (hR : xgR G = rX1_takeBestWay) (ht : xgt G = xm_tys cs) (hr : (xgM G).sig.returnType = (some .boolean)) {M' : xwM} {o : Int32} {x0 : Nat} {x1 : Int32} {x2 : Int32} {x3 : Int32} {x4 : Int32} (h0 : x0 < 12) {M : xwM} (hf : fX1_takeBestWay_81 x0 x1 x2 x3 x4 M = some (o, M')) : XV G (xw_qi G 431 ad (xm_ce ad cs M') o) 6 0 0 ad cs M 81 [some (.ref (ad (2 + 34 * x0))), some (.int x1), some (.int x2), some (.int x3), some (.int x4), none] [] := by
  unfold fX1_takeBestWay_81 at hf
  refine xw_iconst (v := 1) C dX1_takeBestWay_81 (by decide) ?_
  refine xw_goto (tgt := 86) C dX1_takeBestWay_82 (by decide) ?_
  exact xl_sub (xl_c rfl (xl_c rfl (xl_c rfl (xl_c rfl (xl_c rfl (xl_n xl_e)))))) (kX1_takeBestWay_86 C hR ht hr h0 hf)
def fX1_takeBestWay_48 (x0 : Nat) (x1 : Int32) (x2 : Int32) (x3 : Int32) (s0 : Int32) (M : xwM) : Option (Int32 × xwM) :=
  ld M (6 + 34 * x0) 12 x1 fun v18 =>
  if x2 = v18 then
    (ld M (7 + 34 * x0) 12 x1 fun v21 =>
      if x3 = v21 then
        (ld M (8 + 34 * x0) 12 x1 fun v24 =>
          if s0 = v24 then
            (fX1_takeBestWay_86 x0 x1 x2 x3 s0 0 M)
          else
            (fX1_takeBestWay_81 x0 x1 x2 x3 s0 M))
      else
        (fX1_takeBestWay_81 x0 x1 x2 x3 s0 M))
  else
    (fX1_takeBestWay_81 x0 x1 x2 x3 s0 M)
set_option maxHeartbeats 4000000 in
set_option maxRecDepth 100000 in
theorem kX1_takeBestWay_48 {G : xwG} {ad : Nat → Nat} {cs : xmC} (C : xw_C G cX1_takeBestWay 6 RX1 431 ad) (hR : xgR G = rX1_takeBestWay) (ht : xgt G = xm_tys cs) (hr : (xgM G).sig.returnType = (some .boolean)) {M' : xwM} {o : Int32} {x0 : Nat} {x1 : Int32} {x2 : Int32} {x3 : Int32} {s0 : Int32} (h0 : x0 < 12) {M : xwM} (hf : fX1_takeBestWay_48 x0 x1 x2 x3 s0 M = some (o, M')) : XV G (xw_qi G 431 ad (xm_ce ad cs M') o) 6 0 0 ad cs M 48 [some (.ref (ad (2 + 34 * x0))), some (.int x1), some (.int x2), some (.int x3), none, none] [.int s0] := by
  unfold fX1_takeBestWay_48 at hf
  refine xw_istore C dX1_takeBestWay_48 (by decide) ?_
  refine xw_iload_n C dX1_takeBestWay_50 2 rfl rfl ?_
  refine xw_aload_n C dX1_takeBestWay_51 0 rfl rfl ?_
  refine xv_getf C (by omega) (xs_R h0) rfl inB1 3 (by decide) hw_68 rfl dX1_takeBestWay_52 ?_
  refine xw_iload_n C dX1_takeBestWay_55 1 rfl rfl ?_
  obtain ⟨i_19, hf⟩ := ld_s hf
  refine xv_iald C ht (by omega) ((fun _ => xs_A 6 (by decide) h0) _) i_19 dX1_takeBestWay_56 ?_
  refine xw_icmp_ne (tgt := 81) C dX1_takeBestWay_57 (by decide) (fun c_20 => ?_) (fun c_20 => ?_)
  · have hf := it_f hf c_20
    exact xl_sub (xl_c rfl (xl_c rfl (xl_c rfl (xl_c rfl (xl_c rfl (xl_n xl_e)))))) (kX1_takeBestWay_81 C hR ht hr h0 hf)
  · have hf := it_t hf c_20
    refine xw_iload_n C dX1_takeBestWay_60 3 rfl rfl ?_
    refine xw_aload_n C dX1_takeBestWay_61 0 rfl rfl ?_
    refine xv_getf C (by omega) (xs_R h0) rfl inB1 4 (by decide) hw_70 rfl dX1_takeBestWay_62 ?_
    refine xw_iload_n C dX1_takeBestWay_65 1 rfl rfl ?_
    obtain ⟨i_22, hf⟩ := ld_s hf
    refine xv_iald C ht (by omega) ((fun _ => xs_A 7 (by decide) h0) _) i_22 dX1_takeBestWay_66 ?_
    refine xw_icmp_ne (tgt := 81) C dX1_takeBestWay_67 (by decide) (fun c_23 => ?_) (fun c_23 => ?_)
    · have hf := it_f hf c_23
      exact xl_sub (xl_c rfl (xl_c rfl (xl_c rfl (xl_c rfl (xl_c rfl (xl_n xl_e)))))) (kX1_takeBestWay_81 C hR ht hr h0 hf)
    · have hf := it_t hf c_23
      refine xw_iload C dX1_takeBestWay_70 rfl ?_
      refine xw_aload_n C dX1_takeBestWay_72 0 rfl rfl ?_
      refine xv_getf C (by omega) (xs_R h0) rfl inB1 5 (by decide) hw_72 rfl dX1_takeBestWay_73 ?_
      refine xw_iload_n C dX1_takeBestWay_76 1 rfl rfl ?_
      obtain ⟨i_25, hf⟩ := ld_s hf
      refine xv_iald C ht (by omega) ((fun _ => xs_A 8 (by decide) h0) _) i_25 dX1_takeBestWay_77 ?_
      refine xw_icmp_eq (tgt := 85) C dX1_takeBestWay_78 (by decide) (fun c_26 => ?_) (fun c_26 => ?_)
      · have hf := it_t hf c_26
        refine xw_iconst (v := 0) C dX1_takeBestWay_85 (by decide) ?_
        exact xl_sub (xl_c rfl (xl_c rfl (xl_c rfl (xl_c rfl (xl_c rfl (xl_n xl_e)))))) (kX1_takeBestWay_86 C hR ht hr h0 hf)
      · have hf := it_f hf c_26
        exact xl_sub (xl_c rfl (xl_c rfl (xl_c rfl (xl_c rfl (xl_c rfl (xl_n xl_e)))))) (kX1_takeBestWay_81 C hR ht hr h0 hf)
def fX1_takeBestWay_23 (x0 : Nat) (x1 : Int32) (x2 : Int32) (s0 : Int32) (M : xwM) : Option (Int32 × xwM) :=
  if x2 = (-1) then
    (fX1_takeBestWay_48 x0 x1 x2 s0 (-1) M)
  else
    (ixr 12 x2 fun n11 =>
      ld M (23 + 34 * x0 + 1 + n11) 12 x1 fun v14 =>
      ld M (3 + 34 * x0) 12 x2 fun v16 =>
      fX1_takeBestWay_48 x0 x1 x2 s0 ((v14 + v16)) M)
set_option maxHeartbeats 4000000 in
set_option maxRecDepth 100000 in
theorem kX1_takeBestWay_23 {G : xwG} {ad : Nat → Nat} {cs : xmC} (C : xw_C G cX1_takeBestWay 6 RX1 431 ad) (hR : xgR G = rX1_takeBestWay) (ht : xgt G = xm_tys cs) (hr : (xgM G).sig.returnType = (some .boolean)) {M' : xwM} {o : Int32} {x0 : Nat} {x1 : Int32} {x2 : Int32} {s0 : Int32} (h0 : x0 < 12) {M : xwM} (hf : fX1_takeBestWay_23 x0 x1 x2 s0 M = some (o, M')) : XV G (xw_qi G 431 ad (xm_ce ad cs M') o) 6 0 0 ad cs M 23 [some (.ref (ad (2 + 34 * x0))), some (.int x1), some (.int x2), none, none, none] [.int s0] := by
  unfold fX1_takeBestWay_23 at hf
  refine xw_istore_n C dX1_takeBestWay_23 3 rfl (by decide) ?_
  refine xw_iload_n C dX1_takeBestWay_24 2 rfl rfl ?_
  refine xw_iconst (v := -1) C dX1_takeBestWay_25 (by decide) ?_
  refine xw_icmp_ne (tgt := 33) C dX1_takeBestWay_26 (by decide) (fun c_10 => ?_) (fun c_10 => ?_)
  · have hf := it_f hf c_10
    refine xw_aload_n C dX1_takeBestWay_33 0 rfl rfl ?_
    refine xv_getf C (by omega) (xs_R h0) rfl inB1 8 (by decide) hw_78 rfl dX1_takeBestWay_34 ?_
    refine xw_iload_n C dX1_takeBestWay_37 2 rfl rfl ?_
    obtain ⟨i_12, q_13, hf⟩ := ixr_s hf
    refine xv_aldT (j := 23) C ht (by decide) h0 i_12 dX1_takeBestWay_38 ?_
    refine xw_iload_n C dX1_takeBestWay_39 1 rfl rfl ?_
    obtain ⟨i_15, hf⟩ := ld_s hf
    refine xv_iald C ht (by omega) ((fun _ => xs_T 23 (by decide) h0 q_13) _) i_15 dX1_takeBestWay_40 ?_
    refine xw_aload_n C dX1_takeBestWay_41 0 rfl rfl ?_
    refine xv_getf C (by omega) (xs_R h0) rfl inB1 0 (by decide) hw_62 rfl dX1_takeBestWay_42 ?_
    refine xw_iload_n C dX1_takeBestWay_45 2 rfl rfl ?_
    obtain ⟨i_17, hf⟩ := ld_s hf
    refine xv_iald C ht (by omega) ((fun _ => xs_A 3 (by decide) h0) _) i_17 dX1_takeBestWay_46 ?_
    refine xw_iadd C dX1_takeBestWay_47 ?_
    exact xl_sub (xl_c rfl (xl_c rfl (xl_c rfl (xl_c rfl (xl_n (xl_n xl_e)))))) (kX1_takeBestWay_48 C hR ht hr h0 hf)
  · have hf := it_t hf c_10
    refine xw_iconst (v := -1) C dX1_takeBestWay_29 (by decide) ?_
    refine xw_goto (tgt := 48) C dX1_takeBestWay_30 (by decide) ?_
    exact xl_sub (xl_c rfl (xl_c rfl (xl_c rfl (xl_c rfl (xl_n (xl_n xl_e)))))) (kX1_takeBestWay_48 C hR ht hr h0 hf)
def fX1_takeBestWay (x0 : Nat) (x1 : Int32) (M : xwM) : Option (Int32 × xwM) :=
  bni (fX1_findBestNeighbour x0 x1 M) fun v1 M2 =>
  if v1 = (-1) then
    (fX1_takeBestWay_23 x0 x1 v1 (-1) M2)
  else
    (ixr 12 v1 fun n5 =>
      ld M2 (10 + 34 * x0 + 1 + n5) 12 x1 fun v8 =>
      fX1_takeBestWay_23 x0 x1 v1 v8 M2)
set_option maxHeartbeats 4000000 in
set_option maxRecDepth 100000 in
theorem kX1_takeBestWay_0 {G : xwG} {ad : Nat → Nat} {cs : xmC} (C : xw_C G cX1_takeBestWay 6 RX1 431 ad) (hR : xgR G = rX1_takeBestWay) (ht : xgt G = xm_tys cs) (hr : (xgM G).sig.returnType = (some .boolean)) {M' : xwM} {o : Int32} {x0 : Nat} {x1 : Int32} (h0 : x0 < 12) {M : xwM} (hf : fX1_takeBestWay x0 x1 M = some (o, M')) : XV G (xw_qi G 431 ad (xm_ce ad cs M') o) 6 0 0 ad cs M 0 [some (.ref (ad (2 + 34 * x0))), some (.int x1), none, none, none, none] [] := by
  unfold fX1_takeBestWay at hf
  refine xw_aload_n C dX1_takeBestWay_0 0 rfl rfl ?_
  refine xw_iload_n C dX1_takeBestWay_1 1 rfl rfl ?_
  obtain ⟨r_v1, M_M2, g_3, hf⟩ := bni_s hf
  refine xc_Vi C (mX1_findBestNeighbour (xgl G) C.2.2.2.2.2.2.2.2.1 ht h0 g_3) FX1_findBestNeighbour hw_281 (by omega) (xs_R h0) rfl (by rw [hR]; decide) (by rw [hR]; decide) rfl (Nat.le_of_ble_eq_true rfl) dX1_takeBestWay_2 rfl ?_
  refine xw_istore_n C dX1_takeBestWay_5 2 rfl (by decide) ?_
  refine xw_iload_n C dX1_takeBestWay_6 2 rfl rfl ?_
  refine xw_iconst (v := -1) C dX1_takeBestWay_7 (by decide) ?_
  refine xw_icmp_ne (tgt := 15) C dX1_takeBestWay_8 (by decide) (fun c_4 => ?_) (fun c_4 => ?_)
  · have hf := it_f hf c_4
    refine xw_aload_n C dX1_takeBestWay_15 0 rfl rfl ?_
    refine xv_getf C (by omega) (xs_R h0) rfl inB1 7 (by decide) hw_76 rfl dX1_takeBestWay_16 ?_
    refine xw_iload_n C dX1_takeBestWay_19 2 rfl rfl ?_
    obtain ⟨i_6, q_7, hf⟩ := ixr_s hf
    refine xv_aldT (j := 10) C ht (by decide) h0 i_6 dX1_takeBestWay_20 ?_
    refine xw_iload_n C dX1_takeBestWay_21 1 rfl rfl ?_
    obtain ⟨i_9, hf⟩ := ld_s hf
    refine xv_iald C ht (by omega) ((fun _ => xs_T 10 (by decide) h0 q_7) _) i_9 dX1_takeBestWay_22 ?_
    exact xl_sub (xl_c rfl (xl_c rfl (xl_c rfl (xl_n (xl_n (xl_n xl_e)))))) (kX1_takeBestWay_23 C hR ht hr h0 hf)
  · have hf := it_t hf c_4
    refine xw_iconst (v := -1) C dX1_takeBestWay_11 (by decide) ?_
    refine xw_goto (tgt := 23) C dX1_takeBestWay_12 (by decide) ?_
    exact xl_sub (xl_c rfl (xl_c rfl (xl_c rfl (xl_n (xl_n (xl_n xl_e)))))) (kX1_takeBestWay_23 C hR ht hr h0 hf)
theorem mX1_takeBestWay (l : Launch) {D : va_G} {tys : List (ClassId × FieldType)} {base : Nat} {ad : Nat → Nat} {cs : xmC} (hJ : xw_J 431 ad base) (ht : tys = xm_tys cs) {x0 : Nat} {x1 : Int32} (h0 : x0 < 12) {M M' : xwM} {o : Int32} (hf : fX1_takeBestWay x0 x1 M = some (o, M')) : xk_i l yX1_takeBestWay cX1_takeBestWay 6 (some .boolean) rX1_takeBestWay D tys base 431 ad [.ref (ad (2 + 34 * x0)), .int x1] (xm_ce ad cs M) (xm_ce ad cs M') o :=
  xk_ofi 4 (by decide) hJ (List.forall_mem_cons.mpr ⟨rfl, List.forall_mem_cons.mpr ⟨rfl, List.forall_mem_nil _⟩⟩) (Nat.le_of_ble_eq_true rfl) (fun G e1 e2 e3 e4 e5 hr C => kX1_takeBestWay_0 C e2 (e4.trans ht) hr h0 hf)
