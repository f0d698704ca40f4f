abbrev rX3_thrown : Room := { frames := 0, cells := 0, slots := 0, locals := 0 }
def fX3_thrown (M : xwM) : Option (Int32 × xwM) :=
  some ((M 418 0), M)
set_option maxHeartbeats 4000000 in
set_option maxRecDepth 100000 in
theorem kX3_thrown_0 {G : xwG} {ad : Nat → Nat} {cs : xmC} (C : xw_C G cX3_thrown 1 RX3 431 ad) (hR : xgR G = rX3_thrown) (ht : xgt G = xm_tys cs) (hr : (xgM G).sig.returnType = (some .int)) {M' : xwM} {o : Int32} {M : xwM} (hf : fX3_thrown  M = some (o, M')) : XV G (xw_qi G 431 ad (xm_ce ad cs M') o) 1 0 0 ad cs M 0 [some (.ref (ad 418))] [] := by
  unfold fX3_thrown at hf
  refine xw_aload_n C dX3_thrown_0 0 rfl rfl ?_
  refine xv_getf C (by decide) xs_M rfl inB3 0 (by decide) hw_483 rfl dX3_thrown_1 ?_
  cases hf
  exact xw_reti C hr dX3_thrown_4
theorem mX3_thrown (l : Launch) {D : va_G} {tys : List (ClassId × FieldType)} {base : Nat} {ad : Nat → Nat} {cs : xmC} (hJ : xw_J 431 ad base) (ht : tys = xm_tys cs) {M M' : xwM} {o : Int32} (hf : fX3_thrown  M = some (o, M')) : xk_i l yX3_thrown cX3_thrown 1 (some .int) rX3_thrown D tys base 431 ad [.ref (ad 418)] (xm_ce ad cs M) (xm_ce ad cs M') o :=
  xk_ofi 0 (by decide) hJ (List.forall_mem_cons.mpr ⟨rfl, List.forall_mem_nil _⟩) (Nat.le_of_ble_eq_true rfl) (fun G e1 e2 e3 e4 e5 hr C => kX3_thrown_0 C e2 (e4.trans ht) hr  hf)

abbrev rX3_refuses : Room := { frames := 0, cells := 0, slots := 0, locals := 0 }
def fX3_refuses_14 (s0 : Int32) (M : xwM) : Option (Int32 × xwM) :=
  if s0 = 0 ∨ s0 = 1 then some (s0, M) else none
set_option maxHeartbeats 4000000 in
set_option maxRecDepth 100000 in
theorem kX3_refuses_14 {G : xwG} {ad : Nat → Nat} {cs : xmC} (C : xw_C G cX3_refuses 2 RX3 431 ad) (hR : xgR G = rX3_refuses) (ht : xgt G = xm_tys cs) (hr : (xgM G).sig.returnType = (some .boolean)) {M' : xwM} {o : Int32} {s0 : Int32} {M : xwM} (hf : fX3_refuses_14 s0 M = some (o, M')) : XV G (xw_qi G 431 ad (xm_ce ad cs M') o) 2 0 0 ad cs M 14 [none, none] [.int s0] := by
  unfold fX3_refuses_14 at hf
  obtain ⟨hz, hf⟩ := xl_z hf
  cases hf
  exact xw_retz C hr hz dX3_refuses_14
def fX3_refuses (x1 : Int32) (M : xwM) : Option (Int32 × xwM) :=
  xlet (ms M 418 0 x1) fun M1 =>
  if x1 ≤ 0 then
    (fX3_refuses_14 0 M1)
  else
    (fX3_refuses_14 1 M1)
set_option maxHeartbeats 4000000 in
set_option maxRecDepth 100000 in
theorem kX3_refuses_0 {G : xwG} {ad : Nat → Nat} {cs : xmC} (C : xw_C G cX3_refuses 2 RX3 431 ad) (hR : xgR G = rX3_refuses) (ht : xgt G = xm_tys cs) (hr : (xgM G).sig.returnType = (some .boolean)) {M' : xwM} {o : Int32} {x1 : Int32} {M : xwM} (hf : fX3_refuses x1 M = some (o, M')) : XV G (xw_qi G 431 ad (xm_ce ad cs M') o) 2 0 0 ad cs M 0 [some (.ref (ad 418)), some (.int x1)] [] := by
  unfold fX3_refuses at hf
  refine xw_aload_n C dX3_refuses_0 0 rfl rfl ?_
  refine xw_iload_n C dX3_refuses_1 1 rfl rfl ?_
  refine xv_putf (fs := xl_X3 ad) C (by decide) (fun _ => xs_M) rfl inB3 tyX3 tyX3_ok nmX3 0 (by decide) hw_483 rfl rfl (fun _ => by simp [xl_X3]) (fun _ => rfl) dX3_refuses_2 ?_
  have hf := xlet_s hf
  refine xw_iload_n C dX3_refuses_5 1 rfl rfl ?_
  refine xw_if_le (tgt := 13) C dX3_refuses_6 (by decide) (fun c_2 => ?_) (fun c_2 => ?_)
  · have hf := it_t hf c_2
    refine xw_iconst (v := 0) C dX3_refuses_13 (by decide) ?_
    exact xl_sub (xl_n (xl_n xl_e)) (kX3_refuses_14 C hR ht hr  hf)
  · have hf := it_f hf c_2
    refine xw_iconst (v := 1) C dX3_refuses_9 (by decide) ?_
    refine xw_goto (tgt := 14) C dX3_refuses_10 (by decide) ?_
    exact xl_sub (xl_n (xl_n xl_e)) (kX3_refuses_14 C hR ht hr  hf)
theorem mX3_refuses (l : Launch) {D : va_G} {tys : List (ClassId × FieldType)} {base : Nat} {ad : Nat → Nat} {cs : xmC} (hJ : xw_J 431 ad base) (ht : tys = xm_tys cs) {x1 : Int32} {M M' : xwM} {o : Int32} (hf : fX3_refuses x1 M = some (o, M')) : xk_i l yX3_refuses cX3_refuses 2 (some .boolean) rX3_refuses D tys base 431 ad [.ref (ad 418), .int x1] (xm_ce ad cs M) (xm_ce ad cs M') o :=
  xk_ofi 0 (by decide) hJ (List.forall_mem_cons.mpr ⟨rfl, List.forall_mem_cons.mpr ⟨rfl, List.forall_mem_nil _⟩⟩) (Nat.le_of_ble_eq_true rfl) (fun G e1 e2 e3 e4 e5 hr C => kX3_refuses_0 C e2 (e4.trans ht) hr  hf)

abbrev rX3_isNode : Room := { frames := 0, cells := 0, slots := 0, locals := 0 }
def fX3_isNode_15 (s0 : Int32) (M : xwM) : Option (Int32 × xwM) :=
  if s0 = 0 ∨ s0 = 1 then some (s0, M) else none
set_option maxHeartbeats 4000000 in
set_option maxRecDepth 100000 in
theorem kX3_isNode_15 {G : xwG} {ad : Nat → Nat} {cs : xmC} (C : xw_C G cX3_isNode 1 RX3 431 ad) (hR : xgR G = rX3_isNode) (ht : xgt G = xm_tys cs) (hr : (xgM G).sig.returnType = (some .boolean)) {M' : xwM} {o : Int32} {s0 : Int32} {M : xwM} (hf : fX3_isNode_15 s0 M = some (o, M')) : XV G (xw_qi G 431 ad (xm_ce ad cs M') o) 1 0 0 ad cs M 15 [none] [.int s0] := by
  unfold fX3_isNode_15 at hf
  obtain ⟨hz, hf⟩ := xl_z hf
  cases hf
  exact xw_retz C hr hz dX3_isNode_15
def fX3_isNode_14 (M : xwM) : Option (Int32 × xwM) :=
  fX3_isNode_15 0 M
set_option maxHeartbeats 4000000 in
set_option maxRecDepth 100000 in
theorem kX3_isNode_14 {G : xwG} {ad : Nat → Nat} {cs : xmC} (C : xw_C G cX3_isNode 1 RX3 431 ad) (hR : xgR G = rX3_isNode) (ht : xgt G = xm_tys cs) (hr : (xgM G).sig.returnType = (some .boolean)) {M' : xwM} {o : Int32} {M : xwM} (hf : fX3_isNode_14  M = some (o, M')) : XV G (xw_qi G 431 ad (xm_ce ad cs M') o) 1 0 0 ad cs M 14 [none] [] := by
  unfold fX3_isNode_14 at hf
  refine xw_iconst (v := 0) C dX3_isNode_14 (by decide) ?_
  exact xl_sub (xl_n xl_e) (kX3_isNode_15 C hR ht hr  hf)
def fX3_isNode (x0 : Int32) (M : xwM) : Option (Int32 × xwM) :=
  if x0 < 0 then
    (fX3_isNode_14  M)
  else
    (if 12 ≤ x0 then
        (fX3_isNode_14  M)
      else
        (fX3_isNode_15 1 M))
set_option maxHeartbeats 4000000 in
set_option maxRecDepth 100000 in
theorem kX3_isNode_0 {G : xwG} {ad : Nat → Nat} {cs : xmC} (C : xw_C G cX3_isNode 1 RX3 431 ad) (hR : xgR G = rX3_isNode) (ht : xgt G = xm_tys cs) (hr : (xgM G).sig.returnType = (some .boolean)) {M' : xwM} {o : Int32} {x0 : Int32} {M : xwM} (hf : fX3_isNode x0 M = some (o, M')) : XV G (xw_qi G 431 ad (xm_ce ad cs M') o) 1 0 0 ad cs M 0 [some (.int x0)] [] := by
  unfold fX3_isNode at hf
  refine xw_iload_n C dX3_isNode_0 0 rfl rfl ?_
  refine xw_if_lt (tgt := 14) C dX3_isNode_1 (by decide) (fun c_1 => ?_) (fun c_1 => ?_)
  · have hf := it_t hf c_1
    exact xl_sub (xl_n xl_e) (kX3_isNode_14 C hR ht hr  hf)
  · have hf := it_f hf c_1
    refine xw_iload_n C dX3_isNode_4 0 rfl rfl ?_
    refine xw_bipush (v := 12) C dX3_isNode_5 (by decide) ?_
    refine xw_icmp_ge (tgt := 14) C dX3_isNode_7 (by decide) (fun c_2 => ?_) (fun c_2 => ?_)
    · have hf := it_t hf c_2
      exact xl_sub (xl_n xl_e) (kX3_isNode_14 C hR ht hr  hf)
    · have hf := it_f hf c_2
      refine xw_iconst (v := 1) C dX3_isNode_10 (by decide) ?_
      refine xw_goto (tgt := 15) C dX3_isNode_11 (by decide) ?_
      exact xl_sub (xl_n xl_e) (kX3_isNode_15 C hR ht hr  hf)
theorem mX3_isNode (l : Launch) {D : va_G} {tys : List (ClassId × FieldType)} {base : Nat} {ad : Nat → Nat} {cs : xmC} (hJ : xw_J 431 ad base) (ht : tys = xm_tys cs) {x0 : Int32} {M M' : xwM} {o : Int32} (hf : fX3_isNode x0 M = some (o, M')) : xk_i l yX3_isNode cX3_isNode 1 (some .boolean) rX3_isNode D tys base 431 ad [.int x0] (xm_ce ad cs M) (xm_ce ad cs M') o :=
  xk_ofi 0 (by decide) hJ (List.forall_mem_cons.mpr ⟨rfl, List.forall_mem_nil _⟩) (Nat.le_of_ble_eq_true rfl) (fun G e1 e2 e3 e4 e5 hr C => kX3_isNode_0 C e2 (e4.trans ht) hr  hf)

abbrev rX3_newer : Room := { frames := 0, cells := 0, slots := 0, locals := 0 }
def fX3_newer_24 (s0 : Int32) (M : xwM) : Option (Int32 × xwM) :=
  if s0 = 0 ∨ s0 = 1 then some (s0, M) else none
set_option maxHeartbeats 4000000 in
set_option maxRecDepth 100000 in
theorem kX3_newer_24 {G : xwG} {ad : Nat → Nat} {cs : xmC} (C : xw_C G cX3_newer 3 RX3 431 ad) (hR : xgR G = rX3_newer) (ht : xgt G = xm_tys cs) (hr : (xgM G).sig.returnType = (some .boolean)) {M' : xwM} {o : Int32} {s0 : Int32} {M : xwM} (hf : fX3_newer_24 s0 M = some (o, M')) : XV G (xw_qi G 431 ad (xm_ce ad cs M') o) 3 0 0 ad cs M 24 [none, none, none] [.int s0] := by
  unfold fX3_newer_24 at hf
  obtain ⟨hz, hf⟩ := xl_z hf
  cases hf
  exact xw_retz C hr hz dX3_newer_24
def fX3_newer_23 (M : xwM) : Option (Int32 × xwM) :=
  fX3_newer_24 0 M
set_option maxHeartbeats 4000000 in
set_option maxRecDepth 100000 in
theorem kX3_newer_23 {G : xwG} {ad : Nat → Nat} {cs : xmC} (C : xw_C G cX3_newer 3 RX3 431 ad) (hR : xgR G = rX3_newer) (ht : xgt G = xm_tys cs) (hr : (xgM G).sig.returnType = (some .boolean)) {M' : xwM} {o : Int32} {M : xwM} (hf : fX3_newer_23  M = some (o, M')) : XV G (xw_qi G 431 ad (xm_ce ad cs M') o) 3 0 0 ad cs M 23 [none, none, none] [] := by
  unfold fX3_newer_23 at hf
  refine xw_iconst (v := 0) C dX3_newer_23 (by decide) ?_
  exact xl_sub (xl_n (xl_n (xl_n xl_e))) (kX3_newer_24 C hR ht hr  hf)
def fX3_newer (x0 : Int32) (x1 : Int32) (M : xwM) : Option (Int32 × xwM) :=
  if ((x0 - x1) &&& 65535) < 1 then
    (fX3_newer_23  M)
  else
    (if 32767 < ((x0 - x1) &&& 65535) then
        (fX3_newer_23  M)
      else
        (fX3_newer_24 1 M))
set_option maxHeartbeats 4000000 in
set_option maxRecDepth 100000 in
theorem kX3_newer_0 {G : xwG} {ad : Nat → Nat} {cs : xmC} (C : xw_C G cX3_newer 3 RX3 431 ad) (hR : xgR G = rX3_newer) (ht : xgt G = xm_tys cs) (hr : (xgM G).sig.returnType = (some .boolean)) {M' : xwM} {o : Int32} {x0 : Int32} {x1 : Int32} {M : xwM} (hf : fX3_newer x0 x1 M = some (o, M')) : XV G (xw_qi G 431 ad (xm_ce ad cs M') o) 3 0 0 ad cs M 0 [some (.int x0), some (.int x1), none] [] := by
  unfold fX3_newer at hf
  refine xw_iload_n C dX3_newer_0 0 rfl rfl ?_
  refine xw_iload_n C dX3_newer_1 1 rfl rfl ?_
  refine xw_isub C dX3_newer_2 ?_
  refine xw_ldc C hw_562 dX3_newer_3 ?_
  refine xw_iand C dX3_newer_5 ?_
  refine xw_istore_n C dX3_newer_6 2 rfl (by decide) ?_
  refine xw_iload_n C dX3_newer_7 2 rfl rfl ?_
  refine xw_iconst (v := 1) C dX3_newer_8 (by decide) ?_
  refine xw_icmp_lt (tgt := 23) C dX3_newer_9 (by decide) (fun c_1 => ?_) (fun c_1 => ?_)
  · have hf := it_t hf c_1
    exact xl_sub (xl_n (xl_n (xl_n xl_e))) (kX3_newer_23 C hR ht hr  hf)
  · have hf := it_f hf c_1
    refine xw_iload_n C dX3_newer_12 2 rfl rfl ?_
    refine xw_sipush (v := 32767) C dX3_newer_13 (by decide) ?_
    refine xw_icmp_gt (tgt := 23) C dX3_newer_16 (by decide) (fun c_2 => ?_) (fun c_2 => ?_)
    · have hf := it_t hf c_2
      exact xl_sub (xl_n (xl_n (xl_n xl_e))) (kX3_newer_23 C hR ht hr  hf)
    · have hf := it_f hf c_2
      refine xw_iconst (v := 1) C dX3_newer_19 (by decide) ?_
      refine xw_goto (tgt := 24) C dX3_newer_20 (by decide) ?_
      exact xl_sub (xl_n (xl_n (xl_n xl_e))) (kX3_newer_24 C hR ht hr  hf)
theorem mX3_newer (l : Launch) {D : va_G} {tys : List (ClassId × FieldType)} {base : Nat} {ad : Nat → Nat} {cs : xmC} (hJ : xw_J 431 ad base) (ht : tys = xm_tys cs) {x0 : Int32} {x1 : Int32} {M M' : xwM} {o : Int32} (hf : fX3_newer x0 x1 M = some (o, M')) : xk_i l yX3_newer cX3_newer 3 (some .boolean) rX3_newer D tys base 431 ad [.int x0, .int x1] (xm_ce ad cs M) (xm_ce ad cs M') o :=
  xk_ofi 1 (by decide) hJ (List.forall_mem_cons.mpr ⟨rfl, List.forall_mem_cons.mpr ⟨rfl, List.forall_mem_nil _⟩⟩) (Nat.le_of_ble_eq_true rfl) (fun G e1 e2 e3 e4 e5 hr C => kX3_newer_0 C e2 (e4.trans ht) hr  hf)

abbrev rX3_send : Room := { frames := 0, cells := 0, slots := 0, locals := 0 }
def fX3_send (x1 : Int32) (x2 : Int32) (x3 : Int32) (x4 : Int32) (x5 : Int32) (x6 : Int32) (M : xwM) : Option (xwM) :=
  xlet (ms M 418 14 ((M 418 14) + 1)) fun M1 =>
  if (M1 418 13) = 300 then
    (xlet (ms M1 418 15 ((M1 418 15) + 1)) fun M16 =>
      some M16)
  else
    (sto M1 429 1806 (6 * (M1 418 13)) x1 fun M3 =>
      sto M3 429 1806 ((6 * (M1 418 13)) + 1) x2 fun M5 =>
      sto M5 429 1806 ((6 * (M1 418 13)) + 2) x3 fun M7 =>
      sto M7 429 1806 ((6 * (M1 418 13)) + 3) x4 fun M9 =>
      sto M9 429 1806 ((6 * (M1 418 13)) + 4) x5 fun M11 =>
      sto M11 429 1806 ((6 * (M1 418 13)) + 5) x6 fun M13 =>
      xlet (ms M13 418 13 ((M13 418 13) + 1)) fun M15 =>
      some M15)
set_option maxHeartbeats 4000000 in
set_option maxRecDepth 100000 in
theorem kX3_send_0 {G : xwG} {ad : Nat → Nat} {cs : xmC} (C : xw_C G cX3_send 8 RX3 431 ad) (hR : xgR G = rX3_send) (ht : xgt G = xm_tys cs) (hr : (xgM G).sig.returnType = none) {M' : xwM} {x1 : Int32} {x2 : Int32} {x3 : Int32} {x4 : Int32} {x5 : Int32} {x6 : Int32} {M : xwM} (hf : fX3_send x1 x2 x3 x4 x5 x6 M = some M') : XV G (xw_qv G 431 ad (xm_ce ad cs M')) 8 0 0 ad cs M 0 [some (.ref (ad 418)), some (.int x1), some (.int x2), some (.int x3), some (.int x4), some (.int x5), some (.int x6), none] [] := by
  unfold fX3_send at hf
  refine xw_aload_n C dX3_send_0 0 rfl rfl ?_
  refine xw_dup C dX3_send_1 rfl ?_
  refine xv_getf C (by decide) xs_M rfl inB3 14 (by decide) hw_497 rfl dX3_send_2 ?_
  refine xw_iconst (v := 1) C dX3_send_5 (by decide) ?_
  refine xw_iadd C dX3_send_6 ?_
  refine xv_putf (fs := xl_X3 ad) C (by decide) (fun _ => xs_M) rfl inB3 tyX3 tyX3_ok nmX3 14 (by decide) hw_497 rfl rfl (fun _ => by simp [xl_X3]) (fun _ => rfl) dX3_send_7 ?_
  have hf := xlet_s hf
  refine xw_aload_n C dX3_send_10 0 rfl rfl ?_
  refine xv_getf C (by decide) xs_M rfl inB3 13 (by decide) hw_496 rfl dX3_send_11 ?_
  refine xw_sipush (v := 300) C dX3_send_14 (by decide) ?_
  refine xw_icmp_ne (tgt := 31) C dX3_send_17 (by decide) (fun c_2 => ?_) (fun c_2 => ?_)
  · have hf := it_f hf c_2
    refine xw_bipush (v := 6) C dX3_send_31 (by decide) ?_
    refine xw_aload_n C dX3_send_33 0 rfl rfl ?_
    refine xv_getf C (by decide) xs_M rfl inB3 13 (by decide) hw_496 rfl dX3_send_34 ?_
    refine xw_imul C dX3_send_37 ?_
    refine xw_istore C dX3_send_38 (by decide) ?_
    refine xw_aload_n C dX3_send_40 0 rfl rfl ?_
    refine xv_getf C (by decide) xs_M rfl inB3 12 (by decide) hw_495 rfl dX3_send_41 ?_
    refine xw_iload C dX3_send_44 rfl ?_
    refine xw_iload_n C dX3_send_46 1 rfl rfl ?_
    obtain ⟨i_4, hf⟩ := sto_s hf
    refine xv_iast C ht (by decide) (fun _ => xs_429) i_4 dX3_send_47 ?_
    refine xw_aload_n C dX3_send_48 0 rfl rfl ?_
    refine xv_getf C (by decide) xs_M rfl inB3 12 (by decide) hw_495 rfl dX3_send_49 ?_
    refine xw_iload C dX3_send_52 rfl ?_
    refine xw_iconst (v := 1) C dX3_send_54 (by decide) ?_
    refine xw_iadd C dX3_send_55 ?_
    refine xw_iload_n C dX3_send_56 2 rfl rfl ?_
    obtain ⟨i_6, hf⟩ := sto_s hf
    refine xv_iast C ht (by decide) (fun _ => xs_429) i_6 dX3_send_57 ?_
    refine xw_aload_n C dX3_send_58 0 rfl rfl ?_
    refine xv_getf C (by decide) xs_M rfl inB3 12 (by decide) hw_495 rfl dX3_send_59 ?_
    refine xw_iload C dX3_send_62 rfl ?_
    refine xw_iconst (v := 2) C dX3_send_64 (by decide) ?_
    refine xw_iadd C dX3_send_65 ?_
    refine xw_iload_n C dX3_send_66 3 rfl rfl ?_
    obtain ⟨i_8, hf⟩ := sto_s hf
    refine xv_iast C ht (by decide) (fun _ => xs_429) i_8 dX3_send_67 ?_
    refine xw_aload_n C dX3_send_68 0 rfl rfl ?_
    refine xv_getf C (by decide) xs_M rfl inB3 12 (by decide) hw_495 rfl dX3_send_69 ?_
    refine xw_iload C dX3_send_72 rfl ?_
    refine xw_iconst (v := 3) C dX3_send_74 (by decide) ?_
    refine xw_iadd C dX3_send_75 ?_
    refine xw_iload C dX3_send_76 rfl ?_
    obtain ⟨i_10, hf⟩ := sto_s hf
    refine xv_iast C ht (by decide) (fun _ => xs_429) i_10 dX3_send_78 ?_
    refine xw_aload_n C dX3_send_79 0 rfl rfl ?_
    refine xv_getf C (by decide) xs_M rfl inB3 12 (by decide) hw_495 rfl dX3_send_80 ?_
    refine xw_iload C dX3_send_83 rfl ?_
    refine xw_iconst (v := 4) C dX3_send_85 (by decide) ?_
    refine xw_iadd C dX3_send_86 ?_
    refine xw_iload C dX3_send_87 rfl ?_
    obtain ⟨i_12, hf⟩ := sto_s hf
    refine xv_iast C ht (by decide) (fun _ => xs_429) i_12 dX3_send_89 ?_
    refine xw_aload_n C dX3_send_90 0 rfl rfl ?_
    refine xv_getf C (by decide) xs_M rfl inB3 12 (by decide) hw_495 rfl dX3_send_91 ?_
    refine xw_iload C dX3_send_94 rfl ?_
    refine xw_iconst (v := 5) C dX3_send_96 (by decide) ?_
    refine xw_iadd C dX3_send_97 ?_
    refine xw_iload C dX3_send_98 rfl ?_
    obtain ⟨i_14, hf⟩ := sto_s hf
    refine xv_iast C ht (by decide) (fun _ => xs_429) i_14 dX3_send_100 ?_
    refine xw_aload_n C dX3_send_101 0 rfl rfl ?_
    refine xw_dup C dX3_send_102 rfl ?_
    refine xv_getf C (by decide) xs_M rfl inB3 13 (by decide) hw_496 rfl dX3_send_103 ?_
    refine xw_iconst (v := 1) C dX3_send_106 (by decide) ?_
    refine xw_iadd C dX3_send_107 ?_
    refine xv_putf (fs := xl_X3 ad) C (by decide) (fun _ => xs_M) rfl inB3 tyX3 tyX3_ok nmX3 13 (by decide) hw_496 rfl rfl (fun _ => by simp [xl_X3]) (fun _ => rfl) dX3_send_108 ?_
    have hf := xlet_s hf
    cases hf
    exact xw_retv C hr dX3_send_111
  · have hf := it_t hf c_2
    refine xw_aload_n C dX3_send_20 0 rfl rfl ?_
    refine xw_dup C dX3_send_21 rfl ?_
    refine xv_getf C (by decide) xs_M rfl inB3 15 (by decide) hw_498 rfl dX3_send_22 ?_
    refine xw_iconst (v := 1) C dX3_send_25 (by decide) ?_
    refine xw_iadd C dX3_send_26 ?_
    refine xv_putf (fs := xl_X3 ad) C (by decide) (fun _ => xs_M) rfl inB3 tyX3 tyX3_ok nmX3 15 (by decide) hw_498 rfl rfl (fun _ => by simp [xl_X3]) (fun _ => rfl) dX3_send_27 ?_
    have hf := xlet_s hf
    cases hf
    exact xw_retv C hr dX3_send_30
theorem mX3_send (l : Launch) {D : va_G} {tys : List (ClassId × FieldType)} {base : Nat} {ad : Nat → Nat} {cs : xmC} (hJ : xw_J 431 ad base) (ht : tys = xm_tys cs) {x1 : Int32} {x2 : Int32} {x3 : Int32} {x4 : Int32} {x5 : Int32} {x6 : Int32} {M M' : xwM} (hf : fX3_send x1 x2 x3 x4 x5 x6 M = some M') : xk_v l yX3_send cX3_send 8 none rX3_send D tys base 431 ad [.ref (ad 418), .int x1, .int x2, .int x3, .int x4, .int x5, .int x6] (xm_ce ad cs M) (xm_ce ad cs M') :=
  xk_ofv 1 (by decide) hJ (List.forall_mem_cons.mpr ⟨rfl, List.forall_mem_cons.mpr ⟨rfl, List.forall_mem_cons.mpr ⟨rfl, List.forall_mem_cons.mpr ⟨rfl, List.forall_mem_cons.mpr ⟨rfl, List.forall_mem_cons.mpr ⟨rfl, List.forall_mem_cons.mpr ⟨rfl, List.forall_mem_nil _⟩⟩⟩⟩⟩⟩⟩) (Nat.le_of_ble_eq_true rfl) (fun G e1 e2 e3 e4 e5 hr C => kX3_send_0 C e2 (e4.trans ht) hr  hf)

abbrev rX3_takes : Room := { frames := 0, cells := 0, slots := 0, locals := 0 }
def fX3_takes_40 : Nat → Int32 →  xwM → Option (xwM)
  | 0, _, _ => none
  | fu + 1, x2, M =>
  if (6 * (M 418 13)) ≤ (x2 + 6) then
    (xlet (ms M 418 13 ((M 418 13) - 1)) fun M7 =>
      some M7)
  else
    (ld M 429 1806 (x2 + 6) fun v8 =>
      sto M 429 1806 x2 v8 fun M10 =>
      fX3_takes_40 fu ((x2 + 1)) M10)
set_option maxHeartbeats 4000000 in
set_option maxRecDepth 100000 in
theorem kX3_takes_40 {G : xwG} {ad : Nat → Nat} {cs : xmC} (C : xw_C G cX3_takes 3 RX3 431 ad) (hR : xgR G = rX3_takes) (ht : xgt G = xm_tys cs) (hr : (xgM G).sig.returnType = none) {M' : xwM} : ∀ (fu : Nat) (x2 : Int32) (M : xwM), fX3_takes_40 fu x2 M = some M' → XV G (xw_qv G 431 ad (xm_ce ad cs M')) 3 0 0 ad cs M 40 [some (.ref (ad 418)), none, some (.int x2)] [] := by
  intro fu
  induction fu with
  | zero =>
    intro x2 M  hf
    cases hf
  | succ fu ih =>
    intro x2 M  hf
    rw [fX3_takes_40] at hf
    refine xw_iload_n C dX3_takes_40 2 rfl rfl ?_
    refine xw_bipush (v := 6) C dX3_takes_41 (by decide) ?_
    refine xw_iadd C dX3_takes_43 ?_
    refine xw_bipush (v := 6) C dX3_takes_44 (by decide) ?_
    refine xw_aload_n C dX3_takes_46 0 rfl rfl ?_
    refine xv_getf C (by decide) xs_M rfl inB3 13 (by decide) hw_496 rfl dX3_takes_47 ?_
    refine xw_imul C dX3_takes_50 ?_
    refine xw_icmp_ge (tgt := 75) C dX3_takes_51 (by decide) (fun c_6 => ?_) (fun c_6 => ?_)
    · have hf := it_t hf c_6
      refine xw_aload_n C dX3_takes_75 0 rfl rfl ?_
      refine xw_dup C dX3_takes_76 rfl ?_
      refine xv_getf C (by decide) xs_M rfl inB3 13 (by decide) hw_496 rfl dX3_takes_77 ?_
      refine xw_iconst (v := 1) C dX3_takes_80 (by decide) ?_
      refine xw_isub C dX3_takes_81 ?_
      refine xv_putf (fs := xl_X3 ad) C (by decide) (fun _ => xs_M) rfl inB3 tyX3 tyX3_ok nmX3 13 (by decide) hw_496 rfl rfl (fun _ => by simp [xl_X3]) (fun _ => rfl) dX3_takes_82 ?_
      have hf := xlet_s hf
      cases hf
      exact xw_retv C hr dX3_takes_85
    · have hf := it_f hf c_6
      refine xw_aload_n C dX3_takes_54 0 rfl rfl ?_
      refine xv_getf C (by decide) xs_M rfl inB3 12 (by decide) hw_495 rfl dX3_takes_55 ?_
      refine xw_iload_n C dX3_takes_58 2 rfl rfl ?_
      refine xw_aload_n C dX3_takes_59 0 rfl rfl ?_
      refine xv_getf C (by decide) xs_M rfl inB3 12 (by decide) hw_495 rfl dX3_takes_60 ?_
      refine xw_iload_n C dX3_takes_63 2 rfl rfl ?_
      refine xw_bipush (v := 6) C dX3_takes_64 (by decide) ?_
      refine xw_iadd C dX3_takes_66 ?_
      obtain ⟨i_9, hf⟩ := ld_s hf
      refine xv_iald C ht (by decide) ((fun _ => xs_429) _) i_9 dX3_takes_67 ?_
      obtain ⟨i_11, hf⟩ := sto_s hf
      refine xv_iast C ht (by decide) (fun _ => xs_429) i_11 dX3_takes_68 ?_
      refine xw_iinc C dX3_takes_69 rfl (show _ + Int32.ofInt (1) = _ + (1) from congrArg _ (by decide)) (by decide) ?_
      refine xw_goto (tgt := 40) C dX3_takes_72 (by decide) ?_
      exact xl_sub (xl_c rfl (xl_n (xl_c rfl xl_e))) (ih _ _ hf)
def fX3_takes_2 : Nat → Int32 → Int32 →  xwM → Option (xwM)
  | 0, _, _, _ => none
  | fu + 1, x1, x2, M =>
  if 6 ≤ x2 then
    (fX3_takes_40 2001 ((6 * x1)) M)
  else
    (ld M 429 1806 ((6 * x1) + x2) fun v2 =>
      sto M 429 1806 (1800 + x2) v2 fun M4 =>
      fX3_takes_2 fu x1 ((x2 + 1)) M4)
set_option maxHeartbeats 4000000 in
set_option maxRecDepth 100000 in
theorem kX3_takes_2 {G : xwG} {ad : Nat → Nat} {cs : xmC} (C : xw_C G cX3_takes 3 RX3 431 ad) (hR : xgR G = rX3_takes) (ht : xgt G = xm_tys cs) (hr : (xgM G).sig.returnType = none) {M' : xwM} : ∀ (fu : Nat) (x1 : Int32) (x2 : Int32) (M : xwM), fX3_takes_2 fu x1 x2 M = some M' → XV G (xw_qv G 431 ad (xm_ce ad cs M')) 3 0 0 ad cs M 2 [some (.ref (ad 418)), some (.int x1), some (.int x2)] [] := by
  intro fu
  induction fu with
  | zero =>
    intro x1 x2 M  hf
    cases hf
  | succ fu ih =>
    intro x1 x2 M  hf
    rw [fX3_takes_2] at hf
    refine xw_iload_n C dX3_takes_2 2 rfl rfl ?_
    refine xw_bipush (v := 6) C dX3_takes_3 (by decide) ?_
    refine xw_icmp_ge (tgt := 35) C dX3_takes_5 (by decide) (fun c_1 => ?_) (fun c_1 => ?_)
    · have hf := it_t hf c_1
      refine xw_bipush (v := 6) C dX3_takes_35 (by decide) ?_
      refine xw_iload_n C dX3_takes_37 1 rfl rfl ?_
      refine xw_imul C dX3_takes_38 ?_
      refine xw_istore_n C dX3_takes_39 2 rfl (by decide) ?_
      exact xl_sub (xl_c rfl (xl_n (xl_c rfl xl_e))) (kX3_takes_40 C hR ht hr 2001 _ _ hf)
    · have hf := it_f hf c_1
      refine xw_aload_n C dX3_takes_8 0 rfl rfl ?_
      refine xv_getf C (by decide) xs_M rfl inB3 12 (by decide) hw_495 rfl dX3_takes_9 ?_
      refine xw_sipush (v := 1800) C dX3_takes_12 (by decide) ?_
      refine xw_iload_n C dX3_takes_15 2 rfl rfl ?_
      refine xw_iadd C dX3_takes_16 ?_
      refine xw_aload_n C dX3_takes_17 0 rfl rfl ?_
      refine xv_getf C (by decide) xs_M rfl inB3 12 (by decide) hw_495 rfl dX3_takes_18 ?_
      refine xw_bipush (v := 6) C dX3_takes_21 (by decide) ?_
      refine xw_iload_n C dX3_takes_23 1 rfl rfl ?_
      refine xw_imul C dX3_takes_24 ?_
      refine xw_iload_n C dX3_takes_25 2 rfl rfl ?_
      refine xw_iadd C dX3_takes_26 ?_
      obtain ⟨i_3, hf⟩ := ld_s hf
      refine xv_iald C ht (by decide) ((fun _ => xs_429) _) i_3 dX3_takes_27 ?_
      obtain ⟨i_5, hf⟩ := sto_s hf
      refine xv_iast C ht (by decide) (fun _ => xs_429) i_5 dX3_takes_28 ?_
      refine xw_iinc C dX3_takes_29 rfl (show _ + Int32.ofInt (1) = _ + (1) from congrArg _ (by decide)) (by decide) ?_
      refine xw_goto (tgt := 2) C dX3_takes_32 (by decide) ?_
      exact xl_sub (xl_c rfl (xl_c rfl (xl_c rfl xl_e))) (ih _ _ _ hf)
def fX3_takes (x1 : Int32) (M : xwM) : Option (xwM) :=
  fX3_takes_2 2001 x1 0 M
set_option maxHeartbeats 4000000 in
set_option maxRecDepth 100000 in
theorem kX3_takes_0 {G : xwG} {ad : Nat → Nat} {cs : xmC} (C : xw_C G cX3_takes 3 RX3 431 ad) (hR : xgR G = rX3_takes) (ht : xgt G = xm_tys cs) (hr : (xgM G).sig.returnType = none) {M' : xwM} {x1 : Int32} {M : xwM} (hf : fX3_takes x1 M = some M') : XV G (xw_qv G 431 ad (xm_ce ad cs M')) 3 0 0 ad cs M 0 [some (.ref (ad 418)), some (.int x1), none] [] := by
  unfold fX3_takes at hf
  refine xw_iconst (v := 0) C dX3_takes_0 (by decide) ?_
  refine xw_istore_n C dX3_takes_1 2 rfl (by decide) ?_
  exact xl_sub (xl_c rfl (xl_c rfl (xl_c rfl xl_e))) (kX3_takes_2 C hR ht hr 2001 _ _ _ hf)
theorem mX3_takes (l : Launch) {D : va_G} {tys : List (ClassId × FieldType)} {base : Nat} {ad : Nat → Nat} {cs : xmC} (hJ : xw_J 431 ad base) (ht : tys = xm_tys cs) {x1 : Int32} {M M' : xwM} (hf : fX3_takes x1 M = some M') : xk_v l yX3_takes cX3_takes 3 none rX3_takes D tys base 431 ad [.ref (ad 418), .int x1] (xm_ce ad cs M) (xm_ce ad cs M') :=
  xk_ofv 1 (by decide) hJ (List.forall_mem_cons.mpr ⟨rfl, List.forall_mem_cons.mpr ⟨rfl, List.forall_mem_nil _⟩⟩) (Nat.le_of_ble_eq_true rfl) (fun G e1 e2 e3 e4 e5 hr C => kX3_takes_0 C e2 (e4.trans ht) hr  hf)

abbrev rX3_tells : Room := { frames := 1, cells := 0, slots := 0, locals := 27 }
def fX3_tells_67 (s1 : Int32) (s2 : Int32) (s3 : Int32) (s4 : Int32) (s5 : Int32) (M : xwM) : Option (xwM) :=
  bnv (fX3_send s1 s2 s3 s4 s5 65535 M) fun M33 =>
  some M33
set_option maxHeartbeats 4000000 in
set_option maxRecDepth 100000 in
theorem kX3_tells_67 {G : xwG} {ad : Nat → Nat} {cs : xmC} (C : xw_C G cX3_tells 7 RX3 431 ad) (hR : xgR G = rX3_tells) (ht : xgt G = xm_tys cs) (hr : (xgM G).sig.returnType = none) {M' : xwM} {s1 : Int32} {s2 : Int32} {s3 : Int32} {s4 : Int32} {s5 : Int32} {M : xwM} (hf : fX3_tells_67 s1 s2 s3 s4 s5 M = some M') : XV G (xw_qv G 431 ad (xm_ce ad cs M')) 7 0 0 ad cs M 67 [none, none, none, none, none, none, none] [.int s5, .int s4, .int s3, .int s2, .int s1, .ref (ad 418)] := by
  unfold fX3_tells_67 at hf
  refine xw_ldc C hw_562 dX3_tells_67 ?_
  obtain ⟨M_M33, g_34, hf⟩ := bnv_s hf
  refine xc_Vv C (mX3_send (xgl G) C.2.2.2.2.2.2.2.2.1 ht  g_34) FX3_send hw_558 (by decide) xs_M rfl (by rw [hR]; decide) (by rw [hR]; decide) rfl (Nat.le_of_ble_eq_true rfl) dX3_tells_69 rfl ?_
  cases hf
  exact xw_retv C hr dX3_tells_72
def fX3_tells_159 (x1 : Int32) (x2 : Int32) (x3 : Int32) (x5 : Int32) (x6 : Int32) (M : xwM) : Option (xwM) :=
  bnv (fX3_send 1 x1 x2 x3 x5 x6 M) fun M35 =>
  some M35
set_option maxHeartbeats 4000000 in
set_option maxRecDepth 100000 in
theorem kX3_tells_159 {G : xwG} {ad : Nat → Nat} {cs : xmC} (C : xw_C G cX3_tells 7 RX3 431 ad) (hR : xgR G = rX3_tells) (ht : xgt G = xm_tys cs) (hr : (xgM G).sig.returnType = none) {M' : xwM} {x1 : Int32} {x2 : Int32} {x3 : Int32} {x5 : Int32} {x6 : Int32} {M : xwM} (hf : fX3_tells_159 x1 x2 x3 x5 x6 M = some M') : XV G (xw_qv G 431 ad (xm_ce ad cs M')) 7 0 0 ad cs M 159 [some (.ref (ad 418)), some (.int x1), some (.int x2), some (.int x3), none, some (.int x5), some (.int x6)] [] := by
  unfold fX3_tells_159 at hf
  refine xw_aload_n C dX3_tells_159 0 rfl rfl ?_
  refine xw_iconst (v := 1) C dX3_tells_160 (by decide) ?_
  refine xw_iload_n C dX3_tells_161 1 rfl rfl ?_
  refine xw_iload_n C dX3_tells_162 2 rfl rfl ?_
  refine xw_iload_n C dX3_tells_163 3 rfl rfl ?_
  refine xw_iload C dX3_tells_164 rfl ?_
  refine xw_iload C dX3_tells_166 rfl ?_
  obtain ⟨M_M35, g_36, hf⟩ := bnv_s hf
  refine xc_Vv C (mX3_send (xgl G) C.2.2.2.2.2.2.2.2.1 ht  g_36) FX3_send hw_558 (by decide) xs_M rfl (by rw [hR]; decide) (by rw [hR]; decide) rfl (Nat.le_of_ble_eq_true rfl) dX3_tells_168 rfl ?_
  cases hf
  exact xw_retv C hr dX3_tells_171
def fX3_tells_141 (x1 : Int32) (x2 : Int32) (x3 : Int32) (x4 : Int32) (x5 : Int32) (x6 : Int32) (M : xwM) : Option (xwM) :=
  sto M 421 144 x4 x5 fun M37 =>
  sto M37 422 144 x4 x6 fun M39 =>
  fX3_tells_159 x1 x2 x3 x5 x6 M39
set_option maxHeartbeats 4000000 in
set_option maxRecDepth 100000 in
theorem kX3_tells_141 {G : xwG} {ad : Nat → Nat} {cs : xmC} (C : xw_C G cX3_tells 7 RX3 431 ad) (hR : xgR G = rX3_tells) (ht : xgt G = xm_tys cs) (hr : (xgM G).sig.returnType = none) {M' : xwM} {x1 : Int32} {x2 : Int32} {x3 : Int32} {x4 : Int32} {x5 : Int32} {x6 : Int32} {M : xwM} (hf : fX3_tells_141 x1 x2 x3 x4 x5 x6 M = some M') : XV G (xw_qv G 431 ad (xm_ce ad cs M')) 7 0 0 ad cs M 141 [some (.ref (ad 418)), some (.int x1), some (.int x2), some (.int x3), some (.int x4), some (.int x5), some (.int x6)] [] := by
  unfold fX3_tells_141 at hf
  refine xw_aload_n C dX3_tells_141 0 rfl rfl ?_
  refine xv_getf C (by decide) xs_M rfl inB3 4 (by decide) hw_487 rfl dX3_tells_142 ?_
  refine xw_iload C dX3_tells_145 rfl ?_
  refine xw_iload C dX3_tells_147 rfl ?_
  obtain ⟨i_38, hf⟩ := sto_s hf
  refine xv_iast C ht (by decide) (fun _ => xs_421) i_38 dX3_tells_149 ?_
  refine xw_aload_n C dX3_tells_150 0 rfl rfl ?_
  refine xv_getf C (by decide) xs_M rfl inB3 5 (by decide) hw_488 rfl dX3_tells_151 ?_
  refine xw_iload C dX3_tells_154 rfl ?_
  refine xw_iload C dX3_tells_156 rfl ?_
  obtain ⟨i_40, hf⟩ := sto_s hf
  refine xv_iast C ht (by decide) (fun _ => xs_422) i_40 dX3_tells_158 ?_
  exact xl_sub (xl_c rfl (xl_c rfl (xl_c rfl (xl_c rfl (xl_n (xl_c rfl (xl_c rfl xl_e))))))) (kX3_tells_159 C hR ht hr  hf)
def fX3_tells (x1 : Int32) (x2 : Int32) (x3 : Int32) (M : xwM) : Option (xwM) :=
  if x1 = x3 then
    (ld M 420 12 x1 fun v29 =>
      bnv (fX3_send 1 x1 x2 x3 v29 0 M) fun M31 =>
      some M31)
  else
    (ld M 423 144 ((12 * x1) + x3) fun v2 =>
      if v2 = (-1) then
        (ld M 422 144 ((12 * x1) + x3) fun v24 =>
          if v24 = (-1) then
            (fX3_tells_67 1 x1 x2 x3 0 M)
          else
            (ld M 421 144 ((12 * x1) + x3) fun v27 =>
              fX3_tells_67 1 x1 x2 x3 v27 M))
      else
        (ld M 424 144 ((12 * x1) + x3) fun v5 =>
          ld M 425 144 ((12 * x1) + x3) fun v7 =>
          ld M 422 144 ((12 * x1) + x3) fun v9 =>
          if v9 = (-1) then
            (fX3_tells_141 x1 x2 x3 (((12 * x1) + x3)) v5 v7 M)
          else
            (ld M 421 144 ((12 * x1) + x3) fun v12 =>
              bni (fX3_newer v5 v12 M) fun v14 M15 =>
              if v14 = 0 then
                (ld M15 421 144 ((12 * x1) + x3) fun v18 =>
                  if v5 = v18 then
                    (ld M15 422 144 ((12 * x1) + x3) fun v21 =>
                      if v21 ≤ v7 then
                        (fX3_tells_159 x1 x2 x3 v5 v7 M15)
                      else
                        (fX3_tells_141 x1 x2 x3 (((12 * x1) + x3)) v5 v7 M15))
                  else
                    (fX3_tells_159 x1 x2 x3 v5 v7 M15))
              else
                (fX3_tells_141 x1 x2 x3 (((12 * x1) + x3)) v5 v7 M15))))
set_option maxHeartbeats 4000000 in
set_option maxRecDepth 100000 in
theorem kX3_tells_0 {G : xwG} {ad : Nat → Nat} {cs : xmC} (C : xw_C G cX3_tells 7 RX3 431 ad) (hR : xgR G = rX3_tells) (ht : xgt G = xm_tys cs) (hr : (xgM G).sig.returnType = none) {M' : xwM} {x1 : Int32} {x2 : Int32} {x3 : Int32} {M : xwM} (hf : fX3_tells x1 x2 x3 M = some M') : XV G (xw_qv G 431 ad (xm_ce ad cs M')) 7 0 0 ad cs M 0 [some (.ref (ad 418)), some (.int x1), some (.int x2), some (.int x3), none, none, none] [] := by
  unfold fX3_tells at hf
  refine xw_bipush (v := 12) C dX3_tells_0 (by decide) ?_
  refine xw_iload_n C dX3_tells_2 1 rfl rfl ?_
  refine xw_imul C dX3_tells_3 ?_
  refine xw_iload_n C dX3_tells_4 3 rfl rfl ?_
  refine xw_iadd C dX3_tells_5 ?_
  refine xw_istore C dX3_tells_6 (by decide) ?_
  refine xw_iload_n C dX3_tells_8 1 rfl rfl ?_
  refine xw_iload_n C dX3_tells_9 3 rfl rfl ?_
  refine xw_icmp_ne (tgt := 29) C dX3_tells_10 (by decide) (fun c_1 => ?_) (fun c_1 => ?_)
  · have hf := it_f hf c_1
    refine xw_aload_n C dX3_tells_29 0 rfl rfl ?_
    refine xv_getf C (by decide) xs_M rfl inB3 6 (by decide) hw_489 rfl dX3_tells_30 ?_
    refine xw_iload C dX3_tells_33 rfl ?_
    obtain ⟨i_3, hf⟩ := ld_s hf
    refine xv_iald C ht (by decide) ((fun _ => xs_423) _) i_3 dX3_tells_35 ?_
    refine xw_iconst (v := -1) C dX3_tells_36 (by decide) ?_
    refine xw_icmp_ne (tgt := 73) C dX3_tells_37 (by decide) (fun c_4 => ?_) (fun c_4 => ?_)
    · have hf := it_f hf c_4
      refine xw_aload_n C dX3_tells_73 0 rfl rfl ?_
      refine xv_getf C (by decide) xs_M rfl inB3 7 (by decide) hw_490 rfl dX3_tells_74 ?_
      refine xw_iload C dX3_tells_77 rfl ?_
      obtain ⟨i_6, hf⟩ := ld_s hf
      refine xv_iald C ht (by decide) ((fun _ => xs_424) _) i_6 dX3_tells_79 ?_
      refine xw_istore C dX3_tells_80 (by decide) ?_
      refine xw_aload_n C dX3_tells_82 0 rfl rfl ?_
      refine xv_getf C (by decide) xs_M rfl inB3 8 (by decide) hw_491 rfl dX3_tells_83 ?_
      refine xw_iload C dX3_tells_86 rfl ?_
      obtain ⟨i_8, hf⟩ := ld_s hf
      refine xv_iald C ht (by decide) ((fun _ => xs_425) _) i_8 dX3_tells_88 ?_
      refine xw_istore C dX3_tells_89 (by decide) ?_
      refine xw_aload_n C dX3_tells_91 0 rfl rfl ?_
      refine xv_getf C (by decide) xs_M rfl inB3 5 (by decide) hw_488 rfl dX3_tells_92 ?_
      refine xw_iload C dX3_tells_95 rfl ?_
      obtain ⟨i_10, hf⟩ := ld_s hf
      refine xv_iald C ht (by decide) ((fun _ => xs_422) _) i_10 dX3_tells_97 ?_
      refine xw_iconst (v := -1) C dX3_tells_98 (by decide) ?_
      refine xw_icmp_eq (tgt := 141) C dX3_tells_99 (by decide) (fun c_11 => ?_) (fun c_11 => ?_)
      · have hf := it_t hf c_11
        exact xl_sub (xl_c rfl (xl_c rfl (xl_c rfl (xl_c rfl (xl_c rfl (xl_c rfl (xl_c rfl xl_e))))))) (kX3_tells_141 C hR ht hr  hf)
      · have hf := it_f hf c_11
        refine xw_iload C dX3_tells_102 rfl ?_
        refine xw_aload_n C dX3_tells_104 0 rfl rfl ?_
        refine xv_getf C (by decide) xs_M rfl inB3 4 (by decide) hw_487 rfl dX3_tells_105 ?_
        refine xw_iload C dX3_tells_108 rfl ?_
        obtain ⟨i_13, hf⟩ := ld_s hf
        refine xv_iald C ht (by decide) ((fun _ => xs_421) _) i_13 dX3_tells_110 ?_
        obtain ⟨r_v14, M_M15, g_16, hf⟩ := bni_s hf
        refine xc_Si C (mX3_newer (xgl G) C.2.2.2.2.2.2.2.2.1 ht  g_16) FX3_newer hw_563 (by rw [hR]; decide) (by rw [hR]; decide) rfl (Nat.le_of_ble_eq_true rfl) dX3_tells_111 rfl ?_
        refine xw_if_ne (tgt := 141) C dX3_tells_114 (by decide) (fun c_17 => ?_) (fun c_17 => ?_)
        · have hf := it_f hf c_17
          exact xl_sub (xl_c rfl (xl_c rfl (xl_c rfl (xl_c rfl (xl_c rfl (xl_c rfl (xl_c rfl xl_e))))))) (kX3_tells_141 C hR ht hr  hf)
        · have hf := it_t hf c_17
          refine xw_iload C dX3_tells_117 rfl ?_
          refine xw_aload_n C dX3_tells_119 0 rfl rfl ?_
          refine xv_getf C (by decide) xs_M rfl inB3 4 (by decide) hw_487 rfl dX3_tells_120 ?_
          refine xw_iload C dX3_tells_123 rfl ?_
          obtain ⟨i_19, hf⟩ := ld_s hf
          refine xv_iald C ht (by decide) ((fun _ => xs_421) _) i_19 dX3_tells_125 ?_
          refine xw_icmp_ne (tgt := 159) C dX3_tells_126 (by decide) (fun c_20 => ?_) (fun c_20 => ?_)
          · have hf := it_f hf c_20
            exact xl_sub (xl_c rfl (xl_c rfl (xl_c rfl (xl_c rfl (xl_n (xl_c rfl (xl_c rfl xl_e))))))) (kX3_tells_159 C hR ht hr  hf)
          · have hf := it_t hf c_20
            refine xw_iload C dX3_tells_129 rfl ?_
            refine xw_aload_n C dX3_tells_131 0 rfl rfl ?_
            refine xv_getf C (by decide) xs_M rfl inB3 5 (by decide) hw_488 rfl dX3_tells_132 ?_
            refine xw_iload C dX3_tells_135 rfl ?_
            obtain ⟨i_22, hf⟩ := ld_s hf
            refine xv_iald C ht (by decide) ((fun _ => xs_422) _) i_22 dX3_tells_137 ?_
            refine xw_icmp_ge (tgt := 159) C dX3_tells_138 (by decide) (fun c_23 => ?_) (fun c_23 => ?_)
            · have hf := it_t hf c_23
              exact xl_sub (xl_c rfl (xl_c rfl (xl_c rfl (xl_c rfl (xl_n (xl_c rfl (xl_c rfl xl_e))))))) (kX3_tells_159 C hR ht hr  hf)
            · have hf := it_f hf c_23
              exact xl_sub (xl_c rfl (xl_c rfl (xl_c rfl (xl_c rfl (xl_c rfl (xl_c rfl (xl_c rfl xl_e))))))) (kX3_tells_141 C hR ht hr  hf)
    · have hf := it_t hf c_4
      refine xw_aload_n C dX3_tells_40 0 rfl rfl ?_
      refine xw_iconst (v := 1) C dX3_tells_41 (by decide) ?_
      refine xw_iload_n C dX3_tells_42 1 rfl rfl ?_
      refine xw_iload_n C dX3_tells_43 2 rfl rfl ?_
      refine xw_iload_n C dX3_tells_44 3 rfl rfl ?_
      refine xw_aload_n C dX3_tells_45 0 rfl rfl ?_
      refine xv_getf C (by decide) xs_M rfl inB3 5 (by decide) hw_488 rfl dX3_tells_46 ?_
      refine xw_iload C dX3_tells_49 rfl ?_
      obtain ⟨i_25, hf⟩ := ld_s hf
      refine xv_iald C ht (by decide) ((fun _ => xs_422) _) i_25 dX3_tells_51 ?_
      refine xw_iconst (v := -1) C dX3_tells_52 (by decide) ?_
      refine xw_icmp_ne (tgt := 60) C dX3_tells_53 (by decide) (fun c_26 => ?_) (fun c_26 => ?_)
      · have hf := it_f hf c_26
        refine xw_aload_n C dX3_tells_60 0 rfl rfl ?_
        refine xv_getf C (by decide) xs_M rfl inB3 4 (by decide) hw_487 rfl dX3_tells_61 ?_
        refine xw_iload C dX3_tells_64 rfl ?_
        obtain ⟨i_28, hf⟩ := ld_s hf
        refine xv_iald C ht (by decide) ((fun _ => xs_421) _) i_28 dX3_tells_66 ?_
        exact xl_sub (xl_n (xl_n (xl_n (xl_n (xl_n (xl_n (xl_n xl_e))))))) (kX3_tells_67 C hR ht hr  hf)
      · have hf := it_t hf c_26
        refine xw_iconst (v := 0) C dX3_tells_56 (by decide) ?_
        refine xw_goto (tgt := 67) C dX3_tells_57 (by decide) ?_
        exact xl_sub (xl_n (xl_n (xl_n (xl_n (xl_n (xl_n (xl_n xl_e))))))) (kX3_tells_67 C hR ht hr  hf)
  · have hf := it_t hf c_1
    refine xw_aload_n C dX3_tells_13 0 rfl rfl ?_
    refine xw_iconst (v := 1) C dX3_tells_14 (by decide) ?_
    refine xw_iload_n C dX3_tells_15 1 rfl rfl ?_
    refine xw_iload_n C dX3_tells_16 2 rfl rfl ?_
    refine xw_iload_n C dX3_tells_17 3 rfl rfl ?_
    refine xw_aload_n C dX3_tells_18 0 rfl rfl ?_
    refine xv_getf C (by decide) xs_M rfl inB3 3 (by decide) hw_486 rfl dX3_tells_19 ?_
    refine xw_iload_n C dX3_tells_22 1 rfl rfl ?_
    obtain ⟨i_30, hf⟩ := ld_s hf
    refine xv_iald C ht (by decide) ((fun _ => xs_420) _) i_30 dX3_tells_23 ?_
    refine xw_iconst (v := 0) C dX3_tells_24 (by decide) ?_
    obtain ⟨M_M31, g_32, hf⟩ := bnv_s hf
    refine xc_Vv C (mX3_send (xgl G) C.2.2.2.2.2.2.2.2.1 ht  g_32) FX3_send hw_558 (by decide) xs_M rfl (by rw [hR]; decide) (by rw [hR]; decide) rfl (Nat.le_of_ble_eq_true rfl) dX3_tells_25 rfl ?_
    cases hf
    exact xw_retv C hr dX3_tells_28
theorem mX3_tells (l : Launch) {D : va_G} {tys : List (ClassId × FieldType)} {base : Nat} {ad : Nat → Nat} {cs : xmC} (hJ : xw_J 431 ad base) (ht : tys = xm_tys cs) {x1 : Int32} {x2 : Int32} {x3 : Int32} {M M' : xwM} (hf : fX3_tells x1 x2 x3 M = some M') : xk_v l yX3_tells cX3_tells 7 none rX3_tells D tys base 431 ad [.ref (ad 418), .int x1, .int x2, .int x3] (xm_ce ad cs M) (xm_ce ad cs M') :=
  xk_ofv 3 (by decide) hJ (List.forall_mem_cons.mpr ⟨rfl, List.forall_mem_cons.mpr ⟨rfl, List.forall_mem_cons.mpr ⟨rfl, List.forall_mem_cons.mpr ⟨rfl, List.forall_mem_nil _⟩⟩⟩⟩) (Nat.le_of_ble_eq_true rfl) (fun G e1 e2 e3 e4 e5 hr C => kX3_tells_0 C e2 (e4.trans ht) hr  hf)

abbrev rX3_tellsAll : Room := { frames := 2, cells := 0, slots := 0, locals := 53 }
def fX3_tellsAll_29 (kf : Int32 → Int32 → Int32 → xwM → Option (xwM)) (x1 : Int32) (x2 : Int32) (x3 : Int32) (M : xwM) : Option (xwM) :=
  kf x1 x2 ((x3 + 1)) M
set_option maxHeartbeats 4000000 in
set_option maxRecDepth 100000 in
theorem kX3_tellsAll_29 {G : xwG} {ad : Nat → Nat} {cs : xmC} (C : xw_C G cX3_tellsAll 4 RX3 431 ad) (hR : xgR G = rX3_tellsAll) (ht : xgt G = xm_tys cs) (hr : (xgM G).sig.returnType = none) {M' : xwM} {kf : Int32 → Int32 → Int32 → xwM → Option (xwM)} (hk : ∀ (yx1 : Int32) (yx2 : Int32) (yx3 : Int32) (M : xwM), kf yx1 yx2 yx3 M = some M' → XV G (xw_qv G 431 ad (xm_ce ad cs M')) 4 0 0 ad cs M 2 [some (.ref (ad 418)), some (.int yx1), some (.int yx2), some (.int yx3)] []) {x1 : Int32} {x2 : Int32} {x3 : Int32} {M : xwM} (hf : fX3_tellsAll_29 kf x1 x2 x3 M = some M') : XV G (xw_qv G 431 ad (xm_ce ad cs M')) 4 0 0 ad cs M 29 [some (.ref (ad 418)), some (.int x1), some (.int x2), some (.int x3)] [] := by
  unfold fX3_tellsAll_29 at hf
  refine xw_iinc C dX3_tellsAll_29 rfl (show _ + Int32.ofInt (1) = _ + (1) from congrArg _ (by decide)) (by decide) ?_
  refine xw_goto (tgt := 2) C dX3_tellsAll_32 (by decide) ?_
  exact xl_sub (xl_c rfl (xl_c rfl (xl_c rfl (xl_c rfl xl_e)))) (hk _ _ _ _ hf)
def fX3_tellsAll_2 : Nat → Int32 → Int32 → Int32 →  xwM → Option (xwM)
  | 0, _, _, _, _ => none
  | fu + 1, x1, x2, x3, M =>
  if 12 ≤ x3 then
    (some M)
  else
    (ld M 419 144 ((12 * x1) + x3) fun v2 =>
      if v2 ≤ 0 then
        (fX3_tellsAll_29 (fX3_tellsAll_2 fu) x1 x2 x3 M)
      else
        (bnv (fX3_tells x1 x3 x2 M) fun M5 =>
          fX3_tellsAll_29 (fX3_tellsAll_2 fu) x1 x2 x3 M5))
set_option maxHeartbeats 4000000 in
set_option maxRecDepth 100000 in
theorem kX3_tellsAll_2 {G : xwG} {ad : Nat → Nat} {cs : xmC} (C : xw_C G cX3_tellsAll 4 RX3 431 ad) (hR : xgR G = rX3_tellsAll) (ht : xgt G = xm_tys cs) (hr : (xgM G).sig.returnType = none) {M' : xwM} : ∀ (fu : Nat) (x1 : Int32) (x2 : Int32) (x3 : Int32) (M : xwM), fX3_tellsAll_2 fu x1 x2 x3 M = some M' → XV G (xw_qv G 431 ad (xm_ce ad cs M')) 4 0 0 ad cs M 2 [some (.ref (ad 418)), some (.int x1), some (.int x2), some (.int x3)] [] := by
  intro fu
  induction fu with
  | zero =>
    intro x1 x2 x3 M  hf
    cases hf
  | succ fu ih =>
    intro x1 x2 x3 M  hf
    rw [fX3_tellsAll_2] at hf
    refine xw_iload_n C dX3_tellsAll_2 3 rfl rfl ?_
    refine xw_bipush (v := 12) C dX3_tellsAll_3 (by decide) ?_
    refine xw_icmp_ge (tgt := 35) C dX3_tellsAll_5 (by decide) (fun c_1 => ?_) (fun c_1 => ?_)
    · have hf := it_t hf c_1
      cases hf
      exact xw_retv C hr dX3_tellsAll_35
    · have hf := it_f hf c_1
      refine xw_aload_n C dX3_tellsAll_8 0 rfl rfl ?_
      refine xv_getf C (by decide) xs_M rfl inB3 1 (by decide) hw_484 rfl dX3_tellsAll_9 ?_
      refine xw_bipush (v := 12) C dX3_tellsAll_12 (by decide) ?_
      refine xw_iload_n C dX3_tellsAll_14 1 rfl rfl ?_
      refine xw_imul C dX3_tellsAll_15 ?_
      refine xw_iload_n C dX3_tellsAll_16 3 rfl rfl ?_
      refine xw_iadd C dX3_tellsAll_17 ?_
      obtain ⟨i_3, hf⟩ := ld_s hf
      refine xv_iald C ht (by decide) ((fun _ => xs_419) _) i_3 dX3_tellsAll_18 ?_
      refine xw_if_le (tgt := 29) C dX3_tellsAll_19 (by decide) (fun c_4 => ?_) (fun c_4 => ?_)
      · have hf := it_t hf c_4
        exact xl_sub (xl_c rfl (xl_c rfl (xl_c rfl (xl_c rfl xl_e)))) (kX3_tellsAll_29 C hR ht hr ih  hf)
      · have hf := it_f hf c_4
        refine xw_aload_n C dX3_tellsAll_22 0 rfl rfl ?_
        refine xw_iload_n C dX3_tellsAll_23 1 rfl rfl ?_
        refine xw_iload_n C dX3_tellsAll_24 3 rfl rfl ?_
        refine xw_iload_n C dX3_tellsAll_25 2 rfl rfl ?_
        obtain ⟨M_M5, g_6, hf⟩ := bnv_s hf
        refine xc_Vv C (mX3_tells (xgl G) C.2.2.2.2.2.2.2.2.1 ht  g_6) FX3_tells hw_554 (by decide) xs_M rfl (by rw [hR]; decide) (by rw [hR]; decide) rfl (Nat.le_of_ble_eq_true rfl) dX3_tellsAll_26 rfl ?_
        exact xl_sub (xl_c rfl (xl_c rfl (xl_c rfl (xl_c rfl xl_e)))) (kX3_tellsAll_29 C hR ht hr ih  hf)
def fX3_tellsAll (x1 : Int32) (x2 : Int32) (M : xwM) : Option (xwM) :=
  fX3_tellsAll_2 2001 x1 x2 0 M
set_option maxHeartbeats 4000000 in
set_option maxRecDepth 100000 in
theorem kX3_tellsAll_0 {G : xwG} {ad : Nat → Nat} {cs : xmC} (C : xw_C G cX3_tellsAll 4 RX3 431 ad) (hR : xgR G = rX3_tellsAll) (ht : xgt G = xm_tys cs) (hr : (xgM G).sig.returnType = none) {M' : xwM} {x1 : Int32} {x2 : Int32} {M : xwM} (hf : fX3_tellsAll x1 x2 M = some M') : XV G (xw_qv G 431 ad (xm_ce ad cs M')) 4 0 0 ad cs M 0 [some (.ref (ad 418)), some (.int x1), some (.int x2), none] [] := by
  unfold fX3_tellsAll at hf
  refine xw_iconst (v := 0) C dX3_tellsAll_0 (by decide) ?_
  refine xw_istore_n C dX3_tellsAll_1 3 rfl (by decide) ?_
  exact xl_sub (xl_c rfl (xl_c rfl (xl_c rfl (xl_c rfl xl_e)))) (kX3_tellsAll_2 C hR ht hr 2001 _ _ _ _ hf)
theorem mX3_tellsAll (l : Launch) {D : va_G} {tys : List (ClassId × FieldType)} {base : Nat} {ad : Nat → Nat} {cs : xmC} (hJ : xw_J 431 ad base) (ht : tys = xm_tys cs) {x1 : Int32} {x2 : Int32} {M M' : xwM} (hf : fX3_tellsAll x1 x2 M = some M') : xk_v l yX3_tellsAll cX3_tellsAll 4 none rX3_tellsAll D tys base 431 ad [.ref (ad 418), .int x1, .int x2] (xm_ce ad cs M) (xm_ce ad cs M') :=
  xk_ofv 1 (by decide) hJ (List.forall_mem_cons.mpr ⟨rfl, List.forall_mem_cons.mpr ⟨rfl, List.forall_mem_cons.mpr ⟨rfl, List.forall_mem_nil _⟩⟩⟩) (Nat.le_of_ble_eq_true rfl) (fun G e1 e2 e3 e4 e5 hr C => kX3_tellsAll_0 C e2 (e4.trans ht) hr  hf)

abbrev rX3_asks : Room := { frames := 1, cells := 0, slots := 0, locals := 27 }
def fX3_asks_44 (kf : Int32 → Int32 → Int32 → Int32 → Int32 → Int32 → xwM → Option (xwM)) (x1 : Int32) (x2 : Int32) (x3 : Int32) (x4 : Int32) (x5 : Int32) (x6 : Int32) (M : xwM) : Option (xwM) :=
  kf x1 x2 x3 x4 x5 ((x6 + 1)) M
set_option maxHeartbeats 4000000 in
set_option maxRecDepth 100000 in
theorem kX3_asks_44 {G : xwG} {ad : Nat → Nat} {cs : xmC} (C : xw_C G cX3_asks 7 RX3 431 ad) (hR : xgR G = rX3_asks) (ht : xgt G = xm_tys cs) (hr : (xgM G).sig.returnType = none) {M' : xwM} {kf : Int32 → Int32 → Int32 → Int32 → Int32 → Int32 → xwM → Option (xwM)} (hk : ∀ (yx1 : Int32) (yx2 : Int32) (yx3 : Int32) (yx4 : Int32) (yx5 : Int32) (yx6 : Int32) (M : xwM), kf yx1 yx2 yx3 yx4 yx5 yx6 M = some M' → XV G (xw_qv G 431 ad (xm_ce ad cs M')) 7 0 0 ad cs M 3 [some (.ref (ad 418)), some (.int yx1), some (.int yx2), some (.int yx3), some (.int yx4), some (.int yx5), some (.int yx6)] []) {x1 : Int32} {x2 : Int32} {x3 : Int32} {x4 : Int32} {x5 : Int32} {x6 : Int32} {M : xwM} (hf : fX3_asks_44 kf x1 x2 x3 x4 x5 x6 M = some M') : XV G (xw_qv G 431 ad (xm_ce ad cs M')) 7 0 0 ad cs M 44 [some (.ref (ad 418)), some (.int x1), some (.int x2), some (.int x3), some (.int x4), some (.int x5), some (.int x6)] [] := by
  unfold fX3_asks_44 at hf
  refine xw_iinc C dX3_asks_44 rfl (show _ + Int32.ofInt (1) = _ + (1) from congrArg _ (by decide)) (by decide) ?_
  refine xw_goto (tgt := 3) C dX3_asks_47 (by decide) ?_
  exact xl_sub (xl_c rfl (xl_c rfl (xl_c rfl (xl_c rfl (xl_c rfl (xl_c rfl (xl_c rfl xl_e))))))) (hk _ _ _ _ _ _ _ hf)
def fX3_asks_3 : Nat → Int32 → Int32 → Int32 → Int32 → Int32 → Int32 →  xwM → Option (xwM)
  | 0, _, _, _, _, _, _, _ => none
  | fu + 1, x1, x2, x3, x4, x5, x6, M =>
  if 12 ≤ x6 then
    (some M)
  else
    (ld M 419 144 ((12 * x1) + x6) fun v2 =>
      if v2 ≤ 0 then
        (fX3_asks_44 (fX3_asks_3 fu) x1 x2 x3 x4 x5 x6 M)
      else
        (if x6 = x5 then
            (fX3_asks_44 (fX3_asks_3 fu) x1 x2 x3 x4 x5 x6 M)
          else
            (bnv (fX3_send 2 x1 x6 x2 x3 x4 M) fun M6 =>
              fX3_asks_44 (fX3_asks_3 fu) x1 x2 x3 x4 x5 x6 M6)))
set_option maxHeartbeats 4000000 in
set_option maxRecDepth 100000 in
theorem kX3_asks_3 {G : xwG} {ad : Nat → Nat} {cs : xmC} (C : xw_C G cX3_asks 7 RX3 431 ad) (hR : xgR G = rX3_asks) (ht : xgt G = xm_tys cs) (hr : (xgM G).sig.returnType = none) {M' : xwM} : ∀ (fu : Nat) (x1 : Int32) (x2 : Int32) (x3 : Int32) (x4 : Int32) (x5 : Int32) (x6 : Int32) (M : xwM), fX3_asks_3 fu x1 x2 x3 x4 x5 x6 M = some M' → XV G (xw_qv G 431 ad (xm_ce ad cs M')) 7 0 0 ad cs M 3 [some (.ref (ad 418)), some (.int x1), some (.int x2), some (.int x3), some (.int x4), some (.int x5), some (.int x6)] [] := by
  intro fu
  induction fu with
  | zero =>
    intro x1 x2 x3 x4 x5 x6 M  hf
    cases hf
  | succ fu ih =>
    intro x1 x2 x3 x4 x5 x6 M  hf
    rw [fX3_asks_3] at hf
    refine xw_iload C dX3_asks_3 rfl ?_
    refine xw_bipush (v := 12) C dX3_asks_5 (by decide) ?_
    refine xw_icmp_ge (tgt := 50) C dX3_asks_7 (by decide) (fun c_1 => ?_) (fun c_1 => ?_)
    · have hf := it_t hf c_1
      cases hf
      exact xw_retv C hr dX3_asks_50
    · have hf := it_f hf c_1
      refine xw_aload_n C dX3_asks_10 0 rfl rfl ?_
      refine xv_getf C (by decide) xs_M rfl inB3 1 (by decide) hw_484 rfl dX3_asks_11 ?_
      refine xw_bipush (v := 12) C dX3_asks_14 (by decide) ?_
      refine xw_iload_n C dX3_asks_16 1 rfl rfl ?_
      refine xw_imul C dX3_asks_17 ?_
      refine xw_iload C dX3_asks_18 rfl ?_
      refine xw_iadd C dX3_asks_20 ?_
      obtain ⟨i_3, hf⟩ := ld_s hf
      refine xv_iald C ht (by decide) ((fun _ => xs_419) _) i_3 dX3_asks_21 ?_
      refine xw_if_le (tgt := 44) C dX3_asks_22 (by decide) (fun c_4 => ?_) (fun c_4 => ?_)
      · have hf := it_t hf c_4
        exact xl_sub (xl_c rfl (xl_c rfl (xl_c rfl (xl_c rfl (xl_c rfl (xl_c rfl (xl_c rfl xl_e))))))) (kX3_asks_44 C hR ht hr ih  hf)
      · have hf := it_f hf c_4
        refine xw_iload C dX3_asks_25 rfl ?_
        refine xw_iload C dX3_asks_27 rfl ?_
        refine xw_icmp_eq (tgt := 44) C dX3_asks_29 (by decide) (fun c_5 => ?_) (fun c_5 => ?_)
        · have hf := it_t hf c_5
          exact xl_sub (xl_c rfl (xl_c rfl (xl_c rfl (xl_c rfl (xl_c rfl (xl_c rfl (xl_c rfl xl_e))))))) (kX3_asks_44 C hR ht hr ih  hf)
        · have hf := it_f hf c_5
          refine xw_aload_n C dX3_asks_32 0 rfl rfl ?_
          refine xw_iconst (v := 2) C dX3_asks_33 (by decide) ?_
          refine xw_iload_n C dX3_asks_34 1 rfl rfl ?_
          refine xw_iload C dX3_asks_35 rfl ?_
          refine xw_iload_n C dX3_asks_37 2 rfl rfl ?_
          refine xw_iload_n C dX3_asks_38 3 rfl rfl ?_
          refine xw_iload C dX3_asks_39 rfl ?_
          obtain ⟨M_M6, g_7, hf⟩ := bnv_s hf
          refine xc_Vv C (mX3_send (xgl G) C.2.2.2.2.2.2.2.2.1 ht  g_7) FX3_send hw_558 (by decide) xs_M rfl (by rw [hR]; decide) (by rw [hR]; decide) rfl (Nat.le_of_ble_eq_true rfl) dX3_asks_41 rfl ?_
          exact xl_sub (xl_c rfl (xl_c rfl (xl_c rfl (xl_c rfl (xl_c rfl (xl_c rfl (xl_c rfl xl_e))))))) (kX3_asks_44 C hR ht hr ih  hf)
def fX3_asks (x1 : Int32) (x2 : Int32) (x3 : Int32) (x4 : Int32) (x5 : Int32) (M : xwM) : Option (xwM) :=
  fX3_asks_3 2001 x1 x2 x3 x4 x5 0 M
set_option maxHeartbeats 4000000 in
set_option maxRecDepth 100000 in
theorem kX3_asks_0 {G : xwG} {ad : Nat → Nat} {cs : xmC} (C : xw_C G cX3_asks 7 RX3 431 ad) (hR : xgR G = rX3_asks) (ht : xgt G = xm_tys cs) (hr : (xgM G).sig.returnType = none) {M' : xwM} {x1 : Int32} {x2 : Int32} {x3 : Int32} {x4 : Int32} {x5 : Int32} {M : xwM} (hf : fX3_asks x1 x2 x3 x4 x5 M = some M') : XV G (xw_qv G 431 ad (xm_ce ad cs M')) 7 0 0 ad cs M 0 [some (.ref (ad 418)), some (.int x1), some (.int x2), some (.int x3), some (.int x4), some (.int x5), none] [] := by
  unfold fX3_asks at hf
  refine xw_iconst (v := 0) C dX3_asks_0 (by decide) ?_
  refine xw_istore C dX3_asks_1 (by decide) ?_
  exact xl_sub (xl_c rfl (xl_c rfl (xl_c rfl (xl_c rfl (xl_c rfl (xl_c rfl (xl_c rfl xl_e))))))) (kX3_asks_3 C hR ht hr 2001 _ _ _ _ _ _ _ hf)
theorem mX3_asks (l : Launch) {D : va_G} {tys : List (ClassId × FieldType)} {base : Nat} {ad : Nat → Nat} {cs : xmC} (hJ : xw_J 431 ad base) (ht : tys = xm_tys cs) {x1 : Int32} {x2 : Int32} {x3 : Int32} {x4 : Int32} {x5 : Int32} {M M' : xwM} (hf : fX3_asks x1 x2 x3 x4 x5 M = some M') : xk_v l yX3_asks cX3_asks 7 none rX3_asks D tys base 431 ad [.ref (ad 418), .int x1, .int x2, .int x3, .int x4, .int x5] (xm_ce ad cs M) (xm_ce ad cs M') :=
  xk_ofv 1 (by decide) hJ (List.forall_mem_cons.mpr ⟨rfl, List.forall_mem_cons.mpr ⟨rfl, List.forall_mem_cons.mpr ⟨rfl, List.forall_mem_cons.mpr ⟨rfl, List.forall_mem_cons.mpr ⟨rfl, List.forall_mem_cons.mpr ⟨rfl, List.forall_mem_nil _⟩⟩⟩⟩⟩⟩) (Nat.le_of_ble_eq_true rfl) (fun G e1 e2 e3 e4 e5 hr C => kX3_asks_0 C e2 (e4.trans ht) hr  hf)

abbrev rX3_wanted : Room := { frames := 0, cells := 0, slots := 0, locals := 0 }
def fX3_wanted_32 (s0 : Int32) (M : xwM) : Option (Int32 × xwM) :=
  some (s0, M)
set_option maxHeartbeats 4000000 in
set_option maxRecDepth 100000 in
theorem kX3_wanted_32 {G : xwG} {ad : Nat → Nat} {cs : xmC} (C : xw_C G cX3_wanted 4 RX3 431 ad) (hR : xgR G = rX3_wanted) (ht : xgt G = xm_tys cs) (hr : (xgM G).sig.returnType = (some .int)) {M' : xwM} {o : Int32} {s0 : Int32} {M : xwM} (hf : fX3_wanted_32 s0 M = some (o, M')) : XV G (xw_qi G 431 ad (xm_ce ad cs M') o) 4 0 0 ad cs M 32 [none, none, none, none] [.int s0] := by
  unfold fX3_wanted_32 at hf
  cases hf
  exact xw_reti C hr dX3_wanted_32
def fX3_wanted (x1 : Int32) (x2 : Int32) (M : xwM) : Option (Int32 × xwM) :=
  ld M 422 144 ((12 * x1) + x2) fun v1 =>
  if v1 = (-1) then
    (fX3_wanted_32 0 M)
  else
    (ld M 421 144 ((12 * x1) + x2) fun v4 =>
      fX3_wanted_32 (((v4 + 1) &&& 65535)) M)
set_option maxHeartbeats 4000000 in
set_option maxRecDepth 100000 in
theorem kX3_wanted_0 {G : xwG} {ad : Nat → Nat} {cs : xmC} (C : xw_C G cX3_wanted 4 RX3 431 ad) (hR : xgR G = rX3_wanted) (ht : xgt G = xm_tys cs) (hr : (xgM G).sig.returnType = (some .int)) {M' : xwM} {o : Int32} {x1 : Int32} {x2 : Int32} {M : xwM} (hf : fX3_wanted x1 x2 M = some (o, M')) : XV G (xw_qi G 431 ad (xm_ce ad cs M') o) 4 0 0 ad cs M 0 [some (.ref (ad 418)), some (.int x1), some (.int x2), none] [] := by
  unfold fX3_wanted at hf
  refine xw_bipush (v := 12) C dX3_wanted_0 (by decide) ?_
  refine xw_iload_n C dX3_wanted_2 1 rfl rfl ?_
  refine xw_imul C dX3_wanted_3 ?_
  refine xw_iload_n C dX3_wanted_4 2 rfl rfl ?_
  refine xw_iadd C dX3_wanted_5 ?_
  refine xw_istore_n C dX3_wanted_6 3 rfl (by decide) ?_
  refine xw_aload_n C dX3_wanted_7 0 rfl rfl ?_
  refine xv_getf C (by decide) xs_M rfl inB3 5 (by decide) hw_488 rfl dX3_wanted_8 ?_
  refine xw_iload_n C dX3_wanted_11 3 rfl rfl ?_
  obtain ⟨i_2, hf⟩ := ld_s hf
  refine xv_iald C ht (by decide) ((fun _ => xs_422) _) i_2 dX3_wanted_12 ?_
  refine xw_iconst (v := -1) C dX3_wanted_13 (by decide) ?_
  refine xw_icmp_ne (tgt := 21) C dX3_wanted_14 (by decide) (fun c_3 => ?_) (fun c_3 => ?_)
  · have hf := it_f hf c_3
    refine xw_aload_n C dX3_wanted_21 0 rfl rfl ?_
    refine xv_getf C (by decide) xs_M rfl inB3 4 (by decide) hw_487 rfl dX3_wanted_22 ?_
    refine xw_iload_n C dX3_wanted_25 3 rfl rfl ?_
    obtain ⟨i_5, hf⟩ := ld_s hf
    refine xv_iald C ht (by decide) ((fun _ => xs_421) _) i_5 dX3_wanted_26 ?_
    refine xw_iconst (v := 1) C dX3_wanted_27 (by decide) ?_
    refine xw_iadd C dX3_wanted_28 ?_
    refine xw_ldc C hw_562 dX3_wanted_29 ?_
    refine xw_iand C dX3_wanted_31 ?_
    exact xl_sub (xl_n (xl_n (xl_n (xl_n xl_e)))) (kX3_wanted_32 C hR ht hr  hf)
  · have hf := it_t hf c_3
    refine xw_iconst (v := 0) C dX3_wanted_17 (by decide) ?_
    refine xw_goto (tgt := 32) C dX3_wanted_18 (by decide) ?_
    exact xl_sub (xl_n (xl_n (xl_n (xl_n xl_e)))) (kX3_wanted_32 C hR ht hr  hf)
theorem mX3_wanted (l : Launch) {D : va_G} {tys : List (ClassId × FieldType)} {base : Nat} {ad : Nat → Nat} {cs : xmC} (hJ : xw_J 431 ad base) (ht : tys = xm_tys cs) {x1 : Int32} {x2 : Int32} {M M' : xwM} {o : Int32} (hf : fX3_wanted x1 x2 M = some (o, M')) : xk_i l yX3_wanted cX3_wanted 4 (some .int) rX3_wanted D tys base 431 ad [.ref (ad 418), .int x1, .int x2] (xm_ce ad cs M) (xm_ce ad cs M') o :=
  xk_ofi 1 (by decide) hJ (List.forall_mem_cons.mpr ⟨rfl, List.forall_mem_cons.mpr ⟨rfl, List.forall_mem_cons.mpr ⟨rfl, List.forall_mem_nil _⟩⟩⟩) (Nat.le_of_ble_eq_true rfl) (fun G e1 e2 e3 e4 e5 hr C => kX3_wanted_0 C e2 (e4.trans ht) hr  hf)

abbrev rX3_isGood : Room := { frames := 1, cells := 0, slots := 0, locals := 22 }
def fX3_isGood_73 (s0 : Int32) (M : xwM) : Option (Int32 × xwM) :=
  if s0 = 0 ∨ s0 = 1 then some (s0, M) else none
set_option maxHeartbeats 4000000 in
set_option maxRecDepth 100000 in
theorem kX3_isGood_73 {G : xwG} {ad : Nat → Nat} {cs : xmC} (C : xw_C G cX3_isGood 6 RX3 431 ad) (hR : xgR G = rX3_isGood) (ht : xgt G = xm_tys cs) (hr : (xgM G).sig.returnType = (some .boolean)) {M' : xwM} {o : Int32} {s0 : Int32} {M : xwM} (hf : fX3_isGood_73 s0 M = some (o, M')) : XV G (xw_qi G 431 ad (xm_ce ad cs M') o) 6 0 0 ad cs M 73 [none, none, none, none, none, none] [.int s0] := by
  unfold fX3_isGood_73 at hf
  obtain ⟨hz, hf⟩ := xl_z hf
  cases hf
  exact xw_retz C hr hz dX3_isGood_73
def fX3_isGood_68 (M : xwM) : Option (Int32 × xwM) :=
  fX3_isGood_73 1 M
set_option maxHeartbeats 4000000 in
set_option maxRecDepth 100000 in
theorem kX3_isGood_68 {G : xwG} {ad : Nat → Nat} {cs : xmC} (C : xw_C G cX3_isGood 6 RX3 431 ad) (hR : xgR G = rX3_isGood) (ht : xgt G = xm_tys cs) (hr : (xgM G).sig.returnType = (some .boolean)) {M' : xwM} {o : Int32} {M : xwM} (hf : fX3_isGood_68  M = some (o, M')) : XV G (xw_qi G 431 ad (xm_ce ad cs M') o) 6 0 0 ad cs M 68 [none, none, none, none, none, none] [] := by
  unfold fX3_isGood_68 at hf
  refine xw_iconst (v := 1) C dX3_isGood_68 (by decide) ?_
  refine xw_goto (tgt := 73) C dX3_isGood_69 (by decide) ?_
  exact xl_sub (xl_n (xl_n (xl_n (xl_n (xl_n (xl_n xl_e)))))) (kX3_isGood_73 C hR ht hr  hf)
def fX3_isGood_72 (M : xwM) : Option (Int32 × xwM) :=
  fX3_isGood_73 0 M
set_option maxHeartbeats 4000000 in
set_option maxRecDepth 100000 in
theorem kX3_isGood_72 {G : xwG} {ad : Nat → Nat} {cs : xmC} (C : xw_C G cX3_isGood 6 RX3 431 ad) (hR : xgR G = rX3_isGood) (ht : xgt G = xm_tys cs) (hr : (xgM G).sig.returnType = (some .boolean)) {M' : xwM} {o : Int32} {M : xwM} (hf : fX3_isGood_72  M = some (o, M')) : XV G (xw_qi G 431 ad (xm_ce ad cs M') o) 6 0 0 ad cs M 72 [none, none, none, none, none, none] [] := by
  unfold fX3_isGood_72 at hf
  refine xw_iconst (v := 0) C dX3_isGood_72 (by decide) ?_
  exact xl_sub (xl_n (xl_n (xl_n (xl_n (xl_n (xl_n xl_e)))))) (kX3_isGood_73 C hR ht hr  hf)
def fX3_isGood (x1 : Int32) (x2 : Int32) (x3 : Int32) (x4 : Int32) (M : xwM) : Option (Int32 × xwM) :=
  if x4 < 0 then
    (fX3_isGood_72  M)
  else
    (if x4 = 65535 then
        (fX3_isGood_72  M)
      else
        (ld M 422 144 ((12 * x1) + x2) fun v3 =>
          if v3 = (-1) then
            (fX3_isGood_68  M)
          else
            (ld M 421 144 ((12 * x1) + x2) fun v6 =>
              bni (fX3_newer x3 v6 M) fun v8 M9 =>
              if v8 = 0 then
                (ld M9 421 144 ((12 * x1) + x2) fun v12 =>
                  if x3 = v12 then
                    (ld M9 422 144 ((12 * x1) + x2) fun v15 =>
                      if v15 ≤ x4 then
                        (fX3_isGood_72  M9)
                      else
                        (fX3_isGood_68  M9))
                  else
                    (fX3_isGood_72  M9))
              else
                (fX3_isGood_68  M9))))
set_option maxHeartbeats 4000000 in
set_option maxRecDepth 100000 in
theorem kX3_isGood_0 {G : xwG} {ad : Nat → Nat} {cs : xmC} (C : xw_C G cX3_isGood 6 RX3 431 ad) (hR : xgR G = rX3_isGood) (ht : xgt G = xm_tys cs) (hr : (xgM G).sig.returnType = (some .boolean)) {M' : xwM} {o : Int32} {x1 : Int32} {x2 : Int32} {x3 : Int32} {x4 : Int32} {M : xwM} (hf : fX3_isGood x1 x2 x3 x4 M = some (o, M')) : XV G (xw_qi G 431 ad (xm_ce ad cs M') o) 6 0 0 ad cs M 0 [some (.ref (ad 418)), some (.int x1), some (.int x2), some (.int x3), some (.int x4), none] [] := by
  unfold fX3_isGood at hf
  refine xw_bipush (v := 12) C dX3_isGood_0 (by decide) ?_
  refine xw_iload_n C dX3_isGood_2 1 rfl rfl ?_
  refine xw_imul C dX3_isGood_3 ?_
  refine xw_iload_n C dX3_isGood_4 2 rfl rfl ?_
  refine xw_iadd C dX3_isGood_5 ?_
  refine xw_istore C dX3_isGood_6 (by decide) ?_
  refine xw_iload C dX3_isGood_8 rfl ?_
  refine xw_if_lt (tgt := 72) C dX3_isGood_10 (by decide) (fun c_1 => ?_) (fun c_1 => ?_)
  · have hf := it_t hf c_1
    exact xl_sub (xl_n (xl_n (xl_n (xl_n (xl_n (xl_n xl_e)))))) (kX3_isGood_72 C hR ht hr  hf)
  · have hf := it_f hf c_1
    refine xw_iload C dX3_isGood_13 rfl ?_
    refine xw_ldc C hw_562 dX3_isGood_15 ?_
    refine xw_icmp_eq (tgt := 72) C dX3_isGood_17 (by decide) (fun c_2 => ?_) (fun c_2 => ?_)
    · have hf := it_t hf c_2
      exact xl_sub (xl_n (xl_n (xl_n (xl_n (xl_n (xl_n xl_e)))))) (kX3_isGood_72 C hR ht hr  hf)
    · have hf := it_f hf c_2
      refine xw_aload_n C dX3_isGood_20 0 rfl rfl ?_
      refine xv_getf C (by decide) xs_M rfl inB3 5 (by decide) hw_488 rfl dX3_isGood_21 ?_
      refine xw_iload C dX3_isGood_24 rfl ?_
      obtain ⟨i_4, hf⟩ := ld_s hf
      refine xv_iald C ht (by decide) ((fun _ => xs_422) _) i_4 dX3_isGood_26 ?_
      refine xw_iconst (v := -1) C dX3_isGood_27 (by decide) ?_
      refine xw_icmp_eq (tgt := 68) C dX3_isGood_28 (by decide) (fun c_5 => ?_) (fun c_5 => ?_)
      · have hf := it_t hf c_5
        exact xl_sub (xl_n (xl_n (xl_n (xl_n (xl_n (xl_n xl_e)))))) (kX3_isGood_68 C hR ht hr  hf)
      · have hf := it_f hf c_5
        refine xw_iload_n C dX3_isGood_31 3 rfl rfl ?_
        refine xw_aload_n C dX3_isGood_32 0 rfl rfl ?_
        refine xv_getf C (by decide) xs_M rfl inB3 4 (by decide) hw_487 rfl dX3_isGood_33 ?_
        refine xw_iload C dX3_isGood_36 rfl ?_
        obtain ⟨i_7, hf⟩ := ld_s hf
        refine xv_iald C ht (by decide) ((fun _ => xs_421) _) i_7 dX3_isGood_38 ?_
        obtain ⟨r_v8, M_M9, g_10, hf⟩ := bni_s hf
        refine xc_Si C (mX3_newer (xgl G) C.2.2.2.2.2.2.2.2.1 ht  g_10) FX3_newer hw_563 (by rw [hR]; decide) (by rw [hR]; decide) rfl (Nat.le_of_ble_eq_true rfl) dX3_isGood_39 rfl ?_
        refine xw_if_ne (tgt := 68) C dX3_isGood_42 (by decide) (fun c_11 => ?_) (fun c_11 => ?_)
        · have hf := it_f hf c_11
          exact xl_sub (xl_n (xl_n (xl_n (xl_n (xl_n (xl_n xl_e)))))) (kX3_isGood_68 C hR ht hr  hf)
        · have hf := it_t hf c_11
          refine xw_iload_n C dX3_isGood_45 3 rfl rfl ?_
          refine xw_aload_n C dX3_isGood_46 0 rfl rfl ?_
          refine xv_getf C (by decide) xs_M rfl inB3 4 (by decide) hw_487 rfl dX3_isGood_47 ?_
          refine xw_iload C dX3_isGood_50 rfl ?_
          obtain ⟨i_13, hf⟩ := ld_s hf
          refine xv_iald C ht (by decide) ((fun _ => xs_421) _) i_13 dX3_isGood_52 ?_
          refine xw_icmp_ne (tgt := 72) C dX3_isGood_53 (by decide) (fun c_14 => ?_) (fun c_14 => ?_)
          · have hf := it_f hf c_14
            exact xl_sub (xl_n (xl_n (xl_n (xl_n (xl_n (xl_n xl_e)))))) (kX3_isGood_72 C hR ht hr  hf)
          · have hf := it_t hf c_14
            refine xw_iload C dX3_isGood_56 rfl ?_
            refine xw_aload_n C dX3_isGood_58 0 rfl rfl ?_
            refine xv_getf C (by decide) xs_M rfl inB3 5 (by decide) hw_488 rfl dX3_isGood_59 ?_
            refine xw_iload C dX3_isGood_62 rfl ?_
            obtain ⟨i_16, hf⟩ := ld_s hf
            refine xv_iald C ht (by decide) ((fun _ => xs_422) _) i_16 dX3_isGood_64 ?_
            refine xw_icmp_ge (tgt := 72) C dX3_isGood_65 (by decide) (fun c_17 => ?_) (fun c_17 => ?_)
            · have hf := it_t hf c_17
              exact xl_sub (xl_n (xl_n (xl_n (xl_n (xl_n (xl_n xl_e)))))) (kX3_isGood_72 C hR ht hr  hf)
            · have hf := it_f hf c_17
              exact xl_sub (xl_n (xl_n (xl_n (xl_n (xl_n (xl_n xl_e)))))) (kX3_isGood_68 C hR ht hr  hf)
theorem mX3_isGood (l : Launch) {D : va_G} {tys : List (ClassId × FieldType)} {base : Nat} {ad : Nat → Nat} {cs : xmC} (hJ : xw_J 431 ad base) (ht : tys = xm_tys cs) {x1 : Int32} {x2 : Int32} {x3 : Int32} {x4 : Int32} {M M' : xwM} {o : Int32} (hf : fX3_isGood x1 x2 x3 x4 M = some (o, M')) : xk_i l yX3_isGood cX3_isGood 6 (some .boolean) rX3_isGood D tys base 431 ad [.ref (ad 418), .int x1, .int x2, .int x3, .int x4] (xm_ce ad cs M) (xm_ce ad cs M') o :=
  xk_ofi 1 (by decide) hJ (List.forall_mem_cons.mpr ⟨rfl, List.forall_mem_cons.mpr ⟨rfl, List.forall_mem_cons.mpr ⟨rfl, List.forall_mem_cons.mpr ⟨rfl, List.forall_mem_cons.mpr ⟨rfl, List.forall_mem_nil _⟩⟩⟩⟩⟩) (Nat.le_of_ble_eq_true rfl) (fun G e1 e2 e3 e4 e5 hr C => kX3_isGood_0 C e2 (e4.trans ht) hr  hf)

abbrev rX3_by : Room := { frames := 2, cells := 0, slots := 0, locals := 47 }
def fX3_by_55 (M : xwM) : Option (Int32 × xwM) :=
  some (65535, M)
set_option maxHeartbeats 4000000 in
set_option maxRecDepth 100000 in
theorem kX3_by_55 {G : xwG} {ad : Nat → Nat} {cs : xmC} (C : xw_C G cX3_by 6 RX3 431 ad) (hR : xgR G = rX3_by) (ht : xgt G = xm_tys cs) (hr : (xgM G).sig.returnType = (some .int)) {M' : xwM} {o : Int32} {M : xwM} (hf : fX3_by_55  M = some (o, M')) : XV G (xw_qi G 431 ad (xm_ce ad cs M') o) 6 0 0 ad cs M 55 [none, none, none, none, none, none] [] := by
  unfold fX3_by_55 at hf
  refine xw_ldc C hw_562 dX3_by_55 ?_
  cases hf
  exact xw_reti C hr dX3_by_57
def fX3_by_88 (s0 : Int32) (M : xwM) : Option (Int32 × xwM) :=
  some (s0, M)
set_option maxHeartbeats 4000000 in
set_option maxRecDepth 100000 in
theorem kX3_by_88 {G : xwG} {ad : Nat → Nat} {cs : xmC} (C : xw_C G cX3_by 6 RX3 431 ad) (hR : xgR G = rX3_by) (ht : xgt G = xm_tys cs) (hr : (xgM G).sig.returnType = (some .int)) {M' : xwM} {o : Int32} {s0 : Int32} {M : xwM} (hf : fX3_by_88 s0 M = some (o, M')) : XV G (xw_qi G 431 ad (xm_ce ad cs M') o) 6 0 0 ad cs M 88 [none, none, none, none, none, none] [.int s0] := by
  unfold fX3_by_88 at hf
  cases hf
  exact xw_reti C hr dX3_by_88
def fX3_by (x1 : Int32) (x2 : Int32) (x3 : Int32) (M : xwM) : Option (Int32 × xwM) :=
  ld M 419 144 ((12 * x1) + x2) fun v1 =>
  if v1 = 0 then
    (fX3_by_55  M)
  else
    (ld M 427 1728 (((144 * x1) + (12 * x2)) + x3) fun v4 =>
      ld M 428 1728 (((144 * x1) + (12 * x2)) + x3) fun v6 =>
      bni (fX3_isGood x1 x3 v4 v6 M) fun v8 M9 =>
      if v8 = 0 then
        (fX3_by_55  M9)
      else
        (ld M9 428 1728 (((144 * x1) + (12 * x2)) + x3) fun v12 =>
          if (v12 + v1) ≤ 60000 then
            (ld M9 428 1728 (((144 * x1) + (12 * x2)) + x3) fun v15 =>
              fX3_by_88 ((v15 + v1)) M9)
          else
            (fX3_by_88 65535 M9)))
set_option maxHeartbeats 4000000 in
set_option maxRecDepth 100000 in
theorem kX3_by_0 {G : xwG} {ad : Nat → Nat} {cs : xmC} (C : xw_C G cX3_by 6 RX3 431 ad) (hR : xgR G = rX3_by) (ht : xgt G = xm_tys cs) (hr : (xgM G).sig.returnType = (some .int)) {M' : xwM} {o : Int32} {x1 : Int32} {x2 : Int32} {x3 : Int32} {M : xwM} (hf : fX3_by x1 x2 x3 M = some (o, M')) : XV G (xw_qi G 431 ad (xm_ce ad cs M') o) 6 0 0 ad cs M 0 [some (.ref (ad 418)), some (.int x1), some (.int x2), some (.int x3), none, none] [] := by
  unfold fX3_by at hf
  refine xw_sipush (v := 144) C dX3_by_0 (by decide) ?_
  refine xw_iload_n C dX3_by_3 1 rfl rfl ?_
  refine xw_imul C dX3_by_4 ?_
  refine xw_bipush (v := 12) C dX3_by_5 (by decide) ?_
  refine xw_iload_n C dX3_by_7 2 rfl rfl ?_
  refine xw_imul C dX3_by_8 ?_
  refine xw_iadd C dX3_by_9 ?_
  refine xw_iload_n C dX3_by_10 3 rfl rfl ?_
  refine xw_iadd C dX3_by_11 ?_
  refine xw_istore C dX3_by_12 (by decide) ?_
  refine xw_aload_n C dX3_by_14 0 rfl rfl ?_
  refine xv_getf C (by decide) xs_M rfl inB3 1 (by decide) hw_484 rfl dX3_by_15 ?_
  refine xw_bipush (v := 12) C dX3_by_18 (by decide) ?_
  refine xw_iload_n C dX3_by_20 1 rfl rfl ?_
  refine xw_imul C dX3_by_21 ?_
  refine xw_iload_n C dX3_by_22 2 rfl rfl ?_
  refine xw_iadd C dX3_by_23 ?_
  obtain ⟨i_2, hf⟩ := ld_s hf
  refine xv_iald C ht (by decide) ((fun _ => xs_419) _) i_2 dX3_by_24 ?_
  refine xw_istore C dX3_by_25 (by decide) ?_
  refine xw_iload C dX3_by_27 rfl ?_
  refine xw_if_eq (tgt := 55) C dX3_by_29 (by decide) (fun c_3 => ?_) (fun c_3 => ?_)
  · have hf := it_t hf c_3
    exact xl_sub (xl_n (xl_n (xl_n (xl_n (xl_n (xl_n xl_e)))))) (kX3_by_55 C hR ht hr  hf)
  · have hf := it_f hf c_3
    refine xw_aload_n C dX3_by_32 0 rfl rfl ?_
    refine xw_iload_n C dX3_by_33 1 rfl rfl ?_
    refine xw_iload_n C dX3_by_34 3 rfl rfl ?_
    refine xw_aload_n C dX3_by_35 0 rfl rfl ?_
    refine xv_getf C (by decide) xs_M rfl inB3 10 (by decide) hw_493 rfl dX3_by_36 ?_
    refine xw_iload C dX3_by_39 rfl ?_
    obtain ⟨i_5, hf⟩ := ld_s hf
    refine xv_iald C ht (by decide) ((fun _ => xs_427) _) i_5 dX3_by_41 ?_
    refine xw_aload_n C dX3_by_42 0 rfl rfl ?_
    refine xv_getf C (by decide) xs_M rfl inB3 11 (by decide) hw_494 rfl dX3_by_43 ?_
    refine xw_iload C dX3_by_46 rfl ?_
    obtain ⟨i_7, hf⟩ := ld_s hf
    refine xv_iald C ht (by decide) ((fun _ => xs_428) _) i_7 dX3_by_48 ?_
    obtain ⟨r_v8, M_M9, g_10, hf⟩ := bni_s hf
    refine xc_Vi C (mX3_isGood (xgl G) C.2.2.2.2.2.2.2.2.1 ht  g_10) FX3_isGood hw_578 (by decide) xs_M rfl (by rw [hR]; decide) (by rw [hR]; decide) rfl (Nat.le_of_ble_eq_true rfl) dX3_by_49 rfl ?_
    refine xw_if_ne (tgt := 58) C dX3_by_52 (by decide) (fun c_11 => ?_) (fun c_11 => ?_)
    · have hf := it_f hf c_11
      refine xw_aload_n C dX3_by_58 0 rfl rfl ?_
      refine xv_getf C (by decide) xs_M rfl inB3 11 (by decide) hw_494 rfl dX3_by_59 ?_
      refine xw_iload C dX3_by_62 rfl ?_
      obtain ⟨i_13, hf⟩ := ld_s hf
      refine xv_iald C ht (by decide) ((fun _ => xs_428) _) i_13 dX3_by_64 ?_
      refine xw_iload C dX3_by_65 rfl ?_
      refine xw_iadd C dX3_by_67 ?_
      refine xw_ldc C hw_582 dX3_by_68 ?_
      refine xw_icmp_le (tgt := 78) C dX3_by_70 (by decide) (fun c_14 => ?_) (fun c_14 => ?_)
      · have hf := it_t hf c_14
        refine xw_aload_n C dX3_by_78 0 rfl rfl ?_
        refine xv_getf C (by decide) xs_M rfl inB3 11 (by decide) hw_494 rfl dX3_by_79 ?_
        refine xw_iload C dX3_by_82 rfl ?_
        obtain ⟨i_16, hf⟩ := ld_s hf
        refine xv_iald C ht (by decide) ((fun _ => xs_428) _) i_16 dX3_by_84 ?_
        refine xw_iload C dX3_by_85 rfl ?_
        refine xw_iadd C dX3_by_87 ?_
        exact xl_sub (xl_n (xl_n (xl_n (xl_n (xl_n (xl_n xl_e)))))) (kX3_by_88 C hR ht hr  hf)
      · have hf := it_f hf c_14
        refine xw_ldc C hw_562 dX3_by_73 ?_
        refine xw_goto (tgt := 88) C dX3_by_75 (by decide) ?_
        exact xl_sub (xl_n (xl_n (xl_n (xl_n (xl_n (xl_n xl_e)))))) (kX3_by_88 C hR ht hr  hf)
    · have hf := it_t hf c_11
      exact xl_sub (xl_n (xl_n (xl_n (xl_n (xl_n (xl_n xl_e)))))) (kX3_by_55 C hR ht hr  hf)
theorem mX3_by (l : Launch) {D : va_G} {tys : List (ClassId × FieldType)} {base : Nat} {ad : Nat → Nat} {cs : xmC} (hJ : xw_J 431 ad base) (ht : tys = xm_tys cs) {x1 : Int32} {x2 : Int32} {x3 : Int32} {M M' : xwM} {o : Int32} (hf : fX3_by x1 x2 x3 M = some (o, M')) : xk_i l yX3_by cX3_by 6 (some .int) rX3_by D tys base 431 ad [.ref (ad 418), .int x1, .int x2, .int x3] (xm_ce ad cs M) (xm_ce ad cs M') o :=
  xk_ofi 2 (by decide) hJ (List.forall_mem_cons.mpr ⟨rfl, List.forall_mem_cons.mpr ⟨rfl, List.forall_mem_cons.mpr ⟨rfl, List.forall_mem_cons.mpr ⟨rfl, List.forall_mem_nil _⟩⟩⟩⟩) (Nat.le_of_ble_eq_true rfl) (fun G e1 e2 e3 e4 e5 hr C => kX3_by_0 C e2 (e4.trans ht) hr  hf)

abbrev rX3_chooses : Room := { frames := 3, cells := 0, slots := 0, locals := 76 }
def fX3_chooses_47 (kf : Int32 → Int32 → Int32 → Int32 → Int32 → xwM → Option (xwM)) (x1 : Int32) (x2 : Int32) (x3 : Int32) (x5 : Int32) (s0 : Int32) (M : xwM) : Option (xwM) :=
  kf x1 x2 x3 s0 ((x5 + 1)) M
set_option maxHeartbeats 4000000 in
set_option maxRecDepth 100000 in
theorem kX3_chooses_47 {G : xwG} {ad : Nat → Nat} {cs : xmC} (C : xw_C G cX3_chooses 8 RX3 431 ad) (hR : xgR G = rX3_chooses) (ht : xgt G = xm_tys cs) (hr : (xgM G).sig.returnType = none) {M' : xwM} {kf : Int32 → Int32 → Int32 → Int32 → Int32 → xwM → Option (xwM)} (hk : ∀ (yx1 : Int32) (yx2 : Int32) (yx3 : Int32) (yx4 : Int32) (yx5 : Int32) (M : xwM), kf yx1 yx2 yx3 yx4 yx5 M = some M' → XV G (xw_qv G 431 ad (xm_ce ad cs M')) 8 0 0 ad cs M 14 [some (.ref (ad 418)), some (.int yx1), some (.int yx2), some (.int yx3), some (.int yx4), some (.int yx5), none, none] []) {x1 : Int32} {x2 : Int32} {x3 : Int32} {x5 : Int32} {s0 : Int32} {M : xwM} (hf : fX3_chooses_47 kf x1 x2 x3 x5 s0 M = some M') : XV G (xw_qv G 431 ad (xm_ce ad cs M')) 8 0 0 ad cs M 47 [some (.ref (ad 418)), some (.int x1), some (.int x2), some (.int x3), none, some (.int x5), none, none] [.int s0] := by
  unfold fX3_chooses_47 at hf
  refine xw_istore C dX3_chooses_47 (by decide) ?_
  refine xw_iinc C dX3_chooses_49 rfl (show _ + Int32.ofInt (1) = _ + (1) from congrArg _ (by decide)) (by decide) ?_
  refine xw_goto (tgt := 14) C dX3_chooses_52 (by decide) ?_
  exact xl_sub (xl_c rfl (xl_c rfl (xl_c rfl (xl_c rfl (xl_c rfl (xl_c rfl (xl_n (xl_n xl_e)))))))) (hk _ _ _ _ _ _ hf)
def fX3_chooses_94 (kf : Int32 → Int32 → Int32 → Int32 → Int32 → Int32 → xwM → Option (xwM)) (x1 : Int32) (x2 : Int32) (x3 : Int32) (x4 : Int32) (x6 : Int32) (s0 : Int32) (M : xwM) : Option (xwM) :=
  kf x1 x2 x3 x4 s0 ((x6 + (-1))) M
set_option maxHeartbeats 4000000 in
set_option maxRecDepth 100000 in
theorem kX3_chooses_94 {G : xwG} {ad : Nat → Nat} {cs : xmC} (C : xw_C G cX3_chooses 8 RX3 431 ad) (hR : xgR G = rX3_chooses) (ht : xgt G = xm_tys cs) (hr : (xgM G).sig.returnType = none) {M' : xwM} {kf : Int32 → Int32 → Int32 → Int32 → Int32 → Int32 → xwM → Option (xwM)} (hk : ∀ (yx1 : Int32) (yx2 : Int32) (yx3 : Int32) (yx4 : Int32) (yx5 : Int32) (yx6 : Int32) (M : xwM), kf yx1 yx2 yx3 yx4 yx5 yx6 M = some M' → XV G (xw_qv G 431 ad (xm_ce ad cs M')) 8 0 0 ad cs M 62 [some (.ref (ad 418)), some (.int yx1), some (.int yx2), some (.int yx3), some (.int yx4), some (.int yx5), some (.int yx6), none] []) {x1 : Int32} {x2 : Int32} {x3 : Int32} {x4 : Int32} {x6 : Int32} {s0 : Int32} {M : xwM} (hf : fX3_chooses_94 kf x1 x2 x3 x4 x6 s0 M = some M') : XV G (xw_qv G 431 ad (xm_ce ad cs M')) 8 0 0 ad cs M 94 [some (.ref (ad 418)), some (.int x1), some (.int x2), some (.int x3), some (.int x4), none, some (.int x6), none] [.int s0] := by
  unfold fX3_chooses_94 at hf
  refine xw_istore C dX3_chooses_94 (by decide) ?_
  refine xw_iinc C dX3_chooses_96 rfl (show _ + Int32.ofInt (-1) = _ + (-1) from congrArg _ (by decide)) (by decide) ?_
  refine xw_goto (tgt := 62) C dX3_chooses_99 (by decide) ?_
  exact xl_sub (xl_c rfl (xl_c rfl (xl_c rfl (xl_c rfl (xl_c rfl (xl_c rfl (xl_c rfl (xl_n xl_e)))))))) (hk _ _ _ _ _ _ _ hf)
def fX3_chooses_278 (M : xwM) : Option (xwM) :=
  some M
set_option maxHeartbeats 4000000 in
set_option maxRecDepth 100000 in
theorem kX3_chooses_278 {G : xwG} {ad : Nat → Nat} {cs : xmC} (C : xw_C G cX3_chooses 8 RX3 431 ad) (hR : xgR G = rX3_chooses) (ht : xgt G = xm_tys cs) (hr : (xgM G).sig.returnType = none) {M' : xwM} {M : xwM} (hf : fX3_chooses_278  M = some M') : XV G (xw_qv G 431 ad (xm_ce ad cs M')) 8 0 0 ad cs M 278 [none, none, none, none, none, none, none, none] [] := by
  unfold fX3_chooses_278 at hf
  cases hf
  exact xw_retv C hr dX3_chooses_278
def fX3_chooses_227 (x1 : Int32) (x2 : Int32) (x3 : Int32) (x5 : Int32) (x6 : Int32) (x7 : Int32) (M : xwM) : Option (xwM) :=
  sto M 423 144 x3 x5 fun M40 =>
  sto M40 424 144 x3 x6 fun M42 =>
  sto M42 425 144 x3 x7 fun M44 =>
  bnv (fX3_tellsAll x1 x2 M44) fun M46 =>
  if x5 = (-1) then
    (bni (fX3_wanted x1 x2 M46) fun v49 M50 =>
      bnv (fX3_asks x1 x2 v49 8 (-1) M50) fun M52 =>
      fX3_chooses_278  M52)
  else
    (fX3_chooses_278  M46)
set_option maxHeartbeats 4000000 in
set_option maxRecDepth 100000 in
theorem kX3_chooses_227 {G : xwG} {ad : Nat → Nat} {cs : xmC} (C : xw_C G cX3_chooses 8 RX3 431 ad) (hR : xgR G = rX3_chooses) (ht : xgt G = xm_tys cs) (hr : (xgM G).sig.returnType = none) {M' : xwM} {x1 : Int32} {x2 : Int32} {x3 : Int32} {x5 : Int32} {x6 : Int32} {x7 : Int32} {M : xwM} (hf : fX3_chooses_227 x1 x2 x3 x5 x6 x7 M = some M') : XV G (xw_qv G 431 ad (xm_ce ad cs M')) 8 0 0 ad cs M 227 [some (.ref (ad 418)), some (.int x1), some (.int x2), some (.int x3), none, some (.int x5), some (.int x6), some (.int x7)] [] := by
  unfold fX3_chooses_227 at hf
  refine xw_aload_n C dX3_chooses_227 0 rfl rfl ?_
  refine xv_getf C (by decide) xs_M rfl inB3 6 (by decide) hw_489 rfl dX3_chooses_228 ?_
  refine xw_iload_n C dX3_chooses_231 3 rfl rfl ?_
  refine xw_iload C dX3_chooses_232 rfl ?_
  obtain ⟨i_41, hf⟩ := sto_s hf
  refine xv_iast C ht (by decide) (fun _ => xs_423) i_41 dX3_chooses_234 ?_
  refine xw_aload_n C dX3_chooses_235 0 rfl rfl ?_
  refine xv_getf C (by decide) xs_M rfl inB3 7 (by decide) hw_490 rfl dX3_chooses_236 ?_
  refine xw_iload_n C dX3_chooses_239 3 rfl rfl ?_
  refine xw_iload C dX3_chooses_240 rfl ?_
  obtain ⟨i_43, hf⟩ := sto_s hf
  refine xv_iast C ht (by decide) (fun _ => xs_424) i_43 dX3_chooses_242 ?_
  refine xw_aload_n C dX3_chooses_243 0 rfl rfl ?_
  refine xv_getf C (by decide) xs_M rfl inB3 8 (by decide) hw_491 rfl dX3_chooses_244 ?_
  refine xw_iload_n C dX3_chooses_247 3 rfl rfl ?_
  refine xw_iload C dX3_chooses_248 rfl ?_
  obtain ⟨i_45, hf⟩ := sto_s hf
  refine xv_iast C ht (by decide) (fun _ => xs_425) i_45 dX3_chooses_250 ?_
  refine xw_aload_n C dX3_chooses_251 0 rfl rfl ?_
  refine xw_iload_n C dX3_chooses_252 1 rfl rfl ?_
  refine xw_iload_n C dX3_chooses_253 2 rfl rfl ?_
  obtain ⟨M_M46, g_47, hf⟩ := bnv_s hf
  refine xc_Vv C (mX3_tellsAll (xgl G) C.2.2.2.2.2.2.2.2.1 ht  g_47) FX3_tellsAll hw_583 (by decide) xs_M rfl (by rw [hR]; decide) (by rw [hR]; decide) rfl (Nat.le_of_ble_eq_true rfl) dX3_chooses_254 rfl ?_
  refine xw_iload C dX3_chooses_257 rfl ?_
  refine xw_iconst (v := -1) C dX3_chooses_259 (by decide) ?_
  refine xw_icmp_ne (tgt := 278) C dX3_chooses_260 (by decide) (fun c_48 => ?_) (fun c_48 => ?_)
  · have hf := it_f hf c_48
    exact xl_sub (xl_n (xl_n (xl_n (xl_n (xl_n (xl_n (xl_n (xl_n xl_e)))))))) (kX3_chooses_278 C hR ht hr  hf)
  · have hf := it_t hf c_48
    refine xw_aload_n C dX3_chooses_263 0 rfl rfl ?_
    refine xw_iload_n C dX3_chooses_264 1 rfl rfl ?_
    refine xw_iload_n C dX3_chooses_265 2 rfl rfl ?_
    refine xw_aload_n C dX3_chooses_266 0 rfl rfl ?_
    refine xw_iload_n C dX3_chooses_267 1 rfl rfl ?_
    refine xw_iload_n C dX3_chooses_268 2 rfl rfl ?_
    obtain ⟨r_v49, M_M50, g_51, hf⟩ := bni_s hf
    refine xc_Vi C (mX3_wanted (xgl G) C.2.2.2.2.2.2.2.2.1 ht  g_51) FX3_wanted hw_587 (by decide) xs_M rfl (by rw [hR]; decide) (by rw [hR]; decide) rfl (Nat.le_of_ble_eq_true rfl) dX3_chooses_269 rfl ?_
    refine xw_bipush (v := 8) C dX3_chooses_272 (by decide) ?_
    refine xw_iconst (v := -1) C dX3_chooses_274 (by decide) ?_
    obtain ⟨M_M52, g_53, hf⟩ := bnv_s hf
    refine xc_Vv C (mX3_asks (xgl G) C.2.2.2.2.2.2.2.2.1 ht  g_53) FX3_asks hw_591 (by decide) xs_M rfl (by rw [hR]; decide) (by rw [hR]; decide) rfl (Nat.le_of_ble_eq_true rfl) dX3_chooses_275 rfl ?_
    exact xl_sub (xl_n (xl_n (xl_n (xl_n (xl_n (xl_n (xl_n (xl_n xl_e)))))))) (kX3_chooses_278 C hR ht hr  hf)
def fX3_chooses_191 (x1 : Int32) (x2 : Int32) (x3 : Int32) (x5 : Int32) (x6 : Int32) (s0 : Int32) (M : xwM) : Option (xwM) :=
  ld M 423 144 x3 fun v31 =>
  if x5 = v31 then
    (ld M 424 144 x3 fun v34 =>
      if x6 = v34 then
        (ld M 425 144 x3 fun v37 =>
          if s0 = v37 then
            (some M)
          else
            (fX3_chooses_227 x1 x2 x3 x5 x6 s0 M))
      else
        (fX3_chooses_227 x1 x2 x3 x5 x6 s0 M))
  else
    (fX3_chooses_227 x1 x2 x3 x5 x6 s0 M)
set_option maxHeartbeats 4000000 in
set_option maxRecDepth 100000 in
theorem kX3_chooses_191 {G : xwG} {ad : Nat → Nat} {cs : xmC} (C : xw_C G cX3_chooses 8 RX3 431 ad) (hR : xgR G = rX3_chooses) (ht : xgt G = xm_tys cs) (hr : (xgM G).sig.returnType = none) {M' : xwM} {x1 : Int32} {x2 : Int32} {x3 : Int32} {x5 : Int32} {x6 : Int32} {s0 : Int32} {M : xwM} (hf : fX3_chooses_191 x1 x2 x3 x5 x6 s0 M = some M') : XV G (xw_qv G 431 ad (xm_ce ad cs M')) 8 0 0 ad cs M 191 [some (.ref (ad 418)), some (.int x1), some (.int x2), some (.int x3), none, some (.int x5), some (.int x6), none] [.int s0] := by
  unfold fX3_chooses_191 at hf
  refine xw_istore C dX3_chooses_191 (by decide) ?_
  refine xw_iload C dX3_chooses_193 rfl ?_
  refine xw_aload_n C dX3_chooses_195 0 rfl rfl ?_
  refine xv_getf C (by decide) xs_M rfl inB3 6 (by decide) hw_489 rfl dX3_chooses_196 ?_
  refine xw_iload_n C dX3_chooses_199 3 rfl rfl ?_
  obtain ⟨i_32, hf⟩ := ld_s hf
  refine xv_iald C ht (by decide) ((fun _ => xs_423) _) i_32 dX3_chooses_200 ?_
  refine xw_icmp_ne (tgt := 227) C dX3_chooses_201 (by decide) (fun c_33 => ?_) (fun c_33 => ?_)
  · have hf := it_f hf c_33
    exact xl_sub (xl_c rfl (xl_c rfl (xl_c rfl (xl_c rfl (xl_n (xl_c rfl (xl_c rfl (xl_c rfl xl_e)))))))) (kX3_chooses_227 C hR ht hr  hf)
  · have hf := it_t hf c_33
    refine xw_iload C dX3_chooses_204 rfl ?_
    refine xw_aload_n C dX3_chooses_206 0 rfl rfl ?_
    refine xv_getf C (by decide) xs_M rfl inB3 7 (by decide) hw_490 rfl dX3_chooses_207 ?_
    refine xw_iload_n C dX3_chooses_210 3 rfl rfl ?_
    obtain ⟨i_35, hf⟩ := ld_s hf
    refine xv_iald C ht (by decide) ((fun _ => xs_424) _) i_35 dX3_chooses_211 ?_
    refine xw_icmp_ne (tgt := 227) C dX3_chooses_212 (by decide) (fun c_36 => ?_) (fun c_36 => ?_)
    · have hf := it_f hf c_36
      exact xl_sub (xl_c rfl (xl_c rfl (xl_c rfl (xl_c rfl (xl_n (xl_c rfl (xl_c rfl (xl_c rfl xl_e)))))))) (kX3_chooses_227 C hR ht hr  hf)
    · have hf := it_t hf c_36
      refine xw_iload C dX3_chooses_215 rfl ?_
      refine xw_aload_n C dX3_chooses_217 0 rfl rfl ?_
      refine xv_getf C (by decide) xs_M rfl inB3 8 (by decide) hw_491 rfl dX3_chooses_218 ?_
      refine xw_iload_n C dX3_chooses_221 3 rfl rfl ?_
      obtain ⟨i_38, hf⟩ := ld_s hf
      refine xv_iald C ht (by decide) ((fun _ => xs_425) _) i_38 dX3_chooses_222 ?_
      refine xw_icmp_ne (tgt := 227) C dX3_chooses_223 (by decide) (fun c_39 => ?_) (fun c_39 => ?_)
      · have hf := it_f hf c_39
        exact xl_sub (xl_c rfl (xl_c rfl (xl_c rfl (xl_c rfl (xl_n (xl_c rfl (xl_c rfl (xl_c rfl xl_e)))))))) (kX3_chooses_227 C hR ht hr  hf)
      · have hf := it_t hf c_39
        cases hf
        exact xw_retv C hr dX3_chooses_226
def fX3_chooses_177 (x1 : Int32) (x2 : Int32) (x3 : Int32) (x4 : Int32) (x5 : Int32) (s0 : Int32) (M : xwM) : Option (xwM) :=
  if x5 = (-1) then
    (fX3_chooses_191 x1 x2 x3 x5 s0 (-1) M)
  else
    (fX3_chooses_191 x1 x2 x3 x5 s0 x4 M)
set_option maxHeartbeats 4000000 in
set_option maxRecDepth 100000 in
theorem kX3_chooses_177 {G : xwG} {ad : Nat → Nat} {cs : xmC} (C : xw_C G cX3_chooses 8 RX3 431 ad) (hR : xgR G = rX3_chooses) (ht : xgt G = xm_tys cs) (hr : (xgM G).sig.returnType = none) {M' : xwM} {x1 : Int32} {x2 : Int32} {x3 : Int32} {x4 : Int32} {x5 : Int32} {s0 : Int32} {M : xwM} (hf : fX3_chooses_177 x1 x2 x3 x4 x5 s0 M = some M') : XV G (xw_qv G 431 ad (xm_ce ad cs M')) 8 0 0 ad cs M 177 [some (.ref (ad 418)), some (.int x1), some (.int x2), some (.int x3), some (.int x4), some (.int x5), none, none] [.int s0] := by
  unfold fX3_chooses_177 at hf
  refine xw_istore C dX3_chooses_177 (by decide) ?_
  refine xw_iload C dX3_chooses_179 rfl ?_
  refine xw_iconst (v := -1) C dX3_chooses_181 (by decide) ?_
  refine xw_icmp_ne (tgt := 189) C dX3_chooses_182 (by decide) (fun c_30 => ?_) (fun c_30 => ?_)
  · have hf := it_f hf c_30
    refine xw_iload C dX3_chooses_189 rfl ?_
    exact xl_sub (xl_c rfl (xl_c rfl (xl_c rfl (xl_c rfl (xl_n (xl_c rfl (xl_c rfl (xl_n xl_e)))))))) (kX3_chooses_191 C hR ht hr  hf)
  · have hf := it_t hf c_30
    refine xw_iconst (v := -1) C dX3_chooses_185 (by decide) ?_
    refine xw_goto (tgt := 191) C dX3_chooses_186 (by decide) ?_
    exact xl_sub (xl_c rfl (xl_c rfl (xl_c rfl (xl_c rfl (xl_n (xl_c rfl (xl_c rfl (xl_n xl_e)))))))) (kX3_chooses_191 C hR ht hr  hf)
def fX3_chooses_147 (x1 : Int32) (x2 : Int32) (x3 : Int32) (x4 : Int32) (s0 : Int32) (M : xwM) : Option (xwM) :=
  if s0 = (-1) then
    (fX3_chooses_177 x1 x2 x3 x4 s0 (-1) M)
  else
    (ld M 427 1728 (((144 * x1) + (12 * s0)) + x2) fun v28 =>
      fX3_chooses_177 x1 x2 x3 x4 s0 v28 M)
set_option maxHeartbeats 4000000 in
set_option maxRecDepth 100000 in
theorem kX3_chooses_147 {G : xwG} {ad : Nat → Nat} {cs : xmC} (C : xw_C G cX3_chooses 8 RX3 431 ad) (hR : xgR G = rX3_chooses) (ht : xgt G = xm_tys cs) (hr : (xgM G).sig.returnType = none) {M' : xwM} {x1 : Int32} {x2 : Int32} {x3 : Int32} {x4 : Int32} {s0 : Int32} {M : xwM} (hf : fX3_chooses_147 x1 x2 x3 x4 s0 M = some M') : XV G (xw_qv G 431 ad (xm_ce ad cs M')) 8 0 0 ad cs M 147 [some (.ref (ad 418)), some (.int x1), some (.int x2), some (.int x3), some (.int x4), none, none, none] [.int s0] := by
  unfold fX3_chooses_147 at hf
  refine xw_istore C dX3_chooses_147 (by decide) ?_
  refine xw_iload C dX3_chooses_149 rfl ?_
  refine xw_iconst (v := -1) C dX3_chooses_151 (by decide) ?_
  refine xw_icmp_ne (tgt := 159) C dX3_chooses_152 (by decide) (fun c_27 => ?_) (fun c_27 => ?_)
  · have hf := it_f hf c_27
    refine xw_aload_n C dX3_chooses_159 0 rfl rfl ?_
    refine xv_getf C (by decide) xs_M rfl inB3 10 (by decide) hw_493 rfl dX3_chooses_160 ?_
    refine xw_sipush (v := 144) C dX3_chooses_163 (by decide) ?_
    refine xw_iload_n C dX3_chooses_166 1 rfl rfl ?_
    refine xw_imul C dX3_chooses_167 ?_
    refine xw_bipush (v := 12) C dX3_chooses_168 (by decide) ?_
    refine xw_iload C dX3_chooses_170 rfl ?_
    refine xw_imul C dX3_chooses_172 ?_
    refine xw_iadd C dX3_chooses_173 ?_
    refine xw_iload_n C dX3_chooses_174 2 rfl rfl ?_
    refine xw_iadd C dX3_chooses_175 ?_
    obtain ⟨i_29, hf⟩ := ld_s hf
    refine xv_iald C ht (by decide) ((fun _ => xs_427) _) i_29 dX3_chooses_176 ?_
    exact xl_sub (xl_c rfl (xl_c rfl (xl_c rfl (xl_c rfl (xl_c rfl (xl_c rfl (xl_n (xl_n xl_e)))))))) (kX3_chooses_177 C hR ht hr  hf)
  · have hf := it_t hf c_27
    refine xw_iconst (v := -1) C dX3_chooses_155 (by decide) ?_
    refine xw_goto (tgt := 177) C dX3_chooses_156 (by decide) ?_
    exact xl_sub (xl_c rfl (xl_c rfl (xl_c rfl (xl_c rfl (xl_c rfl (xl_c rfl (xl_n (xl_n xl_e)))))))) (kX3_chooses_177 C hR ht hr  hf)
def fX3_chooses_145 (x1 : Int32) (x2 : Int32) (x3 : Int32) (x4 : Int32) (x5 : Int32) (M : xwM) : Option (xwM) :=
  fX3_chooses_147 x1 x2 x3 x4 x5 M
set_option maxHeartbeats 4000000 in
set_option maxRecDepth 100000 in
theorem kX3_chooses_145 {G : xwG} {ad : Nat → Nat} {cs : xmC} (C : xw_C G cX3_chooses 8 RX3 431 ad) (hR : xgR G = rX3_chooses) (ht : xgt G = xm_tys cs) (hr : (xgM G).sig.returnType = none) {M' : xwM} {x1 : Int32} {x2 : Int32} {x3 : Int32} {x4 : Int32} {x5 : Int32} {M : xwM} (hf : fX3_chooses_145 x1 x2 x3 x4 x5 M = some M') : XV G (xw_qv G 431 ad (xm_ce ad cs M')) 8 0 0 ad cs M 145 [some (.ref (ad 418)), some (.int x1), some (.int x2), some (.int x3), some (.int x4), some (.int x5), none, none] [] := by
  unfold fX3_chooses_145 at hf
  refine xw_iload C dX3_chooses_145 rfl ?_
  exact xl_sub (xl_c rfl (xl_c rfl (xl_c rfl (xl_c rfl (xl_c rfl (xl_n (xl_n (xl_n xl_e)))))))) (kX3_chooses_147 C hR ht hr  hf)
def fX3_chooses_102 (x1 : Int32) (x2 : Int32) (x3 : Int32) (x4 : Int32) (x5 : Int32) (M : xwM) : Option (xwM) :=
  if 65535 ≤ x4 then
    (fX3_chooses_145 x1 x2 x3 x4 x5 M)
  else
    (ld M 423 144 x3 fun v16 =>
      if v16 = (-1) then
        (fX3_chooses_145 x1 x2 x3 x4 x5 M)
      else
        (ld M 423 144 x3 fun v19 =>
          bni (fX3_by x1 v19 x2 M) fun v21 M22 =>
          if v21 = x4 then
            (ld M22 423 144 x3 fun v25 =>
              fX3_chooses_147 x1 x2 x3 x4 v25 M22)
          else
            (fX3_chooses_145 x1 x2 x3 x4 x5 M22)))
set_option maxHeartbeats 4000000 in
set_option maxRecDepth 100000 in
theorem kX3_chooses_102 {G : xwG} {ad : Nat → Nat} {cs : xmC} (C : xw_C G cX3_chooses 8 RX3 431 ad) (hR : xgR G = rX3_chooses) (ht : xgt G = xm_tys cs) (hr : (xgM G).sig.returnType = none) {M' : xwM} {x1 : Int32} {x2 : Int32} {x3 : Int32} {x4 : Int32} {x5 : Int32} {M : xwM} (hf : fX3_chooses_102 x1 x2 x3 x4 x5 M = some M') : XV G (xw_qv G 431 ad (xm_ce ad cs M')) 8 0 0 ad cs M 102 [some (.ref (ad 418)), some (.int x1), some (.int x2), some (.int x3), some (.int x4), some (.int x5), none, none] [] := by
  unfold fX3_chooses_102 at hf
  refine xw_iload C dX3_chooses_102 rfl ?_
  refine xw_ldc C hw_562 dX3_chooses_104 ?_
  refine xw_icmp_ge (tgt := 145) C dX3_chooses_106 (by decide) (fun c_15 => ?_) (fun c_15 => ?_)
  · have hf := it_t hf c_15
    exact xl_sub (xl_c rfl (xl_c rfl (xl_c rfl (xl_c rfl (xl_c rfl (xl_c rfl (xl_n (xl_n xl_e)))))))) (kX3_chooses_145 C hR ht hr  hf)
  · have hf := it_f hf c_15
    refine xw_aload_n C dX3_chooses_109 0 rfl rfl ?_
    refine xv_getf C (by decide) xs_M rfl inB3 6 (by decide) hw_489 rfl dX3_chooses_110 ?_
    refine xw_iload_n C dX3_chooses_113 3 rfl rfl ?_
    obtain ⟨i_17, hf⟩ := ld_s hf
    refine xv_iald C ht (by decide) ((fun _ => xs_423) _) i_17 dX3_chooses_114 ?_
    refine xw_iconst (v := -1) C dX3_chooses_115 (by decide) ?_
    refine xw_icmp_eq (tgt := 145) C dX3_chooses_116 (by decide) (fun c_18 => ?_) (fun c_18 => ?_)
    · have hf := it_t hf c_18
      exact xl_sub (xl_c rfl (xl_c rfl (xl_c rfl (xl_c rfl (xl_c rfl (xl_c rfl (xl_n (xl_n xl_e)))))))) (kX3_chooses_145 C hR ht hr  hf)
    · have hf := it_f hf c_18
      refine xw_aload_n C dX3_chooses_119 0 rfl rfl ?_
      refine xw_iload_n C dX3_chooses_120 1 rfl rfl ?_
      refine xw_aload_n C dX3_chooses_121 0 rfl rfl ?_
      refine xv_getf C (by decide) xs_M rfl inB3 6 (by decide) hw_489 rfl dX3_chooses_122 ?_
      refine xw_iload_n C dX3_chooses_125 3 rfl rfl ?_
      obtain ⟨i_20, hf⟩ := ld_s hf
      refine xv_iald C ht (by decide) ((fun _ => xs_423) _) i_20 dX3_chooses_126 ?_
      refine xw_iload_n C dX3_chooses_127 2 rfl rfl ?_
      obtain ⟨r_v21, M_M22, g_23, hf⟩ := bni_s hf
      refine xc_Vi C (mX3_by (xgl G) C.2.2.2.2.2.2.2.2.1 ht  g_23) FX3_by hw_574 (by decide) xs_M rfl (by rw [hR]; decide) (by rw [hR]; decide) rfl (Nat.le_of_ble_eq_true rfl) dX3_chooses_128 rfl ?_
      refine xw_iload C dX3_chooses_131 rfl ?_
      refine xw_icmp_ne (tgt := 145) C dX3_chooses_133 (by decide) (fun c_24 => ?_) (fun c_24 => ?_)
      · have hf := it_f hf c_24
        exact xl_sub (xl_c rfl (xl_c rfl (xl_c rfl (xl_c rfl (xl_c rfl (xl_c rfl (xl_n (xl_n xl_e)))))))) (kX3_chooses_145 C hR ht hr  hf)
      · have hf := it_t hf c_24
        refine xw_aload_n C dX3_chooses_136 0 rfl rfl ?_
        refine xv_getf C (by decide) xs_M rfl inB3 6 (by decide) hw_489 rfl dX3_chooses_137 ?_
        refine xw_iload_n C dX3_chooses_140 3 rfl rfl ?_
        obtain ⟨i_26, hf⟩ := ld_s hf
        refine xv_iald C ht (by decide) ((fun _ => xs_423) _) i_26 dX3_chooses_141 ?_
        refine xw_goto (tgt := 147) C dX3_chooses_142 (by decide) ?_
        exact xl_sub (xl_c rfl (xl_c rfl (xl_c rfl (xl_c rfl (xl_c rfl (xl_n (xl_n (xl_n xl_e)))))))) (kX3_chooses_147 C hR ht hr  hf)
def fX3_chooses_62 : Nat → Int32 → Int32 → Int32 → Int32 → Int32 → Int32 →  xwM → Option (xwM)
  | 0, _, _, _, _, _, _, _ => none
  | fu + 1, x1, x2, x3, x4, x5, x6, M =>
  if x6 < 0 then
    (fX3_chooses_102 x1 x2 x3 x4 x5 M)
  else
    (if 65535 ≤ x4 then
        (fX3_chooses_102 x1 x2 x3 x4 x5 M)
      else
        (bni (fX3_by x1 x6 x2 M) fun v11 M12 =>
          if v11 = x4 then
            (fX3_chooses_94 (fX3_chooses_62 fu) x1 x2 x3 x4 x6 x6 M12)
          else
            (fX3_chooses_94 (fX3_chooses_62 fu) x1 x2 x3 x4 x6 x5 M12)))
set_option maxHeartbeats 4000000 in
set_option maxRecDepth 100000 in
theorem kX3_chooses_62 {G : xwG} {ad : Nat → Nat} {cs : xmC} (C : xw_C G cX3_chooses 8 RX3 431 ad) (hR : xgR G = rX3_chooses) (ht : xgt G = xm_tys cs) (hr : (xgM G).sig.returnType = none) {M' : xwM} : ∀ (fu : Nat) (x1 : Int32) (x2 : Int32) (x3 : Int32) (x4 : Int32) (x5 : Int32) (x6 : Int32) (M : xwM), fX3_chooses_62 fu x1 x2 x3 x4 x5 x6 M = some M' → XV G (xw_qv G 431 ad (xm_ce ad cs M')) 8 0 0 ad cs M 62 [some (.ref (ad 418)), some (.int x1), some (.int x2), some (.int x3), some (.int x4), some (.int x5), some (.int x6), none] [] := by
  intro fu
  induction fu with
  | zero =>
    intro x1 x2 x3 x4 x5 x6 M  hf
    cases hf
  | succ fu ih =>
    intro x1 x2 x3 x4 x5 x6 M  hf
    rw [fX3_chooses_62] at hf
    refine xw_iload C dX3_chooses_62 rfl ?_
    refine xw_if_lt (tgt := 102) C dX3_chooses_64 (by decide) (fun c_9 => ?_) (fun c_9 => ?_)
    · have hf := it_t hf c_9
      exact xl_sub (xl_c rfl (xl_c rfl (xl_c rfl (xl_c rfl (xl_c rfl (xl_c rfl (xl_n (xl_n xl_e)))))))) (kX3_chooses_102 C hR ht hr  hf)
    · have hf := it_f hf c_9
      refine xw_iload C dX3_chooses_67 rfl ?_
      refine xw_ldc C hw_562 dX3_chooses_69 ?_
      refine xw_icmp_ge (tgt := 102) C dX3_chooses_71 (by decide) (fun c_10 => ?_) (fun c_10 => ?_)
      · have hf := it_t hf c_10
        exact xl_sub (xl_c rfl (xl_c rfl (xl_c rfl (xl_c rfl (xl_c rfl (xl_c rfl (xl_n (xl_n xl_e)))))))) (kX3_chooses_102 C hR ht hr  hf)
      · have hf := it_f hf c_10
        refine xw_aload_n C dX3_chooses_74 0 rfl rfl ?_
        refine xw_iload_n C dX3_chooses_75 1 rfl rfl ?_
        refine xw_iload C dX3_chooses_76 rfl ?_
        refine xw_iload_n C dX3_chooses_78 2 rfl rfl ?_
        obtain ⟨r_v11, M_M12, g_13, hf⟩ := bni_s hf
        refine xc_Vi C (mX3_by (xgl G) C.2.2.2.2.2.2.2.2.1 ht  g_13) FX3_by hw_574 (by decide) xs_M rfl (by rw [hR]; decide) (by rw [hR]; decide) rfl (Nat.le_of_ble_eq_true rfl) dX3_chooses_79 rfl ?_
        refine xw_iload C dX3_chooses_82 rfl ?_
        refine xw_icmp_ne (tgt := 92) C dX3_chooses_84 (by decide) (fun c_14 => ?_) (fun c_14 => ?_)
        · have hf := it_f hf c_14
          refine xw_iload C dX3_chooses_92 rfl ?_
          exact xl_sub (xl_c rfl (xl_c rfl (xl_c rfl (xl_c rfl (xl_c rfl (xl_n (xl_c rfl (xl_n xl_e)))))))) (kX3_chooses_94 C hR ht hr ih  hf)
        · have hf := it_t hf c_14
          refine xw_iload C dX3_chooses_87 rfl ?_
          refine xw_goto (tgt := 94) C dX3_chooses_89 (by decide) ?_
          exact xl_sub (xl_c rfl (xl_c rfl (xl_c rfl (xl_c rfl (xl_c rfl (xl_n (xl_c rfl (xl_n xl_e)))))))) (kX3_chooses_94 C hR ht hr ih  hf)
def fX3_chooses_14 : Nat → Int32 → Int32 → Int32 → Int32 → Int32 →  xwM → Option (xwM)
  | 0, _, _, _, _, _, _ => none
  | fu + 1, x1, x2, x3, x4, x5, M =>
  if 12 ≤ x5 then
    (fX3_chooses_62 2001 x1 x2 x3 x4 (-1) 11 M)
  else
    (bni (fX3_by x1 x5 x2 M) fun v2 M3 =>
      if x4 ≤ v2 then
        (fX3_chooses_47 (fX3_chooses_14 fu) x1 x2 x3 x5 x4 M3)
      else
        (bni (fX3_by x1 x5 x2 M3) fun v6 M7 =>
          fX3_chooses_47 (fX3_chooses_14 fu) x1 x2 x3 x5 v6 M7))
set_option maxHeartbeats 4000000 in
set_option maxRecDepth 100000 in
theorem kX3_chooses_14 {G : xwG} {ad : Nat → Nat} {cs : xmC} (C : xw_C G cX3_chooses 8 RX3 431 ad) (hR : xgR G = rX3_chooses) (ht : xgt G = xm_tys cs) (hr : (xgM G).sig.returnType = none) {M' : xwM} : ∀ (fu : Nat) (x1 : Int32) (x2 : Int32) (x3 : Int32) (x4 : Int32) (x5 : Int32) (M : xwM), fX3_chooses_14 fu x1 x2 x3 x4 x5 M = some M' → XV G (xw_qv G 431 ad (xm_ce ad cs M')) 8 0 0 ad cs M 14 [some (.ref (ad 418)), some (.int x1), some (.int x2), some (.int x3), some (.int x4), some (.int x5), none, none] [] := by
  intro fu
  induction fu with
  | zero =>
    intro x1 x2 x3 x4 x5 M  hf
    cases hf
  | succ fu ih =>
    intro x1 x2 x3 x4 x5 M  hf
    rw [fX3_chooses_14] at hf
    refine xw_iload C dX3_chooses_14 rfl ?_
    refine xw_bipush (v := 12) C dX3_chooses_16 (by decide) ?_
    refine xw_icmp_ge (tgt := 55) C dX3_chooses_18 (by decide) (fun c_1 => ?_) (fun c_1 => ?_)
    · have hf := it_t hf c_1
      refine xw_iconst (v := -1) C dX3_chooses_55 (by decide) ?_
      refine xw_istore C dX3_chooses_56 (by decide) ?_
      refine xw_bipush (v := 11) C dX3_chooses_58 (by decide) ?_
      refine xw_istore C dX3_chooses_60 (by decide) ?_
      exact xl_sub (xl_c rfl (xl_c rfl (xl_c rfl (xl_c rfl (xl_c rfl (xl_c rfl (xl_c rfl (xl_n xl_e)))))))) (kX3_chooses_62 C hR ht hr 2001 _ _ _ _ _ _ _ hf)
    · have hf := it_f hf c_1
      refine xw_aload_n C dX3_chooses_21 0 rfl rfl ?_
      refine xw_iload_n C dX3_chooses_22 1 rfl rfl ?_
      refine xw_iload C dX3_chooses_23 rfl ?_
      refine xw_iload_n C dX3_chooses_25 2 rfl rfl ?_
      obtain ⟨r_v2, M_M3, g_4, hf⟩ := bni_s hf
      refine xc_Vi C (mX3_by (xgl G) C.2.2.2.2.2.2.2.2.1 ht  g_4) FX3_by hw_574 (by decide) xs_M rfl (by rw [hR]; decide) (by rw [hR]; decide) rfl (Nat.le_of_ble_eq_true rfl) dX3_chooses_26 rfl ?_
      refine xw_iload C dX3_chooses_29 rfl ?_
      refine xw_icmp_ge (tgt := 45) C dX3_chooses_31 (by decide) (fun c_5 => ?_) (fun c_5 => ?_)
      · have hf := it_t hf c_5
        refine xw_iload C dX3_chooses_45 rfl ?_
        exact xl_sub (xl_c rfl (xl_c rfl (xl_c rfl (xl_c rfl (xl_n (xl_c rfl (xl_n (xl_n xl_e)))))))) (kX3_chooses_47 C hR ht hr ih  hf)
      · have hf := it_f hf c_5
        refine xw_aload_n C dX3_chooses_34 0 rfl rfl ?_
        refine xw_iload_n C dX3_chooses_35 1 rfl rfl ?_
        refine xw_iload C dX3_chooses_36 rfl ?_
        refine xw_iload_n C dX3_chooses_38 2 rfl rfl ?_
        obtain ⟨r_v6, M_M7, g_8, hf⟩ := bni_s hf
        refine xc_Vi C (mX3_by (xgl G) C.2.2.2.2.2.2.2.2.1 ht  g_8) FX3_by hw_574 (by decide) xs_M rfl (by rw [hR]; decide) (by rw [hR]; decide) rfl (Nat.le_of_ble_eq_true rfl) dX3_chooses_39 rfl ?_
        refine xw_goto (tgt := 47) C dX3_chooses_42 (by decide) ?_
        exact xl_sub (xl_c rfl (xl_c rfl (xl_c rfl (xl_c rfl (xl_n (xl_c rfl (xl_n (xl_n xl_e)))))))) (kX3_chooses_47 C hR ht hr ih  hf)
def fX3_chooses (x1 : Int32) (x2 : Int32) (M : xwM) : Option (xwM) :=
  fX3_chooses_14 2001 x1 x2 (((12 * x1) + x2)) 65535 0 M
set_option maxHeartbeats 4000000 in
set_option maxRecDepth 100000 in
theorem kX3_chooses_0 {G : xwG} {ad : Nat → Nat} {cs : xmC} (C : xw_C G cX3_chooses 8 RX3 431 ad) (hR : xgR G = rX3_chooses) (ht : xgt G = xm_tys cs) (hr : (xgM G).sig.returnType = none) {M' : xwM} {x1 : Int32} {x2 : Int32} {M : xwM} (hf : fX3_chooses x1 x2 M = some M') : XV G (xw_qv G 431 ad (xm_ce ad cs M')) 8 0 0 ad cs M 0 [some (.ref (ad 418)), some (.int x1), some (.int x2), none, none, none, none, none] [] := by
  unfold fX3_chooses at hf
  refine xw_bipush (v := 12) C dX3_chooses_0 (by decide) ?_
  refine xw_iload_n C dX3_chooses_2 1 rfl rfl ?_
  refine xw_imul C dX3_chooses_3 ?_
  refine xw_iload_n C dX3_chooses_4 2 rfl rfl ?_
  refine xw_iadd C dX3_chooses_5 ?_
  refine xw_istore_n C dX3_chooses_6 3 rfl (by decide) ?_
  refine xw_ldc C hw_562 dX3_chooses_7 ?_
  refine xw_istore C dX3_chooses_9 (by decide) ?_
  refine xw_iconst (v := 0) C dX3_chooses_11 (by decide) ?_
  refine xw_istore C dX3_chooses_12 (by decide) ?_
  exact xl_sub (xl_c rfl (xl_c rfl (xl_c rfl (xl_c rfl (xl_c rfl (xl_c rfl (xl_n (xl_n xl_e)))))))) (kX3_chooses_14 C hR ht hr 2001 _ _ _ _ _ _ hf)
theorem mX3_chooses (l : Launch) {D : va_G} {tys : List (ClassId × FieldType)} {base : Nat} {ad : Nat → Nat} {cs : xmC} (hJ : xw_J 431 ad base) (ht : tys = xm_tys cs) {x1 : Int32} {x2 : Int32} {M M' : xwM} (hf : fX3_chooses x1 x2 M = some M') : xk_v l yX3_chooses cX3_chooses 8 none rX3_chooses D tys base 431 ad [.ref (ad 418), .int x1, .int x2] (xm_ce ad cs M) (xm_ce ad cs M') :=
  xk_ofv 5 (by decide) hJ (List.forall_mem_cons.mpr ⟨rfl, List.forall_mem_cons.mpr ⟨rfl, List.forall_mem_cons.mpr ⟨rfl, List.forall_mem_nil _⟩⟩⟩) (Nat.le_of_ble_eq_true rfl) (fun G e1 e2 e3 e4 e5 hr C => kX3_chooses_0 C e2 (e4.trans ht) hr  hf)

abbrev rX3_choosesAll : Room := { frames := 4, cells := 0, slots := 0, locals := 103 }
def fX3_choosesAll_19 (kf : Int32 → Int32 → xwM → Option (xwM)) (x1 : Int32) (x2 : Int32) (M : xwM) : Option (xwM) :=
  kf x1 ((x2 + 1)) M
set_option maxHeartbeats 4000000 in
set_option maxRecDepth 100000 in
theorem kX3_choosesAll_19 {G : xwG} {ad : Nat → Nat} {cs : xmC} (C : xw_C G cX3_choosesAll 3 RX3 431 ad) (hR : xgR G = rX3_choosesAll) (ht : xgt G = xm_tys cs) (hr : (xgM G).sig.returnType = none) {M' : xwM} {kf : Int32 → Int32 → xwM → Option (xwM)} (hk : ∀ (yx1 : Int32) (yx2 : Int32) (M : xwM), kf yx1 yx2 M = some M' → XV G (xw_qv G 431 ad (xm_ce ad cs M')) 3 0 0 ad cs M 2 [some (.ref (ad 418)), some (.int yx1), some (.int yx2)] []) {x1 : Int32} {x2 : Int32} {M : xwM} (hf : fX3_choosesAll_19 kf x1 x2 M = some M') : XV G (xw_qv G 431 ad (xm_ce ad cs M')) 3 0 0 ad cs M 19 [some (.ref (ad 418)), some (.int x1), some (.int x2)] [] := by
  unfold fX3_choosesAll_19 at hf
  refine xw_iinc C dX3_choosesAll_19 rfl (show _ + Int32.ofInt (1) = _ + (1) from congrArg _ (by decide)) (by decide) ?_
  refine xw_goto (tgt := 2) C dX3_choosesAll_22 (by decide) ?_
  exact xl_sub (xl_c rfl (xl_c rfl (xl_c rfl xl_e))) (hk _ _ _ hf)
def fX3_choosesAll_2 : Nat → Int32 → Int32 →  xwM → Option (xwM)
  | 0, _, _, _ => none
  | fu + 1, x1, x2, M =>
  if 12 ≤ x2 then
    (some M)
  else
    (if x2 = x1 then
        (fX3_choosesAll_19 (fX3_choosesAll_2 fu) x1 x2 M)
      else
        (bnv (fX3_chooses x1 x2 M) fun M3 =>
          fX3_choosesAll_19 (fX3_choosesAll_2 fu) x1 x2 M3))
set_option maxHeartbeats 4000000 in
set_option maxRecDepth 100000 in
theorem kX3_choosesAll_2 {G : xwG} {ad : Nat → Nat} {cs : xmC} (C : xw_C G cX3_choosesAll 3 RX3 431 ad) (hR : xgR G = rX3_choosesAll) (ht : xgt G = xm_tys cs) (hr : (xgM G).sig.returnType = none) {M' : xwM} : ∀ (fu : Nat) (x1 : Int32) (x2 : Int32) (M : xwM), fX3_choosesAll_2 fu x1 x2 M = some M' → XV G (xw_qv G 431 ad (xm_ce ad cs M')) 3 0 0 ad cs M 2 [some (.ref (ad 418)), some (.int x1), some (.int x2)] [] := by
  intro fu
  induction fu with
  | zero =>
    intro x1 x2 M  hf
    cases hf
  | succ fu ih =>
    intro x1 x2 M  hf
    rw [fX3_choosesAll_2] at hf
    refine xw_iload_n C dX3_choosesAll_2 2 rfl rfl ?_
    refine xw_bipush (v := 12) C dX3_choosesAll_3 (by decide) ?_
    refine xw_icmp_ge (tgt := 25) C dX3_choosesAll_5 (by decide) (fun c_1 => ?_) (fun c_1 => ?_)
    · have hf := it_t hf c_1
      cases hf
      exact xw_retv C hr dX3_choosesAll_25
    · have hf := it_f hf c_1
      refine xw_iload_n C dX3_choosesAll_8 2 rfl rfl ?_
      refine xw_iload_n C dX3_choosesAll_9 1 rfl rfl ?_
      refine xw_icmp_eq (tgt := 19) C dX3_choosesAll_10 (by decide) (fun c_2 => ?_) (fun c_2 => ?_)
      · have hf := it_t hf c_2
        exact xl_sub (xl_c rfl (xl_c rfl (xl_c rfl xl_e))) (kX3_choosesAll_19 C hR ht hr ih  hf)
      · have hf := it_f hf c_2
        refine xw_aload_n C dX3_choosesAll_13 0 rfl rfl ?_
        refine xw_iload_n C dX3_choosesAll_14 1 rfl rfl ?_
        refine xw_iload_n C dX3_choosesAll_15 2 rfl rfl ?_
        obtain ⟨M_M3, g_4, hf⟩ := bnv_s hf
        refine xc_Vv C (mX3_chooses (xgl G) C.2.2.2.2.2.2.2.2.1 ht  g_4) FX3_chooses hw_570 (by decide) xs_M rfl (by rw [hR]; decide) (by rw [hR]; decide) rfl (Nat.le_of_ble_eq_true rfl) dX3_choosesAll_16 rfl ?_
        exact xl_sub (xl_c rfl (xl_c rfl (xl_c rfl xl_e))) (kX3_choosesAll_19 C hR ht hr ih  hf)
def fX3_choosesAll (x1 : Int32) (M : xwM) : Option (xwM) :=
  fX3_choosesAll_2 2001 x1 0 M
set_option maxHeartbeats 4000000 in
set_option maxRecDepth 100000 in
theorem kX3_choosesAll_0 {G : xwG} {ad : Nat → Nat} {cs : xmC} (C : xw_C G cX3_choosesAll 3 RX3 431 ad) (hR : xgR G = rX3_choosesAll) (ht : xgt G = xm_tys cs) (hr : (xgM G).sig.returnType = none) {M' : xwM} {x1 : Int32} {M : xwM} (hf : fX3_choosesAll x1 M = some M') : XV G (xw_qv G 431 ad (xm_ce ad cs M')) 3 0 0 ad cs M 0 [some (.ref (ad 418)), some (.int x1), none] [] := by
  unfold fX3_choosesAll at hf
  refine xw_iconst (v := 0) C dX3_choosesAll_0 (by decide) ?_
  refine xw_istore_n C dX3_choosesAll_1 2 rfl (by decide) ?_
  exact xl_sub (xl_c rfl (xl_c rfl (xl_c rfl xl_e))) (kX3_choosesAll_2 C hR ht hr 2001 _ _ _ hf)
theorem mX3_choosesAll (l : Launch) {D : va_G} {tys : List (ClassId × FieldType)} {base : Nat} {ad : Nat → Nat} {cs : xmC} (hJ : xw_J 431 ad base) (ht : tys = xm_tys cs) {x1 : Int32} {M M' : xwM} (hf : fX3_choosesAll x1 M = some M') : xk_v l yX3_choosesAll cX3_choosesAll 3 none rX3_choosesAll D tys base 431 ad [.ref (ad 418), .int x1] (xm_ce ad cs M) (xm_ce ad cs M') :=
  xk_ofv 1 (by decide) hJ (List.forall_mem_cons.mpr ⟨rfl, List.forall_mem_cons.mpr ⟨rfl, List.forall_mem_nil _⟩⟩) (Nat.le_of_ble_eq_true rfl) (fun G e1 e2 e3 e4 e5 hr C => kX3_choosesAll_0 C e2 (e4.trans ht) hr  hf)

abbrev rX3_introduces : Room := { frames := 2, cells := 0, slots := 0, locals := 53 }
def fX3_introduces_35 (kf : Int32 → Int32 → Int32 → xwM → Option (xwM)) (x1 : Int32) (x2 : Int32) (x3 : Int32) (M : xwM) : Option (xwM) :=
  kf x1 x2 ((x3 + 1)) M
set_option maxHeartbeats 4000000 in
set_option maxRecDepth 100000 in
theorem kX3_introduces_35 {G : xwG} {ad : Nat → Nat} {cs : xmC} (C : xw_C G cX3_introduces 4 RX3 431 ad) (hR : xgR G = rX3_introduces) (ht : xgt G = xm_tys cs) (hr : (xgM G).sig.returnType = none) {M' : xwM} {kf : Int32 → Int32 → Int32 → xwM → Option (xwM)} (hk : ∀ (yx1 : Int32) (yx2 : Int32) (yx3 : Int32) (M : xwM), kf yx1 yx2 yx3 M = some M' → XV G (xw_qv G 431 ad (xm_ce ad cs M')) 4 0 0 ad cs M 2 [some (.ref (ad 418)), some (.int yx1), some (.int yx2), some (.int yx3)] []) {x1 : Int32} {x2 : Int32} {x3 : Int32} {M : xwM} (hf : fX3_introduces_35 kf x1 x2 x3 M = some M') : XV G (xw_qv G 431 ad (xm_ce ad cs M')) 4 0 0 ad cs M 35 [some (.ref (ad 418)), some (.int x1), some (.int x2), some (.int x3)] [] := by
  unfold fX3_introduces_35 at hf
  refine xw_iinc C dX3_introduces_35 rfl (show _ + Int32.ofInt (1) = _ + (1) from congrArg _ (by decide)) (by decide) ?_
  refine xw_goto (tgt := 2) C dX3_introduces_38 (by decide) ?_
  exact xl_sub (xl_c rfl (xl_c rfl (xl_c rfl (xl_c rfl xl_e)))) (hk _ _ _ _ hf)
def fX3_introduces_28 (kf : Int32 → Int32 → Int32 → xwM → Option (xwM)) (x1 : Int32) (x2 : Int32) (x3 : Int32) (M : xwM) : Option (xwM) :=
  bnv (fX3_tells x1 x2 x3 M) fun M6 =>
  fX3_introduces_35 kf x1 x2 x3 M6
set_option maxHeartbeats 4000000 in
set_option maxRecDepth 100000 in
theorem kX3_introduces_28 {G : xwG} {ad : Nat → Nat} {cs : xmC} (C : xw_C G cX3_introduces 4 RX3 431 ad) (hR : xgR G = rX3_introduces) (ht : xgt G = xm_tys cs) (hr : (xgM G).sig.returnType = none) {M' : xwM} {kf : Int32 → Int32 → Int32 → xwM → Option (xwM)} (hk : ∀ (yx1 : Int32) (yx2 : Int32) (yx3 : Int32) (M : xwM), kf yx1 yx2 yx3 M = some M' → XV G (xw_qv G 431 ad (xm_ce ad cs M')) 4 0 0 ad cs M 2 [some (.ref (ad 418)), some (.int yx1), some (.int yx2), some (.int yx3)] []) {x1 : Int32} {x2 : Int32} {x3 : Int32} {M : xwM} (hf : fX3_introduces_28 kf x1 x2 x3 M = some M') : XV G (xw_qv G 431 ad (xm_ce ad cs M')) 4 0 0 ad cs M 28 [some (.ref (ad 418)), some (.int x1), some (.int x2), some (.int x3)] [] := by
  unfold fX3_introduces_28 at hf
  refine xw_aload_n C dX3_introduces_28 0 rfl rfl ?_
  refine xw_iload_n C dX3_introduces_29 1 rfl rfl ?_
  refine xw_iload_n C dX3_introduces_30 2 rfl rfl ?_
  refine xw_iload_n C dX3_introduces_31 3 rfl rfl ?_
  obtain ⟨M_M6, g_7, hf⟩ := bnv_s hf
  refine xc_Vv C (mX3_tells (xgl G) C.2.2.2.2.2.2.2.2.1 ht  g_7) FX3_tells hw_554 (by decide) xs_M rfl (by rw [hR]; decide) (by rw [hR]; decide) rfl (Nat.le_of_ble_eq_true rfl) dX3_introduces_32 rfl ?_
  exact xl_sub (xl_c rfl (xl_c rfl (xl_c rfl (xl_c rfl xl_e)))) (kX3_introduces_35 C hR ht hr hk  hf)
def fX3_introduces_2 : Nat → Int32 → Int32 → Int32 →  xwM → Option (xwM)
  | 0, _, _, _, _ => none
  | fu + 1, x1, x2, x3, M =>
  if 12 ≤ x3 then
    (some M)
  else
    (if x3 = x1 then
        (fX3_introduces_28 (fX3_introduces_2 fu) x1 x2 x3 M)
      else
        (ld M 423 144 ((12 * x1) + x3) fun v3 =>
          if v3 = (-1) then
            (fX3_introduces_35 (fX3_introduces_2 fu) x1 x2 x3 M)
          else
            (fX3_introduces_28 (fX3_introduces_2 fu) x1 x2 x3 M)))
set_option maxHeartbeats 4000000 in
set_option maxRecDepth 100000 in
theorem kX3_introduces_2 {G : xwG} {ad : Nat → Nat} {cs : xmC} (C : xw_C G cX3_introduces 4 RX3 431 ad) (hR : xgR G = rX3_introduces) (ht : xgt G = xm_tys cs) (hr : (xgM G).sig.returnType = none) {M' : xwM} : ∀ (fu : Nat) (x1 : Int32) (x2 : Int32) (x3 : Int32) (M : xwM), fX3_introduces_2 fu x1 x2 x3 M = some M' → XV G (xw_qv G 431 ad (xm_ce ad cs M')) 4 0 0 ad cs M 2 [some (.ref (ad 418)), some (.int x1), some (.int x2), some (.int x3)] [] := by
  intro fu
  induction fu with
  | zero =>
    intro x1 x2 x3 M  hf
    cases hf
  | succ fu ih =>
    intro x1 x2 x3 M  hf
    rw [fX3_introduces_2] at hf
    refine xw_iload_n C dX3_introduces_2 3 rfl rfl ?_
    refine xw_bipush (v := 12) C dX3_introduces_3 (by decide) ?_
    refine xw_icmp_ge (tgt := 41) C dX3_introduces_5 (by decide) (fun c_1 => ?_) (fun c_1 => ?_)
    · have hf := it_t hf c_1
      cases hf
      exact xw_retv C hr dX3_introduces_41
    · have hf := it_f hf c_1
      refine xw_iload_n C dX3_introduces_8 3 rfl rfl ?_
      refine xw_iload_n C dX3_introduces_9 1 rfl rfl ?_
      refine xw_icmp_eq (tgt := 28) C dX3_introduces_10 (by decide) (fun c_2 => ?_) (fun c_2 => ?_)
      · have hf := it_t hf c_2
        exact xl_sub (xl_c rfl (xl_c rfl (xl_c rfl (xl_c rfl xl_e)))) (kX3_introduces_28 C hR ht hr ih  hf)
      · have hf := it_f hf c_2
        refine xw_aload_n C dX3_introduces_13 0 rfl rfl ?_
        refine xv_getf C (by decide) xs_M rfl inB3 6 (by decide) hw_489 rfl dX3_introduces_14 ?_
        refine xw_bipush (v := 12) C dX3_introduces_17 (by decide) ?_
        refine xw_iload_n C dX3_introduces_19 1 rfl rfl ?_
        refine xw_imul C dX3_introduces_20 ?_
        refine xw_iload_n C dX3_introduces_21 3 rfl rfl ?_
        refine xw_iadd C dX3_introduces_22 ?_
        obtain ⟨i_4, hf⟩ := ld_s hf
        refine xv_iald C ht (by decide) ((fun _ => xs_423) _) i_4 dX3_introduces_23 ?_
        refine xw_iconst (v := -1) C dX3_introduces_24 (by decide) ?_
        refine xw_icmp_eq (tgt := 35) C dX3_introduces_25 (by decide) (fun c_5 => ?_) (fun c_5 => ?_)
        · have hf := it_t hf c_5
          exact xl_sub (xl_c rfl (xl_c rfl (xl_c rfl (xl_c rfl xl_e)))) (kX3_introduces_35 C hR ht hr ih  hf)
        · have hf := it_f hf c_5
          exact xl_sub (xl_c rfl (xl_c rfl (xl_c rfl (xl_c rfl xl_e)))) (kX3_introduces_28 C hR ht hr ih  hf)
def fX3_introduces (x1 : Int32) (x2 : Int32) (M : xwM) : Option (xwM) :=
  fX3_introduces_2 2001 x1 x2 0 M
set_option maxHeartbeats 4000000 in
set_option maxRecDepth 100000 in
theorem kX3_introduces_0 {G : xwG} {ad : Nat → Nat} {cs : xmC} (C : xw_C G cX3_introduces 4 RX3 431 ad) (hR : xgR G = rX3_introduces) (ht : xgt G = xm_tys cs) (hr : (xgM G).sig.returnType = none) {M' : xwM} {x1 : Int32} {x2 : Int32} {M : xwM} (hf : fX3_introduces x1 x2 M = some M') : XV G (xw_qv G 431 ad (xm_ce ad cs M')) 4 0 0 ad cs M 0 [some (.ref (ad 418)), some (.int x1), some (.int x2), none] [] := by
  unfold fX3_introduces at hf
  refine xw_iconst (v := 0) C dX3_introduces_0 (by decide) ?_
  refine xw_istore_n C dX3_introduces_1 3 rfl (by decide) ?_
  exact xl_sub (xl_c rfl (xl_c rfl (xl_c rfl (xl_c rfl xl_e)))) (kX3_introduces_2 C hR ht hr 2001 _ _ _ _ hf)
theorem mX3_introduces (l : Launch) {D : va_G} {tys : List (ClassId × FieldType)} {base : Nat} {ad : Nat → Nat} {cs : xmC} (hJ : xw_J 431 ad base) (ht : tys = xm_tys cs) {x1 : Int32} {x2 : Int32} {M M' : xwM} (hf : fX3_introduces x1 x2 M = some M') : xk_v l yX3_introduces cX3_introduces 4 none rX3_introduces D tys base 431 ad [.ref (ad 418), .int x1, .int x2] (xm_ce ad cs M) (xm_ce ad cs M') :=
  xk_ofv 1 (by decide) hJ (List.forall_mem_cons.mpr ⟨rfl, List.forall_mem_cons.mpr ⟨rfl, List.forall_mem_cons.mpr ⟨rfl, List.forall_mem_nil _⟩⟩⟩) (Nat.le_of_ble_eq_true rfl) (fun G e1 e2 e3 e4 e5 hr C => kX3_introduces_0 C e2 (e4.trans ht) hr  hf)

abbrev rX3_link : Room := { frames := 5, cells := 0, slots := 0, locals := 125 }
def fX3_link_283 (x4 : Int32) (M : xwM) : Option (Int32 × xwM) :=
  some (x4, M)
set_option maxHeartbeats 4000000 in
set_option maxRecDepth 100000 in
theorem kX3_link_283 {G : xwG} {ad : Nat → Nat} {cs : xmC} (C : xw_C G cX3_link 8 RX3 431 ad) (hR : xgR G = rX3_link) (ht : xgt G = xm_tys cs) (hr : (xgM G).sig.returnType = (some .int)) {M' : xwM} {o : Int32} {x4 : Int32} {M : xwM} (hf : fX3_link_283 x4 M = some (o, M')) : XV G (xw_qi G 431 ad (xm_ce ad cs M') o) 8 0 0 ad cs M 283 [none, none, none, none, some (.int x4), none, none, none] [] := by
  unfold fX3_link_283 at hf
  refine xw_iload C dX3_link_283 rfl ?_
  cases hf
  exact xw_reti C hr dX3_link_285
def fX3_link_271 (x4 : Int32) (x5 : Int32) (x6 : Int32) (M : xwM) : Option (Int32 × xwM) :=
  bnv (fX3_choosesAll x5 M) fun M44 =>
  bnv (fX3_choosesAll x6 M44) fun M46 =>
  fX3_link_283 x4 M46
set_option maxHeartbeats 4000000 in
set_option maxRecDepth 100000 in
theorem kX3_link_271 {G : xwG} {ad : Nat → Nat} {cs : xmC} (C : xw_C G cX3_link 8 RX3 431 ad) (hR : xgR G = rX3_link) (ht : xgt G = xm_tys cs) (hr : (xgM G).sig.returnType = (some .int)) {M' : xwM} {o : Int32} {x4 : Int32} {x5 : Int32} {x6 : Int32} {M : xwM} (hf : fX3_link_271 x4 x5 x6 M = some (o, M')) : XV G (xw_qi G 431 ad (xm_ce ad cs M') o) 8 0 0 ad cs M 271 [some (.ref (ad 418)), none, none, none, some (.int x4), some (.int x5), some (.int x6), none] [] := by
  unfold fX3_link_271 at hf
  refine xw_aload_n C dX3_link_271 0 rfl rfl ?_
  refine xw_iload C dX3_link_272 rfl ?_
  obtain ⟨M_M44, g_45, hf⟩ := bnv_s hf
  refine xc_Vv C (mX3_choosesAll (xgl G) C.2.2.2.2.2.2.2.2.1 ht  g_45) FX3_choosesAll hw_566 (by decide) xs_M rfl (by rw [hR]; decide) (by rw [hR]; decide) rfl (Nat.le_of_ble_eq_true rfl) dX3_link_274 rfl ?_
  refine xw_aload_n C dX3_link_277 0 rfl rfl ?_
  refine xw_iload C dX3_link_278 rfl ?_
  obtain ⟨M_M46, g_47, hf⟩ := bnv_s hf
  refine xc_Vv C (mX3_choosesAll (xgl G) C.2.2.2.2.2.2.2.2.1 ht  g_47) FX3_choosesAll hw_566 (by decide) xs_M rfl (by rw [hR]; decide) (by rw [hR]; decide) rfl (Nat.le_of_ble_eq_true rfl) dX3_link_280 rfl ?_
  exact xl_sub (xl_n (xl_n (xl_n (xl_n (xl_c rfl (xl_n (xl_n (xl_n xl_e)))))))) (kX3_link_283 C hR ht hr  hf)
def fX3_link_170 : Nat → Int32 → Int32 → Int32 → Int32 → Int32 →  xwM → Option (Int32 × xwM)
  | 0, _, _, _, _, _, _ => none
  | fu + 1, x3, x4, x5, x6, x7, M =>
  if 12 ≤ x7 then
    (fX3_link_271 x4 x5 x6 M)
  else
    (if x3 = 0 then
        (sto M 427 1728 (((144 * x5) + (12 * x6)) + x7) (-1) fun M36 =>
          sto M36 428 1728 (((144 * x5) + (12 * x6)) + x7) (-1) fun M38 =>
          sto M38 427 1728 (((144 * x6) + (12 * x5)) + x7) (-1) fun M40 =>
          sto M40 428 1728 (((144 * x6) + (12 * x5)) + x7) (-1) fun M42 =>
          fX3_link_170 fu x3 x4 x5 x6 ((x7 + 1)) M42)
      else
        (fX3_link_271 x4 x5 x6 M))
set_option maxHeartbeats 4000000 in
set_option maxRecDepth 100000 in
theorem kX3_link_170 {G : xwG} {ad : Nat → Nat} {cs : xmC} (C : xw_C G cX3_link 8 RX3 431 ad) (hR : xgR G = rX3_link) (ht : xgt G = xm_tys cs) (hr : (xgM G).sig.returnType = (some .int)) {M' : xwM} {o : Int32} : ∀ (fu : Nat) (x3 : Int32) (x4 : Int32) (x5 : Int32) (x6 : Int32) (x7 : Int32) (M : xwM), fX3_link_170 fu x3 x4 x5 x6 x7 M = some (o, M') → XV G (xw_qi G 431 ad (xm_ce ad cs M') o) 8 0 0 ad cs M 170 [some (.ref (ad 418)), none, none, some (.int x3), some (.int x4), some (.int x5), some (.int x6), some (.int x7)] [] := by
  intro fu
  induction fu with
  | zero =>
    intro x3 x4 x5 x6 x7 M  hf
    cases hf
  | succ fu ih =>
    intro x3 x4 x5 x6 x7 M  hf
    rw [fX3_link_170] at hf
    refine xw_iload C dX3_link_170 rfl ?_
    refine xw_bipush (v := 12) C dX3_link_172 (by decide) ?_
    refine xw_icmp_ge (tgt := 271) C dX3_link_174 (by decide) (fun c_34 => ?_) (fun c_34 => ?_)
    · have hf := it_t hf c_34
      exact xl_sub (xl_c rfl (xl_n (xl_n (xl_n (xl_c rfl (xl_c rfl (xl_c rfl (xl_n xl_e)))))))) (kX3_link_271 C hR ht hr  hf)
    · have hf := it_f hf c_34
      refine xw_iload_n C dX3_link_177 3 rfl rfl ?_
      refine xw_if_ne (tgt := 271) C dX3_link_178 (by decide) (fun c_35 => ?_) (fun c_35 => ?_)
      · have hf := it_f hf c_35
        exact xl_sub (xl_c rfl (xl_n (xl_n (xl_n (xl_c rfl (xl_c rfl (xl_c rfl (xl_n xl_e)))))))) (kX3_link_271 C hR ht hr  hf)
      · have hf := it_t hf c_35
        refine xw_aload_n C dX3_link_181 0 rfl rfl ?_
        refine xv_getf C (by decide) xs_M rfl inB3 10 (by decide) hw_493 rfl dX3_link_182 ?_
        refine xw_sipush (v := 144) C dX3_link_185 (by decide) ?_
        refine xw_iload C dX3_link_188 rfl ?_
        refine xw_imul C dX3_link_190 ?_
        refine xw_bipush (v := 12) C dX3_link_191 (by decide) ?_
        refine xw_iload C dX3_link_193 rfl ?_
        refine xw_imul C dX3_link_195 ?_
        refine xw_iadd C dX3_link_196 ?_
        refine xw_iload C dX3_link_197 rfl ?_
        refine xw_iadd C dX3_link_199 ?_
        refine xw_iconst (v := -1) C dX3_link_200 (by decide) ?_
        obtain ⟨i_37, hf⟩ := sto_s hf
        refine xv_iast C ht (by decide) (fun _ => xs_427) i_37 dX3_link_201 ?_
        refine xw_aload_n C dX3_link_202 0 rfl rfl ?_
        refine xv_getf C (by decide) xs_M rfl inB3 11 (by decide) hw_494 rfl dX3_link_203 ?_
        refine xw_sipush (v := 144) C dX3_link_206 (by decide) ?_
        refine xw_iload C dX3_link_209 rfl ?_
        refine xw_imul C dX3_link_211 ?_
        refine xw_bipush (v := 12) C dX3_link_212 (by decide) ?_
        refine xw_iload C dX3_link_214 rfl ?_
        refine xw_imul C dX3_link_216 ?_
        refine xw_iadd C dX3_link_217 ?_
        refine xw_iload C dX3_link_218 rfl ?_
        refine xw_iadd C dX3_link_220 ?_
        refine xw_iconst (v := -1) C dX3_link_221 (by decide) ?_
        obtain ⟨i_39, hf⟩ := sto_s hf
        refine xv_iast C ht (by decide) (fun _ => xs_428) i_39 dX3_link_222 ?_
        refine xw_aload_n C dX3_link_223 0 rfl rfl ?_
        refine xv_getf C (by decide) xs_M rfl inB3 10 (by decide) hw_493 rfl dX3_link_224 ?_
        refine xw_sipush (v := 144) C dX3_link_227 (by decide) ?_
        refine xw_iload C dX3_link_230 rfl ?_
        refine xw_imul C dX3_link_232 ?_
        refine xw_bipush (v := 12) C dX3_link_233 (by decide) ?_
        refine xw_iload C dX3_link_235 rfl ?_
        refine xw_imul C dX3_link_237 ?_
        refine xw_iadd C dX3_link_238 ?_
        refine xw_iload C dX3_link_239 rfl ?_
        refine xw_iadd C dX3_link_241 ?_
        refine xw_iconst (v := -1) C dX3_link_242 (by decide) ?_
        obtain ⟨i_41, hf⟩ := sto_s hf
        refine xv_iast C ht (by decide) (fun _ => xs_427) i_41 dX3_link_243 ?_
        refine xw_aload_n C dX3_link_244 0 rfl rfl ?_
        refine xv_getf C (by decide) xs_M rfl inB3 11 (by decide) hw_494 rfl dX3_link_245 ?_
        refine xw_sipush (v := 144) C dX3_link_248 (by decide) ?_
        refine xw_iload C dX3_link_251 rfl ?_
        refine xw_imul C dX3_link_253 ?_
        refine xw_bipush (v := 12) C dX3_link_254 (by decide) ?_
        refine xw_iload C dX3_link_256 rfl ?_
        refine xw_imul C dX3_link_258 ?_
        refine xw_iadd C dX3_link_259 ?_
        refine xw_iload C dX3_link_260 rfl ?_
        refine xw_iadd C dX3_link_262 ?_
        refine xw_iconst (v := -1) C dX3_link_263 (by decide) ?_
        obtain ⟨i_43, hf⟩ := sto_s hf
        refine xv_iast C ht (by decide) (fun _ => xs_428) i_43 dX3_link_264 ?_
        refine xw_iinc C dX3_link_265 rfl (show _ + Int32.ofInt (1) = _ + (1) from congrArg _ (by decide)) (by decide) ?_
        refine xw_goto (tgt := 170) C dX3_link_268 (by decide) ?_
        exact xl_sub (xl_c rfl (xl_n (xl_n (xl_c rfl (xl_c rfl (xl_c rfl (xl_c rfl (xl_c rfl xl_e)))))))) (ih _ _ _ _ _ _ hf)
def fX3_link_163 (x3 : Int32) (x4 : Int32) (x5 : Int32) (x6 : Int32) (s1 : Int32) (s2 : Int32) (M : xwM) : Option (Int32 × xwM) :=
  xlet (ms M 418 2 (s1 - s2)) fun M33 =>
  fX3_link_170 2001 x3 x4 x5 x6 0 M33
set_option maxHeartbeats 4000000 in
set_option maxRecDepth 100000 in
theorem kX3_link_163 {G : xwG} {ad : Nat → Nat} {cs : xmC} (C : xw_C G cX3_link 8 RX3 431 ad) (hR : xgR G = rX3_link) (ht : xgt G = xm_tys cs) (hr : (xgM G).sig.returnType = (some .int)) {M' : xwM} {o : Int32} {x3 : Int32} {x4 : Int32} {x5 : Int32} {x6 : Int32} {s1 : Int32} {s2 : Int32} {M : xwM} (hf : fX3_link_163 x3 x4 x5 x6 s1 s2 M = some (o, M')) : XV G (xw_qi G 431 ad (xm_ce ad cs M') o) 8 0 0 ad cs M 163 [some (.ref (ad 418)), none, none, some (.int x3), some (.int x4), some (.int x5), some (.int x6), none] [.int s2, .int s1, .ref (ad 418)] := by
  unfold fX3_link_163 at hf
  refine xw_isub C dX3_link_163 ?_
  refine xv_putf (fs := xl_X3 ad) C (by decide) (fun _ => xs_M) rfl inB3 tyX3 tyX3_ok nmX3 2 (by decide) hw_485 rfl rfl (fun _ => by simp [xl_X3]) (fun _ => rfl) dX3_link_164 ?_
  have hf := xlet_s hf
  refine xw_iconst (v := 0) C dX3_link_167 (by decide) ?_
  refine xw_istore C dX3_link_168 (by decide) ?_
  exact xl_sub (xl_c rfl (xl_n (xl_n (xl_c rfl (xl_c rfl (xl_c rfl (xl_c rfl (xl_c rfl xl_e)))))))) (kX3_link_170 C hR ht hr 2001 _ _ _ _ _ _ hf)
def fX3_link_143 (x3 : Int32) (x4 : Int32) (x5 : Int32) (x6 : Int32) (M : xwM) : Option (Int32 × xwM) :=
  if x4 = x3 then
    (fX3_link_283 x4 M)
  else
    (if x3 = 0 then
        (fX3_link_163 x3 x4 x5 x6 ((M 418 2)) 1 M)
      else
        (fX3_link_163 x3 x4 x5 x6 ((M 418 2)) 0 M))
set_option maxHeartbeats 4000000 in
set_option maxRecDepth 100000 in
theorem kX3_link_143 {G : xwG} {ad : Nat → Nat} {cs : xmC} (C : xw_C G cX3_link 8 RX3 431 ad) (hR : xgR G = rX3_link) (ht : xgt G = xm_tys cs) (hr : (xgM G).sig.returnType = (some .int)) {M' : xwM} {o : Int32} {x3 : Int32} {x4 : Int32} {x5 : Int32} {x6 : Int32} {M : xwM} (hf : fX3_link_143 x3 x4 x5 x6 M = some (o, M')) : XV G (xw_qi G 431 ad (xm_ce ad cs M') o) 8 0 0 ad cs M 143 [some (.ref (ad 418)), none, none, some (.int x3), some (.int x4), some (.int x5), some (.int x6), none] [] := by
  unfold fX3_link_143 at hf
  refine xw_iload C dX3_link_143 rfl ?_
  refine xw_iload_n C dX3_link_145 3 rfl rfl ?_
  refine xw_icmp_eq (tgt := 283) C dX3_link_146 (by decide) (fun c_31 => ?_) (fun c_31 => ?_)
  · have hf := it_t hf c_31
    exact xl_sub (xl_n (xl_n (xl_n (xl_n (xl_c rfl (xl_n (xl_n (xl_n xl_e)))))))) (kX3_link_283 C hR ht hr  hf)
  · have hf := it_f hf c_31
    refine xw_aload_n C dX3_link_149 0 rfl rfl ?_
    refine xw_dup C dX3_link_150 rfl ?_
    refine xv_getf C (by decide) xs_M rfl inB3 2 (by decide) hw_485 rfl dX3_link_151 ?_
    refine xw_iload_n C dX3_link_154 3 rfl rfl ?_
    refine xw_if_ne (tgt := 162) C dX3_link_155 (by decide) (fun c_32 => ?_) (fun c_32 => ?_)
    · have hf := it_f hf c_32
      refine xw_iconst (v := 0) C dX3_link_162 (by decide) ?_
      exact xl_sub (xl_c rfl (xl_n (xl_n (xl_c rfl (xl_c rfl (xl_c rfl (xl_c rfl (xl_n xl_e)))))))) (kX3_link_163 C hR ht hr  hf)
    · have hf := it_t hf c_32
      refine xw_iconst (v := 1) C dX3_link_158 (by decide) ?_
      refine xw_goto (tgt := 163) C dX3_link_159 (by decide) ?_
      exact xl_sub (xl_c rfl (xl_n (xl_n (xl_c rfl (xl_c rfl (xl_c rfl (xl_c rfl (xl_n xl_e)))))))) (kX3_link_163 C hR ht hr  hf)
def fX3_link_79 (x1 : Int32) (x2 : Int32) (x3 : Int32) (x4 : Int32) (x5 : Int32) (s0 : Int32) (M : xwM) : Option (Int32 × xwM) :=
  sto M 419 144 ((12 * x1) + x2) x3 fun M20 =>
  sto M20 419 144 ((12 * x2) + x1) x3 fun M22 =>
  if x4 = 0 then
    (if x3 ≤ 0 then
        (fX3_link_143 x3 x4 x5 s0 M22)
      else
        (xlet (ms M22 418 2 ((M22 418 2) + 1)) fun M26 =>
          bnv (fX3_introduces x5 s0 M26) fun M27 =>
          bnv (fX3_introduces s0 x5 M27) fun M29 =>
          fX3_link_283 x4 M29))
  else
    (fX3_link_143 x3 x4 x5 s0 M22)
set_option maxHeartbeats 4000000 in
set_option maxRecDepth 100000 in
theorem kX3_link_79 {G : xwG} {ad : Nat → Nat} {cs : xmC} (C : xw_C G cX3_link 8 RX3 431 ad) (hR : xgR G = rX3_link) (ht : xgt G = xm_tys cs) (hr : (xgM G).sig.returnType = (some .int)) {M' : xwM} {o : Int32} {x1 : Int32} {x2 : Int32} {x3 : Int32} {x4 : Int32} {x5 : Int32} {s0 : Int32} {M : xwM} (hf : fX3_link_79 x1 x2 x3 x4 x5 s0 M = some (o, M')) : XV G (xw_qi G 431 ad (xm_ce ad cs M') o) 8 0 0 ad cs M 79 [some (.ref (ad 418)), some (.int x1), some (.int x2), some (.int x3), some (.int x4), some (.int x5), none, none] [.int s0] := by
  unfold fX3_link_79 at hf
  refine xw_istore C dX3_link_79 (by decide) ?_
  refine xw_aload_n C dX3_link_81 0 rfl rfl ?_
  refine xv_getf C (by decide) xs_M rfl inB3 1 (by decide) hw_484 rfl dX3_link_82 ?_
  refine xw_bipush (v := 12) C dX3_link_85 (by decide) ?_
  refine xw_iload_n C dX3_link_87 1 rfl rfl ?_
  refine xw_imul C dX3_link_88 ?_
  refine xw_iload_n C dX3_link_89 2 rfl rfl ?_
  refine xw_iadd C dX3_link_90 ?_
  refine xw_iload_n C dX3_link_91 3 rfl rfl ?_
  obtain ⟨i_21, hf⟩ := sto_s hf
  refine xv_iast C ht (by decide) (fun _ => xs_419) i_21 dX3_link_92 ?_
  refine xw_aload_n C dX3_link_93 0 rfl rfl ?_
  refine xv_getf C (by decide) xs_M rfl inB3 1 (by decide) hw_484 rfl dX3_link_94 ?_
  refine xw_bipush (v := 12) C dX3_link_97 (by decide) ?_
  refine xw_iload_n C dX3_link_99 2 rfl rfl ?_
  refine xw_imul C dX3_link_100 ?_
  refine xw_iload_n C dX3_link_101 1 rfl rfl ?_
  refine xw_iadd C dX3_link_102 ?_
  refine xw_iload_n C dX3_link_103 3 rfl rfl ?_
  obtain ⟨i_23, hf⟩ := sto_s hf
  refine xv_iast C ht (by decide) (fun _ => xs_419) i_23 dX3_link_104 ?_
  refine xw_iload C dX3_link_105 rfl ?_
  refine xw_if_ne (tgt := 143) C dX3_link_107 (by decide) (fun c_24 => ?_) (fun c_24 => ?_)
  · have hf := it_f hf c_24
    exact xl_sub (xl_c rfl (xl_n (xl_n (xl_c rfl (xl_c rfl (xl_c rfl (xl_c rfl (xl_n xl_e)))))))) (kX3_link_143 C hR ht hr  hf)
  · have hf := it_t hf c_24
    refine xw_iload_n C dX3_link_110 3 rfl rfl ?_
    refine xw_if_le (tgt := 143) C dX3_link_111 (by decide) (fun c_25 => ?_) (fun c_25 => ?_)
    · have hf := it_t hf c_25
      exact xl_sub (xl_c rfl (xl_n (xl_n (xl_c rfl (xl_c rfl (xl_c rfl (xl_c rfl (xl_n xl_e)))))))) (kX3_link_143 C hR ht hr  hf)
    · have hf := it_f hf c_25
      refine xw_aload_n C dX3_link_114 0 rfl rfl ?_
      refine xw_dup C dX3_link_115 rfl ?_
      refine xv_getf C (by decide) xs_M rfl inB3 2 (by decide) hw_485 rfl dX3_link_116 ?_
      refine xw_iconst (v := 1) C dX3_link_119 (by decide) ?_
      refine xw_iadd C dX3_link_120 ?_
      refine xv_putf (fs := xl_X3 ad) C (by decide) (fun _ => xs_M) rfl inB3 tyX3 tyX3_ok nmX3 2 (by decide) hw_485 rfl rfl (fun _ => by simp [xl_X3]) (fun _ => rfl) dX3_link_121 ?_
      have hf := xlet_s hf
      refine xw_aload_n C dX3_link_124 0 rfl rfl ?_
      refine xw_iload C dX3_link_125 rfl ?_
      refine xw_iload C dX3_link_127 rfl ?_
      obtain ⟨M_M27, g_28, hf⟩ := bnv_s hf
      refine xc_Vv C (mX3_introduces (xgl G) C.2.2.2.2.2.2.2.2.1 ht  g_28) FX3_introduces hw_550 (by decide) xs_M rfl (by rw [hR]; decide) (by rw [hR]; decide) rfl (Nat.le_of_ble_eq_true rfl) dX3_link_129 rfl ?_
      refine xw_aload_n C dX3_link_132 0 rfl rfl ?_
      refine xw_iload C dX3_link_133 rfl ?_
      refine xw_iload C dX3_link_135 rfl ?_
      obtain ⟨M_M29, g_30, hf⟩ := bnv_s hf
      refine xc_Vv C (mX3_introduces (xgl G) C.2.2.2.2.2.2.2.2.1 ht  g_30) FX3_introduces hw_550 (by decide) xs_M rfl (by rw [hR]; decide) (by rw [hR]; decide) rfl (Nat.le_of_ble_eq_true rfl) dX3_link_137 rfl ?_
      refine xw_goto (tgt := 283) C dX3_link_140 (by decide) ?_
      exact xl_sub (xl_n (xl_n (xl_n (xl_n (xl_c rfl (xl_n (xl_n (xl_n xl_e)))))))) (kX3_link_283 C hR ht hr  hf)
def fX3_link_67 (x1 : Int32) (x2 : Int32) (x3 : Int32) (x4 : Int32) (s0 : Int32) (M : xwM) : Option (Int32 × xwM) :=
  if x2 ≤ x1 then
    (fX3_link_79 x1 x2 x3 x4 s0 x1 M)
  else
    (fX3_link_79 x1 x2 x3 x4 s0 x2 M)
set_option maxHeartbeats 4000000 in
set_option maxRecDepth 100000 in
theorem kX3_link_67 {G : xwG} {ad : Nat → Nat} {cs : xmC} (C : xw_C G cX3_link 8 RX3 431 ad) (hR : xgR G = rX3_link) (ht : xgt G = xm_tys cs) (hr : (xgM G).sig.returnType = (some .int)) {M' : xwM} {o : Int32} {x1 : Int32} {x2 : Int32} {x3 : Int32} {x4 : Int32} {s0 : Int32} {M : xwM} (hf : fX3_link_67 x1 x2 x3 x4 s0 M = some (o, M')) : XV G (xw_qi G 431 ad (xm_ce ad cs M') o) 8 0 0 ad cs M 67 [some (.ref (ad 418)), some (.int x1), some (.int x2), some (.int x3), some (.int x4), none, none, none] [.int s0] := by
  unfold fX3_link_67 at hf
  refine xw_istore C dX3_link_67 (by decide) ?_
  refine xw_iload_n C dX3_link_69 1 rfl rfl ?_
  refine xw_iload_n C dX3_link_70 2 rfl rfl ?_
  refine xw_icmp_ge (tgt := 78) C dX3_link_71 (by decide) (fun c_19 => ?_) (fun c_19 => ?_)
  · have hf := it_t hf c_19
    refine xw_iload_n C dX3_link_78 1 rfl rfl ?_
    exact xl_sub (xl_c rfl (xl_c rfl (xl_c rfl (xl_c rfl (xl_c rfl (xl_c rfl (xl_n (xl_n xl_e)))))))) (kX3_link_79 C hR ht hr  hf)
  · have hf := it_f hf c_19
    refine xw_iload_n C dX3_link_74 2 rfl rfl ?_
    refine xw_goto (tgt := 79) C dX3_link_75 (by decide) ?_
    exact xl_sub (xl_c rfl (xl_c rfl (xl_c rfl (xl_c rfl (xl_c rfl (xl_c rfl (xl_n (xl_n xl_e)))))))) (kX3_link_79 C hR ht hr  hf)
def fX3_link_36 (x1 : Int32) (x2 : Int32) (x3 : Int32) (s1 : Int32) (M : xwM) : Option (Int32 × xwM) :=
  bni (fX3_refuses s1 M) fun v12 M13 =>
  if v12 = 0 then
    (ld M13 419 144 ((12 * x1) + x2) fun v16 =>
      if x2 ≤ x1 then
        (fX3_link_67 x1 x2 x3 v16 x2 M13)
      else
        (fX3_link_67 x1 x2 x3 v16 x1 M13))
  else
    (some (0, M13))
set_option maxHeartbeats 4000000 in
set_option maxRecDepth 100000 in
theorem kX3_link_36 {G : xwG} {ad : Nat → Nat} {cs : xmC} (C : xw_C G cX3_link 8 RX3 431 ad) (hR : xgR G = rX3_link) (ht : xgt G = xm_tys cs) (hr : (xgM G).sig.returnType = (some .int)) {M' : xwM} {o : Int32} {x1 : Int32} {x2 : Int32} {x3 : Int32} {s1 : Int32} {M : xwM} (hf : fX3_link_36 x1 x2 x3 s1 M = some (o, M')) : XV G (xw_qi G 431 ad (xm_ce ad cs M') o) 8 0 0 ad cs M 36 [some (.ref (ad 418)), some (.int x1), some (.int x2), some (.int x3), none, none, none, none] [.int s1, .ref (ad 418)] := by
  unfold fX3_link_36 at hf
  obtain ⟨r_v12, M_M13, g_14, hf⟩ := bni_s hf
  refine xc_Vi C (mX3_refuses (xgl G) C.2.2.2.2.2.2.2.2.1 ht  g_14) FX3_refuses hw_546 (by decide) xs_M rfl (by rw [hR]; decide) (by rw [hR]; decide) rfl (Nat.le_of_ble_eq_true rfl) dX3_link_36 rfl ?_
  refine xw_if_eq (tgt := 44) C dX3_link_39 (by decide) (fun c_15 => ?_) (fun c_15 => ?_)
  · have hf := it_t hf c_15
    refine xw_aload_n C dX3_link_44 0 rfl rfl ?_
    refine xv_getf C (by decide) xs_M rfl inB3 1 (by decide) hw_484 rfl dX3_link_45 ?_
    refine xw_bipush (v := 12) C dX3_link_48 (by decide) ?_
    refine xw_iload_n C dX3_link_50 1 rfl rfl ?_
    refine xw_imul C dX3_link_51 ?_
    refine xw_iload_n C dX3_link_52 2 rfl rfl ?_
    refine xw_iadd C dX3_link_53 ?_
    obtain ⟨i_17, hf⟩ := ld_s hf
    refine xv_iald C ht (by decide) ((fun _ => xs_419) _) i_17 dX3_link_54 ?_
    refine xw_istore C dX3_link_55 (by decide) ?_
    refine xw_iload_n C dX3_link_57 1 rfl rfl ?_
    refine xw_iload_n C dX3_link_58 2 rfl rfl ?_
    refine xw_icmp_ge (tgt := 66) C dX3_link_59 (by decide) (fun c_18 => ?_) (fun c_18 => ?_)
    · have hf := it_t hf c_18
      refine xw_iload_n C dX3_link_66 2 rfl rfl ?_
      exact xl_sub (xl_c rfl (xl_c rfl (xl_c rfl (xl_c rfl (xl_c rfl (xl_n (xl_n (xl_n xl_e)))))))) (kX3_link_67 C hR ht hr  hf)
    · have hf := it_f hf c_18
      refine xw_iload_n C dX3_link_62 1 rfl rfl ?_
      refine xw_goto (tgt := 67) C dX3_link_63 (by decide) ?_
      exact xl_sub (xl_c rfl (xl_c rfl (xl_c rfl (xl_c rfl (xl_c rfl (xl_n (xl_n (xl_n xl_e)))))))) (kX3_link_67 C hR ht hr  hf)
  · have hf := it_f hf c_15
    refine xw_iconst (v := 0) C dX3_link_42 (by decide) ?_
    cases hf
    exact xw_reti C hr dX3_link_43
def fX3_link_31 (x1 : Int32) (x2 : Int32) (x3 : Int32) (M : xwM) : Option (Int32 × xwM) :=
  fX3_link_36 x1 x2 x3 1 M
set_option maxHeartbeats 4000000 in
set_option maxRecDepth 100000 in
theorem kX3_link_31 {G : xwG} {ad : Nat → Nat} {cs : xmC} (C : xw_C G cX3_link 8 RX3 431 ad) (hR : xgR G = rX3_link) (ht : xgt G = xm_tys cs) (hr : (xgM G).sig.returnType = (some .int)) {M' : xwM} {o : Int32} {x1 : Int32} {x2 : Int32} {x3 : Int32} {M : xwM} (hf : fX3_link_31 x1 x2 x3 M = some (o, M')) : XV G (xw_qi G 431 ad (xm_ce ad cs M') o) 8 0 0 ad cs M 31 [some (.ref (ad 418)), some (.int x1), some (.int x2), some (.int x3), none, none, none, none] [.ref (ad 418)] := by
  unfold fX3_link_31 at hf
  refine xw_iconst (v := 1) C dX3_link_31 (by decide) ?_
  refine xw_goto (tgt := 36) C dX3_link_32 (by decide) ?_
  exact xl_sub (xl_c rfl (xl_c rfl (xl_c rfl (xl_c rfl (xl_n (xl_n (xl_n (xl_n xl_e)))))))) (kX3_link_36 C hR ht hr  hf)
def fX3_link (x1 : Int32) (x2 : Int32) (x3 : Int32) (M : xwM) : Option (Int32 × xwM) :=
  bni (fX3_isNode x1 M) fun v1 M2 =>
  if v1 = 0 then
    (fX3_link_31 x1 x2 x3 M2)
  else
    (bni (fX3_isNode x2 M2) fun v5 M6 =>
      if v5 = 0 then
        (fX3_link_31 x1 x2 x3 M6)
      else
        (if x1 = x2 then
            (fX3_link_31 x1 x2 x3 M6)
          else
            (if x3 < 0 then
                (fX3_link_31 x1 x2 x3 M6)
              else
                (if x3 ≤ 1000 then
                    (fX3_link_36 x1 x2 x3 0 M6)
                  else
                    (fX3_link_31 x1 x2 x3 M6)))))
set_option maxHeartbeats 4000000 in
set_option maxRecDepth 100000 in
theorem kX3_link_0 {G : xwG} {ad : Nat → Nat} {cs : xmC} (C : xw_C G cX3_link 8 RX3 431 ad) (hR : xgR G = rX3_link) (ht : xgt G = xm_tys cs) (hr : (xgM G).sig.returnType = (some .int)) {M' : xwM} {o : Int32} {x1 : Int32} {x2 : Int32} {x3 : Int32} {M : xwM} (hf : fX3_link x1 x2 x3 M = some (o, M')) : XV G (xw_qi G 431 ad (xm_ce ad cs M') o) 8 0 0 ad cs M 0 [some (.ref (ad 418)), some (.int x1), some (.int x2), some (.int x3), none, none, none, none] [] := by
  unfold fX3_link at hf
  refine xw_aload_n C dX3_link_0 0 rfl rfl ?_
  refine xw_iload_n C dX3_link_1 1 rfl rfl ?_
  obtain ⟨r_v1, M_M2, g_3, hf⟩ := bni_s hf
  refine xc_Si C (mX3_isNode (xgl G) C.2.2.2.2.2.2.2.2.1 ht  g_3) FX3_isNode hw_543 (by rw [hR]; decide) (by rw [hR]; decide) rfl (Nat.le_of_ble_eq_true rfl) dX3_link_2 rfl ?_
  refine xw_if_eq (tgt := 31) C dX3_link_5 (by decide) (fun c_4 => ?_) (fun c_4 => ?_)
  · have hf := it_t hf c_4
    exact xl_sub (xl_c rfl (xl_c rfl (xl_c rfl (xl_c rfl (xl_n (xl_n (xl_n (xl_n xl_e)))))))) (kX3_link_31 C hR ht hr  hf)
  · have hf := it_f hf c_4
    refine xw_iload_n C dX3_link_8 2 rfl rfl ?_
    obtain ⟨r_v5, M_M6, g_7, hf⟩ := bni_s hf
    refine xc_Si C (mX3_isNode (xgl G) C.2.2.2.2.2.2.2.2.1 ht  g_7) FX3_isNode hw_543 (by rw [hR]; decide) (by rw [hR]; decide) rfl (Nat.le_of_ble_eq_true rfl) dX3_link_9 rfl ?_
    refine xw_if_eq (tgt := 31) C dX3_link_12 (by decide) (fun c_8 => ?_) (fun c_8 => ?_)
    · have hf := it_t hf c_8
      exact xl_sub (xl_c rfl (xl_c rfl (xl_c rfl (xl_c rfl (xl_n (xl_n (xl_n (xl_n xl_e)))))))) (kX3_link_31 C hR ht hr  hf)
    · have hf := it_f hf c_8
      refine xw_iload_n C dX3_link_15 1 rfl rfl ?_
      refine xw_iload_n C dX3_link_16 2 rfl rfl ?_
      refine xw_icmp_eq (tgt := 31) C dX3_link_17 (by decide) (fun c_9 => ?_) (fun c_9 => ?_)
      · have hf := it_t hf c_9
        exact xl_sub (xl_c rfl (xl_c rfl (xl_c rfl (xl_c rfl (xl_n (xl_n (xl_n (xl_n xl_e)))))))) (kX3_link_31 C hR ht hr  hf)
      · have hf := it_f hf c_9
        refine xw_iload_n C dX3_link_20 3 rfl rfl ?_
        refine xw_if_lt (tgt := 31) C dX3_link_21 (by decide) (fun c_10 => ?_) (fun c_10 => ?_)
        · have hf := it_t hf c_10
          exact xl_sub (xl_c rfl (xl_c rfl (xl_c rfl (xl_c rfl (xl_n (xl_n (xl_n (xl_n xl_e)))))))) (kX3_link_31 C hR ht hr  hf)
        · have hf := it_f hf c_10
          refine xw_iload_n C dX3_link_24 3 rfl rfl ?_
          refine xw_sipush (v := 1000) C dX3_link_25 (by decide) ?_
          refine xw_icmp_le (tgt := 35) C dX3_link_28 (by decide) (fun c_11 => ?_) (fun c_11 => ?_)
          · have hf := it_t hf c_11
            refine xw_iconst (v := 0) C dX3_link_35 (by decide) ?_
            exact xl_sub (xl_c rfl (xl_c rfl (xl_c rfl (xl_c rfl (xl_n (xl_n (xl_n (xl_n xl_e)))))))) (kX3_link_36 C hR ht hr  hf)
          · have hf := it_f hf c_11
            exact xl_sub (xl_c rfl (xl_c rfl (xl_c rfl (xl_c rfl (xl_n (xl_n (xl_n (xl_n xl_e)))))))) (kX3_link_31 C hR ht hr  hf)
theorem mX3_link (l : Launch) {D : va_G} {tys : List (ClassId × FieldType)} {base : Nat} {ad : Nat → Nat} {cs : xmC} (hJ : xw_J 431 ad base) (ht : tys = xm_tys cs) {x1 : Int32} {x2 : Int32} {x3 : Int32} {M M' : xwM} {o : Int32} (hf : fX3_link x1 x2 x3 M = some (o, M')) : xk_i l yX3_link cX3_link 8 (some .int) rX3_link D tys base 431 ad [.ref (ad 418), .int x1, .int x2, .int x3] (xm_ce ad cs M) (xm_ce ad cs M') o :=
  xk_ofi 4 (by decide) hJ (List.forall_mem_cons.mpr ⟨rfl, List.forall_mem_cons.mpr ⟨rfl, List.forall_mem_cons.mpr ⟨rfl, List.forall_mem_cons.mpr ⟨rfl, List.forall_mem_nil _⟩⟩⟩⟩) (Nat.le_of_ble_eq_true rfl) (fun G e1 e2 e3 e4 e5 hr C => kX3_link_0 C e2 (e4.trans ht) hr  hf)
