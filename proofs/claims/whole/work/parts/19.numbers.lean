abbrev rX2_isNewer : Room := { frames := 0, cells := 0, slots := 0, locals := 0 }
def fX2_isNewer_24 (s0 : Int32) (M : xwM) : Option (Int32 × xwM) :=
  if s0 = 0 ∨ s0 = 1 then some (s0, M) else none
set_option maxHeartbeats 4000000 in
set_option maxRecDepth 100000 in
theorem kX2_isNewer_24 {G : xwG} {ad : Nat → Nat} {cs : xmC} (C : xw_C G cX2_isNewer 3 RX2 431 ad) (hR : xgR G = rX2_isNewer) (ht : xgt G = xm_tys cs) (hr : (xgM G).sig.returnType = (some .boolean)) {M' : xwM} {o : Int32} {s0 : Int32} {M : xwM} (hf : fX2_isNewer_24 s0 M = some (o, M')) : XV G (xw_qi G 431 ad (xm_ce ad cs M') o) 3 0 0 ad cs M 24 [none, none, none] [.int s0] := by
  unfold fX2_isNewer_24 at hf
  obtain ⟨hz, hf⟩ := xl_z hf
  cases hf
  exact xw_retz C hr hz dX2_isNewer_24
def fX2_isNewer_23 (M : xwM) : Option (Int32 × xwM) :=
  fX2_isNewer_24 0 M
set_option maxHeartbeats 4000000 in
set_option maxRecDepth 100000 in
theorem kX2_isNewer_23 {G : xwG} {ad : Nat → Nat} {cs : xmC} (C : xw_C G cX2_isNewer 3 RX2 431 ad) (hR : xgR G = rX2_isNewer) (ht : xgt G = xm_tys cs) (hr : (xgM G).sig.returnType = (some .boolean)) {M' : xwM} {o : Int32} {M : xwM} (hf : fX2_isNewer_23  M = some (o, M')) : XV G (xw_qi G 431 ad (xm_ce ad cs M') o) 3 0 0 ad cs M 23 [none, none, none] [] := by
  unfold fX2_isNewer_23 at hf
  refine xw_iconst (v := 0) C dX2_isNewer_23 (by decide) ?_
  exact xl_sub (xl_n (xl_n (xl_n xl_e))) (kX2_isNewer_24 C hR ht hr  hf)
def fX2_isNewer (x0 : Int32) (x1 : Int32) (M : xwM) : Option (Int32 × xwM) :=
  if ((x0 - x1) &&& 65535) < 1 then
    (fX2_isNewer_23  M)
  else
    (if 32767 < ((x0 - x1) &&& 65535) then
        (fX2_isNewer_23  M)
      else
        (fX2_isNewer_24 1 M))
set_option maxHeartbeats 4000000 in
set_option maxRecDepth 100000 in
theorem kX2_isNewer_0 {G : xwG} {ad : Nat → Nat} {cs : xmC} (C : xw_C G cX2_isNewer 3 RX2 431 ad) (hR : xgR G = rX2_isNewer) (ht : xgt G = xm_tys cs) (hr : (xgM G).sig.returnType = (some .boolean)) {M' : xwM} {o : Int32} {x0 : Int32} {x1 : Int32} {M : xwM} (hf : fX2_isNewer x0 x1 M = some (o, M')) : XV G (xw_qi G 431 ad (xm_ce ad cs M') o) 3 0 0 ad cs M 0 [some (.int x0), some (.int x1), none] [] := by
  unfold fX2_isNewer at hf
  refine xw_iload_n C dX2_isNewer_0 0 rfl rfl ?_
  refine xw_iload_n C dX2_isNewer_1 1 rfl rfl ?_
  refine xw_isub C dX2_isNewer_2 ?_
  refine xw_ldc C hw_248 dX2_isNewer_3 ?_
  refine xw_iand C dX2_isNewer_5 ?_
  refine xw_istore_n C dX2_isNewer_6 2 rfl (by decide) ?_
  refine xw_iload_n C dX2_isNewer_7 2 rfl rfl ?_
  refine xw_iconst (v := 1) C dX2_isNewer_8 (by decide) ?_
  refine xw_icmp_lt (tgt := 23) C dX2_isNewer_9 (by decide) (fun c_1 => ?_) (fun c_1 => ?_)
  · have hf := it_t hf c_1
    exact xl_sub (xl_n (xl_n (xl_n xl_e))) (kX2_isNewer_23 C hR ht hr  hf)
  · have hf := it_f hf c_1
    refine xw_iload_n C dX2_isNewer_12 2 rfl rfl ?_
    refine xw_sipush (v := 32767) C dX2_isNewer_13 (by decide) ?_
    refine xw_icmp_gt (tgt := 23) C dX2_isNewer_16 (by decide) (fun c_2 => ?_) (fun c_2 => ?_)
    · have hf := it_t hf c_2
      exact xl_sub (xl_n (xl_n (xl_n xl_e))) (kX2_isNewer_23 C hR ht hr  hf)
    · have hf := it_f hf c_2
      refine xw_iconst (v := 1) C dX2_isNewer_19 (by decide) ?_
      refine xw_goto (tgt := 24) C dX2_isNewer_20 (by decide) ?_
      exact xl_sub (xl_n (xl_n (xl_n xl_e))) (kX2_isNewer_24 C hR ht hr  hf)
theorem mX2_isNewer (l : Launch) {D : va_G} {tys : List (ClassId × FieldType)} {base : Nat} {ad : Nat → Nat} {cs : xmC} (hJ : xw_J 431 ad base) (ht : tys = xm_tys cs) {x0 : Int32} {x1 : Int32} {M M' : xwM} {o : Int32} (hf : fX2_isNewer x0 x1 M = some (o, M')) : xk_i l yX2_isNewer cX2_isNewer 3 (some .boolean) rX2_isNewer D tys base 431 ad [.int x0, .int x1] (xm_ce ad cs M) (xm_ce ad cs M') o :=
  xk_ofi 1 (by decide) hJ (List.forall_mem_cons.mpr ⟨rfl, List.forall_mem_cons.mpr ⟨rfl, List.forall_mem_nil _⟩⟩) (Nat.le_of_ble_eq_true rfl) (fun G e1 e2 e3 e4 e5 hr C => kX2_isNewer_0 C e2 (e4.trans ht) hr  hf)

abbrev rX2_nextNumber : Room := { frames := 0, cells := 0, slots := 0, locals := 0 }
def fX2_nextNumber (x0 : Int32) (M : xwM) : Option (Int32 × xwM) :=
  some (((x0 + 1) &&& 65535), M)
set_option maxHeartbeats 4000000 in
set_option maxRecDepth 100000 in
theorem kX2_nextNumber_0 {G : xwG} {ad : Nat → Nat} {cs : xmC} (C : xw_C G cX2_nextNumber 1 RX2 431 ad) (hR : xgR G = rX2_nextNumber) (ht : xgt G = xm_tys cs) (hr : (xgM G).sig.returnType = (some .int)) {M' : xwM} {o : Int32} {x0 : Int32} {M : xwM} (hf : fX2_nextNumber x0 M = some (o, M')) : XV G (xw_qi G 431 ad (xm_ce ad cs M') o) 1 0 0 ad cs M 0 [some (.int x0)] [] := by
  unfold fX2_nextNumber at hf
  refine xw_iload_n C dX2_nextNumber_0 0 rfl rfl ?_
  refine xw_iconst (v := 1) C dX2_nextNumber_1 (by decide) ?_
  refine xw_iadd C dX2_nextNumber_2 ?_
  refine xw_ldc C hw_248 dX2_nextNumber_3 ?_
  refine xw_iand C dX2_nextNumber_5 ?_
  cases hf
  exact xw_reti C hr dX2_nextNumber_6
theorem mX2_nextNumber (l : Launch) {D : va_G} {tys : List (ClassId × FieldType)} {base : Nat} {ad : Nat → Nat} {cs : xmC} (hJ : xw_J 431 ad base) (ht : tys = xm_tys cs) {x0 : Int32} {M M' : xwM} {o : Int32} (hf : fX2_nextNumber x0 M = some (o, M')) : xk_i l yX2_nextNumber cX2_nextNumber 1 (some .int) rX2_nextNumber D tys base 431 ad [.int x0] (xm_ce ad cs M) (xm_ce ad cs M') o :=
  xk_ofi 0 (by decide) hJ (List.forall_mem_cons.mpr ⟨rfl, List.forall_mem_nil _⟩) (Nat.le_of_ble_eq_true rfl) (fun G e1 e2 e3 e4 e5 hr C => kX2_nextNumber_0 C e2 (e4.trans ht) hr  hf)
