theorem FX2_link : xf_V yX2_link cX2_link 7 (some .int) RX2 3 := ⟨hw_145, hw_146, hw_31, hw_147, by decide +kernel⟩
theorem FL_link : xf_H yL_link cL_link 6 [(0, 12, 15, 13)] 5 := ⟨hw_141, hw_30, hw_142, by decide +kernel⟩
theorem FX2_announce : xf_V yX2_announce cX2_announce 4 (some .int) RX2 1 := ⟨hw_306, hw_307, hw_31, hw_308, by decide +kernel⟩
theorem FL_announce : xf_H yL_announce cL_announce 4 [(0, 9, 12, 13)] 3 := ⟨hw_303, hw_30, hw_304, by decide +kernel⟩
theorem FX2_renew : xf_V yX2_renew cX2_renew 3 (some .int) RX2 1 := ⟨hw_313, hw_314, hw_31, hw_315, by decide +kernel⟩
theorem FL_renew : xf_H yL_renew cL_renew 4 [(0, 9, 12, 13)] 3 := ⟨hw_310, hw_30, hw_311, by decide +kernel⟩
theorem FX2_ask : xf_V yX2_ask cX2_ask 4 (some .int) RX2 2 := ⟨hw_325, hw_326, hw_31, hw_327, by decide +kernel⟩
theorem FL_ask : xf_H yL_ask cL_ask 5 [(0, 10, 13, 13)] 4 := ⟨hw_322, hw_30, hw_323, by decide +kernel⟩
theorem FX2_reboot : xf_V yX2_reboot cX2_reboot 2 (some .int) RX2 1 := ⟨hw_333, hw_334, hw_31, hw_335, by decide +kernel⟩
theorem FL_reboot : xf_H yL_reboot cL_reboot 4 [(0, 9, 12, 13), (0, 9, 15, 29)] 3 := ⟨hw_329, hw_30, hw_330, by decide +kernel⟩
theorem FX2_deliver : xf_V yX2_deliver cX2_deliver 3 (some .int) RX2 1 := ⟨hw_376, hw_377, hw_31, hw_378, by decide +kernel⟩
theorem FL_deliver : xf_H yL_deliver cL_deliver 4 [(0, 9, 12, 13)] 3 := ⟨hw_373, hw_30, hw_374, by decide +kernel⟩
theorem FX2_run : xf_V yX2_run cX2_run 3 (some .int) RX2 1 := ⟨hw_410, hw_411, hw_31, hw_412, by decide +kernel⟩
theorem FL_run : xf_H yL_run cL_run 4 [(0, 9, 12, 13)] 3 := ⟨hw_407, hw_30, hw_408, by decide +kernel⟩
theorem FX2_drop : xf_V yX2_drop cX2_drop 3 (some .int) RX2 1 := ⟨hw_417, hw_418, hw_31, hw_419, by decide +kernel⟩
theorem FL_drop : xf_H yL_drop cL_drop 4 [(0, 9, 12, 13)] 3 := ⟨hw_414, hw_30, hw_415, by decide +kernel⟩
theorem FX2_copy : xf_V yX2_copy cX2_copy 2 (some .boolean) RX2 1 := ⟨hw_424, hw_425, hw_31, hw_426, by decide +kernel⟩
theorem FL_copy : xf_H yL_copy cL_copy 4 [(0, 16, 19, 13)] 3 := ⟨hw_421, hw_30, hw_422, by decide +kernel⟩
theorem FX2_letter : xf_V yX2_letter cX2_letter 3 (some .int) RX2 2 := ⟨hw_435, hw_436, hw_31, hw_437, by decide +kernel⟩
theorem FL_letter : xf_H yL_letter cL_letter 5 [(0, 10, 13, 13)] 4 := ⟨hw_432, hw_30, hw_433, by decide +kernel⟩
theorem FX2_way : xf_V yX2_way cX2_way 5 (some .int) RX2 3 := ⟨hw_442, hw_443, hw_31, hw_444, by decide +kernel⟩
theorem FL_way : xf_H yL_way cL_way 6 [(0, 12, 15, 13)] 5 := ⟨hw_439, hw_30, hw_440, by decide +kernel⟩
theorem FX2_told : xf_V yX2_told cX2_told 8 (some .int) RX2 4 := ⟨hw_449, hw_450, hw_31, hw_451, by decide +kernel⟩
theorem FL_told : xf_H yL_told cL_told 7 [(0, 14, 17, 13)] 6 := ⟨hw_446, hw_30, hw_447, by decide +kernel⟩
theorem FX2_trace : xf_V yX2_trace cX2_trace 5 (some .int) RX2 2 := ⟨hw_456, hw_457, hw_31, hw_458, by decide +kernel⟩
theorem FL_trace : xf_H yL_trace cL_trace 5 [(0, 10, 13, 13)] 4 := ⟨hw_453, hw_30, hw_454, by decide +kernel⟩
theorem FX2_cost : xf_V yX2_cost cX2_cost 3 (some .int) RX2 2 := ⟨hw_463, hw_464, hw_31, hw_465, by decide +kernel⟩
theorem FL_cost : xf_H yL_cost cL_cost 5 [(0, 10, 13, 13)] 4 := ⟨hw_460, hw_30, hw_461, by decide +kernel⟩
theorem FX2_total : xf_V yX2_total cX2_total 2 (some .int) RX2 1 := ⟨hw_470, hw_471, hw_31, hw_472, by decide +kernel⟩
theorem FL_total : xf_H yL_total cL_total 4 [(0, 9, 12, 13)] 3 := ⟨hw_467, hw_30, hw_468, by decide +kernel⟩
theorem FX3_link : xf_V yX3_link cX3_link 8 (some .int) RX3 3 := ⟨hw_540, hw_541, hw_35, hw_542, by decide +kernel⟩
theorem FX3_thrown : xf_V yX3_thrown cX3_thrown 1 (some .int) RX3 0 := ⟨hw_536, hw_537, hw_35, hw_538, by decide +kernel⟩
theorem FX3_announce : xf_V yX3_announce cX3_announce 4 (some .int) RX3 1 := ⟨hw_596, hw_597, hw_35, hw_598, by decide +kernel⟩
theorem FX3_renew : xf_V yX3_renew cX3_renew 2 (some .int) RX3 1 := ⟨hw_600, hw_601, hw_35, hw_602, by decide +kernel⟩
theorem FX3_ask : xf_V yX3_ask cX3_ask 4 (some .int) RX3 2 := ⟨hw_604, hw_605, hw_35, hw_606, by decide +kernel⟩
theorem FX3_reboot : xf_V yX3_reboot cX3_reboot 5 (some .int) RX3 1 := ⟨hw_608, hw_609, hw_35, hw_610, by decide +kernel⟩
theorem FX3_deliver : xf_V yX3_deliver cX3_deliver 2 (some .int) RX3 1 := ⟨hw_616, hw_617, hw_35, hw_618, by decide +kernel⟩
theorem FX3_run : xf_V yX3_run cX3_run 3 (some .int) RX3 1 := ⟨hw_628, hw_629, hw_35, hw_630, by decide +kernel⟩
theorem FX3_drop : xf_V yX3_drop cX3_drop 2 (some .int) RX3 1 := ⟨hw_632, hw_633, hw_35, hw_634, by decide +kernel⟩
theorem FX3_copy : xf_V yX3_copy cX3_copy 3 (some .boolean) RX3 1 := ⟨hw_636, hw_637, hw_35, hw_638, by decide +kernel⟩
theorem FX3_letter : xf_V yX3_letter cX3_letter 3 (some .int) RX3 2 := ⟨hw_640, hw_641, hw_35, hw_642, by decide +kernel⟩
theorem FX3_way : xf_V yX3_way cX3_way 5 (some .int) RX3 3 := ⟨hw_644, hw_645, hw_35, hw_646, by decide +kernel⟩
theorem FX3_told : xf_V yX3_told cX3_told 7 (some .int) RX3 4 := ⟨hw_648, hw_649, hw_35, hw_650, by decide +kernel⟩
theorem FX3_trace : xf_V yX3_trace cX3_trace 5 (some .int) RX3 2 := ⟨hw_652, hw_653, hw_35, hw_654, by decide +kernel⟩
theorem FX3_cost : xf_V yX3_cost cX3_cost 3 (some .int) RX3 2 := ⟨hw_656, hw_657, hw_35, hw_658, by decide +kernel⟩
theorem FX3_total : xf_V yX3_total cX3_total 2 (some .int) RX3 1 := ⟨hw_660, hw_661, hw_35, hw_662, by decide +kernel⟩
abbrev rL_link : Room := { frames := 9, cells := 4, slots := 24, locals := 169 }
set_option maxHeartbeats 4000000 in
set_option maxRecDepth 100000 in
theorem mL_link (l : Launch) {D : va_G} {tys : List (ClassId × FieldType)} {base : Nat} {ad : Nat → Nat} {cs : xmC} (hJ : xw_J 431 ad base) (ht0 : tys = xm_tys cs) (hl0 : l.stackTraces = false) {x1 : Int32} {x2 : Int32} {x3 : Int32} {M M' : xwM} {o : Int32} (hf : hL1 (fX2_link x1 x2 x3 M) = some (o, M')) : xk_h l yL_link cL_link 6 [(0, 12, 15, 13)] rL_link D tys base 431 ad [.ref (ad 0), .int x1, .int x2, .int x3, .ref (ad 430)] (xm_ce ad cs M) (xm_ce ad cs M') o 4 24 := by
  refine xk_ofh 1 (by decide) hJ (List.forall_mem_cons.mpr ⟨rfl, List.forall_mem_cons.mpr ⟨rfl, List.forall_mem_cons.mpr ⟨rfl, List.forall_mem_cons.mpr ⟨rfl, List.forall_mem_cons.mpr ⟨rfl, List.forall_mem_nil _⟩⟩⟩⟩⟩) (Nat.le_of_ble_eq_true rfl) (fun G e1 hR e3 e4 e5 hr hT hN C => ?_)
  have ht : xgt G = xm_tys cs := e4.trans ht0
  have hl : (xgl G).stackTraces = false := by rw [e1]; exact hl0
  cases hq : fX2_link x1 x2 x3 M with
  | none =>
    rw [hq] at hf
    cases hf
  | some q9 =>
    obtain ⟨q, M1⟩ := q9
    rw [hq] at hf
    refine xw_aload C dL_link_0 rfl ?_
    refine xw_iconst (v := 0) C dL_link_2 (by decide) ?_
    refine xw_aload_n C dL_link_3 0 rfl rfl ?_
    refine xw_iload_n C dL_link_4 1 rfl rfl ?_
    refine xw_iload_n C dL_link_5 2 rfl rfl ?_
    refine xw_iload_n C dL_link_6 3 rfl rfl ?_
    refine xh_call C (mX2_link (xgl G) C.2.2.2.2.2.2.2.2.1 ht hl hq) FX2_link hw_144 (by decide) xs_0 rfl (by rw [hR]; decide) (by rw [hR]; decide) rfl (Nat.le_of_ble_eq_true rfl) dL_link_7 rfl (fun E hE => ?_) (fun r hr0 => ?_)
    · subst hE
      obtain ⟨rfl, hf⟩ := hL1_x hf
      cases hf
      refine ⟨[], ⟨0, 12, 15, 13⟩, [], xIAE, hT, (fun z hz => nomatch hz), rfl, (by decide), C.2.2.2.2.1 _ hw_143, va_Nw.use rfl C.2.2.2.2.2.2.2.2.2.1.2.2.2.1, fun q => ?_⟩
      refine xw_astore C dL_link_15 (by decide) ?_
      refine xw_iconst (v := 1) C dL_link_17 (by decide) ?_
      exact xw_reth C hr (by decide) (by decide) dL_link_18
    · subst hr0
      cases hf
      refine xw_i2l C dL_link_10 ?_
      refine xv_last C ht dL_link_11 ?_
      refine xw_goto (tgt := 19) C dL_link_12 (by decide) ?_
      refine xw_iconst (v := 0) C dL_link_19 (by decide) ?_
      exact xw_reth C hr (by decide) (by decide) dL_link_20
abbrev rL_announce : Room := { frames := 8, cells := 1, slots := 6, locals := 133 }
set_option maxHeartbeats 4000000 in
set_option maxRecDepth 100000 in
theorem mL_announce (l : Launch) {D : va_G} {tys : List (ClassId × FieldType)} {base : Nat} {ad : Nat → Nat} {cs : xmC} (hJ : xw_J 431 ad base) (ht0 : tys = xm_tys cs) (hl0 : l.stackTraces = false) {x1 : Int32} {M M' : xwM} {o : Int32} (hf : hL1 (fX2_announce x1 M) = some (o, M')) : xk_h l yL_announce cL_announce 4 [(0, 9, 12, 13)] rL_announce D tys base 431 ad [.ref (ad 0), .int x1, .ref (ad 430)] (xm_ce ad cs M) (xm_ce ad cs M') o 1 6 := by
  refine xk_ofh 1 (by decide) hJ (List.forall_mem_cons.mpr ⟨rfl, List.forall_mem_cons.mpr ⟨rfl, List.forall_mem_cons.mpr ⟨rfl, List.forall_mem_nil _⟩⟩⟩) (Nat.le_of_ble_eq_true rfl) (fun G e1 hR e3 e4 e5 hr hT hN C => ?_)
  have ht : xgt G = xm_tys cs := e4.trans ht0
  have hl : (xgl G).stackTraces = false := by rw [e1]; exact hl0
  cases hq : fX2_announce x1 M with
  | none =>
    rw [hq] at hf
    cases hf
  | some q9 =>
    obtain ⟨q, M1⟩ := q9
    rw [hq] at hf
    refine xw_aload_n C dL_announce_0 2 rfl rfl ?_
    refine xw_iconst (v := 0) C dL_announce_1 (by decide) ?_
    refine xw_aload_n C dL_announce_2 0 rfl rfl ?_
    refine xw_iload_n C dL_announce_3 1 rfl rfl ?_
    refine xh_call C (mX2_announce (xgl G) C.2.2.2.2.2.2.2.2.1 ht hl hq) FX2_announce hw_305 (by decide) xs_0 rfl (by rw [hR]; decide) (by rw [hR]; decide) rfl (Nat.le_of_ble_eq_true rfl) dL_announce_4 rfl (fun E hE => ?_) (fun r hr0 => ?_)
    · subst hE
      obtain ⟨rfl, hf⟩ := hL1_x hf
      cases hf
      refine ⟨[], ⟨0, 9, 12, 13⟩, [], xIAE, hT, (fun z hz => nomatch hz), rfl, (by decide), C.2.2.2.2.1 _ hw_143, va_Nw.use rfl C.2.2.2.2.2.2.2.2.2.1.2.2.2.1, fun q => ?_⟩
      refine xw_astore_n C dL_announce_12 3 rfl (by decide) ?_
      refine xw_iconst (v := 1) C dL_announce_13 (by decide) ?_
      exact xw_reth C hr (by decide) (by decide) dL_announce_14
    · subst hr0
      cases hf
      refine xw_i2l C dL_announce_7 ?_
      refine xv_last C ht dL_announce_8 ?_
      refine xw_goto (tgt := 15) C dL_announce_9 (by decide) ?_
      refine xw_iconst (v := 0) C dL_announce_15 (by decide) ?_
      exact xw_reth C hr (by decide) (by decide) dL_announce_16
abbrev rL_renew : Room := { frames := 8, cells := 1, slots := 6, locals := 132 }
set_option maxHeartbeats 4000000 in
set_option maxRecDepth 100000 in
theorem mL_renew (l : Launch) {D : va_G} {tys : List (ClassId × FieldType)} {base : Nat} {ad : Nat → Nat} {cs : xmC} (hJ : xw_J 431 ad base) (ht0 : tys = xm_tys cs) (hl0 : l.stackTraces = false) {x1 : Int32} {M M' : xwM} {o : Int32} (hf : hL1 (fX2_renew x1 M) = some (o, M')) : xk_h l yL_renew cL_renew 4 [(0, 9, 12, 13)] rL_renew D tys base 431 ad [.ref (ad 0), .int x1, .ref (ad 430)] (xm_ce ad cs M) (xm_ce ad cs M') o 1 6 := by
  refine xk_ofh 1 (by decide) hJ (List.forall_mem_cons.mpr ⟨rfl, List.forall_mem_cons.mpr ⟨rfl, List.forall_mem_cons.mpr ⟨rfl, List.forall_mem_nil _⟩⟩⟩) (Nat.le_of_ble_eq_true rfl) (fun G e1 hR e3 e4 e5 hr hT hN C => ?_)
  have ht : xgt G = xm_tys cs := e4.trans ht0
  have hl : (xgl G).stackTraces = false := by rw [e1]; exact hl0
  cases hq : fX2_renew x1 M with
  | none =>
    rw [hq] at hf
    cases hf
  | some q9 =>
    obtain ⟨q, M1⟩ := q9
    rw [hq] at hf
    refine xw_aload_n C dL_renew_0 2 rfl rfl ?_
    refine xw_iconst (v := 0) C dL_renew_1 (by decide) ?_
    refine xw_aload_n C dL_renew_2 0 rfl rfl ?_
    refine xw_iload_n C dL_renew_3 1 rfl rfl ?_
    refine xh_call C (mX2_renew (xgl G) C.2.2.2.2.2.2.2.2.1 ht hl hq) FX2_renew hw_312 (by decide) xs_0 rfl (by rw [hR]; decide) (by rw [hR]; decide) rfl (Nat.le_of_ble_eq_true rfl) dL_renew_4 rfl (fun E hE => ?_) (fun r hr0 => ?_)
    · subst hE
      obtain ⟨rfl, hf⟩ := hL1_x hf
      cases hf
      refine ⟨[], ⟨0, 9, 12, 13⟩, [], xIAE, hT, (fun z hz => nomatch hz), rfl, (by decide), C.2.2.2.2.1 _ hw_143, va_Nw.use rfl C.2.2.2.2.2.2.2.2.2.1.2.2.2.1, fun q => ?_⟩
      refine xw_astore_n C dL_renew_12 3 rfl (by decide) ?_
      refine xw_iconst (v := 1) C dL_renew_13 (by decide) ?_
      exact xw_reth C hr (by decide) (by decide) dL_renew_14
    · subst hr0
      cases hf
      refine xw_i2l C dL_renew_7 ?_
      refine xv_last C ht dL_renew_8 ?_
      refine xw_goto (tgt := 15) C dL_renew_9 (by decide) ?_
      refine xw_iconst (v := 0) C dL_renew_15 (by decide) ?_
      exact xw_reth C hr (by decide) (by decide) dL_renew_16
abbrev rL_ask : Room := { frames := 9, cells := 3, slots := 18, locals := 154 }
set_option maxHeartbeats 4000000 in
set_option maxRecDepth 100000 in
theorem mL_ask (l : Launch) {D : va_G} {tys : List (ClassId × FieldType)} {base : Nat} {ad : Nat → Nat} {cs : xmC} (hJ : xw_J 431 ad base) (ht0 : tys = xm_tys cs) (hl0 : l.stackTraces = false) {x1 : Int32} {x2 : Int32} {M M' : xwM} {o : Int32} (hf : hL1 (fX2_ask x1 x2 M) = some (o, M')) : xk_h l yL_ask cL_ask 5 [(0, 10, 13, 13)] rL_ask D tys base 431 ad [.ref (ad 0), .int x1, .int x2, .ref (ad 430)] (xm_ce ad cs M) (xm_ce ad cs M') o 3 18 := by
  refine xk_ofh 1 (by decide) hJ (List.forall_mem_cons.mpr ⟨rfl, List.forall_mem_cons.mpr ⟨rfl, List.forall_mem_cons.mpr ⟨rfl, List.forall_mem_cons.mpr ⟨rfl, List.forall_mem_nil _⟩⟩⟩⟩) (Nat.le_of_ble_eq_true rfl) (fun G e1 hR e3 e4 e5 hr hT hN C => ?_)
  have ht : xgt G = xm_tys cs := e4.trans ht0
  have hl : (xgl G).stackTraces = false := by rw [e1]; exact hl0
  cases hq : fX2_ask x1 x2 M with
  | none =>
    rw [hq] at hf
    cases hf
  | some q9 =>
    obtain ⟨q, M1⟩ := q9
    rw [hq] at hf
    refine xw_aload_n C dL_ask_0 3 rfl rfl ?_
    refine xw_iconst (v := 0) C dL_ask_1 (by decide) ?_
    refine xw_aload_n C dL_ask_2 0 rfl rfl ?_
    refine xw_iload_n C dL_ask_3 1 rfl rfl ?_
    refine xw_iload_n C dL_ask_4 2 rfl rfl ?_
    refine xh_call C (mX2_ask (xgl G) C.2.2.2.2.2.2.2.2.1 ht hl hq) FX2_ask hw_324 (by decide) xs_0 rfl (by rw [hR]; decide) (by rw [hR]; decide) rfl (Nat.le_of_ble_eq_true rfl) dL_ask_5 rfl (fun E hE => ?_) (fun r hr0 => ?_)
    · subst hE
      obtain ⟨rfl, hf⟩ := hL1_x hf
      cases hf
      refine ⟨[], ⟨0, 10, 13, 13⟩, [], xIAE, hT, (fun z hz => nomatch hz), rfl, (by decide), C.2.2.2.2.1 _ hw_143, va_Nw.use rfl C.2.2.2.2.2.2.2.2.2.1.2.2.2.1, fun q => ?_⟩
      refine xw_astore C dL_ask_13 (by decide) ?_
      refine xw_iconst (v := 1) C dL_ask_15 (by decide) ?_
      exact xw_reth C hr (by decide) (by decide) dL_ask_16
    · subst hr0
      cases hf
      refine xw_i2l C dL_ask_8 ?_
      refine xv_last C ht dL_ask_9 ?_
      refine xw_goto (tgt := 17) C dL_ask_10 (by decide) ?_
      refine xw_iconst (v := 0) C dL_ask_17 (by decide) ?_
      exact xw_reth C hr (by decide) (by decide) dL_ask_18
abbrev rL_reboot : Room := { frames := 8, cells := 2, slots := 12, locals := 131 }
set_option maxHeartbeats 4000000 in
set_option maxRecDepth 100000 in
theorem mL_reboot (l : Launch) {D : va_G} {tys : List (ClassId × FieldType)} {base : Nat} {ad : Nat → Nat} {cs : xmC} (hJ : xw_J 431 ad base) (ht0 : tys = xm_tys cs) (hl0 : l.stackTraces = false) {x1 : Int32} {M M' : xwM} {o : Int32} (hf : hL2 (fX2_reboot x1 M) = some (o, M')) : xk_h l yL_reboot cL_reboot 4 [(0, 9, 12, 13), (0, 9, 15, 29)] rL_reboot D tys base 431 ad [.ref (ad 0), .int x1, .ref (ad 430)] (xm_ce ad cs M) (xm_ce ad cs M') o 2 12 := by
  refine xk_ofh 1 (by decide) hJ (List.forall_mem_cons.mpr ⟨rfl, List.forall_mem_cons.mpr ⟨rfl, List.forall_mem_cons.mpr ⟨rfl, List.forall_mem_nil _⟩⟩⟩) (Nat.le_of_ble_eq_true rfl) (fun G e1 hR e3 e4 e5 hr hT hN C => ?_)
  have ht : xgt G = xm_tys cs := e4.trans ht0
  have hl : (xgl G).stackTraces = false := by rw [e1]; exact hl0
  cases hq : fX2_reboot x1 M with
  | none =>
    rw [hq] at hf
    cases hf
  | some q9 =>
    obtain ⟨q, M1⟩ := q9
    rw [hq] at hf
    refine xw_aload_n C dL_reboot_0 2 rfl rfl ?_
    refine xw_iconst (v := 0) C dL_reboot_1 (by decide) ?_
    refine xw_aload_n C dL_reboot_2 0 rfl rfl ?_
    refine xw_iload_n C dL_reboot_3 1 rfl rfl ?_
    refine xh_call C (mX2_reboot (xgl G) C.2.2.2.2.2.2.2.2.1 ht hl hq) FX2_reboot hw_332 (by decide) xs_0 rfl (by rw [hR]; decide) (by rw [hR]; decide) rfl (Nat.le_of_ble_eq_true rfl) dL_reboot_4 rfl (fun E hE => ?_) (fun r hr0 => ?_)
    · subst hE
      rcases hL2_x hf with ⟨rfl, hf⟩ | ⟨rfl, hf⟩
      · cases hf
        refine ⟨[], ⟨0, 9, 12, 13⟩, [⟨0, 9, 15, 29⟩], xIAE, hT, (fun z hz => nomatch hz), rfl, (by decide), C.2.2.2.2.1 _ hw_143, va_Nw.use rfl C.2.2.2.2.2.2.2.2.2.1.2.2.2.1, fun q => ?_⟩
        refine xw_astore_n C dL_reboot_12 3 rfl (by decide) ?_
        refine xw_iconst (v := 1) C dL_reboot_13 (by decide) ?_
        exact xw_reth C hr (by decide) (by decide) dL_reboot_14
      · cases hf
        refine ⟨[⟨0, 9, 12, 13⟩], ⟨0, 9, 15, 29⟩, [], xISE, hT, (fun z hz => Or.inr ?_), rfl, (by decide), C.2.2.2.2.1 _ hw_331, va_Nw.use rfl C.2.2.2.2.2.2.2.2.2.1.2.2.2.2.1, fun q => ?_⟩
        · rw [List.mem_singleton.mp hz]
          exact ⟨by decide, xIAE, C.2.2.2.2.1 _ hw_143, hN⟩
        · refine xw_astore_n C dL_reboot_15 3 rfl (by decide) ?_
          refine xw_iconst (v := 2) C dL_reboot_16 (by decide) ?_
          exact xw_reth C hr (by decide) (by decide) dL_reboot_17
    · subst hr0
      cases hf
      refine xw_i2l C dL_reboot_7 ?_
      refine xv_last C ht dL_reboot_8 ?_
      refine xw_goto (tgt := 18) C dL_reboot_9 (by decide) ?_
      refine xw_iconst (v := 0) C dL_reboot_18 (by decide) ?_
      exact xw_reth C hr (by decide) (by decide) dL_reboot_19
abbrev rL_deliver : Room := { frames := 8, cells := 1, slots := 6, locals := 197 }
set_option maxHeartbeats 4000000 in
set_option maxRecDepth 100000 in
theorem mL_deliver (l : Launch) {D : va_G} {tys : List (ClassId × FieldType)} {base : Nat} {ad : Nat → Nat} {cs : xmC} (hJ : xw_J 431 ad base) (ht0 : tys = xm_tys cs) (hl0 : l.stackTraces = false) {x1 : Int32} {M M' : xwM} {o : Int32} (hf : hL1 (fX2_deliver x1 M) = some (o, M')) : xk_h l yL_deliver cL_deliver 4 [(0, 9, 12, 13)] rL_deliver D tys base 431 ad [.ref (ad 0), .int x1, .ref (ad 430)] (xm_ce ad cs M) (xm_ce ad cs M') o 1 6 := by
  refine xk_ofh 1 (by decide) hJ (List.forall_mem_cons.mpr ⟨rfl, List.forall_mem_cons.mpr ⟨rfl, List.forall_mem_cons.mpr ⟨rfl, List.forall_mem_nil _⟩⟩⟩) (Nat.le_of_ble_eq_true rfl) (fun G e1 hR e3 e4 e5 hr hT hN C => ?_)
  have ht : xgt G = xm_tys cs := e4.trans ht0
  have hl : (xgl G).stackTraces = false := by rw [e1]; exact hl0
  cases hq : fX2_deliver x1 M with
  | none =>
    rw [hq] at hf
    cases hf
  | some q9 =>
    obtain ⟨q, M1⟩ := q9
    rw [hq] at hf
    refine xw_aload_n C dL_deliver_0 2 rfl rfl ?_
    refine xw_iconst (v := 0) C dL_deliver_1 (by decide) ?_
    refine xw_aload_n C dL_deliver_2 0 rfl rfl ?_
    refine xw_iload_n C dL_deliver_3 1 rfl rfl ?_
    refine xh_call C (mX2_deliver (xgl G) C.2.2.2.2.2.2.2.2.1 ht hl hq) FX2_deliver hw_375 (by decide) xs_0 rfl (by rw [hR]; decide) (by rw [hR]; decide) rfl (Nat.le_of_ble_eq_true rfl) dL_deliver_4 rfl (fun E hE => ?_) (fun r hr0 => ?_)
    · subst hE
      obtain ⟨rfl, hf⟩ := hL1_x hf
      cases hf
      refine ⟨[], ⟨0, 9, 12, 13⟩, [], xIAE, hT, (fun z hz => nomatch hz), rfl, (by decide), C.2.2.2.2.1 _ hw_143, va_Nw.use rfl C.2.2.2.2.2.2.2.2.2.1.2.2.2.1, fun q => ?_⟩
      refine xw_astore_n C dL_deliver_12 3 rfl (by decide) ?_
      refine xw_iconst (v := 1) C dL_deliver_13 (by decide) ?_
      exact xw_reth C hr (by decide) (by decide) dL_deliver_14
    · subst hr0
      cases hf
      refine xw_i2l C dL_deliver_7 ?_
      refine xv_last C ht dL_deliver_8 ?_
      refine xw_goto (tgt := 15) C dL_deliver_9 (by decide) ?_
      refine xw_iconst (v := 0) C dL_deliver_15 (by decide) ?_
      exact xw_reth C hr (by decide) (by decide) dL_deliver_16
abbrev rL_run : Room := { frames := 8, cells := 1, slots := 6, locals := 197 }
set_option maxHeartbeats 4000000 in
set_option maxRecDepth 100000 in
theorem mL_run (l : Launch) {D : va_G} {tys : List (ClassId × FieldType)} {base : Nat} {ad : Nat → Nat} {cs : xmC} (hJ : xw_J 431 ad base) (ht0 : tys = xm_tys cs) (hl0 : l.stackTraces = false) {x1 : Int32} {M M' : xwM} {o : Int32} (hf : hL1 (fX2_run x1 M) = some (o, M')) : xk_h l yL_run cL_run 4 [(0, 9, 12, 13)] rL_run D tys base 431 ad [.ref (ad 0), .int x1, .ref (ad 430)] (xm_ce ad cs M) (xm_ce ad cs M') o 1 6 := by
  refine xk_ofh 1 (by decide) hJ (List.forall_mem_cons.mpr ⟨rfl, List.forall_mem_cons.mpr ⟨rfl, List.forall_mem_cons.mpr ⟨rfl, List.forall_mem_nil _⟩⟩⟩) (Nat.le_of_ble_eq_true rfl) (fun G e1 hR e3 e4 e5 hr hT hN C => ?_)
  have ht : xgt G = xm_tys cs := e4.trans ht0
  have hl : (xgl G).stackTraces = false := by rw [e1]; exact hl0
  cases hq : fX2_run x1 M with
  | none =>
    rw [hq] at hf
    cases hf
  | some q9 =>
    obtain ⟨q, M1⟩ := q9
    rw [hq] at hf
    refine xw_aload_n C dL_run_0 2 rfl rfl ?_
    refine xw_iconst (v := 0) C dL_run_1 (by decide) ?_
    refine xw_aload_n C dL_run_2 0 rfl rfl ?_
    refine xw_iload_n C dL_run_3 1 rfl rfl ?_
    refine xh_call C (mX2_run (xgl G) C.2.2.2.2.2.2.2.2.1 ht hl hq) FX2_run hw_409 (by decide) xs_0 rfl (by rw [hR]; decide) (by rw [hR]; decide) rfl (Nat.le_of_ble_eq_true rfl) dL_run_4 rfl (fun E hE => ?_) (fun r hr0 => ?_)
    · subst hE
      obtain ⟨rfl, hf⟩ := hL1_x hf
      cases hf
      refine ⟨[], ⟨0, 9, 12, 13⟩, [], xIAE, hT, (fun z hz => nomatch hz), rfl, (by decide), C.2.2.2.2.1 _ hw_143, va_Nw.use rfl C.2.2.2.2.2.2.2.2.2.1.2.2.2.1, fun q => ?_⟩
      refine xw_astore_n C dL_run_12 3 rfl (by decide) ?_
      refine xw_iconst (v := 1) C dL_run_13 (by decide) ?_
      exact xw_reth C hr (by decide) (by decide) dL_run_14
    · subst hr0
      cases hf
      refine xw_i2l C dL_run_7 ?_
      refine xv_last C ht dL_run_8 ?_
      refine xw_goto (tgt := 15) C dL_run_9 (by decide) ?_
      refine xw_iconst (v := 0) C dL_run_15 (by decide) ?_
      exact xw_reth C hr (by decide) (by decide) dL_run_16
abbrev rL_drop : Room := { frames := 8, cells := 1, slots := 6, locals := 133 }
set_option maxHeartbeats 4000000 in
set_option maxRecDepth 100000 in
theorem mL_drop (l : Launch) {D : va_G} {tys : List (ClassId × FieldType)} {base : Nat} {ad : Nat → Nat} {cs : xmC} (hJ : xw_J 431 ad base) (ht0 : tys = xm_tys cs) (hl0 : l.stackTraces = false) {x1 : Int32} {M M' : xwM} {o : Int32} (hf : hL1 (fX2_drop x1 M) = some (o, M')) : xk_h l yL_drop cL_drop 4 [(0, 9, 12, 13)] rL_drop D tys base 431 ad [.ref (ad 0), .int x1, .ref (ad 430)] (xm_ce ad cs M) (xm_ce ad cs M') o 1 6 := by
  refine xk_ofh 1 (by decide) hJ (List.forall_mem_cons.mpr ⟨rfl, List.forall_mem_cons.mpr ⟨rfl, List.forall_mem_cons.mpr ⟨rfl, List.forall_mem_nil _⟩⟩⟩) (Nat.le_of_ble_eq_true rfl) (fun G e1 hR e3 e4 e5 hr hT hN C => ?_)
  have ht : xgt G = xm_tys cs := e4.trans ht0
  have hl : (xgl G).stackTraces = false := by rw [e1]; exact hl0
  cases hq : fX2_drop x1 M with
  | none =>
    rw [hq] at hf
    cases hf
  | some q9 =>
    obtain ⟨q, M1⟩ := q9
    rw [hq] at hf
    refine xw_aload_n C dL_drop_0 2 rfl rfl ?_
    refine xw_iconst (v := 0) C dL_drop_1 (by decide) ?_
    refine xw_aload_n C dL_drop_2 0 rfl rfl ?_
    refine xw_iload_n C dL_drop_3 1 rfl rfl ?_
    refine xh_call C (mX2_drop (xgl G) C.2.2.2.2.2.2.2.2.1 ht hl hq) FX2_drop hw_416 (by decide) xs_0 rfl (by rw [hR]; decide) (by rw [hR]; decide) rfl (Nat.le_of_ble_eq_true rfl) dL_drop_4 rfl (fun E hE => ?_) (fun r hr0 => ?_)
    · subst hE
      obtain ⟨rfl, hf⟩ := hL1_x hf
      cases hf
      refine ⟨[], ⟨0, 9, 12, 13⟩, [], xIAE, hT, (fun z hz => nomatch hz), rfl, (by decide), C.2.2.2.2.1 _ hw_143, va_Nw.use rfl C.2.2.2.2.2.2.2.2.2.1.2.2.2.1, fun q => ?_⟩
      refine xw_astore_n C dL_drop_12 3 rfl (by decide) ?_
      refine xw_iconst (v := 1) C dL_drop_13 (by decide) ?_
      exact xw_reth C hr (by decide) (by decide) dL_drop_14
    · subst hr0
      cases hf
      refine xw_i2l C dL_drop_7 ?_
      refine xv_last C ht dL_drop_8 ?_
      refine xw_goto (tgt := 15) C dL_drop_9 (by decide) ?_
      refine xw_iconst (v := 0) C dL_drop_15 (by decide) ?_
      exact xw_reth C hr (by decide) (by decide) dL_drop_16
abbrev rL_copy : Room := { frames := 8, cells := 1, slots := 6, locals := 132 }
set_option maxHeartbeats 4000000 in
set_option maxRecDepth 100000 in
theorem mL_copy (l : Launch) {D : va_G} {tys : List (ClassId × FieldType)} {base : Nat} {ad : Nat → Nat} {cs : xmC} (hJ : xw_J 431 ad base) (ht0 : tys = xm_tys cs) (hl0 : l.stackTraces = false) {x1 : Int32} {M M' : xwM} {o : Int32} (hf : hL3 (fX2_copy x1 M) = some (o, M')) : xk_h l yL_copy cL_copy 4 [(0, 16, 19, 13)] rL_copy D tys base 431 ad [.ref (ad 0), .int x1, .ref (ad 430)] (xm_ce ad cs M) (xm_ce ad cs M') o 1 6 := by
  refine xk_ofh 1 (by decide) hJ (List.forall_mem_cons.mpr ⟨rfl, List.forall_mem_cons.mpr ⟨rfl, List.forall_mem_cons.mpr ⟨rfl, List.forall_mem_nil _⟩⟩⟩) (Nat.le_of_ble_eq_true rfl) (fun G e1 hR e3 e4 e5 hr hT hN C => ?_)
  have ht : xgt G = xm_tys cs := e4.trans ht0
  have hl : (xgl G).stackTraces = false := by rw [e1]; exact hl0
  cases hq : fX2_copy x1 M with
  | none =>
    rw [hq] at hf
    cases hf
  | some q9 =>
    obtain ⟨q, M1⟩ := q9
    rw [hq] at hf
    refine xw_aload_n C dL_copy_0 2 rfl rfl ?_
    refine xw_iconst (v := 0) C dL_copy_1 (by decide) ?_
    refine xw_aload_n C dL_copy_2 0 rfl rfl ?_
    refine xw_iload_n C dL_copy_3 1 rfl rfl ?_
    refine xh_call C (mX2_copy (xgl G) C.2.2.2.2.2.2.2.2.1 ht hl hq) FX2_copy hw_423 (by decide) xs_0 rfl (by rw [hR]; decide) (by rw [hR]; decide) rfl (Nat.le_of_ble_eq_true rfl) dL_copy_4 rfl (fun E hE => ?_) (fun r hr0 => ?_)
    · subst hE
      obtain ⟨rfl, hf⟩ := hL1_x hf
      cases hf
      refine ⟨[], ⟨0, 16, 19, 13⟩, [], xIAE, hT, (fun z hz => nomatch hz), rfl, (by decide), C.2.2.2.2.1 _ hw_143, va_Nw.use rfl C.2.2.2.2.2.2.2.2.2.1.2.2.2.1, fun q => ?_⟩
      refine xw_astore_n C dL_copy_19 3 rfl (by decide) ?_
      refine xw_iconst (v := 1) C dL_copy_20 (by decide) ?_
      exact xw_reth C hr (by decide) (by decide) dL_copy_21
    · subst hr0
      cases hf
      refine xw_if_eq (tgt := 14) C dL_copy_7 (by decide) (fun c => ?_) (fun c => ?_)
      · rw [if_pos c]
        refine xw_lconst (v := (0 : Int32).toInt64) C dL_copy_14 (by decide) ?_
        refine xv_last C ht dL_copy_15 ?_
        refine xw_goto (tgt := 22) C dL_copy_16 (by decide) ?_
        refine xw_iconst (v := 0) C dL_copy_22 (by decide) ?_
        exact xw_reth C hr (by decide) (by decide) dL_copy_23
      · rw [if_neg c]
        refine xw_lconst (v := (1 : Int32).toInt64) C dL_copy_10 (by decide) ?_
        refine xw_goto (tgt := 15) C dL_copy_11 (by decide) ?_
        refine xv_last C ht dL_copy_15 ?_
        refine xw_goto (tgt := 22) C dL_copy_16 (by decide) ?_
        refine xw_iconst (v := 0) C dL_copy_22 (by decide) ?_
        exact xw_reth C hr (by decide) (by decide) dL_copy_23
abbrev rL_letter : Room := { frames := 8, cells := 2, slots := 12, locals := 133 }
set_option maxHeartbeats 4000000 in
set_option maxRecDepth 100000 in
theorem mL_letter (l : Launch) {D : va_G} {tys : List (ClassId × FieldType)} {base : Nat} {ad : Nat → Nat} {cs : xmC} (hJ : xw_J 431 ad base) (ht0 : tys = xm_tys cs) (hl0 : l.stackTraces = false) {x1 : Int32} {x2 : Int32} {M M' : xwM} {o : Int32} (hf : hL1 (fX2_letter x1 x2 M) = some (o, M')) : xk_h l yL_letter cL_letter 5 [(0, 10, 13, 13)] rL_letter D tys base 431 ad [.ref (ad 0), .int x1, .int x2, .ref (ad 430)] (xm_ce ad cs M) (xm_ce ad cs M') o 2 12 := by
  refine xk_ofh 1 (by decide) hJ (List.forall_mem_cons.mpr ⟨rfl, List.forall_mem_cons.mpr ⟨rfl, List.forall_mem_cons.mpr ⟨rfl, List.forall_mem_cons.mpr ⟨rfl, List.forall_mem_nil _⟩⟩⟩⟩) (Nat.le_of_ble_eq_true rfl) (fun G e1 hR e3 e4 e5 hr hT hN C => ?_)
  have ht : xgt G = xm_tys cs := e4.trans ht0
  have hl : (xgl G).stackTraces = false := by rw [e1]; exact hl0
  cases hq : fX2_letter x1 x2 M with
  | none =>
    rw [hq] at hf
    cases hf
  | some q9 =>
    obtain ⟨q, M1⟩ := q9
    rw [hq] at hf
    refine xw_aload_n C dL_letter_0 3 rfl rfl ?_
    refine xw_iconst (v := 0) C dL_letter_1 (by decide) ?_
    refine xw_aload_n C dL_letter_2 0 rfl rfl ?_
    refine xw_iload_n C dL_letter_3 1 rfl rfl ?_
    refine xw_iload_n C dL_letter_4 2 rfl rfl ?_
    refine xh_call C (mX2_letter (xgl G) C.2.2.2.2.2.2.2.2.1 ht hl hq) FX2_letter hw_434 (by decide) xs_0 rfl (by rw [hR]; decide) (by rw [hR]; decide) rfl (Nat.le_of_ble_eq_true rfl) dL_letter_5 rfl (fun E hE => ?_) (fun r hr0 => ?_)
    · subst hE
      obtain ⟨rfl, hf⟩ := hL1_x hf
      cases hf
      refine ⟨[], ⟨0, 10, 13, 13⟩, [], xIAE, hT, (fun z hz => nomatch hz), rfl, (by decide), C.2.2.2.2.1 _ hw_143, va_Nw.use rfl C.2.2.2.2.2.2.2.2.2.1.2.2.2.1, fun q => ?_⟩
      refine xw_astore C dL_letter_13 (by decide) ?_
      refine xw_iconst (v := 1) C dL_letter_15 (by decide) ?_
      exact xw_reth C hr (by decide) (by decide) dL_letter_16
    · subst hr0
      cases hf
      refine xw_i2l C dL_letter_8 ?_
      refine xv_last C ht dL_letter_9 ?_
      refine xw_goto (tgt := 17) C dL_letter_10 (by decide) ?_
      refine xw_iconst (v := 0) C dL_letter_17 (by decide) ?_
      exact xw_reth C hr (by decide) (by decide) dL_letter_18
abbrev rL_way : Room := { frames := 8, cells := 3, slots := 18, locals := 135 }
set_option maxHeartbeats 4000000 in
set_option maxRecDepth 100000 in
theorem mL_way (l : Launch) {D : va_G} {tys : List (ClassId × FieldType)} {base : Nat} {ad : Nat → Nat} {cs : xmC} (hJ : xw_J 431 ad base) (ht0 : tys = xm_tys cs) (hl0 : l.stackTraces = false) {x1 : Int32} {x2 : Int32} {x3 : Int32} {M M' : xwM} {o : Int32} (hf : hL1 (fX2_way x1 x2 x3 M) = some (o, M')) : xk_h l yL_way cL_way 6 [(0, 12, 15, 13)] rL_way D tys base 431 ad [.ref (ad 0), .int x1, .int x2, .int x3, .ref (ad 430)] (xm_ce ad cs M) (xm_ce ad cs M') o 3 18 := by
  refine xk_ofh 1 (by decide) hJ (List.forall_mem_cons.mpr ⟨rfl, List.forall_mem_cons.mpr ⟨rfl, List.forall_mem_cons.mpr ⟨rfl, List.forall_mem_cons.mpr ⟨rfl, List.forall_mem_cons.mpr ⟨rfl, List.forall_mem_nil _⟩⟩⟩⟩⟩) (Nat.le_of_ble_eq_true rfl) (fun G e1 hR e3 e4 e5 hr hT hN C => ?_)
  have ht : xgt G = xm_tys cs := e4.trans ht0
  have hl : (xgl G).stackTraces = false := by rw [e1]; exact hl0
  cases hq : fX2_way x1 x2 x3 M with
  | none =>
    rw [hq] at hf
    cases hf
  | some q9 =>
    obtain ⟨q, M1⟩ := q9
    rw [hq] at hf
    refine xw_aload C dL_way_0 rfl ?_
    refine xw_iconst (v := 0) C dL_way_2 (by decide) ?_
    refine xw_aload_n C dL_way_3 0 rfl rfl ?_
    refine xw_iload_n C dL_way_4 1 rfl rfl ?_
    refine xw_iload_n C dL_way_5 2 rfl rfl ?_
    refine xw_iload_n C dL_way_6 3 rfl rfl ?_
    refine xh_call C (mX2_way (xgl G) C.2.2.2.2.2.2.2.2.1 ht hl hq) FX2_way hw_441 (by decide) xs_0 rfl (by rw [hR]; decide) (by rw [hR]; decide) rfl (Nat.le_of_ble_eq_true rfl) dL_way_7 rfl (fun E hE => ?_) (fun r hr0 => ?_)
    · subst hE
      obtain ⟨rfl, hf⟩ := hL1_x hf
      cases hf
      refine ⟨[], ⟨0, 12, 15, 13⟩, [], xIAE, hT, (fun z hz => nomatch hz), rfl, (by decide), C.2.2.2.2.1 _ hw_143, va_Nw.use rfl C.2.2.2.2.2.2.2.2.2.1.2.2.2.1, fun q => ?_⟩
      refine xw_astore C dL_way_15 (by decide) ?_
      refine xw_iconst (v := 1) C dL_way_17 (by decide) ?_
      exact xw_reth C hr (by decide) (by decide) dL_way_18
    · subst hr0
      cases hf
      refine xw_i2l C dL_way_10 ?_
      refine xv_last C ht dL_way_11 ?_
      refine xw_goto (tgt := 19) C dL_way_12 (by decide) ?_
      refine xw_iconst (v := 0) C dL_way_19 (by decide) ?_
      exact xw_reth C hr (by decide) (by decide) dL_way_20
abbrev rL_told : Room := { frames := 9, cells := 7, slots := 42, locals := 158 }
set_option maxHeartbeats 4000000 in
set_option maxRecDepth 100000 in
theorem mL_told (l : Launch) {D : va_G} {tys : List (ClassId × FieldType)} {base : Nat} {ad : Nat → Nat} {cs : xmC} (hJ : xw_J 431 ad base) (ht0 : tys = xm_tys cs) (hl0 : l.stackTraces = false) {x1 : Int32} {x2 : Int32} {x3 : Int32} {x4 : Int32} {M M' : xwM} {o : Int32} (hf : hL1 (fX2_told x1 x2 x3 x4 M) = some (o, M')) : xk_h l yL_told cL_told 7 [(0, 14, 17, 13)] rL_told D tys base 431 ad [.ref (ad 0), .int x1, .int x2, .int x3, .int x4, .ref (ad 430)] (xm_ce ad cs M) (xm_ce ad cs M') o 7 42 := by
  refine xk_ofh 1 (by decide) hJ (List.forall_mem_cons.mpr ⟨rfl, List.forall_mem_cons.mpr ⟨rfl, List.forall_mem_cons.mpr ⟨rfl, List.forall_mem_cons.mpr ⟨rfl, List.forall_mem_cons.mpr ⟨rfl, List.forall_mem_cons.mpr ⟨rfl, List.forall_mem_nil _⟩⟩⟩⟩⟩⟩) (Nat.le_of_ble_eq_true rfl) (fun G e1 hR e3 e4 e5 hr hT hN C => ?_)
  have ht : xgt G = xm_tys cs := e4.trans ht0
  have hl : (xgl G).stackTraces = false := by rw [e1]; exact hl0
  cases hq : fX2_told x1 x2 x3 x4 M with
  | none =>
    rw [hq] at hf
    cases hf
  | some q9 =>
    obtain ⟨q, M1⟩ := q9
    rw [hq] at hf
    refine xw_aload C dL_told_0 rfl ?_
    refine xw_iconst (v := 0) C dL_told_2 (by decide) ?_
    refine xw_aload_n C dL_told_3 0 rfl rfl ?_
    refine xw_iload_n C dL_told_4 1 rfl rfl ?_
    refine xw_iload_n C dL_told_5 2 rfl rfl ?_
    refine xw_iload_n C dL_told_6 3 rfl rfl ?_
    refine xw_iload C dL_told_7 rfl ?_
    refine xh_call C (mX2_told (xgl G) C.2.2.2.2.2.2.2.2.1 ht hl hq) FX2_told hw_448 (by decide) xs_0 rfl (by rw [hR]; decide) (by rw [hR]; decide) rfl (Nat.le_of_ble_eq_true rfl) dL_told_9 rfl (fun E hE => ?_) (fun r hr0 => ?_)
    · subst hE
      obtain ⟨rfl, hf⟩ := hL1_x hf
      cases hf
      refine ⟨[], ⟨0, 14, 17, 13⟩, [], xIAE, hT, (fun z hz => nomatch hz), rfl, (by decide), C.2.2.2.2.1 _ hw_143, va_Nw.use rfl C.2.2.2.2.2.2.2.2.2.1.2.2.2.1, fun q => ?_⟩
      refine xw_astore C dL_told_17 (by decide) ?_
      refine xw_iconst (v := 1) C dL_told_19 (by decide) ?_
      exact xw_reth C hr (by decide) (by decide) dL_told_20
    · subst hr0
      cases hf
      refine xw_i2l C dL_told_12 ?_
      refine xv_last C ht dL_told_13 ?_
      refine xw_goto (tgt := 21) C dL_told_14 (by decide) ?_
      refine xw_iconst (v := 0) C dL_told_21 (by decide) ?_
      exact xw_reth C hr (by decide) (by decide) dL_told_22
abbrev rL_trace : Room := { frames := 8, cells := 2, slots := 12, locals := 134 }
set_option maxHeartbeats 4000000 in
set_option maxRecDepth 100000 in
theorem mL_trace (l : Launch) {D : va_G} {tys : List (ClassId × FieldType)} {base : Nat} {ad : Nat → Nat} {cs : xmC} (hJ : xw_J 431 ad base) (ht0 : tys = xm_tys cs) (hl0 : l.stackTraces = false) {x1 : Int32} {x2 : Int32} {M M' : xwM} {o : Int32} (hf : hL1 (fX2_trace x1 x2 M) = some (o, M')) : xk_h l yL_trace cL_trace 5 [(0, 10, 13, 13)] rL_trace D tys base 431 ad [.ref (ad 0), .int x1, .int x2, .ref (ad 430)] (xm_ce ad cs M) (xm_ce ad cs M') o 2 12 := by
  refine xk_ofh 1 (by decide) hJ (List.forall_mem_cons.mpr ⟨rfl, List.forall_mem_cons.mpr ⟨rfl, List.forall_mem_cons.mpr ⟨rfl, List.forall_mem_cons.mpr ⟨rfl, List.forall_mem_nil _⟩⟩⟩⟩) (Nat.le_of_ble_eq_true rfl) (fun G e1 hR e3 e4 e5 hr hT hN C => ?_)
  have ht : xgt G = xm_tys cs := e4.trans ht0
  have hl : (xgl G).stackTraces = false := by rw [e1]; exact hl0
  cases hq : fX2_trace x1 x2 M with
  | none =>
    rw [hq] at hf
    cases hf
  | some q9 =>
    obtain ⟨q, M1⟩ := q9
    rw [hq] at hf
    refine xw_aload_n C dL_trace_0 3 rfl rfl ?_
    refine xw_iconst (v := 0) C dL_trace_1 (by decide) ?_
    refine xw_aload_n C dL_trace_2 0 rfl rfl ?_
    refine xw_iload_n C dL_trace_3 1 rfl rfl ?_
    refine xw_iload_n C dL_trace_4 2 rfl rfl ?_
    refine xh_call C (mX2_trace (xgl G) C.2.2.2.2.2.2.2.2.1 ht hl hq) FX2_trace hw_455 (by decide) xs_0 rfl (by rw [hR]; decide) (by rw [hR]; decide) rfl (Nat.le_of_ble_eq_true rfl) dL_trace_5 rfl (fun E hE => ?_) (fun r hr0 => ?_)
    · subst hE
      obtain ⟨rfl, hf⟩ := hL1_x hf
      cases hf
      refine ⟨[], ⟨0, 10, 13, 13⟩, [], xIAE, hT, (fun z hz => nomatch hz), rfl, (by decide), C.2.2.2.2.1 _ hw_143, va_Nw.use rfl C.2.2.2.2.2.2.2.2.2.1.2.2.2.1, fun q => ?_⟩
      refine xw_astore C dL_trace_13 (by decide) ?_
      refine xw_iconst (v := 1) C dL_trace_15 (by decide) ?_
      exact xw_reth C hr (by decide) (by decide) dL_trace_16
    · subst hr0
      cases hf
      refine xw_i2l C dL_trace_8 ?_
      refine xv_last C ht dL_trace_9 ?_
      refine xw_goto (tgt := 17) C dL_trace_10 (by decide) ?_
      refine xw_iconst (v := 0) C dL_trace_17 (by decide) ?_
      exact xw_reth C hr (by decide) (by decide) dL_trace_18
abbrev rL_cost : Room := { frames := 9, cells := 3, slots := 18, locals := 153 }
set_option maxHeartbeats 4000000 in
set_option maxRecDepth 100000 in
theorem mL_cost (l : Launch) {D : va_G} {tys : List (ClassId × FieldType)} {base : Nat} {ad : Nat → Nat} {cs : xmC} (hJ : xw_J 431 ad base) (ht0 : tys = xm_tys cs) (hl0 : l.stackTraces = false) {x1 : Int32} {x2 : Int32} {M M' : xwM} {o : Int32} (hf : hL1 (fX2_cost x1 x2 M) = some (o, M')) : xk_h l yL_cost cL_cost 5 [(0, 10, 13, 13)] rL_cost D tys base 431 ad [.ref (ad 0), .int x1, .int x2, .ref (ad 430)] (xm_ce ad cs M) (xm_ce ad cs M') o 3 18 := by
  refine xk_ofh 1 (by decide) hJ (List.forall_mem_cons.mpr ⟨rfl, List.forall_mem_cons.mpr ⟨rfl, List.forall_mem_cons.mpr ⟨rfl, List.forall_mem_cons.mpr ⟨rfl, List.forall_mem_nil _⟩⟩⟩⟩) (Nat.le_of_ble_eq_true rfl) (fun G e1 hR e3 e4 e5 hr hT hN C => ?_)
  have ht : xgt G = xm_tys cs := e4.trans ht0
  have hl : (xgl G).stackTraces = false := by rw [e1]; exact hl0
  cases hq : fX2_cost x1 x2 M with
  | none =>
    rw [hq] at hf
    cases hf
  | some q9 =>
    obtain ⟨q, M1⟩ := q9
    rw [hq] at hf
    refine xw_aload_n C dL_cost_0 3 rfl rfl ?_
    refine xw_iconst (v := 0) C dL_cost_1 (by decide) ?_
    refine xw_aload_n C dL_cost_2 0 rfl rfl ?_
    refine xw_iload_n C dL_cost_3 1 rfl rfl ?_
    refine xw_iload_n C dL_cost_4 2 rfl rfl ?_
    refine xh_call C (mX2_cost (xgl G) C.2.2.2.2.2.2.2.2.1 ht hl hq) FX2_cost hw_462 (by decide) xs_0 rfl (by rw [hR]; decide) (by rw [hR]; decide) rfl (Nat.le_of_ble_eq_true rfl) dL_cost_5 rfl (fun E hE => ?_) (fun r hr0 => ?_)
    · subst hE
      obtain ⟨rfl, hf⟩ := hL1_x hf
      cases hf
      refine ⟨[], ⟨0, 10, 13, 13⟩, [], xIAE, hT, (fun z hz => nomatch hz), rfl, (by decide), C.2.2.2.2.1 _ hw_143, va_Nw.use rfl C.2.2.2.2.2.2.2.2.2.1.2.2.2.1, fun q => ?_⟩
      refine xw_astore C dL_cost_13 (by decide) ?_
      refine xw_iconst (v := 1) C dL_cost_15 (by decide) ?_
      exact xw_reth C hr (by decide) (by decide) dL_cost_16
    · subst hr0
      cases hf
      refine xw_i2l C dL_cost_8 ?_
      refine xv_last C ht dL_cost_9 ?_
      refine xw_goto (tgt := 17) C dL_cost_10 (by decide) ?_
      refine xw_iconst (v := 0) C dL_cost_17 (by decide) ?_
      exact xw_reth C hr (by decide) (by decide) dL_cost_18
abbrev rL_total : Room := { frames := 8, cells := 1, slots := 6, locals := 132 }
set_option maxHeartbeats 4000000 in
set_option maxRecDepth 100000 in
theorem mL_total (l : Launch) {D : va_G} {tys : List (ClassId × FieldType)} {base : Nat} {ad : Nat → Nat} {cs : xmC} (hJ : xw_J 431 ad base) (ht0 : tys = xm_tys cs) (hl0 : l.stackTraces = false) {x1 : Int32} {M M' : xwM} {o : Int32} (hf : hL1 (fX2_total x1 M) = some (o, M')) : xk_h l yL_total cL_total 4 [(0, 9, 12, 13)] rL_total D tys base 431 ad [.ref (ad 0), .int x1, .ref (ad 430)] (xm_ce ad cs M) (xm_ce ad cs M') o 1 6 := by
  refine xk_ofh 1 (by decide) hJ (List.forall_mem_cons.mpr ⟨rfl, List.forall_mem_cons.mpr ⟨rfl, List.forall_mem_cons.mpr ⟨rfl, List.forall_mem_nil _⟩⟩⟩) (Nat.le_of_ble_eq_true rfl) (fun G e1 hR e3 e4 e5 hr hT hN C => ?_)
  have ht : xgt G = xm_tys cs := e4.trans ht0
  have hl : (xgl G).stackTraces = false := by rw [e1]; exact hl0
  cases hq : fX2_total x1 M with
  | none =>
    rw [hq] at hf
    cases hf
  | some q9 =>
    obtain ⟨q, M1⟩ := q9
    rw [hq] at hf
    refine xw_aload_n C dL_total_0 2 rfl rfl ?_
    refine xw_iconst (v := 0) C dL_total_1 (by decide) ?_
    refine xw_aload_n C dL_total_2 0 rfl rfl ?_
    refine xw_iload_n C dL_total_3 1 rfl rfl ?_
    refine xh_call C (mX2_total (xgl G) C.2.2.2.2.2.2.2.2.1 ht hl hq) FX2_total hw_469 (by decide) xs_0 rfl (by rw [hR]; decide) (by rw [hR]; decide) rfl (Nat.le_of_ble_eq_true rfl) dL_total_4 rfl (fun E hE => ?_) (fun r hr0 => ?_)
    · subst hE
      obtain ⟨rfl, hf⟩ := hL1_x hf
      cases hf
      refine ⟨[], ⟨0, 9, 12, 13⟩, [], xIAE, hT, (fun z hz => nomatch hz), rfl, (by decide), C.2.2.2.2.1 _ hw_143, va_Nw.use rfl C.2.2.2.2.2.2.2.2.2.1.2.2.2.1, fun q => ?_⟩
      refine xw_astore_n C dL_total_12 3 rfl (by decide) ?_
      refine xw_iconst (v := 1) C dL_total_13 (by decide) ?_
      exact xw_reth C hr (by decide) (by decide) dL_total_14
    · subst hr0
      cases hf
      refine xw_i2l C dL_total_7 ?_
      refine xv_last C ht dL_total_8 ?_
      refine xw_goto (tgt := 15) C dL_total_9 (by decide) ?_
      refine xw_iconst (v := 0) C dL_total_15 (by decide) ?_
      exact xw_reth C hr (by decide) (by decide) dL_total_16
