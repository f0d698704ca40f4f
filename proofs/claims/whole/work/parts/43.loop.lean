/-! ===== the law's loop, over an invariant LI of the memory ===== -/
def lwLS (h1 : Option (Int32 × xwM)) (h2 : xwM → Option (Int32 × xwM)) (z : Int32 → Int64) (M3 : xwM) : Prop :=
  ∃ (k0 : Int32) (M1 : xwM) (b0 : Int32) (M2 : xwM) (t0 : Int32), h1 = some (k0, M1) ∧ h2 M1 = some (b0, M2) ∧ fX3_thrown M2 = some (t0, M3) ∧ t0 = k0 ∧ (k0 = 0 → (M3 430 0).toInt64 = z b0)
def lwStep (op : Nat) (a1 a2 a3 a4 : Int32) (M M3 : xwM) : Prop := match op with
  | 0 => lwLS (hL1 (fX2_link a1 a2 a3 M)) (fX3_link a1 a2 a3) (fun b => b.toInt64) M3
  | 1 => lwLS (hL1 (fX2_announce a1 M)) (fX3_announce a1) (fun b => b.toInt64) M3
  | 2 => lwLS (hL1 (fX2_renew a1 M)) (fX3_renew a1) (fun b => b.toInt64) M3
  | 3 => lwLS (hL1 (fX2_ask a1 a2 M)) (fX3_ask a1 a2) (fun b => b.toInt64) M3
  | 4 => lwLS (hL2 (fX2_reboot a1 M)) (fX3_reboot a1) (fun b => b.toInt64) M3
  | 5 => lwLS (hL1 (fX2_deliver a1 M)) (fX3_deliver a1) (fun b => b.toInt64) M3
  | 6 => lwLS (hL1 (fX2_run a1 M)) (fX3_run a1) (fun b => b.toInt64) M3
  | 7 => lwLS (hL1 (fX2_drop a1 M)) (fX3_drop a1) (fun b => b.toInt64) M3
  | 8 => lwLS (hL3 (fX2_copy a1 M)) (fX3_copy a1) (fun b => if b = 0 then (0 : Int32).toInt64 else (1 : Int32).toInt64) M3
  | 9 => lwLS (hL1 (fX2_letter a1 a2 M)) (fX3_letter a1 a2) (fun b => b.toInt64) M3
  | 10 => lwLS (hL1 (fX2_way a1 a2 a3 M)) (fX3_way a1 a2 a3) (fun b => b.toInt64) M3
  | 11 => lwLS (hL1 (fX2_told a1 a2 a3 a4 M)) (fX3_told a1 a2 a3 a4) (fun b => b.toInt64) M3
  | 12 => lwLS (hL1 (fX2_trace a1 a2 M)) (fX3_trace a1 a2) (fun b => b.toInt64) M3
  | 13 => lwLS (hL1 (fX2_cost a1 a2 M)) (fX3_cost a1 a2) (fun b => b.toInt64) M3
  | _ => lwLS (hL1 (fX2_total a1 M)) (fX3_total a1) (fun b => b.toInt64) M3
theorem xw_widen {G : xwG} {Q : State → Prop} {nL cells slots c2 s2 N : Nat} {ad : Nat → Nat} {ce : Nat → va_E} {pc : Nat} {lv : List (Option Value)} {st : List Value} (h1 : cells ≤ c2) (h2 : slots ≤ s2) (k : XW G Q nL c2 s2 N ad ce pc lv st) : XW G Q nL cells slots N ad ce pc lv st :=
  fun H locs ls hP hS hL => W.widen h1 h2 (k H locs ls hP hS hL)
theorem law_ix {n L : Nat} (h : 5 * n + 5 ≤ L) (hL : L ≤ 2560) : ∀ j : Int32, 1 ≤ j → j ≤ 4 → vp_in (nI (5 * n) + j) L := by
  intro j h1 h2
  obtain ⟨m, hm, rfl⟩ := nI_of2 (M := 4) (n := 4) (by decide) (fun h => absurd (Int32.lt_of_le_of_lt h1 h) (by decide)) h2
  rw [nI_add]
  exact vp_in_nI (by omega) (by omega)
set_option maxHeartbeats 4000000 in
set_option maxRecDepth 100000 in
theorem law_op {G : xwG} {Q : State → Prop} {ad : Nat → Nat} {cs : xmC} {cells slots b L n : Nat} {xs : Nat → Int32} {j : Nat} (C : xw_C G cL_law 7 RL 431 ad) (hR : xgR G = room_1) (ht : xgt G = xm_tys cs) (hl : (xgl G).stackTraces = false) (hN : va_Nc xISE xIAE (xgs G)) (hX : va_X b L xs (xgs G) (xgs G).heap) (hbl : b < (xgs G).heap.size) (hbB : ¬ xgB G ≤ b) (hj : j < 15) (hn : 5 * n + 5 ≤ L) (hL : L ≤ 2560) (hcs : cells + 9 ≤ 601024 ∧ slots + 54 ≤ 7293034) {M M3 : xwM} (hs : lwStep j (xs (nI (5 * n) + 1).toNatClampNeg) (xs (nI (5 * n) + 2).toNatClampNeg) (xs (nI (5 * n) + 3).toNatClampNeg) (xs (nI (5 * n) + 4).toNatClampNeg) M M3)
    (k : XV G Q 7 (cells + 9) (slots + 54) ad cs M3 1091 [some (.ref b), some (.ref (ad 0)), some (.ref (ad 418)), some (.ref (ad 430)), some (.int (nI (5 * n))), none, none] []) : XV G Q 7 cells slots ad cs M 39 [some (.ref b), some (.ref (ad 0)), some (.ref (ad 418)), some (.ref (ad 430)), some (.int (nI (5 * n))), none, none] [.int (nI j)] := by
  match j, hj, hs with
  | 0, _, hs =>
    obtain ⟨k0, M1, b0, M2, t0, h1, h2, h3, h4, h5⟩ := hs
    refine xv_tab (tgt := 112) (off := 73) C dL_law_39 (by decide +kernel) (by decide +kernel) (by decide +kernel) (by decide) ?_
    exact law_0 C hR ht hl hN hX hbl hbB (law_ix hn hL) hcs h1 h2 h3 h4 h5 (xw_widen (by omega) (by omega) k)
  | 1, _, hs =>
    obtain ⟨k0, M1, b0, M2, t0, h1, h2, h3, h4, h5⟩ := hs
    refine xv_tab (tgt := 192) (off := 153) C dL_law_39 (by decide +kernel) (by decide +kernel) (by decide +kernel) (by decide) ?_
    exact law_1 C hR ht hl hN hX hbl hbB (law_ix hn hL) hcs h1 h2 h3 h4 h5 (xw_widen (by omega) (by omega) k)
  | 2, _, hs =>
    obtain ⟨k0, M1, b0, M2, t0, h1, h2, h3, h4, h5⟩ := hs
    refine xv_tab (tgt := 248) (off := 209) C dL_law_39 (by decide +kernel) (by decide +kernel) (by decide +kernel) (by decide) ?_
    exact law_2 C hR ht hl hN hX hbl hbB (law_ix hn hL) hcs h1 h2 h3 h4 h5 (xw_widen (by omega) (by omega) k)
  | 3, _, hs =>
    obtain ⟨k0, M1, b0, M2, t0, h1, h2, h3, h4, h5⟩ := hs
    refine xv_tab (tgt := 304) (off := 265) C dL_law_39 (by decide +kernel) (by decide +kernel) (by decide +kernel) (by decide) ?_
    exact law_3 C hR ht hl hN hX hbl hbB (law_ix hn hL) hcs h1 h2 h3 h4 h5 (xw_widen (by omega) (by omega) k)
  | 4, _, hs =>
    obtain ⟨k0, M1, b0, M2, t0, h1, h2, h3, h4, h5⟩ := hs
    refine xv_tab (tgt := 372) (off := 333) C dL_law_39 (by decide +kernel) (by decide +kernel) (by decide +kernel) (by decide) ?_
    exact law_4 C hR ht hl hN hX hbl hbB (law_ix hn hL) hcs h1 h2 h3 h4 h5 (xw_widen (by omega) (by omega) k)
  | 5, _, hs =>
    obtain ⟨k0, M1, b0, M2, t0, h1, h2, h3, h4, h5⟩ := hs
    refine xv_tab (tgt := 428) (off := 389) C dL_law_39 (by decide +kernel) (by decide +kernel) (by decide +kernel) (by decide) ?_
    exact law_5 C hR ht hl hN hX hbl hbB (law_ix hn hL) hcs h1 h2 h3 h4 h5 (xw_widen (by omega) (by omega) k)
  | 6, _, hs =>
    obtain ⟨k0, M1, b0, M2, t0, h1, h2, h3, h4, h5⟩ := hs
    refine xv_tab (tgt := 484) (off := 445) C dL_law_39 (by decide +kernel) (by decide +kernel) (by decide +kernel) (by decide) ?_
    exact law_6 C hR ht hl hN hX hbl hbB (law_ix hn hL) hcs h1 h2 h3 h4 h5 (xw_widen (by omega) (by omega) k)
  | 7, _, hs =>
    obtain ⟨k0, M1, b0, M2, t0, h1, h2, h3, h4, h5⟩ := hs
    refine xv_tab (tgt := 540) (off := 501) C dL_law_39 (by decide +kernel) (by decide +kernel) (by decide +kernel) (by decide) ?_
    exact law_7 C hR ht hl hN hX hbl hbB (law_ix hn hL) hcs h1 h2 h3 h4 h5 (xw_widen (by omega) (by omega) k)
  | 8, _, hs =>
    obtain ⟨k0, M1, b0, M2, t0, h1, h2, h3, h4, h5⟩ := hs
    refine xv_tab (tgt := 596) (off := 557) C dL_law_39 (by decide +kernel) (by decide +kernel) (by decide +kernel) (by decide) ?_
    exact law_8 C hR ht hl hN hX hbl hbB (law_ix hn hL) hcs h1 h2 h3 h4 h5 (xw_widen (by omega) (by omega) k)
  | 9, _, hs =>
    obtain ⟨k0, M1, b0, M2, t0, h1, h2, h3, h4, h5⟩ := hs
    refine xv_tab (tgt := 659) (off := 620) C dL_law_39 (by decide +kernel) (by decide +kernel) (by decide +kernel) (by decide) ?_
    exact law_9 C hR ht hl hN hX hbl hbB (law_ix hn hL) hcs h1 h2 h3 h4 h5 (xw_widen (by omega) (by omega) k)
  | 10, _, hs =>
    obtain ⟨k0, M1, b0, M2, t0, h1, h2, h3, h4, h5⟩ := hs
    refine xv_tab (tgt := 727) (off := 688) C dL_law_39 (by decide +kernel) (by decide +kernel) (by decide +kernel) (by decide) ?_
    exact law_10 C hR ht hl hN hX hbl hbB (law_ix hn hL) hcs h1 h2 h3 h4 h5 (xw_widen (by omega) (by omega) k)
  | 11, _, hs =>
    obtain ⟨k0, M1, b0, M2, t0, h1, h2, h3, h4, h5⟩ := hs
    refine xv_tab (tgt := 807) (off := 768) C dL_law_39 (by decide +kernel) (by decide +kernel) (by decide +kernel) (by decide) ?_
    exact law_11 C hR ht hl hN hX hbl hbB (law_ix hn hL) hcs h1 h2 h3 h4 h5 (xw_widen (by omega) (by omega) k)
  | 12, _, hs =>
    obtain ⟨k0, M1, b0, M2, t0, h1, h2, h3, h4, h5⟩ := hs
    refine xv_tab (tgt := 899) (off := 860) C dL_law_39 (by decide +kernel) (by decide +kernel) (by decide +kernel) (by decide) ?_
    exact law_12 C hR ht hl hN hX hbl hbB (law_ix hn hL) hcs h1 h2 h3 h4 h5 (xw_widen (by omega) (by omega) k)
  | 13, _, hs =>
    obtain ⟨k0, M1, b0, M2, t0, h1, h2, h3, h4, h5⟩ := hs
    refine xv_tab (tgt := 967) (off := 928) C dL_law_39 (by decide +kernel) (by decide +kernel) (by decide +kernel) (by decide) ?_
    exact law_13 C hR ht hl hN hX hbl hbB (law_ix hn hL) hcs h1 h2 h3 h4 h5 (xw_widen (by omega) (by omega) k)
  | 14, _, hs =>
    obtain ⟨k0, M1, b0, M2, t0, h1, h2, h3, h4, h5⟩ := hs
    refine xv_tab (tgt := 1035) (off := 996) C dL_law_39 (by decide +kernel) (by decide +kernel) (by decide +kernel) (by decide) ?_
    exact law_14 C hR ht hl hN hX hbl hbB (law_ix hn hL) hcs h1 h2 h3 h4 h5 (xw_widen (by omega) (by omega) k)
set_option maxHeartbeats 4000000 in
set_option maxRecDepth 100000 in
theorem law_loop {G : xwG} {Q : State → Prop} {ad : Nat → Nat} {cs : xmC} {b L : Nat} {xs : Nat → Int32} (LI : Nat → xwM → Prop) (hstep : ∀ (n : Nat) (M : xwM), n < 512 → LI n M → ∀ (op : Nat) (a1 a2 a3 a4 : Int32), op < 15 → ∃ M3 : xwM, lwStep op a1 a2 a3 a4 M M3 ∧ LI (n + 1) M3) (hskip : ∀ (n : Nat) (M : xwM), LI n M → LI (n + 1) M) (C : xw_C G cL_law 7 RL 431 ad) (hR : xgR G = room_1) (ht : xgt G = xm_tys cs) (hl : (xgl G).stackTraces = false) (hN : va_Nc xISE xIAE (xgs G)) (hX : va_X b L xs (xgs G) (xgs G).heap) (hbl : b < (xgs G).heap.size) (hbB : ¬ xgB G ≤ b) (hL : L ≤ 2560)
    (kend : ∀ (cells slots : Nat) (M : xwM) (i : Int32), cells ≤ 601024 → slots ≤ 7293034 → XV G Q 7 cells slots ad cs M 1097 [some (.ref b), some (.ref (ad 0)), some (.ref (ad 418)), some (.ref (ad 430)), some (.int i), none, none] []) :
    ∀ (d n : Nat) (M : xwM) (cells slots : Nat), n + d = 513 → LI n M → cells + 9 * (512 - n) ≤ 601024 → slots + 54 * (512 - n) ≤ 7293034 → XV G Q 7 cells slots ad cs M 23 [some (.ref b), some (.ref (ad 0)), some (.ref (ad 418)), some (.ref (ad 430)), some (.int (nI (5 * n))), none, none] [] := by
  intro d
  induction d with
  | zero =>
    intro n M cells slots hn hI hc hs
    refine xw_iload C dL_law_23 rfl ?_
    refine xw_aload_n C dL_law_25 0 rfl rfl ?_
    refine xw_slen C hX hbl hbB dL_law_26 ?_
    refine xw_iconst (v := 5) C dL_law_27 (by decide) ?_
    refine xw_isub C dL_law_28 ?_
    refine xw_icmp_gt (tgt := 1097) C dL_law_29 (by decide) (fun _ => kend _ _ _ _ (by omega) (by omega)) (fun c => absurd ?_ c)
    rw [Int32.lt_iff_toInt_lt, show (5 : Int32) = nI 5 from rfl, pk_sub_toInt (by omega) (by decide), nI_toInt (by omega)]
    omega
  | succ d ih =>
    intro n M cells slots hn hI hc hs
    refine xw_iload C dL_law_23 rfl ?_
    refine xw_aload_n C dL_law_25 0 rfl rfl ?_
    refine xw_slen C hX hbl hbB dL_law_26 ?_
    refine xw_iconst (v := 5) C dL_law_27 (by decide) ?_
    refine xw_isub C dL_law_28 ?_
    refine xw_icmp_gt (tgt := 1097) C dL_law_29 (by decide) (fun _ => kend _ _ _ _ (by omega) (by omega)) (fun c => ?_)
    have hle : 5 * n + 5 ≤ L := by
      rw [Int32.lt_iff_toInt_lt, show (5 : Int32) = nI 5 from rfl, pk_sub_toInt (by omega) (by decide), nI_toInt (by omega)] at c
      omega
    have h512 : n < 512 := by omega
    refine xw_aload_n C dL_law_32 0 rfl rfl ?_
    refine xw_iload C dL_law_33 rfl ?_
    refine xw_sld C hX hbl hbB (vp_in_nI (show 5 * n < L by omega) (by omega)) dL_law_35 ?_
    refine xw_bipush (v := 15) C dL_law_36 (by decide) ?_
    refine xw_iand C dL_law_38 ?_
    have knext : ∀ M3 : xwM, LI (n + 1) M3 → XV G Q 7 (cells + 9) (slots + 54) ad cs M3 1091 [some (.ref b), some (.ref (ad 0)), some (.ref (ad 418)), some (.ref (ad 430)), some (.int (nI (5 * n))), none, none] [] := fun M3 h3 => by
      refine xw_iinc (v := nI (5 * (n + 1))) C dL_law_1091 rfl ?_ (by decide) ?_
      · show nI (5 * n) + nI 5 = nI (5 * (n + 1))
        rw [nI_add, show 5 * n + 5 = 5 * (n + 1) by omega]
      refine xw_goto (tgt := 23) C dL_law_1094 (by decide) ?_
      exact ih (n + 1) M3 (cells + 9) (slots + 54) (by omega) h3 (by omega) (by omega)
    obtain ⟨j, hj, ej⟩ := pk_andE (xs (nI (5 * n)).toNatClampNeg) (m := 15) 4 (by decide)
    rw [ej]
    by_cases h15 : j < 15
    · obtain ⟨M3, hs3, hI3⟩ := hstep n M h512 hI j _ _ _ _ h15
      exact law_op C hR ht hl hN hX hbl hbB h15 hle hL ⟨by omega, by omega⟩ hs3 (knext M3 hI3)
    · have e15 : j = 15 := by omega
      subst e15
      refine xv_tabO (tgt := 1091) C dL_law_39 (by decide +kernel) (by decide) ?_
      exact xw_widen (by omega) (by omega) (knext M (hskip n M hI))
