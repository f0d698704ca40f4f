/-! the reference's face -/
theorem p_RM_0 {A : pA} {M : xwM} (h : p_RM A M) (x : Int32) : p_RM A (ms M 418 0 x) := by
  obtain ⟨h1, h2, h3, h4, h5, h6, h7, h8, h9, h10, ⟨h11, h12, h13⟩, ⟨k, h14, h15⟩, h16, h17, h18⟩ := h
  have e : ∀ k q, k ≠ 418 ∨ q ≠ 0 → ms M 418 0 x k q = M k q := fun k q hk => by rw [ms_at, if_neg (by omega)]
  refine ⟨?_, ?_, ?_, ?_, ?_, ?_, ?_, ?_, ?_, ?_, ⟨?_, ?_, ?_⟩, ⟨k, ?_, h15⟩, ?_, h17, ?_⟩
  · intro a b c d; rw [e _ _ (Or.inl (by decide))]; exact h1 a b c d
  · intro a b; rw [e _ _ (Or.inl (by decide))]; exact h2 a b
  · intro a b c d; rw [e _ _ (Or.inl (by decide))]; exact h3 a b c d
  · intro a b c d; rw [e _ _ (Or.inl (by decide))]; exact h4 a b c d
  · intro a b c d; rw [e _ _ (Or.inl (by decide))]; exact h5 a b c d
  · intro a b c d f; rw [e _ _ (Or.inl (by decide))]; exact h6 a b c d f
  · intro a b c d f; rw [e _ _ (Or.inl (by decide))]; exact h7 a b c d f
  · intro a b c d f; rw [e _ _ (Or.inl (by decide))]; exact h8 a b c d f
  · intro a b c d f g; rw [e _ _ (Or.inl (by decide))]; exact h9 a b c d f g
  · intro a b c d f g; rw [e _ _ (Or.inl (by decide))]; exact h10 a b c d f g
  · rw [e _ _ (Or.inr (by decide))]; exact h11
  · rw [e _ _ (Or.inr (by decide))]; exact h12
  · rw [e _ _ (Or.inr (by decide))]; exact h13
  · rw [e _ _ (Or.inr (by decide))]; exact h14
  · rw [e _ _ (Or.inr (by decide))]; exact h16
  · intro i l hl f hf; rw [e _ _ (Or.inl (by decide))]; exact h18 i l hl f hf
def p_RO (M : xwM) (k r : Int32) (A : pA) (o : Option (Int32 × xwM)) : Prop := ∃ M', o = some (r, M') ∧ p_RM A M' ∧ p_FM M M' ∧ M' 418 0 = k
theorem r_ref0 (M : xwM) : fX3_refuses 0 M = some (0, ms M 418 0 0) := rfl
theorem r_ref1 (M : xwM) : fX3_refuses 1 M = some (1, ms M 418 0 1) := rfl
theorem r_ref2 (M : xwM) : fX3_refuses 2 M = some (1, ms M 418 0 2) := rfl
/-- a call that is refused -/
theorem p_RO_no {A : pA} {M : xwM} (h : p_RM A M) (k : Int32) : p_RO M k 0 A (some (0, ms M 418 0 k)) := ⟨_, rfl, p_RM_0 h k, p_FM_ms (by decide), p_ms_s _ _ _ _⟩
/-- a call that is not -/
theorem p_RO_ok {A : pA} {M : xwM} {r : Int32} {o : Option (Int32 × xwM)} (h : p_MX (ms M 418 0 0) r A o) : p_RO M 0 r A o := by
  obtain ⟨M', a, b, c, d⟩ := h
  exact ⟨M', a, b, p_FM_t (p_FM_ms (by decide)) c, d.trans (p_ms_s _ _ _ _)⟩
theorem r_node1 {n : Nat} (hn : n < 12) (M : xwM) : fX3_isNode (nI n) M = some (1, M) := by
  unfold fX3_isNode fX3_isNode_15
  rw [if_neg (nI_pos (by omega)), if_neg (nI12n hn)]
  rfl
theorem r_node0 {x : Int32} (h : ¬ p_isN x) (M : xwM) : fX3_isNode x M = some (0, M) := by
  unfold fX3_isNode fX3_isNode_14 fX3_isNode_15
  by_cases c : x < 0
  · rw [if_pos c]; rfl
  · rw [if_neg c, if_pos]
    · rfl
    · by_cases c2 : (12 : Int32) ≤ x
      · exact c2
      · exact absurd (p_isN_of c (Int32.not_le.mp c2)) h
theorem r_ann0 {A : pA} {M : xwM} (h : p_RM A M) {x : Int32} (hx : ¬ p_isN x) : p_RO M 1 0 A (fX3_announce x M) := by
  unfold fX3_announce fX3_announce_13
  rw [r_node0 hx, bniE, if_pos rfl, r_ref1, bniE, if_neg one0]
  exact p_RO_no h 1
theorem r_ann1 {o : Nat → Nat} {A : pA} {M : xwM} (h : p_RM A M) (hI : p_I o A) {n : Nat} (hn : n < 12) : p_RO M 0 ((p_ann n A).1 1 0 3 - A.1 1 0 3) (p_ann n A) (fX3_announce (nI n) M) := by
  unfold fX3_announce fX3_announce_13
  rw [r_node1 hn, bniE, if_neg one0, r_ref0, bniE, if_pos rfl]
  refine p_RO_ok ?_
  have h0 := p_RM_0 h 0
  rw [(r_ct h0).1]
  generalize ms M 418 0 0 = M0 at h0 ⊢
  generalize A.1 1 0 3 = y
  have K := p_loop (fun fu j M => fX3_announce_28 fu (nI n) y (nI j) M) (fun M => some (M 418 14 - y, M)) (fun _ A M' => p_RM A M' ∧ p_I o A ∧ p_FM M0 M' ∧ M' 418 0 = M0 418 0) (fun d A => if A.1 6 n d = -1 ∧ A.1 4 n d = -1 then A else p_tellAll n d A) 12
    (fun fu M => by
      show fX3_announce_28 (fu + 1) (nI n) y (nI 12) M = _
      rw [fX3_announce_28, if_pos nI12])
    (fun fu j A M1 hj hp => by
      obtain ⟨h, hI, hf, hz⟩ := hp
      show ∃ M', fX3_announce_28 (fu + 1) (nI n) y (nI j) M1 = fX3_announce_28 fu (nI n) y (nI (j + 1)) M' ∧ _
      rw [fX3_announce_28, if_neg (nI12n hj)]
      unfold fX3_announce_69 fX3_announce_75
      rw [nI_1]
      obtain ⟨M2, e2, r2, f2, z2⟩ := r_tellsAll h hI hn hj
      have hI2 := p_I_tellAll hI hn hj
      rw [e2, bnvE]
      have e45 := p_45 hI.1 hn hj
      by_cases c0 : j = n
      · rw [if_pos (show nI j = nI n by rw [c0]), if_neg (show ¬ (A.1 6 n j = -1 ∧ A.1 4 n j = -1) from fun q => by
          have q1 := q.1
          rw [c0, (hI.1.2.2.2.1 n hn).1] at q1
          exact nI_m1ne (by omega) q1)]
        exact ⟨_, rfl, r2, hI2, p_FM_t hf f2, z2.trans hz⟩
      · rw [if_neg (show ¬ nI j = nI n from fun e => c0 ((nI_eq (by omega) (by omega)).mp e)), p_ix2, p_ld (by omega) (by decide), r_6 h hn hj (fun e => c0 e.symm), p_ld (by omega) (by decide), r_5 h hn hj]
        by_cases c : A.1 6 n j = -1
        · rw [if_pos c]
          by_cases c2 : A.1 4 n j = -1
          · rw [if_pos (e45.mpr c2), if_pos (show A.1 6 n j = -1 ∧ A.1 4 n j = -1 from ⟨c, c2⟩)]
            exact ⟨_, rfl, h, hI, hf, hz⟩
          · rw [if_neg (fun q => c2 (e45.mp q)), if_neg (show ¬ (A.1 6 n j = -1 ∧ A.1 4 n j = -1) from fun q => c2 q.2)]
            exact ⟨_, rfl, r2, hI2, p_FM_t hf f2, z2.trans hz⟩
        · rw [if_neg c, if_neg (show ¬ (A.1 6 n j = -1 ∧ A.1 4 n j = -1) from fun q => c q.1)]
          exact ⟨_, rfl, r2, hI2, p_FM_t hf f2, z2.trans hz⟩)
    12 0 2001 A M0 rfl (by decide) ⟨h0, hI, p_FM_r M0, rfl⟩
  obtain ⟨M', e, r, _, f, z⟩ := K
  have r' : p_RM (p_ann n A) M' := r
  rw [(r_ct r').1] at e
  exact ⟨M', e, r, f, z⟩
theorem p_I_ann {o : Nat → Nat} {A : pA} (h : p_I o A) {n : Nat} (hn : n < 12) : p_I o (p_ann n A) :=
  p_up_inv (fun _ A => p_I o A) (fun d A => if A.1 6 n d = -1 ∧ A.1 4 n d = -1 then A else p_tellAll n d A) 12 (fun d A hd hA => by
    split
    · exact hA
    · exact p_I_tellAll hA hn hd) 12 0 A rfl h
theorem r_renew0 {A : pA} {M : xwM} (h : p_RM A M) {x : Int32} (hx : ¬ p_isN x) : p_RO M 1 0 A (fX3_renew x M) := by
  unfold fX3_renew fX3_renew_13
  rw [r_node0 hx, bniE, if_pos rfl, r_ref1, bniE, if_neg one0]
  exact p_RO_no h 1
theorem r_renew1 {o : Nat → Nat} {A : pA} {M : xwM} (h : p_RM A M) (hI : p_I o A) {n : Nat} (hn : n < 12) (hb : o n < 32000) : p_RO M 0 ((A.1 7 n n + 1) &&& 65535) (p_tellAll n n (p_raise n A.1, A.2)) (fX3_renew (nI n) M) := by
  unfold fX3_renew fX3_renew_13
  rw [r_node1 hn, bniE, if_neg one0, r_ref0, bniE, if_pos rfl]
  refine p_RO_ok ?_
  have h0 := p_RM_0 h 0
  generalize ms M 418 0 0 = M0 at h0 ⊢
  rw [p_ld hn (by decide), r_o h0 hn, p_sto hn (by decide)]
  have h1 : p_RM (p_raise n A.1, A.2) (ms M0 420 n ((A.1 7 n n + 1) &&& 65535)) := p_RMo h0 hn
  have hI1 := p_I_raise hI hn hb
  refine p_MX_t (p_FM_ms (M := M0) (k := 420) (i := n) (x := (A.1 7 n n + 1) &&& 65535) (by decide)) (p_ms0 (k := 420) (Or.inl (by decide))) ?_
  refine p_MX_v (r_tellsAll h1 hI1 hn hn) (fun M2 h2 => ?_)
  rw [p_ld hn (by decide), r_o h2 hn, p_tellAll_T n n _ (by omega)]
  have e : (p_raise n A.1, A.2).1 7 n n = (A.1 7 n n + 1) &&& 65535 := by
    show p_raise n A.1 7 n n = _
    unfold p_raise
    rw [p_st_at, if_pos ⟨rfl, rfl, rfl⟩]
  rw [e]
  exact p_MX_s h2
theorem r_ask0 {A : pA} {M : xwM} (h : p_RM A M) {x y : Int32} (hx : ¬ p_pr x y) : p_RO M 1 0 A (fX3_ask x y M) := by
  unfold fX3_ask fX3_ask_20 fX3_ask_25
  have z := p_RO_no h 1
  by_cases c1 : p_isN x
  · obtain ⟨n, hn, e1⟩ := c1
    rw [e1, r_node1 hn, bniE, if_neg one0]
    by_cases c2 : p_isN y
    · obtain ⟨m, hm, e2⟩ := c2
      rw [e2, r_node1 hm, bniE, if_neg one0]
      by_cases c3 : nI n = nI m
      · rw [if_pos c3, r_ref1, bniE, if_neg one0]
        exact z
      · exact absurd ⟨⟨n, hn, e1⟩, ⟨m, hm, e2⟩, by rw [e1, e2]; exact c3⟩ hx
    · rw [r_node0 c2, bniE, if_pos rfl, r_ref1, bniE, if_neg one0]
      exact z
  · rw [r_node0 c1, bniE, if_pos rfl, r_ref1, bniE, if_neg one0]
    exact z
theorem r_ask1 {o : Nat → Nat} {A : pA} {M : xwM} (h : p_RM A M) (hI : p_I o A) {n d : Nat} (hn : n < 12) (hd : d < 12) (hnd : n ≠ d) : p_RO M 0 ((p_lost n d A).1 1 0 3 - A.1 1 0 3) (p_lost n d A) (fX3_ask (nI n) (nI d) M) := by
  unfold fX3_ask fX3_ask_25 fX3_ask_68
  rw [r_node1 hn, bniE, if_neg one0, r_node1 hd, bniE, if_neg one0, if_neg (show ¬ nI n = nI d from fun e => hnd ((nI_eq (by omega) (by omega)).mp e)), r_ref0, bniE, if_pos rfl]
  refine p_RO_ok ?_
  have h0 := p_RM_0 h 0
  generalize ms M 418 0 0 = M0 at h0 ⊢
  rw [p_ix2, p_ld (by omega) (by decide), r_6 h0 hn hd hnd, (r_ct h0).1]
  unfold p_lost
  by_cases c : A.1 6 n d = -1
  · rw [if_pos c, if_pos c]
    obtain ⟨a, e1, k⟩ := r_ask h0 hI hn hd
    rw [e1, bniE]
    refine p_MX_v k (fun M2 h2 => ?_)
    rw [(r_ct h2).1]
    exact p_MX_s h2
  · rw [if_neg c, if_neg c]
    exact p_MX_s h0
theorem p_I_lost {o : Nat → Nat} {A : pA} (h : p_I o A) {n d : Nat} (hn : n < 12) (hd : d < 12) : p_I o (p_lost n d A) := by
  unfold p_lost
  split
  · exact p_I_ask h hn hd
  · exact h
theorem r_len {A : pA} {M : xwM} (h : p_RM A M) : M 418 13 = nI A.2.length ∧ A.2.length ≤ 300 := ⟨(p_lr_of h).1, (p_lr_of h).2.1⟩
theorem r_deliver0 {A : pA} {M : xwM} (h : p_RM A M) {x : Int32} (hx : ¬ p_isL A x) : p_RO M 1 0 A (fX3_deliver x M) := by
  unfold fX3_deliver fX3_deliver_13 fX3_deliver_18
  obtain ⟨l1, l2⟩ := r_len h
  rw [l1]
  by_cases c : x < 0
  · rw [if_pos c, r_ref1, bniE, if_neg one0]
    exact p_RO_no h 1
  · rw [if_neg c, if_neg, r_ref1, bniE, if_neg one0]
    · exact p_RO_no h 1
    · intro c2
      obtain ⟨j, hj, rfl⟩ := nI_of c
      exact hx ⟨j, (nI_ltI hj (by omega)).mp c2, rfl⟩
theorem r_deliver1 {o : Nat → Nat} {A : pA} {M : xwM} (h : p_RM A M) (hI : p_I o A) (hb : ∀ d, d < 12 → o d < 32000) {i : Nat} {l : pL} (hl : A.2[i]? = some l) : p_RO M 0 ((p_hand i A).1 1 0 3 - A.1 1 0 3) (p_hand i A) (fX3_deliver (nI i) M) := by
  have hi : i < A.2.length := (List.getElem?_eq_some_iff.mp hl).1
  obtain ⟨l1, l2⟩ := r_len h
  unfold fX3_deliver fX3_deliver_18
  rw [l1, if_neg (nI_pos (by omega)), if_pos (nI_lt hi (by omega)), r_ref0, bniE, if_pos rfl]
  refine p_RO_ok ?_
  obtain ⟨M', a, b, c, d⟩ := r_hands (p_RM_0 h 0) hI hb hl
  rw [a, bniE]
  exact ⟨M', rfl, b, c, d⟩
theorem r_run27 (J : pA → Prop) (hJ : ∀ A, J A → A.2.length ≠ 0 → J (p_hand 0 A)) (hok : ∀ A, J A → ∃ o, p_I o A ∧ ∀ d, d < 12 → o d < 32000) {N : Nat} (hN : N ≤ 500) : ∀ (k h fu : Nat) (A : pA) (M : xwM), h + k = N → k < fu → J A → p_RM A M → p_MX M (nI (p_run k h A).1) (p_run k h A).2 (fX3_run_27 fu (nI N) (nI h) M) := by
  intro k
  induction k with
  | zero =>
    intro h fu A M hh hf hj r
    obtain ⟨fu', rfl⟩ : ∃ fu', fu = fu' + 1 := ⟨fu - 1, by omega⟩
    rw [fX3_run_27, if_pos (nI_le (by omega) (by omega))]
    exact p_MX_s r
  | succ k ih =>
    intro h fu A M hh hf hj r
    obtain ⟨fu', rfl⟩ : ∃ fu', fu = fu' + 1 := ⟨fu - 1, by omega⟩
    obtain ⟨l1, l2⟩ := r_len r
    rw [fX3_run_27, if_neg (nI_ge (by omega) (by omega)), l1]
    unfold p_run
    by_cases c : A.2.length = 0
    · rw [if_pos c, c, if_pos (show nI 0 ≤ 0 from nI_le (a := 0) (b := 0) (Nat.le_refl 0) (by decide))]
      exact p_MX_s r
    · rw [if_neg c, if_neg (nI_nle (by omega) (by omega))]
      obtain ⟨o, o1, o2⟩ := hok A hj
      have hl : A.2[0]? = some A.2[0] := List.getElem?_eq_getElem (by omega)
      obtain ⟨M1, e1, r1, f1, z1⟩ := r_hands r o1 o2 hl
      rw [nI_0] at e1
      rw [e1, bniE, nI_1]
      exact p_MX_t f1 z1 (ih (h + 1) fu' (p_hand 0 A) M1 (by omega) (by omega) (hJ A hj c) r1)
theorem r_run1 (J : pA → Prop) (hJ : ∀ A, J A → A.2.length ≠ 0 → J (p_hand 0 A)) (hok : ∀ A, J A → ∃ o, p_I o A ∧ ∀ d, d < 12 → o d < 32000) {A : pA} {M : xwM} (h : p_RM A M) (hj : J A) {N : Nat} (hN : N ≤ 500) : p_RO M 0 (nI (p_run N 0 A).1) (p_run N 0 A).2 (fX3_run (nI N) M) := by
  unfold fX3_run fX3_run_17
  rw [if_neg (nI_pos (by omega)), if_pos (show nI N ≤ 500 from nI_le hN (by decide)), r_ref0, bniE, if_pos rfl]
  exact p_RO_ok (r_run27 J hJ hok hN N 0 2001 A _ (by omega) (by omega) hj (p_RM_0 h 0))
theorem r_run0 {A : pA} {M : xwM} (h : p_RM A M) {x : Int32} (hx : ¬ (¬ x < 0 ∧ x ≤ 500)) : p_RO M 1 0 A (fX3_run x M) := by
  unfold fX3_run fX3_run_12 fX3_run_17
  by_cases c : x < 0
  · rw [if_pos c, r_ref1, bniE, if_neg one0]
    exact p_RO_no h 1
  · rw [if_neg c, if_neg (fun c2 => hx ⟨c, c2⟩), r_ref1, bniE, if_neg one0]
    exact p_RO_no h 1
theorem r_drop0 {A : pA} {M : xwM} (h : p_RM A M) {x : Int32} (hx : ¬ p_isL A x) : p_RO M 1 0 A (fX3_drop x M) := by
  unfold fX3_drop fX3_drop_13 fX3_drop_18
  obtain ⟨l1, l2⟩ := r_len h
  rw [l1]
  by_cases c : x < 0
  · rw [if_pos c, r_ref1, bniE, if_neg one0]
    exact p_RO_no h 1
  · rw [if_neg c, if_neg, r_ref1, bniE, if_neg one0]
    · exact p_RO_no h 1
    · intro c2
      obtain ⟨j, hj, rfl⟩ := nI_of c
      exact hx ⟨j, (nI_ltI hj (by omega)).mp c2, rfl⟩
theorem r_drop1 {A : pA} {M : xwM} (h : p_RM A M) {i : Nat} {l : pL} (hl : A.2[i]? = some l) : p_RO M 0 (l 0) (A.1, A.2.eraseIdx i) (fX3_drop (nI i) M) := by
  have hi : i < A.2.length := (List.getElem?_eq_some_iff.mp hl).1
  obtain ⟨l1, l2⟩ := r_len h
  unfold fX3_drop fX3_drop_18
  rw [l1, if_neg (nI_pos (by omega)), if_pos (nI_lt hi (by omega)), r_ref0, bniE, if_pos rfl]
  refine p_RO_ok ?_
  obtain ⟨M1, t1, h1, f1, z1, s1⟩ := r_take (p_RM_0 h 0) hl
  rw [t1, bnvE, show (1800 : Int32) = nI 1800 from rfl, p_ld (by decide) (by decide), show M1 429 1800 = l 0 from s1 0 (by decide)]
  exact ⟨M1, rfl, h1, f1, z1⟩
theorem r_copy0 {A : pA} {M : xwM} (h : p_RM A M) {x : Int32} (hx : ¬ p_isL A x) : p_RO M 1 0 A (fX3_copy x M) := by
  unfold fX3_copy fX3_copy_13 fX3_copy_18 fX3_copy_34
  obtain ⟨l1, l2⟩ := r_len h
  rw [l1]
  by_cases c : x < 0
  · rw [if_pos c, r_ref1, bniE, if_neg one0]
    exact p_RO_no h 1
  · rw [if_neg c, if_neg, r_ref1, bniE, if_neg one0]
    · exact p_RO_no h 1
    · intro c2
      obtain ⟨j, hj, rfl⟩ := nI_of c
      exact hx ⟨j, (nI_ltI hj (by omega)).mp c2, rfl⟩
theorem r_copy1 {A : pA} {M : xwM} (h : p_RM A M) {i : Nat} {l : pL} (hl : A.2[i]? = some l) : p_RO M 0 (if A.2.length < 300 then 1 else 0) (if A.2.length < 300 then (A.1, A.2 ++ [l]) else A) (fX3_copy (nI i) M) := by
  have hi : i < A.2.length := (List.getElem?_eq_some_iff.mp hl).1
  obtain ⟨l1, l2⟩ := r_len h
  have h0 := p_RM_0 h 0
  unfold fX3_copy fX3_copy_18 fX3_copy_34
  rw [l1, if_neg (nI_pos (by omega)), if_pos (nI_lt hi (by omega)), r_ref0, bniE, if_pos rfl, (r_len h0).1]
  refine p_RO_ok ?_
  by_cases c : A.2.length < 300
  · rw [if_neg (show ¬ nI A.2.length = 300 from fun e => by have := (nI_eq (a := A.2.length) (b := 300) (by omega) (by decide)).mp e; omega), if_pos c, if_pos c]
    exact r_copy h0 hl c
  · rw [if_pos (show nI A.2.length = 300 by rw [show A.2.length = 300 by omega]; rfl), if_neg c, if_neg c]
    exact p_MX_s h0
theorem r_letter1 {A : pA} {M : xwM} (h : p_RM A M) {i f : Nat} {l : pL} (hl : A.2[i]? = some l) (hf : f < 6) : p_RO M 0 (l f) A (fX3_letter (nI i) (nI f) M) := by
  have hi : i < A.2.length := (List.getElem?_eq_some_iff.mp hl).1
  obtain ⟨l1, l2⟩ := r_len h
  have h0 := p_RM_0 h 0
  unfold fX3_letter fX3_letter_27 fX3_letter_48
  rw [l1, if_neg (nI_pos (by omega)), if_neg (nI_ge hi (by omega)), if_neg (nI_pos (by omega)), if_pos (show nI f ≤ 5 from nI_le (b := 5) (by omega) (by decide)), r_ref0, bniE, if_pos rfl, p_ix6, p_ld (by omega) (by decide), (p_lr_of h0).2.2 i l hl f hf]
  exact p_RO_ok (p_MX_s h0)
theorem r_letter0 {A : pA} {M : xwM} (h : p_RM A M) {x y : Int32} (hx : ¬ (p_isL A x ∧ ¬ y < 0 ∧ y ≤ 5)) : p_RO M 1 0 A (fX3_letter x y M) := by
  unfold fX3_letter fX3_letter_22 fX3_letter_27 fX3_letter_48
  obtain ⟨l1, l2⟩ := r_len h
  have z := p_RO_no h 1
  rw [l1]
  by_cases c : x < 0
  · rw [if_pos c, r_ref1, bniE, if_neg one0]
    exact z
  · rw [if_neg c]
    by_cases c2 : nI A.2.length ≤ x
    · rw [if_pos c2, r_ref1, bniE, if_neg one0]
      exact z
    · rw [if_neg c2]
      have hL : p_isL A x := by
        obtain ⟨j, hj, rfl⟩ := nI_of c
        exact ⟨j, by have := (not_congr (nI_leI (by omega) hj)).mp c2; omega, rfl⟩
      by_cases c3 : y < 0
      · rw [if_pos c3, r_ref1, bniE, if_neg one0]
        exact z
      · rw [if_neg c3, if_neg (fun c4 => hx ⟨hL, c3, c4⟩), r_ref1, bniE, if_neg one0]
        exact z
