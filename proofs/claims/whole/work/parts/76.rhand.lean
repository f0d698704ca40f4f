/-! the reference hands a letter over; and what that keeps of the invariant -/
def p_op (o : Nat → Nat) (n : Nat) : Nat → Nat := fun d => if d = n then o n + 1 else o d
theorem p_op_le (o : Nat → Nat) (n d : Nat) : o d ≤ p_op o n d ∧ p_op o n d ≤ o d + 1 := by
  unfold p_op
  by_cases c : d = n
  · rw [if_pos c, c]; omega
  · rw [if_neg c]; omega
theorem p_bok_m {a b : Nat} {x v : Int32} (h : a ≤ b) (q : p_bok a x v) : p_bok b x v := by
  rcases q with q | ⟨y, w, h1, h2⟩
  · exact Or.inl q
  · exact Or.inr ⟨y, w, by omega, h2⟩
theorem p_wok_m {a b : Nat} {c x v : Int32} (h : a ≤ b) (q : p_wok a c x v) : p_wok b c x v := by
  rcases q with q | ⟨m, y, w, h0, h1, h2⟩
  · exact Or.inl q
  · exact Or.inr ⟨m, y, w, h0, by omega, h2⟩
theorem p_pok_m {a b : Nat} {x : Int32} (h : a ≤ b) (q : p_pok a x) : p_pok b x := by
  rcases q with q | ⟨y, h1, h2⟩
  · exact Or.inl q
  · exact Or.inr ⟨y, by omega, h2⟩
theorem p_tok_m {a b : Nat} {x v c : Int32} (h : a ≤ b) (q : p_tok a x v c) : p_tok b x v c := by
  rcases q with q | ⟨y, w, h1, h2⟩
  · exact Or.inl q
  · exact Or.inr ⟨y, w, by omega, h2⟩
theorem p_lI_m {o o' : Nat → Nat} (h : ∀ d, o d ≤ o' d) {l : pL} (q : p_lI o l) : p_lI o' l := by
  obtain ⟨m, n, d, a, w, h1, h2, h3, e1, e2, e3, e4, e5, r⟩ := q
  have := h d
  refine ⟨m, n, d, a, w, h1, h2, h3, e1, e2, e3, e4, e5, ?_⟩
  rcases r with ⟨r1, r2, r3⟩ | ⟨r1, r2, r3⟩
  · exact Or.inl ⟨r1, by omega, r3⟩
  · exact Or.inr ⟨r1, by omega, r3⟩
theorem p_raise_e {o : Nat → Nat} {T : pT} (h : p_IT o T) {n : Nat} (hn : n < 12) : p_raise n T = p_st T 7 n n (nI (o n + 1)) := by
  have h9 := h.2.2.2.2.2.2.2.2 n hn
  unfold p_raise
  rw [(h.2.2.2.1 n hn).2.1, nI_1, nx_m16 (by omega)]
theorem p_ITr {o : Nat → Nat} {T : pT} (h : p_IT o T) {n : Nat} (hb : o n < 32000) : p_IT (p_op o n) (p_st T 7 n n (nI (o n + 1))) := by
  obtain ⟨h1, h2, h3, h4, h5, h6, h7, h8, h9⟩ := h
  have e : ∀ j n' d', j ≠ 7 ∨ n' ≠ n ∨ d' ≠ n → p_st T 7 n n (nI (o n + 1)) j n' d' = T j n' d' := fun j n' d' hj => by rw [p_st_at, if_neg (by omega)]
  refine ⟨?_, ?_, ?_, ?_, ?_, ?_, ?_, ?_, ?_⟩
  · intro n hn; rw [e _ _ _ (by omega)]; exact h1 n hn
  · intro n m hn hm; rw [e _ _ _ (by omega), e _ _ _ (by omega)]; exact h2 n m hn hm
  · intro n hn; rw [e _ _ _ (by omega)]; exact h3 n hn
  · intro n' hn'
    rw [e 6 _ _ (by omega), e 8 _ _ (by omega), e 4 _ _ (by omega)]
    refine ⟨(h4 n' hn').1, ?_, (h4 n' hn').2.2⟩
    rw [p_st_at]
    unfold p_op
    by_cases c : n' = n
    · rw [if_pos ⟨rfl, c, c⟩, if_pos c]
    · rw [if_neg (fun q => c q.2.1), if_neg c]
      exact (h4 n' hn').2.1
  · intro n' d' hn hd; rw [e _ _ _ (by omega), e _ _ _ (by omega)]; exact p_bok_m (p_op_le o n d').1 (h5 n' d' hn hd)
  · intro n' d' hn hd hnd; rw [e _ _ _ (by omega), e _ _ _ (by omega), e _ _ _ (by omega)]; exact p_wok_m (p_op_le o n d').1 (h6 n' d' hn hd hnd)
  · intro n' d' hn hd; rw [e _ _ _ (by omega)]; exact p_pok_m (p_op_le o n d').1 (h7 n' d' hn hd)
  · intro n' m' d' hn hm hd; rw [e _ _ _ (by omega), e _ _ _ (by omega), e _ _ _ (by omega)]; exact p_tok_m (p_op_le o n d').1 (h8 n' m' d' hn hm hd)
  · intro d hd
    unfold p_op
    by_cases c : d = n
    · rw [if_pos c]; omega
    · rw [if_neg c]; exact h9 d hd
theorem p_I_raise {o : Nat → Nat} {A : pA} (h : p_I o A) {n : Nat} (hn : n < 12) (hb : o n < 32000) : p_I (p_op o n) (p_raise n A.1, A.2) := by
  rw [p_raise_e h.1 hn]
  exact And.intro (p_ITr h.1 hb) (fun l hl => p_lI_m (fun d => (p_op_le o n d).1) (h.2 l hl))
theorem p_I_e {o : Nat → Nat} {A : pA} (h : p_I o A) (i : Nat) : p_I o (A.1, A.2.eraseIdx i) :=
  And.intro h.1 (fun l hl => h.2 l (List.mem_of_mem_eraseIdx hl))
/-- the invariant with some own numbers, each as before or one more -/
def p_IX (o : Nat → Nat) (A : pA) : Prop := ∃ o', (∀ d, o d ≤ o' d ∧ o' d ≤ o d + 1) ∧ p_I o' A
theorem p_IX_s {o : Nat → Nat} {A : pA} (h : p_I o A) : p_IX o A := ⟨o, fun d => by omega, h⟩
theorem p_heardT {o : Nat → Nat} {A : pA} (h : p_I o A) {n m d a w : Nat} (hm : m < 12) (ha : a ≤ o d) (hw : w ≤ 60000 ∨ w = 65535) (hc : A.1 3 n m ≠ 0) : p_I o (p_st (p_st A.1 (11 + m) n d (nI a)) (24 + m) n d (nI w), A.2) :=
  And.intro (p_ITt h.1 hm (Or.inr ⟨a, w, ha, hw, rfl, rfl, hc⟩)) h.2
theorem p_I_hear {o : Nat → Nat} {A : pA} (h : p_I o A) {n m d a w : Nat} (hn : n < 12) (hm : m < 12) (hd : d < 12) (ha : a ≤ o d) (hw : w ≤ 60000 ∨ w = 65535) (hc : A.1 3 n m ≠ 0) : p_I o (p_hear n m d (nI a) (nI w) A) := by
  unfold p_hear
  by_cases c : d = n
  · rw [if_pos c]; exact h
  · rw [if_neg c]
    by_cases c2 : A.1 6 n d = nI m ∧ nI w ≠ 65535 ∧ p_gd A.1 n d (nI a) (nI w) = false
    · rw [if_pos c2]
      exact p_I_choose h hn hd (fun e => c e.symm)
    · rw [if_neg c2]
      exact p_I_choose (p_heardT h hm ha hw hc) hn hd (fun e => c e.symm)
theorem p_I_hreq {o : Nat → Nat} {A : pA} (h : p_I o A) (hb : ∀ d, d < 12 → o d < 32000) {n m d a w : Nat} (hn : n < 12) (hm : m < 12) (hd : d < 12) (ha : a ≤ o d + 1) (hw : w ≤ 8) : p_IX o (p_hreq n m d (nI a) (nI w) A) := by
  have h9 := hb d hd
  unfold p_hreq
  by_cases c : d = n
  · rw [if_pos c]
    by_cases c2 : p_nw (nI a) (A.1 7 n n) = true
    · rw [if_pos c2]
      exact ⟨p_op o n, p_op_le o n, p_I_tellAll (p_I_raise h hn (hb n hn)) hn hn⟩
    · rw [if_neg c2]
      exact p_IX_s (p_I_tellAll h hn hn)
  · rw [if_neg c]
    refine p_IX_s ?_
    by_cases c2 : A.1 6 n d ≠ -1 ∧ p_nw (nI a) (A.1 7 n d) = false
    · rw [if_pos c2]
      exact p_I_tell h hn hm hd
    · rw [if_neg c2]
      by_cases c3 : ¬ nI w ≤ 1 ∧ (A.1 9 n d = -1 ∨ p_nw (nI a) (A.1 9 n d) = true)
      · rw [if_pos c3]
        have w1 : 1 < w := by
          have := (not_congr (nI_leI (a := w) (b := 1) (by omega) (by decide))).mp c3.1
          omega
        rw [show nI w - 1 = nI (w - 1) from nI_sub (b := 1) (by omega)]
        have h2 : p_I o (p_st A.1 9 n d (nI a), A.2) := And.intro (p_IT9 h.1 (Or.inr ⟨a, ha, rfl⟩)) h.2
        exact p_I_req h2 hn hd ha (by omega) _
      · rw [if_neg c3]
        exact h
theorem p_I_do {o : Nat → Nat} {A : pA} (h : p_I o A) (hb : ∀ d, d < 12 → o d < 32000) {l : pL} (hl : p_lI o l) : p_IX o (p_do l A) := by
  obtain ⟨m, n, d, a, w, hm, hn, hd, e1, e2, e3, e4, e5, r⟩ := hl
  unfold p_do
  rw [e1, e2, e3, e4, e5, p_nI hm, p_nI hn, p_nI hd]
  by_cases c : A.1 3 n m = 0
  · rw [if_pos c]
    exact p_IX_s (And.intro (p_IT1 h.1) h.2)
  · rw [if_neg c]
    rcases r with ⟨r1, r2, r3⟩ | ⟨r1, r2, r3⟩
    · rw [if_pos r1]
      exact p_IX_s (p_I_hear h hn hm hd r2 r3 c)
    · rw [if_neg (show ¬ l 0 = 1 by rw [r1]; decide)]
      exact p_I_hreq h hb hn hm hd r2 r3
theorem p_I_hand {o : Nat → Nat} {A : pA} (h : p_I o A) (hb : ∀ d, d < 12 → o d < 32000) (i : Nat) : p_IX o (p_hand i A) := by
  unfold p_hand
  cases e : A.2[i]? with
  | none => exact p_IX_s h
  | some l => exact p_I_do (p_I_e h i) hb (h.2 l (List.mem_of_getElem? e))
theorem r_requested {o : Nat → Nat} {A : pA} {M : xwM} (h : p_RM A M) (hI : p_I o A) (hb : ∀ d, d < 12 → o d < 32000) {n m d a w : Nat} (hn : n < 12) (hm : m < 12) (hd : d < 12) (ha : a ≤ o d + 1) (hw : w ≤ 8) : p_MV M (p_hreq n m d (nI a) (nI w) A) (fX3_requested (nI n) (nI m) (nI d) (nI a) (nI w) M) := by
  have h9 := hb d hd
  unfold fX3_requested fX3_requested_52 fX3_requested_98 fX3_requested_130 fX3_requested_152 p_hreq
  by_cases c : d = n
  · subst c
    rw [if_pos rfl, if_pos rfl, p_ld hn (by decide), r_o h hn, r_newer, bniE, p_ld hn (by decide), r_o h hn, p_ld hn (by decide), p_sto hn (by decide), p_sto hn (by decide), r_o h hn]
    by_cases c2 : p_nw (nI a) (A.1 7 d d) = false
    · rw [if_pos (p_bf c2), if_neg (show ¬ p_nw (nI a) (A.1 7 d d) = true by rw [c2]; decide)]
      have e : ms M 420 d (A.1 7 d d) = M := by
        funext k q
        rw [ms_at]
        by_cases c3 : k = 420 ∧ q = d
        · rw [if_pos c3, c3.1, c3.2, r_o h hn]
        · rw [if_neg c3]
      rw [e]
      exact p_MV_b (r_tellsAll h hI hn hn) (fun M' h' => p_MV_s h')
    · rw [if_neg (p_bt c2), if_pos (Bool.of_not_eq_false c2)]
      have h1 := p_RMo h (x := (A.1 7 d d + 1) &&& 65535) hn
      have hI1 := p_I_raise hI hn (hb d hn)
      refine p_MV_t (p_FM_ms (M := M) (k := 420) (i := d) (x := (A.1 7 d d + 1) &&& 65535) (by decide)) (p_ms0 (k := 420) (Or.inl (by decide))) ?_
      exact p_MV_b (r_tellsAll (A := (p_raise d A.1, A.2)) h1 hI1 hn hn) (fun M' h' => p_MV_s h')
  · rw [if_neg (show ¬ nI n = nI d from fun e => c ((nI_eq (by omega) (by omega)).mp e).symm), if_neg c, p_ix2, p_ld (by omega) (by decide), r_6 h hn hd (fun e => c e.symm)]
    have on : ∀ (B : pA), ¬ (A.1 6 n d ≠ -1 ∧ p_nw (nI a) (A.1 7 n d) = false) → p_MV M (if A.1 6 n d ≠ -1 ∧ p_nw (nI a) (A.1 7 n d) = false then B else if ¬ nI w ≤ 1 ∧ (A.1 9 n d = -1 ∨ p_nw (nI a) (A.1 9 n d) = true) then p_req n (nI m) d (nI a) (nI w - 1) (p_st A.1 9 n d (nI a), A.2) else A) (if nI w ≤ 1 then some M else ld M 426 144 (nI (12 * n + d)) fun v28 => if v28 = (-1) then (sto M 426 144 (nI (12 * n + d)) (nI a) fun M37 => bnv (fX3_asks (nI n) (nI d) (nI a) (nI w - 1) (nI m) M37) fun M39 => some M39) else (ld M 426 144 (nI (12 * n + d)) fun v31 => bni (fX3_newer (nI a) v31 M) fun v33 M34 => if v33 = 0 then some M34 else (sto M34 426 144 (nI (12 * n + d)) (nI a) fun M37 => bnv (fX3_asks (nI n) (nI d) (nI a) (nI w - 1) (nI m) M37) fun M39 => some M39))) := by
      intro B hB
      rw [if_neg hB]
      by_cases c2 : nI w ≤ 1
      · rw [if_pos c2, if_neg (show ¬ (¬ nI w ≤ 1 ∧ (A.1 9 n d = -1 ∨ p_nw (nI a) (A.1 9 n d) = true)) from fun q => q.1 c2)]
        exact p_MV_s h
      · have w1 : 1 < w := by
          have := (not_congr (nI_leI (a := w) (b := 1) (by omega) (by decide))).mp c2
          omega
        have pass : p_MV M (p_req n (nI m) d (nI a) (nI w - 1) (p_st A.1 9 n d (nI a), A.2)) (sto M 426 144 (nI (12 * n + d)) (nI a) fun M37 => bnv (fX3_asks (nI n) (nI d) (nI a) (nI w - 1) (nI m) M37) fun M39 => some M39) := by
          rw [p_sto (by omega) (by decide), show nI w - 1 = nI (w - 1) from nI_sub (b := 1) (by omega)]
          have h1 := p_RM9 h (x := nI a) hn hd
          have h2 : p_I o (p_st A.1 9 n d (nI a), A.2) := And.intro (p_IT9 hI.1 (Or.inr ⟨a, ha, rfl⟩)) hI.2
          refine p_MV_t (p_FM_ms (M := M) (k := 426) (i := 12 * n + d) (x := nI a) (by decide)) (p_ms0 (k := 426) (Or.inl (by decide))) ?_
          exact p_MV_b (r_asks h1 h2 hn hd ha (by omega) _) (fun M' h' => p_MV_s h')
        rw [if_neg c2, p_ld (by omega) (by decide), r_9 h hn hd, p_ld (by omega) (by decide), r_9 h hn hd, r_newer, bniE]
        by_cases c3 : A.1 9 n d = -1
        · rw [if_pos c3, if_pos (show ¬ nI w ≤ 1 ∧ (A.1 9 n d = -1 ∨ p_nw (nI a) (A.1 9 n d) = true) from ⟨c2, Or.inl c3⟩)]
          exact pass
        · rw [if_neg c3]
          by_cases c4 : p_nw (nI a) (A.1 9 n d) = false
          · rw [if_pos (p_bf c4), if_neg (show ¬ (¬ nI w ≤ 1 ∧ (A.1 9 n d = -1 ∨ p_nw (nI a) (A.1 9 n d) = true)) from fun q => q.2.elim c3 (fun q => by rw [c4] at q; cases q))]
            exact p_MV_s h
          · rw [if_neg (p_bt c4), if_pos (show ¬ nI w ≤ 1 ∧ (A.1 9 n d = -1 ∨ p_nw (nI a) (A.1 9 n d) = true) from ⟨c2, Or.inr (Bool.of_not_eq_false c4)⟩)]
            exact pass
    by_cases c1 : A.1 6 n d = -1
    · rw [if_pos c1]
      exact on _ (fun q => q.1 c1)
    · rw [if_neg c1, p_ld (by omega) (by decide), r_7 h hn hd (fun e => c e.symm), r_newer, bniE]
      by_cases c2 : p_nw (nI a) (A.1 7 n d) = false
      · rw [if_pos (p_bf c2), if_pos (show A.1 6 n d ≠ -1 ∧ p_nw (nI a) (A.1 7 n d) = false from ⟨c1, c2⟩)]
        exact p_MV_b (r_tells h hI.1 hn hd) (fun M' h' => p_MV_s h')
      · rw [if_neg (p_bt c2)]
        exact on _ (fun q => c2 q.2)
theorem p_3sym {o : Nat → Nat} {T : pT} (h : p_IT o T) {n m : Nat} (hn : n < 12) (hm : m < 12) : T 3 n m = T 3 m n := by
  obtain ⟨c, _, e1, e2⟩ := h.2.1 n m hn hm
  rw [e1, e2]
def p_MX (M : xwM) (r : Int32) (A : pA) (o : Option (Int32 × xwM)) : Prop := ∃ M', o = some (r, M') ∧ p_RM A M' ∧ p_FM M M' ∧ M' 418 0 = M 418 0
theorem p_MX_v {M : xwM} {A B : pA} {r : Int32} {o : Option xwM} {f : xwM → Option (Int32 × xwM)} (h : p_MV M A o) (k : ∀ M', p_RM A M' → p_MX M' r B (f M')) : p_MX M r B (bnv o f) := by
  obtain ⟨M', a, b, c, g⟩ := h
  obtain ⟨M2, d, e, f, i⟩ := k M' b
  rw [a]
  exact ⟨M2, d, e, p_FM_t c f, i.trans g⟩
theorem p_MX_s {M : xwM} {A : pA} {r : Int32} (h : p_RM A M) : p_MX M r A (some (r, M)) := ⟨M, rfl, h, p_FM_r M, rfl⟩
theorem p_MX_t {M M1 : xwM} {A : pA} {r : Int32} {o : Option (Int32 × xwM)} (h1 : p_FM M M1) (h0 : M1 418 0 = M 418 0) (h : p_MX M1 r A o) : p_MX M r A o := by
  obtain ⟨M', a, b, c, d⟩ := h
  exact ⟨M', a, b, p_FM_t h1 c, d.trans h0⟩
theorem r_hands {o : Nat → Nat} {A : pA} {M : xwM} (h : p_RM A M) (hI : p_I o A) (hb : ∀ d, d < 12 → o d < 32000) {i : Nat} {l : pL} (hl : A.2[i]? = some l) : p_MX M ((p_hand i A).1 1 0 3 - A.1 1 0 3) (p_hand i A) (fX3_hands (nI i) M) := by
  obtain ⟨m, n, d, a, w, hm, hn, hd, e1, e2, e3, e4, e5, r⟩ := hI.2 l (List.mem_of_getElem? hl)
  obtain ⟨M1, t1, h1, f1, z1, s1⟩ := r_take h hl
  have hI1 : p_I o (A.1, A.2.eraseIdx i) := p_I_e hI i
  have eh : p_hand i A = p_do l (A.1, A.2.eraseIdx i) := by unfold p_hand; rw [hl]
  have s3 : A.1 1 0 3 = (A.1, A.2.eraseIdx i).1 1 0 3 := rfl
  rw [eh, s3]
  unfold fX3_hands fX3_hands_156 fX3_hands_196 fX3_hands_203
  rw [t1, bnvE]
  refine p_MX_t f1 z1 ?_
  have k0 : M1 429 1800 = l 0 := s1 0 (by decide)
  have k1 : M1 429 1801 = nI m := by rw [← e1]; exact s1 1 (by decide)
  have k2 : M1 429 1802 = nI n := by rw [← e2]; exact s1 2 (by decide)
  have k3 : M1 429 1803 = nI d := by rw [← e3]; exact s1 3 (by decide)
  have k4 : M1 429 1804 = nI a := by rw [← e4]; exact s1 4 (by decide)
  have k5 : M1 429 1805 = nI w := by rw [← e5]; exact s1 5 (by decide)
  rw [show (1801 : Int32) = nI 1801 from rfl, p_ld (by decide) (by decide), k1, show (1802 : Int32) = nI 1802 from rfl, p_ld (by decide) (by decide), k2, show (1803 : Int32) = nI 1803 from rfl, p_ld (by decide) (by decide), k3, show (1804 : Int32) = nI 1804 from rfl, p_ld (by decide) (by decide), k4, show (1805 : Int32) = nI 1805 from rfl, p_ld (by decide) (by decide), k5]
  unfold p_do
  rw [e1, e2, e3, e4, e5, p_nI hm, p_nI hn, p_nI hd]
  generalize (A.1, A.2.eraseIdx i) = B at h1 hI1 ⊢
  rw [p_ix2, p_ld (by omega) (by decide), r_3 h1 hm hn, p_3sym hI1.1 hm hn]
  have fin : ∀ (C : pA) (q : Option xwM), p_MV M1 C q → p_MX M1 (C.1 1 0 3 - B.1 1 0 3) C (bnv q fun M2 => some (M2 418 14 - M1 418 14, M2)) := fun C q hq => by
    refine p_MX_v hq (fun M2 h2 => ?_)
    rw [(r_ct h2).1, (r_ct h1).1]
    exact p_MX_s h2
  by_cases c : B.1 3 n m = 0
  · rw [if_pos c, if_pos c]
    unfold xlet
    dsimp only
    rw [(r_ct h1).2.2, (r_ct h1).1]
    have h2 := p_RMc5 h1 (x := B.1 1 0 5 + 1)
    have e14 := (r_ct h2).1
    refine ⟨_, ?_, h2, p_FM_ms (by decide), p_ms0 (Or.inr (by decide))⟩
    rw [e14]
  · rw [if_neg c, if_neg c, show (1800 : Int32) = nI 1800 from rfl, p_ld (by decide) (by decide), k0]
    rcases r with ⟨r1, r2, r3⟩ | ⟨r1, r2, r3⟩
    · rw [r1, if_neg (show ¬ (1 : Int32) = 2 by decide), if_pos (show (1 : Int32) = 1 from rfl)]
      unfold p_hear
      by_cases c1 : d = n
      · rw [if_pos (show nI n = nI d by rw [c1]), if_pos c1, (r_ct h1).1]
        exact p_MX_s h1
      · rw [if_neg (show ¬ nI n = nI d from fun e => c1 ((nI_eq (by omega) (by omega)).mp e).symm), if_neg c1, p_ix2, p_ld (by omega) (by decide), r_6 h1 hn hd (fun e => c1 e.symm)]
        have set : p_MX M1 ((p_choose n d (p_st (p_st B.1 (11 + m) n d (nI a)) (24 + m) n d (nI w), B.2)).1 1 0 3 - B.1 1 0 3) (p_choose n d (p_st (p_st B.1 (11 + m) n d (nI a)) (24 + m) n d (nI w), B.2)) (sto M1 427 1728 (((144 * nI n) + (12 * nI m)) + nI d) (nI a) fun M33 => sto M33 428 1728 (((144 * nI n) + (12 * nI m)) + nI d) (nI w) fun M35 => bnv (fX3_chooses (nI n) (nI d) M35) fun M31 => some ((M31 418 14) - M1 418 14, M31)) := by
          rw [p_ix3, p_sto (by omega) (by decide), p_sto (by omega) (by decide)]
          have h2 := p_RMtn h1 (x := nI a) hn hm hd
          have h3 := p_RMtm h2 (x := nI w) hn hm hd
          have hI3 := p_heardT hI1 (n := n) hm r2 r3 c
          have e14 : M1 418 14 = B.1 1 0 3 := (r_ct h1).1
          have fr : p_FM M1 (ms (ms M1 427 (144 * n + 12 * m + d) (nI a)) 428 (144 * n + 12 * m + d) (nI w)) := p_FM_t (p_FM_ms (by decide)) (p_FM_ms (by decide))
          have f0 : ms (ms M1 427 (144 * n + 12 * m + d) (nI a)) 428 (144 * n + 12 * m + d) (nI w) 418 0 = M1 418 0 := by
            rw [p_ms0 (Or.inl (by decide)), p_ms0 (Or.inl (by decide))]
          refine p_MX_t fr f0 ?_
          refine p_MX_v (r_chooses h3 hI3 hn hd (fun e => c1 e.symm)) (fun M4 h4 => ?_)
          rw [(r_ct h4).1, e14]
          exact p_MX_s h4
        by_cases c2 : B.1 6 n d = nI m
        · rw [if_pos c2]
          by_cases c3 : nI w = 65535
          · rw [if_pos c3, if_neg (show ¬ (B.1 6 n d = nI m ∧ nI w ≠ 65535 ∧ p_gd B.1 n d (nI a) (nI w) = false) from fun q => q.2.1 c3)]
            exact set
          · rw [if_neg c3, r_isGood h1 hI1.1 hn hd (nI_pos (by omega)), bniE]
            by_cases c4 : p_gd B.1 n d (nI a) (nI w) = false
            · rw [if_pos (p_bf c4), if_pos (show B.1 6 n d = nI m ∧ nI w ≠ 65535 ∧ p_gd B.1 n d (nI a) (nI w) = false from ⟨c2, c3, c4⟩)]
              exact fin _ _ (r_chooses h1 hI1 hn hd (fun e => c1 e.symm))
            · rw [if_neg (p_bt c4), if_neg (show ¬ (B.1 6 n d = nI m ∧ nI w ≠ 65535 ∧ p_gd B.1 n d (nI a) (nI w) = false) from fun q => c4 q.2.2)]
              exact set
        · rw [if_neg c2, if_neg (show ¬ (B.1 6 n d = nI m ∧ nI w ≠ 65535 ∧ p_gd B.1 n d (nI a) (nI w) = false) from fun q => c2 q.1)]
          exact set
    · rw [r1, if_pos (show (2 : Int32) = 2 from rfl), if_neg (show ¬ (2 : Int32) = 1 by decide)]
      exact fin _ _ (r_requested h1 hI1 hb hn hm hd r2 r3)
