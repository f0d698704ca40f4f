/-! the reference's own methods -/
theorem r_newer (a b : Int32) (M : xwM) : fX3_newer a b M = some (p_b (p_nw a b), M) := by
  unfold fX3_newer fX3_newer_23 fX3_newer_24 p_nw
  by_cases c1 : ((a - b) &&& 65535) < 1
  · rw [if_pos c1, decide_eq_true c1]; rfl
  · rw [if_neg c1, decide_eq_false c1]
    by_cases c2 : 32767 < ((a - b) &&& 65535)
    · rw [if_pos c2, decide_eq_true c2]; rfl
    · rw [if_neg c2, decide_eq_false c2]; rfl
section RT
variable {A : pA} {M : xwM}
theorem r_3 (h : p_RM A M) {n m : Nat} (hn : n < 12) (hm : m < 12) : M 419 (12 * n + m) = A.1 3 n m := h.1 n m hn hm
theorem r_o (h : p_RM A M) {n : Nat} (hn : n < 12) : M 420 n = A.1 7 n n := h.2.1 n hn
theorem r_4 (h : p_RM A M) {n m : Nat} (hn : n < 12) (hm : m < 12) : M 421 (12 * n + m) = A.1 4 n m := h.2.2.1 n m hn hm
theorem r_5 (h : p_RM A M) {n m : Nat} (hn : n < 12) (hm : m < 12) : M 422 (12 * n + m) = A.1 5 n m := h.2.2.2.1 n m hn hm
theorem r_9 (h : p_RM A M) {n m : Nat} (hn : n < 12) (hm : m < 12) : M 426 (12 * n + m) = A.1 9 n m := h.2.2.2.2.1 n m hn hm
theorem r_6 (h : p_RM A M) {n m : Nat} (hn : n < 12) (hm : m < 12) (hnm : n ≠ m) : M 423 (12 * n + m) = A.1 6 n m := h.2.2.2.2.2.1 n m hn hm hnm
theorem r_7 (h : p_RM A M) {n m : Nat} (hn : n < 12) (hm : m < 12) (hnm : n ≠ m) : M 424 (12 * n + m) = A.1 7 n m := h.2.2.2.2.2.2.1 n m hn hm hnm
theorem r_8 (h : p_RM A M) {n m : Nat} (hn : n < 12) (hm : m < 12) (hnm : n ≠ m) : M 425 (12 * n + m) = A.1 8 n m := h.2.2.2.2.2.2.2.1 n m hn hm hnm
theorem r_tn (h : p_RM A M) {n m d : Nat} (hn : n < 12) (hm : m < 12) (hd : d < 12) : M 427 (144 * n + 12 * m + d) = A.1 (11 + m) n d := h.2.2.2.2.2.2.2.2.1 n m d hn hm hd
theorem r_tm (h : p_RM A M) {n m d : Nat} (hn : n < 12) (hm : m < 12) (hd : d < 12) : M 428 (144 * n + 12 * m + d) = A.1 (24 + m) n d := h.2.2.2.2.2.2.2.2.2.1 n m d hn hm hd
end RT
theorem p_45 {o : Nat → Nat} {T : pT} (h : p_IT o T) {n d : Nat} (hn : n < 12) (hd : d < 12) : T 5 n d = -1 ↔ T 4 n d = -1 := by
  have h9 := h.2.2.2.2.2.2.2.2 d hd
  rcases h.2.2.2.2.1 n d hn hd with ⟨e1, e2⟩ | ⟨a, w, ha, hw, e1, e2⟩
  · rw [e1, e2]
  · rw [e1, e2]
    exact ⟨fun q => absurd q (nI_m1ne (by omega)), fun q => absurd q (nI_m1ne (by omega))⟩
theorem r_isGood {o : Nat → Nat} {A : pA} {M : xwM} (h : p_RM A M) (hI : p_IT o A.1) {n d : Nat} (hn : n < 12) (hd : d < 12) {x v : Int32} (hv : ¬ v < 0) : fX3_isGood (nI n) (nI d) x v M = some (p_b (p_gd A.1 n d x v), M) := by
  unfold fX3_isGood fX3_isGood_68 fX3_isGood_72 fX3_isGood_73 p_gd
  have e45 := p_45 hI hn hd
  rw [if_neg hv, p_ix2]
  by_cases c1 : v = 65535
  · rw [if_pos c1, decide_eq_true c1]; rfl
  · rw [if_neg c1, decide_eq_false c1, p_ld (by omega) (by decide), r_5 h hn hd]
    by_cases c2 : A.1 4 n d = -1
    · rw [if_pos (e45.mpr c2), decide_eq_true c2]; rfl
    · rw [if_neg (fun q => c2 (e45.mp q)), decide_eq_false c2, p_ld (by omega) (by decide), r_4 h hn hd, r_newer, bniE]
      by_cases c3 : p_nw x (A.1 4 n d) = false
      · rw [if_pos (p_bf c3), c3, p_ld (by omega) (by decide), r_4 h hn hd]
        by_cases c4 : x = A.1 4 n d
        · rw [if_pos c4, decide_eq_true c4, p_ld (by omega) (by decide), r_5 h hn hd]
          by_cases c5 : A.1 5 n d ≤ v
          · rw [if_pos c5, decide_eq_true c5]; rfl
          · rw [if_neg c5, decide_eq_false c5]; rfl
        · rw [if_neg c4, decide_eq_false c4]; rfl
      · rw [if_neg (p_bt c3), Bool.of_not_eq_false c3]; rfl
theorem r_tells {o : Nat → Nat} {A : pA} {M : xwM} (h : p_RM A M) (hI : p_IT o A.1) {n m d : Nat} (hn : n < 12) (hd : d < 12) : p_MV M (p_tell n m d A) (fX3_tells (nI n) (nI m) (nI d) M) := by
  unfold fX3_tells fX3_tells_67 fX3_tells_141 fX3_tells_159 p_tell
  have e45 := p_45 hI hn hd
  have h9 := hI.2.2.2.2.2.2.2.2 d hd
  by_cases c : n = d
  · subst c
    obtain ⟨q1, q2, q3, q4⟩ := hI.2.2.2.1 n hn
    rw [if_pos rfl, if_neg (show ¬ A.1 6 n n = -1 by rw [q1]; exact nI_m1ne (by omega)), if_neg (show ¬ (n ≠ n ∧ p_gd A.1 n n (A.1 7 n n) (A.1 8 n n) = true) from fun q => q.1 rfl), p_ld hn (by decide), r_o h hn, q3]
    exact p_MV_b (r_send h _ _ _ _ _ _) (fun M' h' => p_MV_s h')
  · rw [if_neg (show ¬ nI n = nI d from fun e => c ((nI_eq (by omega) (by omega)).mp e)), p_ix2, p_ld (by omega) (by decide), r_6 h hn hd c]
    by_cases c1 : A.1 6 n d = -1
    · rw [if_pos c1, if_pos c1, p_ld (by omega) (by decide), r_5 h hn hd]
      by_cases c2 : A.1 4 n d = -1
      · rw [if_pos (e45.mpr c2), if_pos c2]
        exact p_MV_b (r_send h _ _ _ _ _ _) (fun M' h' => p_MV_s h')
      · rw [if_neg (fun q => c2 (e45.mp q)), if_neg c2, p_ld (by omega) (by decide), r_4 h hn hd]
        exact p_MV_b (r_send h _ _ _ _ _ _) (fun M' h' => p_MV_s h')
    · rw [if_neg c1, if_neg c1, p_ld (by omega) (by decide), r_7 h hn hd c, p_ld (by omega) (by decide), r_8 h hn hd c, p_ld (by omega) (by decide), r_5 h hn hd]
      rcases hI.2.2.2.2.2.1 n d hn hd c with ⟨e1, e2, e3⟩ | ⟨b, a, w, hb, ha, hw, e1, e2, e3⟩
      · exact absurd e1 c1
      · have n65 : ¬ A.1 8 n d = 65535 := by
          rw [e3]
          intro q
          have := (nI_eq (a := w) (b := 65535) (by omega) (by decide)).mp q
          omega
        have better : p_gd A.1 n d (A.1 7 n d) (A.1 8 n d) = true → p_MV M (p_snd (p_mk 1 (nI n) (nI m) (nI d) (A.1 7 n d) (A.1 8 n d)) (if d ≠ n ∧ p_gd A.1 n d (A.1 7 n d) (A.1 8 n d) = true then (p_st (p_st A.1 4 n d (A.1 7 n d)) 5 n d (A.1 8 n d), A.2) else A)) (sto M 421 144 (nI (12 * n + d)) (A.1 7 n d) fun M37 => sto M37 422 144 (nI (12 * n + d)) (A.1 8 n d) fun M39 => bnv (fX3_send 1 (nI n) (nI m) (nI d) (A.1 7 n d) (A.1 8 n d) M39) fun M35 => some M35) := fun g => by
          rw [if_pos ⟨fun q => c q.symm, g⟩, p_sto (by omega) (by decide), p_sto (by omega) (by decide)]
          have h1 := p_RM4 h (x := A.1 7 n d) hn hd
          have h2 := p_RM5 h1 (x := A.1 8 n d) hn hd
          refine p_MV_t (p_FM_t (p_FM_ms (by decide)) (p_FM_ms (by decide))) ?_ (p_MV_b (r_send h2 _ _ _ _ _ _) (fun M' h' => p_MV_s h'))
          rw [p_ms0 (Or.inl (by decide)), p_ms0 (Or.inl (by decide))]
        have worse : p_gd A.1 n d (A.1 7 n d) (A.1 8 n d) = false → p_MV M (p_snd (p_mk 1 (nI n) (nI m) (nI d) (A.1 7 n d) (A.1 8 n d)) (if d ≠ n ∧ p_gd A.1 n d (A.1 7 n d) (A.1 8 n d) = true then (p_st (p_st A.1 4 n d (A.1 7 n d)) 5 n d (A.1 8 n d), A.2) else A)) (bnv (fX3_send 1 (nI n) (nI m) (nI d) (A.1 7 n d) (A.1 8 n d) M) fun M35 => some M35) := fun g => by
          rw [if_neg (fun q => by rw [g] at q; exact absurd q.2 (by decide))]
          exact p_MV_b (r_send h _ _ _ _ _ _) (fun M' h' => p_MV_s h')
        by_cases c2 : A.1 4 n d = -1
        · rw [if_pos (e45.mpr c2)]
          exact better (by unfold p_gd; rw [decide_eq_false n65, decide_eq_true c2]; rfl)
        · rw [if_neg (fun q => c2 (e45.mp q)), p_ld (by omega) (by decide), r_4 h hn hd, r_newer, bniE]
          by_cases c3 : p_nw (A.1 7 n d) (A.1 4 n d) = false
          · rw [if_pos (p_bf c3), p_ld (by omega) (by decide), r_4 h hn hd]
            by_cases c4 : A.1 7 n d = A.1 4 n d
            · rw [if_pos c4, p_ld (by omega) (by decide), r_5 h hn hd]
              by_cases c5 : A.1 5 n d ≤ A.1 8 n d
              · rw [if_pos c5]
                exact worse (by unfold p_gd; rw [decide_eq_false n65, decide_eq_false c2, c3, decide_eq_true c4, decide_eq_true c5]; rfl)
              · rw [if_neg c5]
                exact better (by unfold p_gd; rw [decide_eq_false n65, decide_eq_false c2, c3, decide_eq_true c4, decide_eq_false c5]; rfl)
            · rw [if_neg c4]
              exact worse (by unfold p_gd; rw [decide_eq_false n65, decide_eq_false c2, c3, decide_eq_false c4]; rfl)
          · rw [if_neg (p_bt c3)]
            exact better (by unfold p_gd; rw [decide_eq_false n65, decide_eq_false c2, Bool.of_not_eq_false c3]; rfl)
theorem r_loop (F : Nat → Nat → xwM → Option xwM) (f : Nat → pA → pA) (o : Nat → Nat) (h0 : ∀ fu M, F (fu + 1) 12 M = some M) (hf : ∀ j A, j < 12 → p_I o A → p_I o (f j A)) (hs : ∀ fu j A M, j < 12 → p_RM A M → p_I o A → ∃ M', F (fu + 1) j M = F fu (j + 1) M' ∧ p_RM (f j A) M' ∧ p_FM M M' ∧ M' 418 0 = M 418 0) {A : pA} {M : xwM} (h : p_RM A M) (hI : p_I o A) : p_MV M (p_up f 12 0 A) (F 2001 0 M) := by
  obtain ⟨M', e, a, _, b, c⟩ := p_loop F (fun M => some M) (fun _ A M' => p_RM A M' ∧ p_I o A ∧ p_FM M M' ∧ M' 418 0 = M 418 0) f 12 h0 (fun fu j a s hj hp => by
    obtain ⟨M', e, a, b, c⟩ := hs fu j a s hj hp.1 hp.2.1
    exact ⟨M', e, a, hf j _ hj hp.2.1, p_FM_t hp.2.2.1 b, c.trans hp.2.2.2⟩) 12 0 2001 A M rfl (by decide) ⟨h, hI, p_FM_r M, rfl⟩
  exact ⟨M', e, a, b, c⟩
theorem p_cost0 {o : Nat → Nat} {T : pT} (h : p_IT o T) {n m : Nat} (hn : n < 12) (hm : m < 12) : T 3 n m ≤ 0 ↔ T 3 n m = 0 := by
  obtain ⟨c, hc, e, _⟩ := h.2.1 n m hn hm
  rw [e]
  constructor
  · intro q
    have := (nI_leI (a := c) (b := 0) (by omega) (by decide)).mp q
    rw [show c = 0 by omega]
    rfl
  · intro q
    rw [q]
    decide
theorem r_tellsAll {o : Nat → Nat} {A : pA} {M : xwM} (h : p_RM A M) (hI : p_I o A) {n d : Nat} (hn : n < 12) (hd : d < 12) : p_MV M (p_tellAll n d A) (fX3_tellsAll (nI n) (nI d) M) :=
  r_loop (fun fu j M => fX3_tellsAll_2 fu (nI n) (nI d) (nI j) M) (fun m A => if A.1 3 n m = 0 then A else p_tell n m d A) o
    (fun fu M => by
      show fX3_tellsAll_2 (fu + 1) (nI n) (nI d) (nI 12) M = _
      rw [fX3_tellsAll_2, if_pos nI12])
    (fun m A hm hA => by
      split
      · exact hA
      · exact p_I_tell hA hn hm hd)
    (fun fu j A M hj h hI => by
      show ∃ M', fX3_tellsAll_2 (fu + 1) (nI n) (nI d) (nI j) M = fX3_tellsAll_2 fu (nI n) (nI d) (nI (j + 1)) M' ∧ _
      rw [fX3_tellsAll_2, if_neg (nI12n hj), p_ix2, p_ld (by omega) (by decide), r_3 h hn hj]
      unfold fX3_tellsAll_29
      rw [nI_1]
      have e0 := p_cost0 hI.1 hn hj
      by_cases c : A.1 3 n j = 0
      · rw [if_pos (e0.mpr c), if_pos c]
        exact ⟨M, rfl, h, p_FM_r M, rfl⟩
      · rw [if_neg (fun q => c (e0.mp q)), if_neg c]
        obtain ⟨M', e, a, b, g⟩ := r_tells h hI.1 hn hd (m := j)
        rw [e]
        exact ⟨M', rfl, a, b, g⟩) h hI
theorem r_asks {o : Nat → Nat} {A : pA} {M : xwM} (h : p_RM A M) (hI : p_I o A) {n d a w : Nat} (hn : n < 12) (hd : d < 12) (ha : a ≤ o d + 1) (hw : w ≤ 8) (ex : Int32) : p_MV M (p_req n ex d (nI a) (nI w) A) (fX3_asks (nI n) (nI d) (nI a) (nI w) ex M) :=
  r_loop (fun fu j M => fX3_asks_3 fu (nI n) (nI d) (nI a) (nI w) ex (nI j) M) (fun m A => if nI m = ex ∨ A.1 3 n m = 0 then A else p_snd (p_mk 2 (nI n) (nI m) (nI d) (nI a) (nI w)) A) o
    (fun fu M => by
      show fX3_asks_3 (fu + 1) (nI n) (nI d) (nI a) (nI w) ex (nI 12) M = _
      rw [fX3_asks_3, if_pos nI12])
    (fun m A hm hA => by
      split
      · exact hA
      · exact p_I_snd hA ⟨n, m, d, a, w, hn, hm, hd, rfl, rfl, rfl, rfl, rfl, Or.inr ⟨rfl, ha, hw⟩⟩)
    (fun fu j A M hj h hI => by
      show ∃ M', fX3_asks_3 (fu + 1) (nI n) (nI d) (nI a) (nI w) ex (nI j) M = fX3_asks_3 fu (nI n) (nI d) (nI a) (nI w) ex (nI (j + 1)) M' ∧ _
      rw [fX3_asks_3, if_neg (nI12n hj), p_ix2, p_ld (by omega) (by decide), r_3 h hn hj]
      unfold fX3_asks_44
      rw [nI_1]
      have e0 := p_cost0 hI.1 hn hj
      by_cases c : A.1 3 n j = 0
      · rw [if_pos (e0.mpr c), if_pos (show nI j = ex ∨ A.1 3 n j = 0 from Or.inr c)]
        exact ⟨M, rfl, h, p_FM_r M, rfl⟩
      · rw [if_neg (fun q => c (e0.mp q))]
        by_cases c2 : nI j = ex
        · rw [if_pos c2, if_pos (show nI j = ex ∨ A.1 3 n j = 0 from Or.inl c2)]
          exact ⟨M, rfl, h, p_FM_r M, rfl⟩
        · rw [if_neg c2, if_neg (show ¬ (nI j = ex ∨ A.1 3 n j = 0) from fun q => q.elim c2 c)]
          obtain ⟨M', e, a, b, g⟩ := r_send h 2 (nI n) (nI j) (nI d) (nI a) (nI w)
          rw [e]
          exact ⟨M', rfl, a, b, g⟩) h hI
theorem r_wanted {o : Nat → Nat} {A : pA} {M : xwM} (h : p_RM A M) (hI : p_IT o A.1) {n d : Nat} (hn : n < 12) (hd : d < 12) : ∃ a, a ≤ o d + 1 ∧ fX3_wanted (nI n) (nI d) M = some (nI a, M) ∧ (if A.1 4 n d = -1 then 0 else (A.1 4 n d + 1) &&& 65535) = nI a := by
  unfold fX3_wanted fX3_wanted_32
  have h9 := hI.2.2.2.2.2.2.2.2 d hd
  rw [p_ix2, p_ld (by omega) (by decide), r_5 h hn hd]
  rcases hI.2.2.2.2.1 n d hn hd with ⟨e1, e2⟩ | ⟨a, w, ha, hw, e1, e2⟩
  · rw [if_pos e2, if_pos e1]
    exact ⟨0, Nat.zero_le _, rfl, rfl⟩
  · rw [e2, if_neg (nI_m1ne (by omega)), p_ld (by omega) (by decide), r_4 h hn hd, e1, if_neg (nI_m1ne (by omega)), nI_1, nx_m16 (by omega)]
    exact ⟨a + 1, by omega, rfl, rfl⟩
theorem r_ask {o : Nat → Nat} {A : pA} {M : xwM} (h : p_RM A M) (hI : p_I o A) {n d : Nat} (hn : n < 12) (hd : d < 12) : ∃ a, fX3_wanted (nI n) (nI d) M = some (nI a, M) ∧ p_MV M (p_ask n d A) (fX3_asks (nI n) (nI d) (nI a) 8 (-1) M) := by
  obtain ⟨a, ha, e1, e2⟩ := r_wanted h hI.1 hn hd
  refine ⟨a, e1, ?_⟩
  unfold p_ask
  rw [e2]
  exact r_asks h hI hn hd ha (w := 8) (Nat.le_refl _) (-1)
