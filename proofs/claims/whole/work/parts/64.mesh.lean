/-! the class: the mesh's own methods -/
theorem c_take48 {A : pA} {M : xwM} (h : p_RC A M) {n d : Nat} (hn : n < 12) (hd : d < 12) (b x v : Int32) : ∃ M', fX1_takeBestWay_48 n (nI d) b x v M = some (if A.1 6 n d = b ∧ A.1 7 n d = x ∧ A.1 8 n d = v then 0 else 1, M') ∧ p_RC (p_st (p_st (p_st A.1 6 n d b) 7 n d x) 8 n d v, A.2) M' ∧ p_FR M M' := by
  have h1 := p_RC_ms h (j := 6) (d := d) (x := b) (by decide) (by decide) hn
  have h2 := p_RC_ms h1 (j := 7) (d := d) (x := x) (by decide) (by decide) hn
  have h3 := p_RC_ms h2 (j := 8) (d := d) (x := v) (by decide) (by decide) hn
  have fr := p_FR_t (p_FR_ms (M := M) (k := 6 + 34 * n) (i := d) (x := b) (by omega)) (p_FR_t (p_FR_ms (k := 7 + 34 * n) (i := d) (x := x) (by omega)) (p_FR_ms (k := 8 + 34 * n) (i := d) (x := v) (by omega)))
  unfold fX1_takeBestWay_48 fX1_takeBestWay_81 fX1_takeBestWay_86
  rw [p_ld hd (by decide), c_T h (by decide) (by decide) hn, p_ld hd (by decide), c_T h (by decide) (by decide) hn, p_ld hd (by decide), c_T h (by decide) (by decide) hn]
  simp only [p_sto hd (show 12 < 2 ^ 31 by decide)]
  refine ⟨_, ?_, h3, fr⟩
  by_cases c1 : b = A.1 6 n d
  · rw [if_pos c1]
    by_cases c2 : x = A.1 7 n d
    · rw [if_pos c2]
      by_cases c3 : v = A.1 8 n d
      · rw [if_pos c3, if_pos (show A.1 6 n d = b ∧ A.1 7 n d = x ∧ A.1 8 n d = v from ⟨c1.symm, c2.symm, c3.symm⟩)]; rfl
      · rw [if_neg c3, if_neg (show ¬ (A.1 6 n d = b ∧ A.1 7 n d = x ∧ A.1 8 n d = v) from fun q => c3 q.2.2.symm)]; rfl
    · rw [if_neg c2, if_neg (show ¬ (A.1 6 n d = b ∧ A.1 7 n d = x ∧ A.1 8 n d = v) from fun q => c2 q.2.1.symm)]; rfl
  · rw [if_neg c1, if_neg (show ¬ (A.1 6 n d = b ∧ A.1 7 n d = x ∧ A.1 8 n d = v) from fun q => c1 q.1.symm)]; rfl
theorem c_take {A : pA} {M : xwM} (h : p_RC A M) {n d : Nat} (hn : n < 12) (hd : d < 12) : ∃ M', fX1_takeBestWay n (nI d) M = some (if A.1 6 n d = p_best A.1 n d ∧ A.1 7 n d = p_bn A.1 n d (p_best A.1 n d) ∧ A.1 8 n d = p_bm A.1 n d (p_best A.1 n d) then 0 else 1, M') ∧ p_RC (p_take A.1 n d (p_best A.1 n d), A.2) M' ∧ p_FR M M' := by
  unfold fX1_takeBestWay fX1_takeBestWay_23
  rw [c_best h hn hd]
  simp only [bni]
  rcases p_best_r A.1 n d with c | ⟨m, hm, c⟩
  · rw [if_pos c, if_pos c]
    have e1 : p_bn A.1 n d (p_best A.1 n d) = -1 := by unfold p_bn; rw [if_pos c]
    have e2 : p_bm A.1 n d (p_best A.1 n d) = -1 := by unfold p_bm; rw [if_pos c]
    unfold p_take
    rw [e1, e2]
    exact c_take48 h hn hd _ _ _
  · have c' : ¬ p_best A.1 n d = -1 := by rw [c]; exact nI_m1ne (by omega)
    have e1 : p_bn A.1 n d (p_best A.1 n d) = A.1 (11 + m) n d := by unfold p_bn; rw [if_neg c', c, nI_clamp (by omega)]
    have e2 : p_bm A.1 n d (p_best A.1 n d) = A.1 (24 + m) n d + A.1 3 n m := by unfold p_bm; rw [if_neg c', c, nI_clamp (by omega)]
    rw [if_neg c']
    unfold p_take
    rw [e1, e2, c, p_ixr hm (by decide), p_ld hd (by decide), p_ixr hm (by decide), p_ld hd (by decide), p_ld hm (by decide), c_TN h hm hn, c_TM h hm hn, c_T h (by decide) (by decide) hn]
    rw [if_neg (nI_m1ne (by omega))]
    exact c_take48 h hn hd _ _ _
theorem p_CV_t {M M1 : xwM} {A : pA} {o : Option xwM} (h1 : p_FR M M1) (h : p_CV M1 A o) : p_CV M A o := by
  obtain ⟨M', a, b, c⟩ := h
  exact ⟨M', a, b, p_FR_t h1 c⟩
theorem p_CV_b {M : xwM} {A B : pA} {o : Option xwM} {f : xwM → Option xwM} (h : p_CV M A o) (k : ∀ M', p_RC A M' → p_CV M' B (f M')) : p_CV M B (bnv o f) := by
  obtain ⟨M', a, b, c⟩ := h
  rw [a]
  exact p_CV_t c (k M' b)
theorem p_CV_s {M : xwM} {A : pA} (h : p_RC A M) : p_CV M A (some M) := ⟨M, rfl, h, p_FR_r M⟩
theorem c_tell {A : pA} {M : xwM} (h : p_RC A M) {n m d : Nat} (hn : n < 12) (hd : d < 12) : p_CV M (p_tell n m d A) (fX2_tell (nI n) (nI m) (nI d) M) := by
  unfold fX2_tell fX2_tell_37 fX2_tell_109 p_tell
  rw [p_ixr hn (by decide)]
  by_cases c : A.1 6 n d = -1
  · rw [c_way0 h hn hd c, bniE, if_pos rfl, if_pos c]
    by_cases c2 : A.1 4 n d = -1
    · rw [c_bnd0 h hn hd c2, bniE, if_pos rfl, if_pos c2]
      exact p_CV_b (c_send h _ _ _ _ _ _) (fun M' h' => p_CV_s h')
    · rw [c_bnd1 h hn hd c2, bniE, if_neg one0, if_neg c2, p_ld hd (by decide), c_T h (by decide) (by decide) hn]
      exact p_CV_b (c_send h _ _ _ _ _ _) (fun M' h' => p_CV_s h')
  · rw [c_way1 h hn hd c, bniE, if_neg one0, if_neg c, p_ld hd (by decide), p_ld hd (by decide), c_T h (by decide) (by decide) hn, c_T h (by decide) (by decide) hn]
    by_cases c2 : d = n
    · rw [if_pos (show nI d = nI n by rw [c2]), if_neg (show ¬ (d ≠ n ∧ p_gd A.1 n d (A.1 7 n d) (A.1 8 n d) = true) from fun q => q.1 c2)]
      exact p_CV_b (c_send h _ _ _ _ _ _) (fun M' h' => p_CV_s h')
    · rw [if_neg (show ¬ nI d = nI n from fun e => c2 ((nI_eq (by omega) (by omega)).mp e)), c_isGood h hn hd, bniE]
      by_cases c3 : p_gd A.1 n d (A.1 7 n d) (A.1 8 n d) = false
      · rw [if_pos (p_bf c3), if_neg (show ¬ (d ≠ n ∧ p_gd A.1 n d (A.1 7 n d) (A.1 8 n d) = true) from fun q => by rw [c3] at q; exact absurd q.2 (by decide))]
        exact p_CV_b (c_send h _ _ _ _ _ _) (fun M' h' => p_CV_s h')
      · rw [if_neg (p_bt c3), if_pos (show d ≠ n ∧ p_gd A.1 n d (A.1 7 n d) (A.1 8 n d) = true from ⟨c2, Bool.of_not_eq_false c3⟩), p_sto hd (by decide), p_sto hd (by decide)]
        have h1 := p_RC_ms h (j := 4) (d := d) (x := A.1 7 n d) (by decide) (by decide) hn
        have h2 := p_RC_ms h1 (j := 5) (d := d) (x := A.1 8 n d) (by decide) (by decide) hn
        refine p_CV_t (p_FR_t (p_FR_ms (by omega)) (p_FR_ms (by omega))) (p_CV_b (c_send h2 _ _ _ _ _ _) (fun M' h' => p_CV_s h'))
theorem c_loop (F : Nat → Nat → xwM → Option xwM) (f : Nat → pA → pA) (h0 : ∀ fu M, F (fu + 1) 12 M = some M) (hs : ∀ fu j A M, j < 12 → p_RC A M → ∃ M', F (fu + 1) j M = F fu (j + 1) M' ∧ p_RC (f j A) M' ∧ p_FR M M') {A : pA} {M : xwM} (h : p_RC A M) : p_CV M (p_up f 12 0 A) (F 2001 0 M) := by
  obtain ⟨M', e, a, b⟩ := p_loop F (fun M => some M) (fun _ A M' => p_RC A M' ∧ p_FR M M') f 12 h0 (fun fu j a s hj hp => by
    obtain ⟨M', e, a, b⟩ := hs fu j a s hj hp.1
    exact ⟨M', e, a, p_FR_t hp.2 b⟩) 12 0 2001 A M rfl (by decide) ⟨h, p_FR_r M⟩
  exact ⟨M', e, a, b⟩
theorem nI12 : (12 : Int32) ≤ nI 12 := nI_le (a := 12) (Nat.le_refl _) (by decide)
theorem nI12n {j : Nat} (h : j < 12) : ¬ (12 : Int32) ≤ nI j := nI_ge h (by decide)
theorem c_tellAll {A : pA} {M : xwM} (h : p_RC A M) {n d : Nat} (hn : n < 12) (hd : d < 12) : p_CV M (p_tellAll n d A) (fX2_tellAll (nI n) (nI d) M) :=
  c_loop (fun fu j M => fX2_tellAll_2 fu (nI n) (nI d) (nI j) M) (fun m A => if A.1 3 n m = 0 then A else p_tell n m d A)
    (fun fu M => by
      show fX2_tellAll_2 (fu + 1) (nI n) (nI d) (nI 12) M = _
      rw [fX2_tellAll_2, if_pos nI12])
    (fun fu j A M hj h => by
      show ∃ M', fX2_tellAll_2 (fu + 1) (nI n) (nI d) (nI j) M = fX2_tellAll_2 fu (nI n) (nI d) (nI (j + 1)) M' ∧ _
      rw [fX2_tellAll_2, if_neg (nI12n hj), p_ixr hn (by decide), p_ld hj (by decide), c_T h (by decide) (by decide) hn]
      unfold fX2_tellAll_29
      rw [nI_1]
      by_cases c : A.1 3 n j = 0
      · rw [if_pos c, if_pos c]
        exact ⟨M, rfl, h, p_FR_r M⟩
      · rw [if_neg c, if_neg c]
        obtain ⟨M', e, a, b⟩ := c_tell h hn hd (m := j)
        rw [e]
        exact ⟨M', rfl, a, b⟩) h
theorem c_every {A : pA} {M : xwM} (h : p_RC A M) {n m : Nat} (hn : n < 12) : p_CV M (p_every n m A) (fX2_tellEveryWay (nI n) (nI m) M) :=
  c_loop (fun fu j M => fX2_tellEveryWay_2 fu (nI n) (nI m) (nI j) M) (fun d A => if A.1 6 n d = -1 then A else p_tell n m d A)
    (fun fu M => by
      show fX2_tellEveryWay_2 (fu + 1) (nI n) (nI m) (nI 12) M = _
      rw [fX2_tellEveryWay_2, if_pos nI12])
    (fun fu j A M hj h => by
      show ∃ M', fX2_tellEveryWay_2 (fu + 1) (nI n) (nI m) (nI j) M = fX2_tellEveryWay_2 fu (nI n) (nI m) (nI (j + 1)) M' ∧ _
      rw [fX2_tellEveryWay_2, if_neg (nI12n hj), p_ixr hn (by decide)]
      unfold fX2_tellEveryWay_28
      rw [nI_1]
      by_cases c : A.1 6 n j = -1
      · rw [c_way0 h hn hj c, bniE, if_pos rfl, if_pos c]
        exact ⟨M, rfl, h, p_FR_r M⟩
      · rw [c_way1 h hn hj c, bniE, if_neg one0, if_neg c]
        obtain ⟨M', e, a, b⟩ := c_tell h hn hj (m := m)
        rw [e]
        exact ⟨M', rfl, a, b⟩) h
theorem c_req {A : pA} {M : xwM} (h : p_RC A M) {n d : Nat} (hn : n < 12) (ex x s : Int32) : p_CV M (p_req n ex d x s A) (fX2_requestAll (nI n) ex (nI d) x s M) :=
  c_loop (fun fu j M => fX2_requestAll_3 fu (nI n) ex (nI d) x s (nI j) M) (fun m A => if nI m = ex ∨ A.1 3 n m = 0 then A else p_snd (p_mk 2 (nI n) (nI m) (nI d) x s) A)
    (fun fu M => by
      show fX2_requestAll_3 (fu + 1) (nI n) ex (nI d) x s (nI 12) M = _
      rw [fX2_requestAll_3, if_pos nI12])
    (fun fu j A M hj h => by
      show ∃ M', fX2_requestAll_3 (fu + 1) (nI n) ex (nI d) x s (nI j) M = fX2_requestAll_3 fu (nI n) ex (nI d) x s (nI (j + 1)) M' ∧ _
      rw [fX2_requestAll_3, if_neg (nI12n hj)]
      unfold fX2_requestAll_47
      rw [nI_1]
      by_cases c : nI j = ex
      · rw [if_pos c, if_pos (show nI j = ex ∨ A.1 3 n j = 0 from Or.inl c)]
        exact ⟨M, rfl, h, p_FR_r M⟩
      · rw [if_neg c, p_ixr hn (by decide), p_ld hj (by decide), c_T h (by decide) (by decide) hn]
        by_cases c2 : A.1 3 n j = 0
        · rw [if_pos c2, if_pos (show nI j = ex ∨ A.1 3 n j = 0 from Or.inr c2)]
          exact ⟨M, rfl, h, p_FR_r M⟩
        · rw [if_neg c2, if_neg (show ¬ (nI j = ex ∨ A.1 3 n j = 0) from fun q => q.elim c c2)]
          obtain ⟨M', e, a, b⟩ := c_send h 2 (nI n) (nI j) (nI d) x s
          rw [e]
          exact ⟨M', rfl, a, b⟩) h
theorem c_ask {A : pA} {M : xwM} (h : p_RC A M) {n d : Nat} (hn : n < 12) (hd : d < 12) : p_CV M (p_ask n d A) (fX2_askAll (nI n) (nI d) M) := by
  unfold fX2_askAll fX2_askAll_28 p_ask fX2_nextNumber
  rw [p_ixr hn (by decide)]
  by_cases c2 : A.1 4 n d = -1
  · rw [c_bnd0 h hn hd c2, bniE, if_pos rfl, if_pos c2]
    exact p_CV_b (c_req h hn _ _ _) (fun M' h' => p_CV_s h')
  · rw [c_bnd1 h hn hd c2, bniE, if_neg one0, if_neg c2, p_ld hd (by decide), c_T h (by decide) (by decide) hn]
    exact p_CV_b (c_req h hn _ _ _) (fun M' h' => p_CV_s h')
theorem p_st_id {T : pT} {j n d : Nat} {x : Int32} (h : T j n d = x) : p_st T j n d x = T := by
  funext a b c
  rw [p_st_at]
  by_cases e : a = j ∧ b = n ∧ c = d
  · obtain ⟨rfl, rfl, rfl⟩ := e
    rw [if_pos ⟨rfl, rfl, rfl⟩, h]
  · rw [if_neg e]
theorem c_choose {A : pA} {M : xwM} (h : p_RC A M) {n d : Nat} (hn : n < 12) (hd : d < 12) : p_CV M (p_choose n d A) (fX2_chooseAnew (nI n) (nI d) M) := by
  unfold fX2_chooseAnew fX2_chooseAnew_39 p_choose
  rw [p_ixr hn (by decide)]
  obtain ⟨M1, e1, r1, f1⟩ := c_take h hn hd
  rw [e1, bniE]
  refine p_CV_t f1 ?_
  by_cases c : A.1 6 n d = p_best A.1 n d ∧ A.1 7 n d = p_bn A.1 n d (p_best A.1 n d) ∧ A.1 8 n d = p_bm A.1 n d (p_best A.1 n d)
  · rw [if_pos c] at e1
    rw [if_pos c, if_pos c, if_pos rfl]
    have e : (p_take A.1 n d (p_best A.1 n d), A.2) = A := by
      unfold p_take
      rw [← c.2.1, ← c.2.2, ← c.1]
      rw [p_st_id (T := A.1) (j := 6) rfl, p_st_id (T := A.1) (j := 7) rfl, p_st_id (T := A.1) (j := 8) rfl]
    rw [e] at r1
    exact p_CV_s r1
  · rw [if_neg c, if_neg c, if_neg one0]
    refine p_CV_b (c_tellAll r1 hn hd) (fun M2 r2 => ?_)
    rw [p_ixr hn (by decide)]
    unfold p_lost
    by_cases c2 : (p_tellAll n d (p_take A.1 n d (p_best A.1 n d), A.2)).1 6 n d = -1
    · rw [c_way0 r2 hn hd c2, bniE, if_pos rfl, if_pos c2]
      exact p_CV_b (c_ask r2 hn hd) (fun M' h' => p_CV_s h')
    · rw [c_way1 r2 hn hd c2, bniE, if_neg one0, if_neg c2]
      exact p_CV_s r2
theorem c_chAll {A : pA} {M : xwM} (h : p_RC A M) {n : Nat} (hn : n < 12) : p_CV M (p_chAll n A) (fX2_chooseEverywhere (nI n) M) :=
  c_loop (fun fu j M => fX2_chooseEverywhere_2 fu (nI n) (nI j) M) (fun d A => if d = n then A else p_choose n d A)
    (fun fu M => by
      show fX2_chooseEverywhere_2 (fu + 1) (nI n) (nI 12) M = _
      rw [fX2_chooseEverywhere_2, if_pos nI12])
    (fun fu j A M hj h => by
      show ∃ M', fX2_chooseEverywhere_2 (fu + 1) (nI n) (nI j) M = fX2_chooseEverywhere_2 fu (nI n) (nI (j + 1)) M' ∧ _
      rw [fX2_chooseEverywhere_2, if_neg (nI12n hj)]
      unfold fX2_chooseEverywhere_19
      rw [nI_1]
      by_cases c : j = n
      · rw [if_pos (by rw [c]), if_pos c]
        exact ⟨M, rfl, h, p_FR_r M⟩
      · rw [if_neg (show ¬ nI j = nI n from fun e => c ((nI_eq (by omega) (by omega)).mp e)), if_neg c]
        obtain ⟨M', e, a, b⟩ := c_choose h hn hj
        rw [e]
        exact ⟨M', rfl, a, b⟩) h
