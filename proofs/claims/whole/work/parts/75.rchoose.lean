/-! the reference's choice -/
theorem r_by {o : Nat → Nat} {A : pA} {M : xwM} (h : p_RM A M) (hI : p_IT o A.1) {n m d : Nat} (hn : n < 12) (hm : m < 12) (hd : d < 12) : fX3_by (nI n) (nI m) (nI d) M = some (p_by A.1 n d m, M) := by
  unfold fX3_by fX3_by_55 fX3_by_88 p_by
  rw [p_ix2, p_ix3, p_ld (by omega) (by decide), r_3 h hn hm]
  have h9 := hI.2.2.2.2.2.2.2.2 d hd
  rcases hI.2.2.2.2.2.2.2.1 n m d hn hm hd with ⟨e1, e2⟩ | ⟨a, w, ha, hw, e1, e2, e3⟩
  · rw [if_pos (Or.inl e1)]
    by_cases c : A.1 3 n m = 0
    · rw [if_pos c]
    · rw [if_neg c, p_ld (by omega) (by decide), p_ld (by omega) (by decide), r_tn h hn hm hd, r_tm h hn hm hd, e1, e2]
      have e : fX3_isGood (nI n) (nI d) (-1) (-1) M = some (0, M) := by
        unfold fX3_isGood fX3_isGood_72 fX3_isGood_73
        rw [if_pos (show (-1 : Int32) < 0 by decide), if_pos (Or.inl rfl)]
      rw [e, bniE, if_pos rfl]
  · rw [if_neg e3, p_ld (by omega) (by decide), p_ld (by omega) (by decide), r_tn h hn hm hd, r_tm h hn hm hd]
    rw [r_isGood h hI hn hd (by rw [e2]; exact nI_pos (by omega)), bniE, p_ld (by omega) (by decide), p_ld (by omega) (by decide), r_tm h hn hm hd]
    have n1 : ¬ A.1 (11 + m) n d = -1 := by rw [e1]; exact nI_m1ne (by omega)
    by_cases c1 : p_gd A.1 n d (A.1 (11 + m) n d) (A.1 (24 + m) n d) = false
    · rw [if_pos (p_bf c1), if_pos (Or.inr (Or.inr c1))]
    · rw [if_neg (p_bt c1)]
      by_cases c2 : A.1 (24 + m) n d + A.1 3 n m ≤ 60000
      · rw [if_pos c2, if_neg (show ¬ (A.1 (11 + m) n d = -1 ∨ 60000 < A.1 (24 + m) n d + A.1 3 n m ∨ p_gd A.1 n d (A.1 (11 + m) n d) (A.1 (24 + m) n d) = false) from fun q => q.elim n1 (fun q => q.elim (fun q => Int32.not_le.mpr q c2) c1))]
      · rw [if_neg c2, if_pos (Or.inr (Or.inl (Int32.not_le.mp c2)))]
theorem r_ch227 {o : Nat → Nat} {A : pA} {M : xwM} (h : p_RM A M) (hI : p_I o A) {n d : Nat} (hn : n < 12) (hd : d < 12) (hnd : n ≠ d) {b x v : Int32} (hw : p_wok (o d) b x v) : p_MV M (p_lost n d (p_tellAll n d (p_st (p_st (p_st A.1 6 n d b) 7 n d x) 8 n d v, A.2))) (fX3_chooses_227 (nI n) (nI d) (nI (12 * n + d)) b x v M) := by
  unfold fX3_chooses_227 fX3_chooses_278
  rw [p_sto (by omega) (by decide), p_sto (by omega) (by decide), p_sto (by omega) (by decide)]
  have h1 := p_RM6 h (x := b) hn hd
  have h2 := p_RM7 h1 (x := x) hn hd hnd
  have h3 := p_RM8 h2 (x := v) hn hd
  have hI3 : p_I o (p_st (p_st (p_st A.1 6 n d b) 7 n d x) 8 n d v, A.2) := And.intro (p_IT678 hI.1 hnd hw) hI.2
  have fr : p_FM M (ms (ms (ms M 423 (12 * n + d) b) 424 (12 * n + d) x) 425 (12 * n + d) v) := p_FM_t (p_FM_ms (by decide)) (p_FM_t (p_FM_ms (by decide)) (p_FM_ms (by decide)))
  have f0 : ms (ms (ms M 423 (12 * n + d) b) 424 (12 * n + d) x) 425 (12 * n + d) v 418 0 = M 418 0 := by
    rw [p_ms0 (Or.inl (by decide)), p_ms0 (Or.inl (by decide)), p_ms0 (Or.inl (by decide))]
  refine p_MV_t fr f0 ?_
  have e6 : (p_st (p_st (p_st A.1 6 n d b) 7 n d x) 8 n d v, A.2).1 6 n d = b := by
    show p_st (p_st (p_st A.1 6 n d b) 7 n d x) 8 n d v 6 n d = b
    rw [p_st_at, if_neg (by omega), p_st_at, if_neg (by omega), p_st_at, if_pos ⟨rfl, rfl, rfl⟩]
  generalize (p_st (p_st (p_st A.1 6 n d b) 7 n d x) 8 n d v, A.2) = B at h3 hI3 e6 ⊢
  refine p_MV_b (r_tellsAll h3 hI3 hn hd) (fun M4 h4 => ?_)
  have hI4 : p_I o (p_tellAll n d B) := p_I_tellAll hI3 hn hd
  have e64 : (p_tellAll n d B).1 6 n d = b := by
    rw [p_tellAll_T n d B (by omega), e6]
  unfold p_lost
  rw [e64]
  by_cases c : b = -1
  · rw [if_pos c, if_pos c]
    obtain ⟨a, e1, k⟩ := r_ask h4 hI4 hn hd
    rw [e1, bniE]
    exact p_MV_b k (fun M' h' => p_MV_s h')
  · rw [if_neg c, if_neg c]
    exact p_MV_s h4
theorem r_ch191 {o : Nat → Nat} {A : pA} {M : xwM} (h : p_RM A M) (hI : p_I o A) {n d : Nat} (hn : n < 12) (hd : d < 12) (hnd : n ≠ d) {b x v : Int32} (hw : p_wok (o d) b x v) : p_MV M (if A.1 6 n d = b ∧ A.1 7 n d = x ∧ A.1 8 n d = v then A else p_lost n d (p_tellAll n d (p_st (p_st (p_st A.1 6 n d b) 7 n d x) 8 n d v, A.2))) (fX3_chooses_191 (nI n) (nI d) (nI (12 * n + d)) b x v M) := by
  have K := r_ch227 h hI hn hd hnd hw
  unfold fX3_chooses_191
  rw [p_ld (by omega) (by decide), r_6 h hn hd hnd, p_ld (by omega) (by decide), r_7 h hn hd hnd, p_ld (by omega) (by decide), r_8 h hn hd hnd]
  by_cases c1 : b = A.1 6 n d
  · rw [if_pos c1]
    by_cases c2 : x = A.1 7 n d
    · rw [if_pos c2]
      by_cases c3 : v = A.1 8 n d
      · rw [if_pos c3, if_pos (show A.1 6 n d = b ∧ A.1 7 n d = x ∧ A.1 8 n d = v from ⟨c1.symm, c2.symm, c3.symm⟩)]
        exact p_MV_s h
      · rw [if_neg c3, if_neg (show ¬ (A.1 6 n d = b ∧ A.1 7 n d = x ∧ A.1 8 n d = v) from fun q => c3 q.2.2.symm)]
        exact K
    · rw [if_neg c2, if_neg (show ¬ (A.1 6 n d = b ∧ A.1 7 n d = x ∧ A.1 8 n d = v) from fun q => c2 q.2.1.symm)]
      exact K
  · rw [if_neg c1, if_neg (show ¬ (A.1 6 n d = b ∧ A.1 7 n d = x ∧ A.1 8 n d = v) from fun q => c1 q.1.symm)]
    exact K
/-- from the chosen neighbour on: b is the class's best, k its sum -/
theorem r_ch147 {o : Nat → Nat} {A : pA} {M : xwM} (h : p_RM A M) (hI : p_I o A) {n d : Nat} (hn : n < 12) (hd : d < 12) (hnd : n ≠ d) {k : Nat} (hk : (p_best A.1 n d = -1 ∧ k = 65535) ∨ (∃ m, m < 12 ∧ p_best A.1 n d = nI m ∧ p_bv A.1 n d m = k)) : p_MV M (p_choose n d A) (fX3_chooses_147 (nI n) (nI d) (nI (12 * n + d)) (nI k) (p_best A.1 n d) M) := by
  unfold fX3_chooses_147 fX3_chooses_177 p_choose p_take
  rcases p_best_w hI.1 hn hd with ⟨e1, e2, e3, _⟩ | ⟨m, a, w, c, hm, ha, hc, hw, e1, e2, e3, g1, g2, g3, g4, g5, g6⟩
  · rw [e2, e3]
    generalize p_best A.1 n d = b at e1
    rw [if_pos e1, if_pos e1]
    exact r_ch191 h hI hn hd hnd (Or.inl ⟨e1, rfl, rfl⟩)
  · rw [e2, e3]
    have hne : ¬ nI m = -1 := nI_m1ne (by omega)
    have ek : k = w + c := by
      rcases hk with ⟨q1, q2⟩ | ⟨m', hm', q1, q2⟩
      · exact absurd (e1.symm.trans q1) hne
      · have := (nI_eq (by omega) (by omega)).mp (e1.symm.trans q1)
        subst this
        omega
    rw [e1, if_neg hne, p_ix3, p_ld (by omega) (by decide), r_tn h hn hm hd, if_neg hne, g1, ek]
    exact r_ch191 h hI hn hd hnd (Or.inr ⟨m, a, w + c, hm, ha, hw, rfl, rfl, rfl⟩)
theorem r_ch102 {o : Nat → Nat} {A : pA} {M : xwM} (h : p_RM A M) (hI : p_I o A) {n d : Nat} (hn : n < 12) (hd : d < 12) (hnd : n ≠ d) {k : Nat} {now : Int32} (hk : (k ≤ 60000 ∨ k = 65535) ∧ (∀ m, m < 12 → k ≤ p_bv A.1 n d m)) (hnow : (now = -1 ∧ (k = 65535 ∨ ∀ m, m < 12 → p_bv A.1 n d m ≠ k)) ∨ (k ≠ 65535 ∧ ∃ m, m < 12 ∧ now = nI m ∧ p_bv A.1 n d m = k ∧ ∀ m', m' < m → p_bv A.1 n d m' ≠ k)) (hk2 : k = 65535 ∨ ∃ m, m < 12 ∧ p_bv A.1 n d m = k) : p_MV M (p_choose n d A) (fX3_chooses_102 (nI n) (nI d) (nI (12 * n + d)) (nI k) now M) := by
  obtain ⟨k', g1, g2, g3⟩ := p_best_n hI.1 hn hd
  have ek : k' = k := by
    rcases g3 with ⟨q1, q2⟩ | ⟨q1, m, q2, q3, q4, q5⟩
    · rcases hk2 with r | ⟨m, r1, r2⟩
      · omega
      · have := g2 m r1
        omega
    · have := hk.2 m q2
      rcases hk2 with r | ⟨m, r1, r2⟩
      · omega
      · have := g2 m r1
        omega
  subst ek
  unfold fX3_chooses_102 fX3_chooses_145
  by_cases c : k' = 65535
  · rw [if_pos (show 65535 ≤ nI k' by rw [c]; decide)]
    rcases g3 with ⟨q1, q2⟩ | ⟨q1, m, q2, q3, q4, q5⟩
    · rcases hnow with ⟨r1, r2⟩ | ⟨r1, _⟩
      · rw [r1, ← q2]
        exact r_ch147 h hI hn hd hnd (Or.inl ⟨q2, q1⟩)
      · exact absurd c r1
    · omega
  · rw [if_neg (show ¬ 65535 ≤ nI k' from nI_ge (b := 65535) (by omega) (by decide)), p_ld (by omega) (by decide), r_6 h hn hd hnd]
    rcases g3 with ⟨q1, q2⟩ | ⟨q1, m, q2, q3, q4, q5⟩
    · exact absurd q1 c
    · have fin := r_ch147 h hI hn hd hnd (k := k') (Or.inr ⟨m, q2, q3, q4⟩)
      rw [q3] at fin
      have first : (∀ m', m' < m → p_bv A.1 n d m' ≠ k') → now = nI m := fun q => by
        rcases hnow with ⟨r1, r2⟩ | ⟨r1, m2, r2, r3, r4, r5⟩
        · rcases r2 with r2 | r2
          · exact absurd r2 c
          · exact absurd q4 (r2 m q2)
        · have : m2 = m := by
            rcases Nat.lt_trichotomy m2 m with t | t | t
            · exact absurd r4 (q m2 t)
            · exact t
            · exact absurd q4 (r5 m t)
          rw [r3, this]
      by_cases c1 : A.1 6 n d = -1
      · rw [if_pos c1]
        rcases q5 with q5 | ⟨q5, q6⟩
        · rw [c1] at q5
          exact absurd q5 (nI_m1ne (by omega))
        · rw [first q5]
          exact fin
      · rw [if_neg c1, p_ld (by omega) (by decide), r_6 h hn hd hnd]
        rcases hI.1.2.2.2.2.2.1 n d hn hd hnd with ⟨e1, _, _⟩ | ⟨cc, _, _, hcc, _, _, e1, _, _⟩
        · exact absurd e1 c1
        · rw [e1, r_by h hI.1 hn hcc hd, bniE, (p_bv_n hI.1 hn hd hcc).1]
          have := (p_bv_n hI.1 hn hd hcc).2
          by_cases c2 : p_bv A.1 n d cc = k'
          · rw [if_pos (show nI (p_bv A.1 n d cc) = nI k' by rw [c2]), p_ld (by omega) (by decide), r_6 h hn hd hnd, e1]
            rcases q5 with q5 | ⟨q5, q6⟩
            · rw [← e1, ← q5]
              exact fin
            · exact absurd c2 (q6 cc hcc e1.symm)
          · rw [if_neg (show ¬ nI (p_bv A.1 n d cc) = nI k' from fun e => c2 ((nI_eq (by omega) (by omega)).mp e))]
            rcases q5 with q5 | ⟨q5, q6⟩
            · rw [e1] at q5
              have := (nI_eq (by omega) (by omega)).mp q5
              subst this
              exact absurd q4 c2
            · rw [first q5]
              exact fin
theorem r_ch62 {o : Nat → Nat} {A : pA} {M : xwM} (h : p_RM A M) (hI : p_I o A) {n d : Nat} (hn : n < 12) (hd : d < 12) (hnd : n ≠ d) {k : Nat} (hk : (k ≤ 60000 ∨ k = 65535) ∧ (∀ m, m < 12 → k ≤ p_bv A.1 n d m)) (hk2 : k = 65535 ∨ ∃ m, m < 12 ∧ p_bv A.1 n d m = k) : ∀ (j fu : Nat) (now : Int32), j ≤ 12 → j < fu → ((now = -1 ∧ (k = 65535 ∨ ∀ m, j ≤ m → m < 12 → p_bv A.1 n d m ≠ k)) ∨ (k ≠ 65535 ∧ ∃ m, j ≤ m ∧ m < 12 ∧ now = nI m ∧ p_bv A.1 n d m = k ∧ ∀ m', j ≤ m' → m' < m → p_bv A.1 n d m' ≠ k)) → p_MV M (p_choose n d A) (fX3_chooses_62 fu (nI n) (nI d) (nI (12 * n + d)) (nI k) now (nI j + (-1)) M) := by
  have k31 : k < 2 ^ 31 := by
    clear hk2
    have := hk.1
    omega
  have k65 : k ≠ 65535 → k < 65535 := by
    clear hk2
    have := hk.1
    omega
  intro j
  induction j with
  | zero =>
    intro fu now hj hf hnow
    obtain ⟨fu', rfl⟩ : ∃ fu', fu = fu' + 1 := ⟨fu - 1, by omega⟩
    rw [fX3_chooses_62, if_pos (show nI 0 + (-1) < 0 by decide)]
    refine r_ch102 h hI hn hd hnd hk ?_ hk2
    rcases hnow with ⟨r1, r2⟩ | ⟨r1, m, _, r2, r3, r4, r5⟩
    · exact Or.inl ⟨r1, r2.elim Or.inl (fun q => Or.inr (fun m hm => q m (Nat.zero_le _) hm))⟩
    · exact Or.inr ⟨r1, m, r2, r3, r4, fun m' hm' => r5 m' (Nat.zero_le _) hm'⟩
  | succ j ih =>
    intro fu now hj hf hnow
    obtain ⟨fu', rfl⟩ : ∃ fu', fu = fu' + 1 := ⟨fu - 1, by omega⟩
    rw [fX3_chooses_62, nI_m1, if_neg (nI_pos (by omega))]
    by_cases c : k = 65535
    · rw [if_pos (show 65535 ≤ nI k by rw [c]; decide)]
      refine r_ch102 h hI hn hd hnd hk ?_ hk2
      rcases hnow with ⟨r1, r2⟩ | ⟨r1, _⟩
      · exact Or.inl ⟨r1, Or.inl c⟩
      · exact absurd c r1
    · have hj12 : j < 12 := by clear hk2 hnow; omega
      have hb := (p_bv_n hI.1 hn hd hj12).2
      have b31 : p_bv A.1 n d j < 2 ^ 31 := by clear hk2 hnow; omega
      rw [if_neg (show ¬ 65535 ≤ nI k from nI_ge (b := 65535) (k65 c) (by decide)), r_by h hI.1 hn hj12 hd, bniE, (p_bv_n hI.1 hn hd hj12).1]
      unfold fX3_chooses_94
      by_cases c2 : p_bv A.1 n d j = k
      · rw [if_pos (show nI (p_bv A.1 n d j) = nI k by rw [c2])]
        refine ih fu' (nI j) (by omega) (by omega) (Or.inr ⟨c, j, Nat.le_refl _, by omega, rfl, c2, fun m' a b => absurd a (by omega)⟩)
      · rw [if_neg (show ¬ nI (p_bv A.1 n d j) = nI k from fun e => c2 ((nI_eq b31 k31).mp e))]
        refine ih fu' now (by omega) (by omega) ?_
        have ext : ∀ m, j ≤ m → m = j ∨ j + 1 ≤ m := fun m hm => by omega
        rcases hnow with ⟨r1, r2⟩ | ⟨r1, m, r0, r2, r3, r4, r5⟩
        · refine Or.inl ⟨r1, Or.inr (fun m a b => ?_)⟩
          rcases ext m a with t | t
          · rw [t]; exact c2
          · exact (r2.resolve_left c) m t b
        · refine Or.inr ⟨r1, m, by omega, r2, r3, r4, fun m' a b => ?_⟩
          rcases ext m' a with t | t
          · rw [t]; exact c2
          · exact r5 m' t b
theorem r_chooses {o : Nat → Nat} {A : pA} {M : xwM} (h : p_RM A M) (hI : p_I o A) {n d : Nat} (hn : n < 12) (hd : d < 12) (hnd : n ≠ d) : p_MV M (p_choose n d A) (fX3_chooses (nI n) (nI d) M) := by
  have K := p_loop2 (α := Unit) (σ := Int32) (R := xwM) (fun fu j s => fX3_chooses_14 fu (nI n) (nI d) (nI (12 * n + d)) s (nI j) M) (fun s => fX3_chooses_62 2001 (nI n) (nI d) (nI (12 * n + d)) s (-1) 11 M) (fun j _ s => ∃ k, s = nI k ∧ (k ≤ 60000 ∨ k = 65535) ∧ (∀ m, m < j → k ≤ p_bv A.1 n d m) ∧ (k = 65535 ∨ ∃ m, m < j ∧ p_bv A.1 n d m = k)) (fun _ a => a) 12
    (fun fu a s _ => by
      show fX3_chooses_14 (fu + 1) (nI n) (nI d) (nI (12 * n + d)) s (nI 12) M = _
      rw [fX3_chooses_14, if_pos nI12])
    (fun fu j a s hj hs => by
      obtain ⟨k, e, hk, h1, h2⟩ := hs
      show ∃ s', fX3_chooses_14 (fu + 1) (nI n) (nI d) (nI (12 * n + d)) s (nI j) M = fX3_chooses_14 fu (nI n) (nI d) (nI (12 * n + d)) s' (nI (j + 1)) M ∧ _
      have hb := (p_bv_n hI.1 hn hd hj).2
      rw [fX3_chooses_14, if_neg (nI12n hj), r_by h hI.1 hn hj hd, bniE, r_by h hI.1 hn hj hd, bniE, (p_bv_n hI.1 hn hd hj).1, e]
      unfold fX3_chooses_47
      rw [nI_1]
      by_cases c : k ≤ p_bv A.1 n d j
      · rw [if_pos (nI_le c (by omega))]
        refine ⟨_, rfl, k, rfl, hk, ?_, ?_⟩
        · intro m hm
          by_cases t : m = j
          · rw [t]; exact c
          · exact h1 m (by omega)
        · rcases h2 with r | ⟨m, r1, r2⟩
          · exact Or.inl r
          · exact Or.inr ⟨m, by omega, r2⟩
      · rw [if_neg (nI_ge (Nat.lt_of_not_le c) (by clear h2; omega))]
        refine ⟨_, rfl, p_bv A.1 n d j, rfl, hb, ?_, Or.inr ⟨j, by omega, rfl⟩⟩
        intro m hm
        by_cases t : m = j
        · rw [t]; exact Nat.le_refl _
        · have := h1 m (by omega)
          omega)
    12 0 2001 () 65535 (by omega) (by omega) ⟨65535, rfl, Or.inr rfl, fun m hm => absurd hm (by omega), Or.inl rfl⟩
  obtain ⟨s, e, k, e2, hk, h1, h2⟩ := K
  have e0 : fX3_chooses_14 2001 (nI n) (nI d) (nI (12 * n + d)) 65535 (nI 0) M = _ := e
  rw [nI_0] at e0
  unfold fX3_chooses
  rw [p_ix2, e0, e2]
  refine r_ch62 h hI hn hd hnd ⟨hk, h1⟩ h2 12 2001 (-1) (Nat.le_refl _) (by decide) (Or.inl ⟨rfl, Or.inr (fun m a b => absurd a (by omega))⟩)
theorem r_choosesAll {o : Nat → Nat} {A : pA} {M : xwM} (h : p_RM A M) (hI : p_I o A) {n : Nat} (hn : n < 12) : p_MV M (p_chAll n A) (fX3_choosesAll (nI n) M) :=
  r_loop (fun fu j M => fX3_choosesAll_2 fu (nI n) (nI j) M) (fun d A => if d = n then A else p_choose n d A) o
    (fun fu M => by
      show fX3_choosesAll_2 (fu + 1) (nI n) (nI 12) M = _
      rw [fX3_choosesAll_2, if_pos nI12])
    (fun d A hd hA => by
      split
      · exact hA
      · rename_i c
        exact p_I_choose hA hn hd (fun e => c e.symm))
    (fun fu j A M hj h hI => by
      show ∃ M', fX3_choosesAll_2 (fu + 1) (nI n) (nI j) M = fX3_choosesAll_2 fu (nI n) (nI (j + 1)) M' ∧ _
      rw [fX3_choosesAll_2, if_neg (nI12n hj)]
      unfold fX3_choosesAll_19
      rw [nI_1]
      by_cases c : j = n
      · rw [if_pos (show nI j = nI n by rw [c]), if_pos c]
        exact ⟨M, rfl, h, p_FM_r M, rfl⟩
      · rw [if_neg (show ¬ nI j = nI n from fun e => c ((nI_eq (by omega) (by omega)).mp e)), if_neg c]
        obtain ⟨M', e, a, b, g⟩ := r_chooses h hI hn hj (fun e => c e.symm)
        rw [e]
        exact ⟨M', rfl, a, b, g⟩) h hI
theorem r_introduces {o : Nat → Nat} {A : pA} {M : xwM} (h : p_RM A M) (hI : p_I o A) {n m : Nat} (hn : n < 12) (hm : m < 12) : p_MV M (p_every n m A) (fX3_introduces (nI n) (nI m) M) :=
  r_loop (fun fu j M => fX3_introduces_2 fu (nI n) (nI m) (nI j) M) (fun d A => if A.1 6 n d = -1 then A else p_tell n m d A) o
    (fun fu M => by
      show fX3_introduces_2 (fu + 1) (nI n) (nI m) (nI 12) M = _
      rw [fX3_introduces_2, if_pos nI12])
    (fun d A hd hA => by
      split
      · exact hA
      · exact p_I_tell hA hn hm hd)
    (fun fu j A M hj h hI => by
      show ∃ M', fX3_introduces_2 (fu + 1) (nI n) (nI m) (nI j) M = fX3_introduces_2 fu (nI n) (nI m) (nI (j + 1)) M' ∧ _
      rw [fX3_introduces_2, if_neg (nI12n hj)]
      unfold fX3_introduces_28 fX3_introduces_35
      rw [nI_1]
      obtain ⟨M', e, a, b, g⟩ := r_tells h hI.1 hn hj (m := m)
      by_cases c : j = n
      · rw [if_pos (show nI j = nI n by rw [c]), e, bnvE, if_neg]
        · exact ⟨M', rfl, a, b, g⟩
        · rw [c, (hI.1.2.2.2.1 n hn).1]
          exact nI_m1ne (by omega)
      · rw [if_neg (show ¬ nI j = nI n from fun e => c ((nI_eq (by omega) (by omega)).mp e)), p_ix2, p_ld (by omega) (by decide), r_6 h hn hj (fun e => c e.symm), e, bnvE]
        by_cases c2 : A.1 6 n j = -1
        · rw [if_pos c2, if_pos c2]
          exact ⟨M, rfl, h, p_FM_r M, rfl⟩
        · rw [if_neg c2, if_neg c2]
          exact ⟨M', rfl, a, b, g⟩) h hI
