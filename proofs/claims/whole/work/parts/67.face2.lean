/-! the class's face: letters, and what only reads -/
theorem c_deliver {A : pA} {M : xwM} (h : p_RC A M) {i : Nat} {l : pL} (hl : A.2[i]? = some l) (ok : p_lok l) (hs : ∀ n, n < 12 → A.1 2 n 9 = nI n) (hq : l 0 = 2 → p_pq A.1 (p_nat (l 2)) (p_nat (l 3)) (l 4)) : p_CX M ((p_hand i A).1 1 0 3 - A.1 1 0 3) (p_hand i A) (fX2_deliver (nI i) M) := by
  have hi : i < A.2.length := (List.getElem?_eq_some_iff.mp hl).1
  unfold fX2_deliver
  rw [c_ltr1 h hi, bnxE]
  obtain ⟨M1, e1, r1, f1⟩ := c_hand h hl ok hs hq
  rw [e1, bnvE, c_ct r1, c_ct h]
  exact p_CX_t f1 (p_CX_s r1)
noncomputable def p_run : Nat → Nat → pA → Nat × pA
  | 0, h, A => (h, A)
  | k + 1, h, A => if A.2.length = 0 then (h, A) else p_run k (h + 1) (p_hand 0 A)
def p_jok (A : pA) : Prop := (∀ n, n < 12 → A.1 2 n 9 = nI n) ∧ ∀ l, A.2[0]? = some l → p_lok l ∧ (l 0 = 2 → p_pq A.1 (p_nat (l 2)) (p_nat (l 3)) (l 4))
theorem c_len {A : pA} {M : xwM} (h : p_RC A M) : M 410 2 = nI A.2.length ∧ A.2.length ≤ 300 := by
  obtain ⟨h1, hc, p, hp, q1, q2, q3, q4⟩ := h
  exact ⟨q2, q3⟩
theorem c_run9 (J : pA → Prop) (hJ : ∀ A, J A → A.2.length ≠ 0 → J (p_hand 0 A)) (hok : ∀ A, J A → p_jok A) {N : Nat} (hN : N ≤ 500) : ∀ (k h fu : Nat) (A : pA) (M : xwM), h + k = N → k < fu → J A → p_RC A M → p_CX M (nI (p_run k h A).1) (p_run k h A).2 (fX2_run_9 fu (nI N) (nI h) M) := by
  intro k
  induction k with
  | zero =>
    intro h fu A M hh hf hj r
    obtain ⟨fu', rfl⟩ : ∃ fu', fu = fu' + 1 := ⟨fu - 1, by omega⟩
    rw [fX2_run_9, if_pos (nI_le (by omega) (by omega))]
    exact p_CX_s r
  | succ k ih =>
    intro h fu A M hh hf hj r
    obtain ⟨fu', rfl⟩ : ∃ fu', fu = fu' + 1 := ⟨fu - 1, by omega⟩
    obtain ⟨l1, l2⟩ := c_len r
    rw [fX2_run_9, if_neg (nI_ge (by omega) (by omega)), l1]
    unfold p_run
    by_cases c : A.2.length = 0
    · rw [if_pos c, c, if_pos (show nI 0 ≤ 0 from nI_le (a := 0) (b := 0) (Nat.le_refl 0) (by decide))]
      exact p_CX_s r
    · rw [if_neg c, if_neg (nI_nle (by omega) (by omega))]
      obtain ⟨o1, o2⟩ := hok A hj
      have hl : A.2[0]? = some A.2[0] := List.getElem?_eq_getElem (by omega)
      obtain ⟨o3, o4⟩ := o2 _ hl
      have K := c_hand r hl o3 o1 o4
      rw [nI_0] at K
      refine p_CX_v K (fun M1 r1 => ?_)
      rw [nI_1]
      exact ih (h + 1) fu' (p_hand 0 A) M1 (by omega) (by omega) (hJ A hj c) r1
theorem c_run (J : pA → Prop) (hJ : ∀ A, J A → A.2.length ≠ 0 → J (p_hand 0 A)) (hok : ∀ A, J A → p_jok A) {A : pA} {M : xwM} (h : p_RC A M) (hj : J A) {N : Nat} (hN : N ≤ 500) : p_CX M (nI (p_run N 0 A).1) (p_run N 0 A).2 (fX2_run (nI N) M) := by
  unfold fX2_run
  rw [c_upto1 (nI_pos (by omega)) (show nI N ≤ 500 from nI_le hN (by decide)), bnxE]
  exact c_run9 J hJ hok hN N 0 2001 A M (by omega) (by omega) hj h
theorem c_drop {A : pA} {M : xwM} (h : p_RC A M) {i : Nat} {l : pL} (hl : A.2[i]? = some l) : p_CX M (l 0) (A.1, A.2.eraseIdx i) (fX2_drop (nI i) M) := by
  have hi : i < A.2.length := (List.getElem?_eq_some_iff.mp hl).1
  have r0 : fX0_read (nI i) 0 M = some (l 0, M) := c_readL h (f := 0) hl (by decide)
  unfold fX2_drop
  rw [c_ltr1 h hi, bnxE, r0, bniE]
  exact p_CX_v (c_away h hi) (fun M1 r1 => p_CX_s r1)
theorem c_copy {A : pA} {M : xwM} (h : p_RC A M) {i : Nat} {l : pL} (hl : A.2[i]? = some l) : p_CX M (if A.2.length < 300 then 1 else 0) (if A.2.length < 300 then (A.1, A.2 ++ [l]) else A) (fX2_copy (nI i) M) := by
  have hi : i < A.2.length := (List.getElem?_eq_some_iff.mp hl).1
  unfold fX2_copy
  obtain ⟨M1, e1, r1, f1⟩ := c_repeat h hl
  rw [c_ltr1 h hi, bnxE, e1, bniE]
  rw [if_pos (show (if A.2.length < 300 then (1 : Int32) else 0) = 0 ∨ (if A.2.length < 300 then (1 : Int32) else 0) = 1 by split; exact Or.inr rfl; exact Or.inl rfl)]
  exact p_CX_t f1 (p_CX_s r1)
theorem c_letter {A : pA} {M : xwM} (h : p_RC A M) {i f : Nat} {l : pL} (hl : A.2[i]? = some l) (hf : f < 6) : p_CX M (l f) A (fX2_letter (nI i) (nI f) M) := by
  have hi : i < A.2.length := (List.getElem?_eq_some_iff.mp hl).1
  unfold fX2_letter
  rw [c_ltr1 h hi, bnxE, c_upto1 (nI_pos (by omega)) (show nI f ≤ 5 from nI_le (b := 5) (by omega) (by decide)), bnxE, c_readL h hl hf, bniE]
  exact p_CX_s h
theorem c_way {A : pA} {M : xwM} (h : p_RC A M) {n d w : Nat} (hn : n < 12) (hd : d < 12) (hw : w < 5) : p_CX M (if w = 0 then A.1 6 n d else if w = 1 then A.1 7 n d else if w = 2 then A.1 8 n d else if w = 3 then A.1 4 n d else A.1 5 n d) A (fX2_way (nI n) (nI d) (nI w) M) := by
  unfold fX2_way
  rw [c_node1 hn, bnxE, c_node1 hd, bnxE, c_upto1 (nI_pos (by omega)) (show nI w ≤ 4 from nI_le (b := 4) (by omega) (by decide)), bnxE, p_ixr hn (by decide)]
  simp only [p_ld hd (show 12 < 2 ^ 31 by decide), c_T h (show 2 ≤ 4 by decide) (by decide) hn, c_T h (show 2 ≤ 5 by decide) (by decide) hn, c_T h (show 2 ≤ 6 by decide) (by decide) hn, c_T h (show 2 ≤ 7 by decide) (by decide) hn, c_T h (show 2 ≤ 8 by decide) (by decide) hn]
  match w, hw with
  | 0, _ => exact p_CX_s h
  | 1, _ => exact p_CX_s h
  | 2, _ => exact p_CX_s h
  | 3, _ => exact p_CX_s h
  | 4, _ => exact p_CX_s h
theorem c_told {A : pA} {M : xwM} (h : p_RC A M) {n m d w : Nat} (hn : n < 12) (hm : m < 12) (hd : d < 12) (hnm : n ≠ m) (hnd : n ≠ d) (hw : w < 3) : p_CX M (if w = 0 then A.1 (11 + m) n d else if w = 1 then A.1 (24 + m) n d else if A.1 (11 + m) n d = -1 then 0 else p_b (p_gd A.1 n d (A.1 (11 + m) n d) (A.1 (24 + m) n d))) A (fX2_told (nI n) (nI m) (nI d) (nI w) M) := by
  have hp : p_pr (nI n) (nI m) := ⟨⟨n, hn, rfl⟩, ⟨m, hm, rfl⟩, fun e => hnm ((nI_eq (by omega) (by omega)).mp e)⟩
  have hp2 : p_pr (nI n) (nI d) := ⟨⟨n, hn, rfl⟩, ⟨d, hd, rfl⟩, fun e => hnd ((nI_eq (by omega) (by omega)).mp e)⟩
  unfold fX2_told fX2_told_86 fX2_told_87
  rw [c_pair1 hp, bnxE, c_pair1 hp2, bnxE, c_upto1 (nI_pos (by omega)) (show nI w ≤ 2 from nI_le (b := 2) (by omega) (by decide)), bnxE, p_ixr hn (by decide), p_ixr hm (by decide), p_ld hd (by decide), p_ixr hm (by decide), p_ld hd (by decide), c_TN h hm hn, c_TM h hm hn]
  match w, hw with
  | 0, _ => exact p_CX_s h
  | 1, _ => exact p_CX_s h
  | 2, _ =>
    rw [if_neg (show ¬ nI 2 = 0 by decide), if_neg (show ¬ nI 2 = 1 by decide), if_neg (show ¬ 2 = 0 by decide), if_neg (show ¬ 2 = 1 by decide)]
    by_cases c : A.1 (11 + m) n d = -1
    · rw [if_pos c, if_pos c]
      exact p_CX_s h
    · rw [if_neg c, if_neg c, c_isGood h hn hd, bniE]
      by_cases c2 : p_gd A.1 n d (A.1 (11 + m) n d) (A.1 (24 + m) n d) = false
      · rw [if_pos (p_bf c2), c2]
        exact p_CX_s h
      · rw [if_neg (p_bt c2), Bool.of_not_eq_false c2]
        exact p_CX_s h
def p_tr (T : pT) (d : Nat) : Nat → Nat → Nat → Int32
  | 0, _, _ => -1
  | k + 1, s, a => if a = d then nI s else if T 6 a d = -1 then -1 else p_tr T d k (s + 1) (p_nat (T 6 a d))
theorem c_tr13 {A : pA} {M : xwM} (h : p_RC A M) {d : Nat} (hd : d < 12) (hc : ∀ n, n < 12 → A.1 6 n d = -1 ∨ p_isN (A.1 6 n d)) : ∀ k s fu a, s + k = 12 → k < fu → a < 12 → fX2_trace_13 fu (nI d) (nI a) (nI s) M = some (.inl (p_tr A.1 d k s a), M) := by
  intro k
  induction k with
  | zero =>
    intro s fu a hs hf ha
    obtain ⟨fu', rfl⟩ : ∃ fu', fu = fu' + 1 := ⟨fu - 1, by omega⟩
    have e : s = 12 := by omega
    subst e
    rw [fX2_trace_13, if_pos nI12]
    rfl
  | succ k ih =>
    intro s fu a hs hf ha
    obtain ⟨fu', rfl⟩ : ∃ fu', fu = fu' + 1 := ⟨fu - 1, by omega⟩
    rw [fX2_trace_13, if_neg (nI12n (by omega))]
    unfold p_tr
    by_cases c : a = d
    · rw [if_pos (show nI a = nI d by rw [c]), if_pos c]
    · rw [if_neg (show ¬ nI a = nI d from fun e => c ((nI_eq (by omega) (by omega)).mp e)), if_neg c, p_ixr ha (by decide), p_ld hd (by decide), c_T h (by decide) (by decide) ha]
      by_cases c2 : A.1 6 a d = -1
      · rw [if_pos c2, if_pos c2]
      · rw [if_neg c2, if_neg c2, nI_1]
        obtain ⟨b, hb, e⟩ := (hc a ha).resolve_left c2
        rw [e, p_nI hb]
        exact ih (s + 1) fu' b (by omega) (by omega) hb
theorem c_trace {A : pA} {M : xwM} (h : p_RC A M) {n d : Nat} (hn : n < 12) (hd : d < 12) (hc : ∀ n, n < 12 → A.1 6 n d = -1 ∨ p_isN (A.1 6 n d)) : p_CX M (p_tr A.1 d 12 0 n) A (fX2_trace (nI n) (nI d) M) := by
  unfold fX2_trace
  rw [c_node1 hn, bnxE, c_node1 hd, bnxE]
  have K := c_tr13 h hd hc 12 0 2001 n rfl (by decide) hn
  rw [nI_0] at K
  rw [K]
  exact p_CX_s h
theorem c_cost {A : pA} {M : xwM} (h : p_RC A M) {a b : Nat} (ha : a < 12) (hb : b < 12) (hab : a ≠ b) : p_CX M (A.1 3 a b) A (fX2_cost (nI a) (nI b) M) := by
  have hp : p_pr (nI a) (nI b) := ⟨⟨a, ha, rfl⟩, ⟨b, hb, rfl⟩, fun e => hab ((nI_eq (by omega) (by omega)).mp e)⟩
  unfold fX2_cost
  rw [c_pair1 hp, bnxE, p_ixr ha (by decide), p_ld hb (by decide), c_T h (by decide) (by decide) ha]
  exact p_CX_s h
theorem c_total {A : pA} {M : xwM} (h : p_RC A M) {w : Nat} (hw : w < 5) : p_CX M (if w = 0 then nI A.2.length else if w = 1 then A.1 1 0 3 else if w = 2 then A.1 1 0 4 else if w = 3 then A.1 1 0 5 else nI (p_ends A.1) / 2) A (fX2_total (nI w) M) := by
  unfold fX2_total
  rw [c_upto1 (nI_pos (by omega)) (show nI w ≤ 4 from nI_le (b := 4) (by omega) (by decide)), bnxE]
  rw [(c_len h).1, c_ct h, h.2.1 4 (by decide) (by decide), h.2.1 5 (by decide) (by decide), c_ends h, bniE]
  match w, hw with
  | 0, _ => exact p_CX_s h
  | 1, _ => exact p_CX_s h
  | 2, _ => exact p_CX_s h
  | 3, _ => exact p_CX_s h
  | 4, _ => exact p_CX_s h
