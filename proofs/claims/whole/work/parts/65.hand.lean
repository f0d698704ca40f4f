/-! the class: a letter handed over; the count of links -/
theorem c_hear {A : pA} {M : xwM} (h : p_RC A M) {n m d : Nat} (hn : n < 12) (hm : m < 12) (hd : d < 12) (x v : Int32) : p_CV M (p_hear n m d x v A) (fX2_hearTelling (nI n) (nI m) (nI d) x v M) := by
  unfold fX2_hearTelling fX2_hearTelling_49 fX2_hearTelling_50 fX2_hearTelling_79 p_hear
  by_cases c : d = n
  · rw [if_pos (show nI d = nI n by rw [c]), if_pos c]
    exact p_CV_s h
  · rw [if_neg (show ¬ nI d = nI n from fun e => c ((nI_eq (by omega) (by omega)).mp e)), if_neg c, p_ixr hn (by decide), p_ld hd (by decide), c_T h (by decide) (by decide) hn]
    have st : p_CV M (p_choose n d (p_st (p_st A.1 (11 + m) n d x) (24 + m) n d v, A.2)) (if (0 : Int32) = 0 then (ixr 12 (nI m) fun n14 => sto M (10 + 34 * n + 1 + n14) 12 (nI d) x fun M17 => ixr 12 (nI m) fun n19 => sto M17 (23 + 34 * n + 1 + n19) 12 (nI d) v fun M22 => bnv (fX2_chooseAnew (nI n) (nI d) M22) fun M24 => some M24) else bnv (fX2_chooseAnew (nI n) (nI d) M) fun M24 => some M24) := by
      rw [if_pos rfl, p_ixr hm (by decide), p_sto hd (by decide), p_ixr hm (by decide), p_sto hd (by decide)]
      have h1 := p_RC_ms h (j := 11 + m) (d := d) (x := x) (by omega) (by omega) hn
      have h2 := p_RC_ms h1 (j := 24 + m) (d := d) (x := v) (by omega) (by omega) hn
      rw [show 11 + m + 34 * n = 10 + 34 * n + 1 + m by omega, show 24 + m + 34 * n = 23 + 34 * n + 1 + m by omega] at h2
      exact p_CV_t (p_FR_t (p_FR_ms (by omega)) (p_FR_ms (by omega))) (p_CV_b (c_choose h2 hn hd) (fun M' h' => p_CV_s h'))
    by_cases c1 : A.1 6 n d = nI m
    · rw [if_pos c1]
      by_cases c2 : v = 65535
      · rw [if_pos c2, if_neg (show ¬ (A.1 6 n d = nI m ∧ v ≠ 65535 ∧ p_gd A.1 n d x v = false) from fun q => q.2.1 c2)]
        exact st
      · rw [if_neg c2, c_isGood h hn hd, bniE]
        by_cases c3 : p_gd A.1 n d x v = false
        · rw [if_pos (p_bf c3), if_neg one0, if_pos (show A.1 6 n d = nI m ∧ v ≠ 65535 ∧ p_gd A.1 n d x v = false from ⟨c1, c2, c3⟩)]
          exact p_CV_b (c_choose h hn hd) (fun M' h' => p_CV_s h')
        · rw [if_neg (p_bt c3), if_neg (show ¬ (A.1 6 n d = nI m ∧ v ≠ 65535 ∧ p_gd A.1 n d x v = false) from fun q => c3 q.2.2)]
          exact st
    · rw [if_neg c1, if_neg (show ¬ (A.1 6 n d = nI m ∧ v ≠ 65535 ∧ p_gd A.1 n d x v = false) from fun q => c1 q.1)]
      exact st
def p_pq (T : pT) (n d : Nat) (x : Int32) : Prop := (T 9 n d ≠ -1 ∧ (T 9 n d = x ∨ p_nw (T 9 n d) x = true)) ↔ ¬ (T 9 n d = -1 ∨ p_nw x (T 9 n d) = true)
theorem c_hreq {A : pA} {M : xwM} (h : p_RC A M) {n m d : Nat} (hn : n < 12) (hd : d < 12) (x s : Int32) (hs : A.1 2 n 9 = nI n) (hq : p_pq A.1 n d x) : p_CV M (p_hreq n m d x s A) (fX2_hearRequest (nI n) (nI m) (nI d) x s M) := by
  unfold fX2_hearRequest fX2_hearRequest_34 fX2_hearRequest_77 fX2_hearRequest_116 p_hreq
  rw [p_ixr hn (by decide)]
  by_cases c : d = n
  · rw [if_pos (show nI d = nI n by rw [c]), if_pos c, p_ld hn (by decide), c_T h (by decide) (by decide) hn, c_newer, bniE]
    by_cases c1 : p_nw x (A.1 7 n n) = false
    · rw [if_pos (p_bf c1), if_neg (show ¬ p_nw x (A.1 7 n n) = true by rw [c1]; decide)]
      exact p_CV_b (c_tellAll h hn hn) (fun M' h' => p_CV_s h')
    · rw [if_neg (p_bt c1), if_pos (Bool.of_not_eq_false c1)]
      obtain ⟨M1, e1, r1, f1⟩ := c_raise h hn hs
      rw [e1, bniE]
      exact p_CV_t f1 (p_CV_b (c_tellAll r1 hn hn) (fun M' h' => p_CV_s h'))
  · rw [if_neg (show ¬ nI d = nI n from fun e => c ((nI_eq (by omega) (by omega)).mp e)), if_neg c]
    have on : ∀ (B : pA), ¬ (A.1 6 n d ≠ -1 ∧ p_nw x (A.1 7 n d) = false) → p_CV M (if A.1 6 n d ≠ -1 ∧ p_nw x (A.1 7 n d) = false then B else if ¬ s ≤ 1 ∧ (A.1 9 n d = -1 ∨ p_nw x (A.1 9 n d) = true) then p_req n (nI m) d x (s - 1) (p_st A.1 9 n d x, A.2) else A) (if s ≤ 1 then some M else bni (fX1_hasPassedOn n (nI d) x M) fun v29 M30 => if v29 = 0 then sto M30 (9 + 34 * n) 12 (nI d) x fun M33 => bnv (fX2_requestAll (nI n) (nI m) (nI d) x (s - 1) M33) fun M35 => some M35 else some M30) := by
      intro B hB
      rw [if_neg hB]
      by_cases c2 : s ≤ 1
      · rw [if_pos c2, if_neg (show ¬ (¬ s ≤ 1 ∧ (A.1 9 n d = -1 ∨ p_nw x (A.1 9 n d) = true)) from fun q => q.1 c2)]
        exact p_CV_s h
      · rw [if_neg c2, c_passed h hn hd, bniE]
        by_cases c3 : A.1 9 n d = -1 ∨ p_nw x (A.1 9 n d) = true
        · have c4 : (!(decide (A.1 9 n d = -1)) && (decide (A.1 9 n d = x) || p_nw (A.1 9 n d) x)) = false := by
            cases e : (!(decide (A.1 9 n d = -1)) && (decide (A.1 9 n d = x) || p_nw (A.1 9 n d) x)) with
            | false => rfl
            | true =>
              exact absurd c3 (hq.mp (by simpa using e))
          rw [if_pos (p_bf c4), if_pos (show ¬ s ≤ 1 ∧ (A.1 9 n d = -1 ∨ p_nw x (A.1 9 n d) = true) from ⟨c2, c3⟩), p_sto hd (by decide)]
          have h1 := p_RC_ms h (j := 9) (d := d) (x := x) (by omega) (by omega) hn
          exact p_CV_t (p_FR_ms (by omega)) (p_CV_b (c_req h1 hn _ _ _) (fun M' h' => p_CV_s h'))
        · have c4 : ¬ (!(decide (A.1 9 n d = -1)) && (decide (A.1 9 n d = x) || p_nw (A.1 9 n d) x)) = false := by
            have := hq.mpr c3
            intro q
            rw [Bool.and_eq_false_iff, Bool.or_eq_false_iff, Bool.not_eq_false', decide_eq_true_eq, decide_eq_false_iff_not] at q
            rcases q with q | ⟨q1, q2⟩
            · exact this.1 q
            · rcases this.2 with r | r
              · exact q1 r
              · rw [q2] at r; cases r
          rw [if_neg (p_bt c4), if_neg (show ¬ (¬ s ≤ 1 ∧ (A.1 9 n d = -1 ∨ p_nw x (A.1 9 n d) = true)) from fun q => c3 q.2)]
          exact p_CV_s h
    by_cases c1 : A.1 6 n d = -1
    · rw [c_way0 h hn hd c1, bniE, if_pos rfl]
      exact on _ (fun q => q.1 c1)
    · rw [c_way1 h hn hd c1, bniE, if_neg one0, p_ld hd (by decide), c_T h (by decide) (by decide) hn, c_newer, bniE]
      by_cases c2 : p_nw x (A.1 7 n d) = false
      · rw [if_pos (p_bf c2), if_pos (show A.1 6 n d ≠ -1 ∧ p_nw x (A.1 7 n d) = false from ⟨c1, c2⟩)]
        exact p_CV_b (c_tell h hn hd) (fun M' h' => p_CV_s h')
      · rw [if_neg (p_bt c2)]
        exact on _ (fun q => c2 q.2)
/-- a letter names nodes -/
def p_lok (l : pL) : Prop := (l 0 = 1 ∨ l 0 = 2) ∧ (∃ m, m < 12 ∧ l 1 = nI m) ∧ (∃ n, n < 12 ∧ l 2 = nI n) ∧ (∃ d, d < 12 ∧ l 3 = nI d)
theorem p_nI {n : Nat} (h : n < 12) : p_nat (nI n) = n := nI_clamp (by omega)
theorem c_hand {A : pA} {M : xwM} (h : p_RC A M) {i : Nat} {l : pL} (hl : A.2[i]? = some l) (ok : p_lok l) (hs : ∀ n, n < 12 → A.1 2 n 9 = nI n) (hq : l 0 = 2 → p_pq A.1 (p_nat (l 2)) (p_nat (l 3)) (l 4)) : p_CV M (p_hand i A) (fX2_handOver (nI i) M) := by
  have hi : i < A.2.length := (List.getElem?_eq_some_iff.mp hl).1
  obtain ⟨k0, ⟨m, hm, e1⟩, ⟨n, hn, e2⟩, ⟨d, hd, e3⟩⟩ := ok
  unfold fX2_handOver fX2_handOver_137 p_hand
  rw [hl]
  dsimp only
  unfold p_do
  have r0 : fX0_read (nI i) 0 M = some (l 0, M) := c_readL h (f := 0) hl (by decide)
  have r1 : fX0_read (nI i) 1 M = some (l 1, M) := c_readL h (f := 1) hl (by decide)
  have r2 : fX0_read (nI i) 2 M = some (l 2, M) := c_readL h (f := 2) hl (by decide)
  have r3 : fX0_read (nI i) 3 M = some (l 3, M) := c_readL h (f := 3) hl (by decide)
  have r4 : fX0_read (nI i) 4 M = some (l 4, M) := c_readL h (f := 4) hl (by decide)
  have r5 : fX0_read (nI i) 5 M = some (l 5, M) := c_readL h (f := 5) hl (by decide)
  rw [r0, bniE, r1, bniE, r2, bniE, r3, bniE, r4, bniE, r5, bniE]
  refine p_CV_b (c_away h hi) (fun M1 h1 => ?_)
  rw [e2, e3, p_nI hn, p_nI hd] at hq
  rw [e1, e2, e3, p_nI hm, p_nI hn, p_nI hd]
  rw [p_ixr hn (by decide), p_ld hm (by decide), c_T h1 (by decide) (by decide) hn]
  by_cases c : A.1 3 n m = 0
  · rw [if_pos c, if_pos c]
    unfold xlet
    dsimp only
    have e5 : M1 410 5 = A.1 1 0 5 := h1.2.1 5 (by decide) (by decide)
    rw [e5]
    exact ⟨_, rfl, p_RC_ct h1 (by decide) (by decide), p_FR_ms (by decide)⟩
  · rw [if_neg c, if_neg c]
    by_cases c2 : l 0 = 1
    · rw [if_pos c2, if_pos c2]
      exact p_CV_b (c_hear h1 hn hm hd _ _) (fun M' h' => p_CV_s h')
    · rw [if_neg c2, if_neg c2]
      exact p_CV_b (c_hreq h1 hn hd _ _ (hs n hn) (hq (k0.resolve_left c2))) (fun M' h' => p_CV_s h')
def p_ends (T : pT) : Nat := p_up (fun n k => k + p_deg T n) 12 0 0
theorem p_up_le2 (f : Nat → Nat → Nat) (B : Nat) (hf : ∀ j a, f j a ≤ a + B) : ∀ k j a, p_up f k j a ≤ a + k * B := by
  intro k
  induction k with
  | zero => intro j a; show a ≤ _; omega
  | succ k ih =>
    intro j a
    have := ih (j + 1) (f j a)
    have := hf j a
    show p_up f k (j + 1) (f j a) ≤ _
    rw [Nat.succ_mul]
    omega
theorem p_ends_le (T : pT) : p_ends T ≤ 144 := by
  have := p_up_le2 (fun n k => k + p_deg T n) 12 (fun j a => by have := p_deg_le T j; omega) 12 0 0
  unfold p_ends
  omega
theorem c_ends {A : pA} {M : xwM} (h : p_RC A M) : fX2_countAllLinks M = some (nI (p_ends A.1) / 2, M) := by
  have K := p_loop2 (α := Nat) (σ := Int32) (R := Int32 × xwM) (fun fu j s => fX2_countAllLinks_4 fu s (nI j) M) (fun s => some (s / 2, M)) (fun j a s => s = nI a) (fun n k => k + p_deg A.1 n) 12
    (fun fu a s hs => by
      show fX2_countAllLinks_4 (fu + 1) s (nI 12) M = _
      rw [fX2_countAllLinks_4, if_pos nI12])
    (fun fu j a s hj hM => by
      show ∃ s', fX2_countAllLinks_4 (fu + 1) s (nI j) M = fX2_countAllLinks_4 fu s' (nI (j + 1)) M ∧ _
      rw [fX2_countAllLinks_4, if_neg (nI12n hj), p_ixr hj (by decide), c_count h hj, bniE, nI_1]
      exact ⟨_, rfl, by rw [hM, nI_add]⟩)
    12 0 2001 0 0 (by omega) (by omega) rfl
  obtain ⟨s, e1, e2⟩ := K
  unfold fX2_countAllLinks p_ends
  rw [← e2]
  exact e1
