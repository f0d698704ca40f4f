/-! the reference's face: what only reads -/
theorem r_way1 {o : Nat → Nat} {A : pA} {M : xwM} (h : p_RM A M) (hI : p_IT o A.1) {n d w : Nat} (hn : n < 12) (hd : d < 12) (hw : w < 5) : p_RO M 0 (if w = 0 then A.1 6 n d else if w = 1 then A.1 7 n d else if w = 2 then A.1 8 n d else if w = 3 then A.1 4 n d else A.1 5 n d) A (fX3_way (nI n) (nI d) (nI w) M) := by
  have h0 := p_RM_0 h 0
  unfold fX3_way fX3_way_29 fX3_way_82 fX3_way_149
  rw [r_node1 hn, bniE, if_neg one0, r_node1 hd, bniE, if_neg one0, if_neg (nI_pos (by omega)), if_pos (show nI w ≤ 4 from nI_le (b := 4) (by omega) (by decide)), r_ref0, bniE, if_pos rfl]
  refine p_RO_ok ?_
  generalize ms M 418 0 0 = M0 at h0 ⊢
  by_cases c : n = d
  · subst c
    obtain ⟨q1, q2, q3, q4⟩ := hI.2.2.2.1 n hn
    have q5 : A.1 5 n n = -1 := (p_45 hI hn hn).mpr q4
    rw [if_pos rfl, p_ld hn (by decide), r_o h0 hn, q1, q3, q4, q5]
    match w, hw with
    | 0, _ => exact p_MX_s h0
    | 1, _ => exact p_MX_s h0
    | 2, _ => exact p_MX_s h0
    | 3, _ => exact p_MX_s h0
    | 4, _ => exact p_MX_s h0
  · rw [if_neg (show ¬ nI n = nI d from fun e => c ((nI_eq (by omega) (by omega)).mp e)), p_ix2, p_ld (by omega) (by decide), p_ld (by omega) (by decide), p_ld (by omega) (by decide), p_ld (by omega) (by decide), p_ld (by omega) (by decide), r_6 h0 hn hd c, r_7 h0 hn hd c, r_8 h0 hn hd c, r_4 h0 hn hd, r_5 h0 hn hd]
    match w, hw with
    | 0, _ => exact p_MX_s h0
    | 1, _ => exact p_MX_s h0
    | 2, _ => exact p_MX_s h0
    | 3, _ => exact p_MX_s h0
    | 4, _ => exact p_MX_s h0
theorem r_way0 {A : pA} {M : xwM} (h : p_RM A M) {x y w : Int32} (hx : ¬ (p_isN x ∧ p_isN y ∧ ¬ w < 0 ∧ w ≤ 4)) : p_RO M 1 0 A (fX3_way x y w M) := by
  unfold fX3_way fX3_way_24 fX3_way_29
  have z := p_RO_no h 1
  by_cases c1 : p_isN x
  · obtain ⟨n, hn, e1⟩ := c1
    rw [e1, r_node1 hn, bniE, if_neg one0]
    by_cases c2 : p_isN y
    · obtain ⟨m, hm, e2⟩ := c2
      rw [e2, r_node1 hm, bniE, if_neg one0]
      by_cases c3 : w < 0
      · rw [if_pos c3, r_ref1, bniE, if_neg one0]
        exact z
      · rw [if_neg c3, if_neg (fun c4 => hx ⟨⟨n, hn, e1⟩, ⟨m, hm, e2⟩, c3, c4⟩), r_ref1, bniE, if_neg one0]
        exact z
    · rw [r_node0 c2, bniE, if_pos rfl, r_ref1, bniE, if_neg one0]
      exact z
  · rw [r_node0 c1, bniE, if_pos rfl, r_ref1, bniE, if_neg one0]
    exact z
theorem r_told1 {o : Nat → Nat} {A : pA} {M : xwM} (h : p_RM A M) (hI : p_IT o A.1) {n m d w : Nat} (hn : n < 12) (hm : m < 12) (hd : d < 12) (hnm : n ≠ m) (hnd : n ≠ d) (hw : w < 3) : p_RO M 0 (if w = 0 then A.1 (11 + m) n d else if w = 1 then A.1 (24 + m) n d else if A.1 (11 + m) n d = -1 then 0 else p_b (p_gd A.1 n d (A.1 (11 + m) n d) (A.1 (24 + m) n d))) A (fX3_told (nI n) (nI m) (nI d) (nI w) M) := by
  have h0 := p_RM_0 h 0
  have h9 := hI.2.2.2.2.2.2.2.2 d hd
  unfold fX3_told fX3_told_47 fX3_told_60 fX3_told_141
  rw [r_node1 hn, bniE, if_neg one0, r_node1 hm, bniE, if_neg one0, r_node1 hd, bniE, if_neg one0, if_neg (show ¬ nI n = nI m from fun e => hnm ((nI_eq (by omega) (by omega)).mp e)), if_neg (show ¬ nI n = nI d from fun e => hnd ((nI_eq (by omega) (by omega)).mp e)), if_neg (nI_pos (by omega)), if_neg (show ¬ 2 < nI w from nI_nlt (a := 2) (by omega) (by decide)), if_neg one0, r_ref0, bniE, if_pos rfl]
  refine p_RO_ok ?_
  generalize ms M 418 0 0 = M0 at h0 ⊢
  rw [p_ix3, p_ld (by omega) (by decide), p_ld (by omega) (by decide), p_ld (by omega) (by decide), p_ld (by omega) (by decide), r_tn h0 hn hm hd, r_tm h0 hn hm hd]
  match w, hw with
  | 0, _ => exact p_MX_s h0
  | 1, _ => exact p_MX_s h0
  | 2, _ =>
    rw [if_neg (show ¬ nI 2 = 0 by decide), if_neg (show ¬ nI 2 = 1 by decide), if_neg (show ¬ 2 = 0 by decide), if_neg (show ¬ 2 = 1 by decide)]
    rcases hI.2.2.2.2.2.2.2.1 n m d hn hm hd with ⟨e1, e2⟩ | ⟨a, ww, ha, hww, e1, e2, e3⟩
    · rw [if_pos e1, e1, e2]
      have e : fX3_isGood (nI n) (nI d) (-1) (-1) M0 = some (0, M0) := by
        unfold fX3_isGood fX3_isGood_72 fX3_isGood_73
        rw [if_pos (show (-1 : Int32) < 0 by decide), if_pos (Or.inl rfl)]
      rw [e, bniE, if_pos rfl]
      exact p_MX_s h0
    · rw [if_neg (show ¬ A.1 (11 + m) n d = -1 by rw [e1]; exact nI_m1ne (by omega)), r_isGood h0 hI hn hd (by rw [e2]; exact nI_pos (by omega)), bniE]
      by_cases c2 : p_gd A.1 n d (A.1 (11 + m) n d) (A.1 (24 + m) n d) = false
      · rw [if_pos (p_bf c2), c2]
        exact p_MX_s h0
      · rw [if_neg (p_bt c2), Bool.of_not_eq_false c2]
        exact p_MX_s h0
theorem r_told0 {A : pA} {M : xwM} (h : p_RM A M) {x y d w : Int32} (hx : ¬ (p_pr x y ∧ p_pr x d ∧ ¬ w < 0 ∧ w ≤ 2)) : p_RO M 1 0 A (fX3_told x y d w M) := by
  unfold fX3_told fX3_told_46 fX3_told_47 fX3_told_60
  have z := p_RO_no h 1
  by_cases c1 : p_isN x
  · obtain ⟨n, hn, e1⟩ := c1
    rw [e1, r_node1 hn, bniE, if_neg one0]
    by_cases c2 : p_isN y
    · obtain ⟨m, hm, e2⟩ := c2
      rw [e2, r_node1 hm, bniE, if_neg one0]
      by_cases c3 : p_isN d
      · obtain ⟨k, hk, e3⟩ := c3
        rw [e3, r_node1 hk, bniE, if_neg one0]
        by_cases c4 : nI n = nI m
        · rw [if_pos c4, if_pos rfl, r_ref1, bniE, if_neg one0]
          exact z
        · rw [if_neg c4]
          by_cases c5 : nI n = nI k
          · rw [if_pos c5, if_pos rfl, r_ref1, bniE, if_neg one0]
            exact z
          · rw [if_neg c5]
            by_cases c6 : w < 0
            · rw [if_pos c6, if_pos rfl, r_ref1, bniE, if_neg one0]
              exact z
            · rw [if_neg c6]
              by_cases c7 : 2 < w
              · rw [if_pos c7, if_pos rfl, r_ref1, bniE, if_neg one0]
                exact z
              · exact absurd ⟨⟨⟨n, hn, e1⟩, ⟨m, hm, e2⟩, by rw [e1, e2]; exact c4⟩, ⟨⟨n, hn, e1⟩, ⟨k, hk, e3⟩, by rw [e1, e3]; exact c5⟩, c6, Int32.not_lt.mp c7⟩ hx
      · rw [r_node0 c3, bniE, if_pos rfl, if_pos rfl, r_ref1, bniE, if_neg one0]
        exact z
    · rw [r_node0 c2, bniE, if_pos rfl, if_pos rfl, r_ref1, bniE, if_neg one0]
      exact z
  · rw [r_node0 c1, bniE, if_pos rfl, if_pos rfl, r_ref1, bniE, if_neg one0]
    exact z
theorem r_cost1 {A : pA} {M : xwM} (h : p_RM A M) {a b : Nat} (ha : a < 12) (hb : b < 12) (hab : a ≠ b) : p_RO M 0 (A.1 3 a b) A (fX3_cost (nI a) (nI b) M) := by
  have h0 := p_RM_0 h 0
  unfold fX3_cost fX3_cost_25 fX3_cost_46
  rw [r_node1 ha, bniE, if_neg one0, r_node1 hb, bniE, if_neg one0, if_neg (show ¬ nI a = nI b from fun e => hab ((nI_eq (by omega) (by omega)).mp e)), r_ref0, bniE, if_pos rfl, p_ix2, p_ld (by omega) (by decide), r_3 h0 ha hb]
  exact p_RO_ok (p_MX_s h0)
theorem r_cost0 {A : pA} {M : xwM} (h : p_RM A M) {x y : Int32} (hx : ¬ p_pr x y) : p_RO M 1 0 A (fX3_cost x y M) := by
  unfold fX3_cost fX3_cost_20 fX3_cost_25 fX3_cost_46
  have z := p_RO_no h 1
  by_cases c1 : p_isN x
  · obtain ⟨n, hn, e1⟩ := c1
    rw [e1, r_node1 hn, bniE, if_neg one0]
    by_cases c2 : p_isN y
    · obtain ⟨m, hm, e2⟩ := c2
      rw [e2, r_node1 hm, bniE, if_neg one0]
      by_cases c3 : nI n = nI m
      · rw [if_pos c3, r_ref1, bniE, if_neg one0]
        exact z
      · exact absurd ⟨⟨n, hn, e1⟩, ⟨m, hm, e2⟩, by rw [e1, e2]; exact c3⟩ hx
    · rw [r_node0 c2, bniE, if_pos rfl, r_ref1, bniE, if_neg one0]
      exact z
  · rw [r_node0 c1, bniE, if_pos rfl, r_ref1, bniE, if_neg one0]
    exact z
theorem p_half {k : Nat} (h : k ≤ 144) : nI (2 * k) / 2 = nI k := by
  have : ∀ k, k < 145 → nI (2 * k) / 2 = nI k := by decide +kernel
  exact this k (by omega)
theorem r_total1 {A : pA} {M : xwM} (h : p_RM A M) {w : Nat} (hw : w < 5) : p_RO M 0 (if w = 0 then nI A.2.length else if w = 1 then A.1 1 0 3 else if w = 2 then A.1 1 0 4 else if w = 3 then A.1 1 0 5 else nI (p_ends A.1) / 2) A (fX3_total (nI w) M) := by
  have h0 := p_RM_0 h 0
  unfold fX3_total fX3_total_15 fX3_total_74
  rw [if_neg (nI_pos (by omega)), if_pos (show nI w ≤ 4 from nI_le (b := 4) (by omega) (by decide)), r_ref0, bniE, if_pos rfl]
  refine p_RO_ok ?_
  generalize ms M 418 0 0 = M0 at h0 ⊢
  obtain ⟨k, k1, k2⟩ := h0.2.2.2.2.2.2.2.2.2.2.2.1
  have := p_ends_le A.1
  rw [(r_len h0).1, (r_ct h0).1, (r_ct h0).2.1, (r_ct h0).2.2, k1, ← k2, p_half (by omega)]
  match w, hw with
  | 0, _ => exact p_MX_s h0
  | 1, _ => exact p_MX_s h0
  | 2, _ => exact p_MX_s h0
  | 3, _ => exact p_MX_s h0
  | 4, _ => exact p_MX_s h0
theorem r_total0 {A : pA} {M : xwM} (h : p_RM A M) {x : Int32} (hx : ¬ (¬ x < 0 ∧ x ≤ 4)) : p_RO M 1 0 A (fX3_total x M) := by
  unfold fX3_total fX3_total_10 fX3_total_15
  by_cases c : x < 0
  · rw [if_pos c, r_ref1, bniE, if_neg one0]
    exact p_RO_no h 1
  · rw [if_neg c, if_neg (fun c2 => hx ⟨c, c2⟩), r_ref1, bniE, if_neg one0]
    exact p_RO_no h 1
/-! the trace: the class looks at twelve nodes, the reference at twenty-one -/
theorem p_pig : ∀ (n : Nat) (f : Nat → Nat), (∀ i, i ≤ n → f i < n) → ∃ i j, i < j ∧ j ≤ n ∧ f i = f j := by
  intro n
  induction n with
  | zero => intro f h; exact absurd (h 0 (Nat.le_refl 0)) (by omega)
  | succ n ih =>
    intro f h
    by_cases c : ∃ i, i ≤ n ∧ f i = f (n + 1)
    · obtain ⟨i, h1, h2⟩ := c
      exact ⟨i, n + 1, by omega, Nat.le_refl _, h2⟩
    · have ne : ∀ i, i ≤ n → f i ≠ f (n + 1) := fun i hi e => c ⟨i, hi, e⟩
      have hl := h (n + 1) (Nat.le_refl _)
      obtain ⟨i, j, h1, h2, h3⟩ := ih (fun i => if f i < f (n + 1) then f i else f i - 1) (fun i hi => by
        have := h i (by omega)
        have := ne i hi
        split <;> omega)
      refine ⟨i, j, h1, by omega, ?_⟩
      have := ne i (by omega)
      have := ne j (by omega)
      split at h3 <;> split at h3 <;> omega
def p_at (T : pT) (d : Nat) : Nat → Nat → Nat
  | 0, a => a
  | k + 1, a => p_nat (T 6 (p_at T d k a) d)
theorem p_at_s (T : pT) (d : Nat) : ∀ k a, p_at T d k (p_nat (T 6 a d)) = p_at T d (k + 1) a := by
  intro k
  induction k with
  | zero => intro a; rfl
  | succ k ih =>
    intro a
    show p_nat (T 6 (p_at T d k (p_nat (T 6 a d))) d) = p_nat (T 6 (p_at T d (k + 1) a) d)
    rw [ih a]
theorem p_tr_no {T : pT} {d : Nat} : ∀ k s a, (∀ i, i < k → p_at T d i a ≠ d) → p_tr T d k s a = -1 := by
  intro k
  induction k with
  | zero => intro s a h; rfl
  | succ k ih =>
    intro s a h
    unfold p_tr
    rw [if_neg (show ¬ a = d from h 0 (by omega))]
    split
    · rfl
    · refine ih (s + 1) _ (fun i hi => ?_)
      rw [p_at_s]
      exact h (i + 1) (by omega)
theorem p_tr_yes {T : pT} {d : Nat} : ∀ k e s a i, i < k → p_at T d i a = d → p_tr T d k s a = p_tr T d (k + e) s a := by
  intro k
  induction k with
  | zero => intro e s a i hi; omega
  | succ k ih =>
    intro e s a i hi h
    rw [show k + 1 + e = (k + e) + 1 by omega]
    unfold p_tr
    by_cases c : a = d
    · rw [if_pos c, if_pos c]
    · rw [if_neg c, if_neg c]
      by_cases c2 : T 6 a d = -1
      · rw [if_pos c2, if_pos c2]
      · rw [if_neg c2, if_neg c2]
        match i, hi, h with
        | 0, _, h => exact absurd h c
        | i + 1, hi, h => exact ih e (s + 1) _ i (by omega) (by rw [p_at_s]; exact h)
/-- a way that meets a node without a next one ends there -/
theorem p_tr_dead {T : pT} {d : Nat} : ∀ k e s a i, i < k → p_at T d i a ≠ d → (∀ j, j < i → p_at T d j a ≠ d) → T 6 (p_at T d i a) d = -1 → p_tr T d k s a = p_tr T d (k + e) s a := by
  intro k
  induction k with
  | zero => intro e s a i hi; omega
  | succ k ih =>
    intro e s a i hi h1 h2 h3
    rw [show k + 1 + e = (k + e) + 1 by omega]
    unfold p_tr
    by_cases c : a = d
    · rw [if_pos c, if_pos c]
    · rw [if_neg c, if_neg c]
      by_cases c2 : T 6 a d = -1
      · rw [if_pos c2, if_pos c2]
      · rw [if_neg c2, if_neg c2]
        match i, hi, h1, h2, h3 with
        | 0, _, _, _, h3 => exact absurd h3 c2
        | i + 1, hi, h1, h2, h3 => exact ih e (s + 1) _ i (by omega) (by rw [p_at_s]; exact h1) (fun j hj => by rw [p_at_s]; exact h2 (j + 1) (by omega)) (by rw [p_at_s]; exact h3)
theorem p_tr_21 {T : pT} {d : Nat} (hd : d < 12) (hc : ∀ n, n < 12 → T 6 n d = -1 ∨ p_isN (T 6 n d)) {a : Nat} (ha : a < 12) : p_tr T d 12 0 a = p_tr T d 21 0 a := by
  by_cases c : ∃ i, i < 12 ∧ p_at T d i a = d
  · obtain ⟨i, hi, e⟩ := c
    exact p_tr_yes 12 9 0 a i hi e
  · have ne : ∀ i, i < 12 → p_at T d i a ≠ d := fun i hi e => c ⟨i, hi, e⟩
    by_cases c2 : ∃ i, i < 12 ∧ T 6 (p_at T d i a) d = -1
    · obtain ⟨i, hi, e⟩ := c2
      exact p_tr_dead 12 9 0 a i hi (ne i hi) (fun j hj => ne j (by omega)) e
    · have nd : ∀ i, i < 12 → T 6 (p_at T d i a) d ≠ -1 := fun i hi e => c2 ⟨i, hi, e⟩
      have lt : ∀ i, i ≤ 11 → p_at T d i a < 12 := by
        intro i
        induction i with
        | zero => intro _; exact ha
        | succ i ih =>
          intro hi
          obtain ⟨m, hm, e⟩ := (hc _ (ih (by omega))).resolve_left (nd i (by omega))
          show p_nat (T 6 (p_at T d i a) d) < 12
          rw [e, p_nI hm]
          exact hm
      obtain ⟨i, j, h1, h2, h3⟩ := p_pig 11 (fun i => if p_at T d i a < d then p_at T d i a else p_at T d i a - 1) (fun i hi => by
        have := lt i hi
        have := ne i (by omega)
        split <;> omega)
      have e : p_at T d i a = p_at T d j a := by
        have := ne i (by omega)
        have := ne j (by omega)
        split at h3 <;> split at h3 <;> omega
      have per : ∀ k, p_at T d (i + k) a = p_at T d (j + k) a := by
        intro k
        induction k with
        | zero => exact e
        | succ k ih =>
          show p_nat (T 6 (p_at T d (i + k) a) d) = p_nat (T 6 (p_at T d (j + k) a) d)
          rw [ih]
      have never : ∀ k, p_at T d k a ≠ d := by
        intro k
        induction k using Nat.strongRecOn with
        | _ k ih =>
          by_cases ck : k < 12
          · exact ne k ck
          · have := per (k - j)
            rw [show j + (k - j) = k by omega] at this
            rw [← this]
            exact ih _ (by omega)
      rw [p_tr_no 12 0 a (fun i _ => never i), p_tr_no 21 0 a (fun i _ => never i)]
theorem r_tr33 {A : pA} {M : xwM} (h : p_RM A M) {d : Nat} (hd : d < 12) (hc : ∀ n, n < 12 → n ≠ d → A.1 6 n d = -1 ∨ p_isN (A.1 6 n d)) : ∀ k s fu a, s + k = 20 → k < fu → a < 12 → fX3_trace_33 (fu + 1) (nI d) (nI a) (nI s) M = some (p_tr A.1 d (k + 1) s a, M) := by
  intro k
  induction k with
  | zero =>
    intro s fu a hs hf ha
    have e : s = 20 := by omega
    subst e
    rw [fX3_trace_33]
    unfold fX3_trace_68 fX3_trace_79 p_tr
    by_cases c : a = d
    · rw [if_pos (show nI a = nI d by rw [c]), if_pos (show nI a = nI d by rw [c]), if_pos c]
    · have c' : ¬ nI a = nI d := fun e => c ((nI_eq (by omega) (by omega)).mp e)
      rw [if_neg c', if_neg (nI_m1ne (by omega)), if_pos (show (20 : Int32) ≤ nI 20 from nI_le (a := 20) (Nat.le_refl _) (by decide)), if_neg c', if_neg c]
      unfold p_tr
      split <;> rfl
  | succ k ih =>
    intro s fu a hs hf ha
    rw [fX3_trace_33]
    unfold fX3_trace_68 fX3_trace_79 p_tr
    by_cases c : a = d
    · rw [if_pos (show nI a = nI d by rw [c]), if_pos (show nI a = nI d by rw [c]), if_pos c]
    · have c' : ¬ nI a = nI d := fun e => c ((nI_eq (by omega) (by omega)).mp e)
      rw [if_neg c', if_neg (nI_m1ne (by omega)), if_neg (show ¬ (20 : Int32) ≤ nI s from nI_ge (b := 20) (by omega) (by decide)), if_neg c, p_ix2, p_ld (by omega) (by decide), r_6 h ha hd c, nI_1]
      obtain ⟨fu', rfl⟩ : ∃ fu', fu = fu' + 1 := ⟨fu - 1, by omega⟩
      by_cases c2 : A.1 6 a d = -1
      · rw [if_pos c2, c2, fX3_trace_33]
        unfold fX3_trace_68 fX3_trace_79
        have c3 : ¬ (-1 : Int32) = nI d := fun e => nI_m1ne (n := d) (by omega) e.symm
        rw [if_neg c3, if_pos rfl, if_neg c3]
      · rw [if_neg c2]
        obtain ⟨b, hb, e⟩ := (hc a ha c).resolve_left c2
        rw [e, p_nI hb]
        exact ih (s + 1) fu' b (by omega) (by omega) hb
theorem r_trace1 {A : pA} {M : xwM} (h : p_RM A M) {n d : Nat} (hn : n < 12) (hd : d < 12) (hc : ∀ n, n < 12 → A.1 6 n d = -1 ∨ p_isN (A.1 6 n d)) : p_RO M 0 (p_tr A.1 d 12 0 n) A (fX3_trace (nI n) (nI d) M) := by
  have h0 := p_RM_0 h 0
  unfold fX3_trace fX3_trace_20
  rw [r_node1 hn, bniE, if_neg one0, r_node1 hd, bniE, if_neg one0, r_ref0, bniE, if_pos rfl]
  refine p_RO_ok ?_
  have K := r_tr33 h0 hd (fun n hn _ => hc n hn) 20 0 2000 n rfl (by decide) hn
  rw [nI_0] at K
  rw [K, p_tr_21 hd hc hn]
  exact p_MX_s h0
theorem r_trace0 {A : pA} {M : xwM} (h : p_RM A M) {x y : Int32} (hx : ¬ (p_isN x ∧ p_isN y)) : p_RO M 1 0 A (fX3_trace x y M) := by
  unfold fX3_trace fX3_trace_15 fX3_trace_20
  have z := p_RO_no h 1
  by_cases c1 : p_isN x
  · obtain ⟨n, hn, e1⟩ := c1
    rw [e1, r_node1 hn, bniE, if_neg one0]
    by_cases c2 : p_isN y
    · exact absurd ⟨⟨n, hn, e1⟩, c2⟩ hx
    · rw [r_node0 c2, bniE, if_pos rfl, r_ref1, bniE, if_neg one0]
      exact z
  · rw [r_node0 c1, bniE, if_pos rfl, r_ref1, bniE, if_neg one0]
    exact z
