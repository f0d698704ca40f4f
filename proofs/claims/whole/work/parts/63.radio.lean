/-! the class: what a radio answers of its tables -/
theorem c_T {A : pA} {M : xwM} (h : p_RC A M) {j n : Nat} (h2 : 2 ≤ j) (h3 : j ≤ 35) (hn : n < 12) (d : Nat) : M (j + 34 * n) d = A.1 j n d := by rw [h.1 j n h2 h3 hn]
theorem c_TN {A : pA} {M : xwM} (h : p_RC A M) {m n : Nat} (hm : m < 12) (hn : n < 12) (d : Nat) : M (10 + 34 * n + 1 + m) d = A.1 (11 + m) n d := by
  rw [show 10 + 34 * n + 1 + m = (11 + m) + 34 * n by omega]
  exact c_T h (by omega) (by omega) hn d
theorem c_TM {A : pA} {M : xwM} (h : p_RC A M) {m n : Nat} (hm : m < 12) (hn : n < 12) (d : Nat) : M (23 + 34 * n + 1 + m) d = A.1 (24 + m) n d := by
  rw [show 23 + 34 * n + 1 + m = (24 + m) + 34 * n by omega]
  exact c_T h (by omega) (by omega) hn d
def p_b (b : Bool) : Int32 := if b = true then 1 else 0
theorem p_bf {b : Bool} (h : b = false) : p_b b = 0 := by rw [h]; rfl
theorem p_bt {b : Bool} (h : ¬ b = false) : ¬ p_b b = 0 := by rw [Bool.of_not_eq_false h]; decide
theorem c_hasWay {A : pA} {M : xwM} (h : p_RC A M) {n d : Nat} (hn : n < 12) (hd : d < 12) : fX1_hasWay n (nI d) M = some (if A.1 6 n d = -1 then 0 else 1, M) := by
  unfold fX1_hasWay fX1_hasWay_15
  rw [p_ld hd (by decide), c_T h (by decide) (by decide) hn]
  by_cases c : A.1 6 n d = -1
  · rw [if_pos c, if_pos c]; rfl
  · rw [if_neg c, if_neg c]; rfl
theorem c_hasBound {A : pA} {M : xwM} (h : p_RC A M) {n d : Nat} (hn : n < 12) (hd : d < 12) : fX1_hasBound n (nI d) M = some (if A.1 4 n d = -1 then 0 else 1, M) := by
  unfold fX1_hasBound fX1_hasBound_15
  rw [p_ld hd (by decide), c_T h (by decide) (by decide) hn]
  by_cases c : A.1 4 n d = -1
  · rw [if_pos c, if_pos c]; rfl
  · rw [if_neg c, if_neg c]; rfl
theorem c_newer (a b : Int32) (M : xwM) : fX2_isNewer a b M = some (p_b (p_nw a b), M) := by
  unfold fX2_isNewer fX2_isNewer_23 fX2_isNewer_24 p_nw
  by_cases c1 : ((a - b) &&& 65535) < 1
  · rw [if_pos c1, decide_eq_true c1]; rfl
  · rw [if_neg c1, decide_eq_false c1]
    by_cases c2 : 32767 < ((a - b) &&& 65535)
    · rw [if_pos c2, decide_eq_true c2]; rfl
    · rw [if_neg c2, decide_eq_false c2]; rfl
theorem c_isGood {A : pA} {M : xwM} (h : p_RC A M) {n d : Nat} (hn : n < 12) (hd : d < 12) (x v : Int32) : fX1_isGood n (nI d) x v M = some (p_b (p_gd A.1 n d x v), M) := by
  unfold fX1_isGood fX1_isGood_51 fX1_isGood_55 fX1_isGood_56 p_gd
  by_cases c1 : v = 65535
  · rw [if_pos c1, decide_eq_true c1]; rfl
  · rw [if_neg c1, decide_eq_false c1, p_ld hd (by decide), c_T h (by decide) (by decide) hn]
    by_cases c2 : A.1 4 n d = -1
    · rw [if_pos c2, decide_eq_true c2]; rfl
    · rw [if_neg c2, decide_eq_false c2, p_ld hd (by decide), c_T h (by decide) (by decide) hn, c_newer]
      simp only [bni]
      rw [p_ld hd (by decide), p_ld hd (by decide), c_T h (by decide) (by decide) hn, c_T h (by decide) (by decide) hn]
      by_cases c3 : p_nw x (A.1 4 n d) = false
      · rw [if_pos (p_bf c3), c3]
        by_cases c4 : x = A.1 4 n d
        · rw [if_pos c4, decide_eq_true c4]
          by_cases c5 : A.1 5 n d ≤ v
          · rw [if_pos c5, decide_eq_true c5]; rfl
          · rw [if_neg c5, decide_eq_false c5]; rfl
        · rw [if_neg c4, decide_eq_false c4]; rfl
      · rw [if_neg (p_bt c3), Bool.of_not_eq_false c3]; rfl
theorem c_passed {A : pA} {M : xwM} (h : p_RC A M) {n d : Nat} (hn : n < 12) (hd : d < 12) (x : Int32) : fX1_hasPassedOn n (nI d) x M = some (p_b (!(decide (A.1 9 n d = -1)) && (decide (A.1 9 n d = x) || p_nw (A.1 9 n d) x)), M) := by
  unfold fX1_hasPassedOn fX1_hasPassedOn_25 fX1_hasPassedOn_29 fX1_hasPassedOn_30
  rw [p_ld hd (by decide), c_T h (by decide) (by decide) hn]
  by_cases c2 : A.1 9 n d = -1
  · rw [if_pos c2, decide_eq_true c2]; rfl
  · rw [if_neg c2, decide_eq_false c2]
    by_cases c3 : A.1 9 n d = x
    · rw [if_pos c3, decide_eq_true c3]; rfl
    · rw [if_neg c3, decide_eq_false c3, c_newer]
      simp only [bni]
      by_cases c4 : p_nw (A.1 9 n d) x = false
      · rw [if_pos (p_bf c4), c4]; rfl
      · rw [if_neg (p_bt c4), Bool.of_not_eq_false c4]; rfl
theorem c_raise {A : pA} {M : xwM} (h : p_RC A M) {n : Nat} (hn : n < 12) (hs : A.1 2 n 9 = nI n) : ∃ M', fX1_raiseOwnNumber n M = some ((A.1 7 n n + 1) &&& 65535, M') ∧ p_RC (p_raise n A.1, A.2) M' ∧ p_FR M M' := by
  unfold fX1_raiseOwnNumber fX2_nextNumber
  rw [c_T h (by decide) (by decide) hn, hs, p_ld hn (by decide), c_T h (by decide) (by decide) hn]
  simp only [bni]
  rw [p_sto hn (by decide)]
  have h' := p_RC_ms h (j := 7) (d := n) (x := (A.1 7 n n + 1) &&& 65535) (by decide) (by decide) hn
  rw [c_T h' (by decide) (by decide) hn]
  have e2 : p_st A.1 7 n n ((A.1 7 n n + 1) &&& 65535) 2 n 9 = A.1 2 n 9 := by rw [p_st_at, if_neg (by omega)]
  rw [show (p_st A.1 7 n n ((A.1 7 n n + 1) &&& 65535), A.2).1 2 n 9 = nI n from e2.trans hs]
  rw [p_ld hn (by decide), p_ms_s]
  exact ⟨_, rfl, h', p_FR_ms (by omega)⟩
def p_deg (T : pT) (n : Nat) : Nat := p_up (fun m k => if T 3 n m = 0 then k else k + 1) 12 0 0
theorem p_up_le (f : Nat → Nat → Nat) (hf : ∀ j a, f j a ≤ a + 1) : ∀ k j a, p_up f k j a ≤ a + k := by
  intro k
  induction k with
  | zero => intro j a; exact Nat.le_refl _
  | succ k ih =>
    intro j a
    have := ih (j + 1) (f j a)
    have := hf j a
    show p_up f k (j + 1) (f j a) ≤ _
    omega
theorem p_deg_le (T : pT) (n : Nat) : p_deg T n ≤ 12 := by
  have := p_up_le (fun m k => if T 3 n m = 0 then k else k + 1) (fun j a => by split <;> omega) 12 0 0
  unfold p_deg
  omega
theorem c_count {A : pA} {M : xwM} (h : p_RC A M) {n : Nat} (hn : n < 12) : fX1_countLinks n M = some (nI (p_deg A.1 n), M) := by
  have K := p_loop2 (α := Nat) (σ := Int32) (R := Int32 × xwM) (fun fu j s => fX1_countLinks_4 fu n s (nI j) M) (fun s => some (s, M)) (fun j a s => s = nI a) (fun m k => if A.1 3 n m = 0 then k else k + 1) 12
    (fun fu a s hs => by
      show fX1_countLinks_4 (fu + 1) n s (nI 12) M = _
      rw [fX1_countLinks_4, if_pos (show (12 : Int32) ≤ nI 12 from nI_le (a := 12) (Nat.le_refl _) (by decide))])
    (fun fu j a s hj hM => by
      show ∃ s', fX1_countLinks_4 (fu + 1) n s (nI j) M = fX1_countLinks_4 fu n s' (nI (j + 1)) M ∧ _
      rw [fX1_countLinks_4, if_neg (show ¬ (12 : Int32) ≤ nI j from nI_ge hj (by decide)), p_ld hj (by decide), c_T h (by decide) (by decide) hn]
      unfold fX1_countLinks_22
      by_cases c : A.1 3 n j = 0
      · rw [if_pos c, nI_1]
        exact ⟨_, rfl, by rw [if_pos c]; exact hM⟩
      · rw [if_neg c, nI_1]
        exact ⟨_, rfl, by rw [if_neg c, hM, nI_1]⟩)
    12 0 2001 0 0 (by omega) (by omega) rfl
  obtain ⟨s, e1, e2⟩ := K
  unfold fX1_countLinks p_deg
  rw [← e2]
  exact e1
theorem c_forgetN {A : pA} {M : xwM} (h : p_RC A M) {n m : Nat} (hn : n < 12) (hm : m < 12) : p_CV M (p_fi (p_fi A.1 (11 + m) n (-1)) (24 + m) n (-1), A.2) (fX1_forgetNeighbour n (nI m) M) := by
  unfold fX1_forgetNeighbour xlet
  rw [p_ixr hm (by decide)]
  dsimp only
  rw [p_ixr hm (by decide)]
  have h1 := p_RC_fil h (j := 11 + m) (x := -1) (by omega) (by omega) hn
  have h2 := p_RC_fil h1 (j := 24 + m) (x := -1) (by omega) (by omega) hn
  rw [show 11 + m + 34 * n = 10 + 34 * n + 1 + m by omega, show 24 + m + 34 * n = 23 + 34 * n + 1 + m by omega] at h2
  exact ⟨_, rfl, h2, p_FR_t (p_FR_fil (by omega)) (p_FR_fil (by omega))⟩
theorem c_forgetB {A : pA} {M : xwM} (h : p_RC A M) {n : Nat} (hn : n < 12) : p_CV M (p_fi (p_fi (p_fi A.1 4 n (-1)) 5 n (-1)) 9 n (-1), A.2) (fX1_forgetBounds n M) := by
  unfold fX1_forgetBounds xlet
  dsimp only
  have h1 := p_RC_fil h (j := 4) (x := -1) (by omega) (by omega) hn
  have h2 := p_RC_fil h1 (j := 5) (x := -1) (by omega) (by omega) hn
  have h3 := p_RC_fil h2 (j := 9) (x := -1) (by omega) (by omega) hn
  exact ⟨_, rfl, h3, p_FR_t (p_FR_fil (by omega)) (p_FR_t (p_FR_fil (by omega)) (p_FR_fil (by omega)))⟩
theorem c_best {A : pA} {M : xwM} (h : p_RC A M) {n d : Nat} (hn : n < 12) (hd : d < 12) : fX1_findBestNeighbour n (nI d) M = some (p_best A.1 n d, M) := by
  have K := p_loop2 (α := Int32 × Int32) (σ := Int32 × Int32) (R := Int32 × xwM) (fun fu j s => fX1_findBestNeighbour_8 fu n (nI d) s.1 s.2 (nI j) M) (fun s => some (s.1, M)) (fun j a s => s = a) (p_bst A.1 n d) 12
    (fun fu a s hs => by
      show fX1_findBestNeighbour_8 (fu + 1) n (nI d) s.1 s.2 (nI 12) M = _
      rw [fX1_findBestNeighbour_8, if_pos (show (12 : Int32) ≤ nI 12 from nI_le (a := 12) (Nat.le_refl _) (by decide))])
    (fun fu j a s hj hM => by
      subst hM
      refine ⟨p_bst A.1 n d j s, ?_, rfl⟩
      show fX1_findBestNeighbour_8 (fu + 1) n (nI d) s.1 s.2 (nI j) M = fX1_findBestNeighbour_8 fu n (nI d) _ _ (nI (j + 1)) M
      rw [fX1_findBestNeighbour_8, if_neg (show ¬ (12 : Int32) ≤ nI j from nI_ge hj (by decide)), p_ixr hj (by decide), p_ld hd (by decide), p_ixr hj (by decide), p_ld hd (by decide), p_ld hj (by decide), c_T h (by decide) (by decide) hn, c_TN h hj hn, c_TM h hj hn]
      unfold fX1_findBestNeighbour_106 fX1_findBestNeighbour_100 fX1_findBestNeighbour_106 p_bst
      rw [nI_1]
      by_cases c1 : A.1 (11 + j) n d = -1
      · rw [if_pos c1, if_pos (Or.inl c1)]
      · rw [if_neg c1]
        by_cases c2 : 60000 < A.1 (24 + j) n d + A.1 3 n j
        · rw [if_pos c2, if_pos (Or.inr (Or.inl c2))]
        · rw [if_neg c2, c_isGood h hn hd]
          simp only [bni]
          rw [p_ld hd (by decide), c_T h (by decide) (by decide) hn]
          by_cases c3 : p_gd A.1 n d (A.1 (11 + j) n d) (A.1 (24 + j) n d) = false
          · rw [if_pos (p_bf c3), if_pos (Or.inr (Or.inr c3))]
          · rw [if_neg (p_bt c3), if_neg (show ¬ (A.1 (11 + j) n d = -1 ∨ 60000 < A.1 (24 + j) n d + A.1 3 n j ∨ p_gd A.1 n d (A.1 (11 + j) n d) (A.1 (24 + j) n d) = false) from fun q => q.elim c1 (fun q => q.elim c2 c3))]
            by_cases c4 : A.1 (24 + j) n d + A.1 3 n j < s.2
            · rw [if_pos c4, if_pos (Or.inl c4)]
            · rw [if_neg c4]
              by_cases c5 : A.1 (24 + j) n d + A.1 3 n j = s.2
              · rw [if_pos c5]
                by_cases c6 : nI j = A.1 6 n d
                · rw [if_pos c6, if_pos (Or.inr ⟨c5, c6⟩)]
                · rw [if_neg c6, if_neg (show ¬ (A.1 (24 + j) n d + A.1 3 n j < s.2 ∨ (A.1 (24 + j) n d + A.1 3 n j = s.2 ∧ nI j = A.1 6 n d)) from fun q => q.elim c4 (fun q => c6 q.2))]
              · rw [if_neg c5, if_neg (show ¬ (A.1 (24 + j) n d + A.1 3 n j < s.2 ∨ (A.1 (24 + j) n d + A.1 3 n j = s.2 ∧ nI j = A.1 6 n d)) from fun q => q.elim c4 (fun q => c5 q.1))])
    12 0 2001 (-1, 65535) (-1, 65535) (by omega) (by omega) rfl
  obtain ⟨s, e1, e2⟩ := K
  unfold fX1_findBestNeighbour p_best
  rw [← e2]
  exact e1
theorem p_best_r (T : pT) (n d : Nat) : p_best T n d = -1 ∨ ∃ m, m < 12 ∧ p_best T n d = nI m := by
  have := p_up_inv (fun _ (b : Int32 × Int32) => b.1 = -1 ∨ ∃ m, m < 12 ∧ b.1 = nI m) (p_bst T n d) 12 (fun j a hj hp => by
    unfold p_bst
    split
    · exact hp
    · split
      · exact Or.inr ⟨j, hj, rfl⟩
      · exact hp) 12 0 (-1, 65535) rfl (Or.inl rfl)
  exact this
theorem bniE {α : Type} (r : Int32) (M : xwM) (f : Int32 → xwM → Option α) : bni (some (r, M)) f = f r M := rfl
theorem bnvE {α : Type} (M : xwM) (f : xwM → Option α) : bnv (some M) f = f M := rfl
theorem bnxE (r : Int32) (M : xwM) (f : Int32 → xwM → Option xwX) : bnx (some (.inl r, M)) f = f r M := rfl
theorem bnxX (E : String) (M : xwM) (f : Int32 → xwM → Option xwX) : bnx (some (.inr E, M)) f = some (.inr E, M) := rfl
theorem one0 : ¬ (1 : Int32) = 0 := by decide
theorem c_way0 {A : pA} {M : xwM} (h : p_RC A M) {n d : Nat} (hn : n < 12) (hd : d < 12) (c : A.1 6 n d = -1) : fX1_hasWay n (nI d) M = some (0, M) := by rw [c_hasWay h hn hd, if_pos c]
theorem c_way1 {A : pA} {M : xwM} (h : p_RC A M) {n d : Nat} (hn : n < 12) (hd : d < 12) (c : ¬ A.1 6 n d = -1) : fX1_hasWay n (nI d) M = some (1, M) := by rw [c_hasWay h hn hd, if_neg c]
theorem c_bnd0 {A : pA} {M : xwM} (h : p_RC A M) {n d : Nat} (hn : n < 12) (hd : d < 12) (c : A.1 4 n d = -1) : fX1_hasBound n (nI d) M = some (0, M) := by rw [c_hasBound h hn hd, if_pos c]
theorem c_bnd1 {A : pA} {M : xwM} (h : p_RC A M) {n d : Nat} (hn : n < 12) (hd : d < 12) (c : ¬ A.1 4 n d = -1) : fX1_hasBound n (nI d) M = some (1, M) := by rw [c_hasBound h hn hd, if_neg c]
