/-! the class's row of letters -/
theorem c_place {M : xwM} {p i : Nat} (hp : p < 300) (h1 : M 410 1 = nI p) (hi : i ≤ 300) : fX0_placeOf (nI i) M = some (nI ((p + i) % 300), M) := by
  unfold fX0_placeOf fX0_placeOf_23
  rw [h1, nI_add]
  by_cases c : p + i < 300
  · rw [if_pos (show nI (p + i) < 300 from nI_lt c (by decide)), Nat.mod_eq_of_lt c]
  · rw [if_neg (show ¬ nI (p + i) < 300 from nI_nlt (b := 300) (by omega) (by omega))]
    rw [show nI (p + i) - 300 = nI (p + i - 300) from nI_sub (b := 300) (by omega)]
    rw [show (p + i) % 300 = p + i - 300 by omega]
theorem c_read {M : xwM} {p i f : Nat} (hp : p < 300) (h1 : M 410 1 = nI p) (hi : i ≤ 300) (hf : f < 6) : fX0_read (nI i) (nI f) M = some (M (412 + f) ((p + i) % 300), M) := by
  unfold fX0_read
  rw [p_ixr hf (by decide), c_place hp h1 hi]
  simp only [bni]
  rw [p_ld (Nat.mod_lt _ (by decide)) (by decide)]
theorem c_readL {A : pA} {M : xwM} (h : p_RC A M) {i f : Nat} {l : pL} (hl : A.2[i]? = some l) (hf : f < 6) : fX0_read (nI i) (nI f) M = some (l f, M) := by
  obtain ⟨h1, hc, p, hp, q1, q2, q3, q4⟩ := h
  have hi : i < A.2.length := (List.getElem?_eq_some_iff.mp hl).1
  rw [c_read hp q1 (by omega) hf, q4 i l hl f hf]
def p_cp (j : Nat) (M : xwM) (s t : Nat) : xwM := fun k q => if 412 ≤ k ∧ k < 412 + j ∧ q = t then M k s else M k q
theorem c_put16 {s t : Nat} (hs : s < 300) (ht : t < 300) {M0 : xwM} : ∃ M', fX0_put_16 2001 (nI s) (nI t) 0 M0 = some M' ∧ M' = p_cp 6 M0 s t := by
  have K := p_loop (α := Unit) (σ := xwM) (R := xwM) (fun fu j M => fX0_put_16 fu (nI s) (nI t) (nI j) M) (fun M => some M) (fun j _ M => M = p_cp j M0 s t) (fun _ a => a) 6
    (fun fu M => by
      show fX0_put_16 (fu + 1) (nI s) (nI t) (nI 6) M = some M
      unfold fX0_put_16
      rw [if_pos (show (6 : Int32) ≤ nI 6 from nI_le (a := 6) (Nat.le_refl 6) (by decide))])
    (fun fu j a M hj hM => by
      refine ⟨ms M (412 + j) t (M (412 + j) s), ?_, ?_⟩
      · show fX0_put_16 (fu + 1) (nI s) (nI t) (nI j) M = fX0_put_16 fu (nI s) (nI t) (nI (j + 1)) _
        rw [fX0_put_16]
        rw [if_neg (show ¬ (6 : Int32) ≤ nI j from nI_ge hj (by decide)), p_ixr hj (by decide), p_ixr hj (by decide), p_ld hs (by decide), p_sto ht (by decide), nI_1]
      · subst hM
        funext k q
        rw [ms_at]
        unfold p_cp
        by_cases c : k = 412 + j ∧ q = t
        · obtain ⟨rfl, rfl⟩ := c
          rw [if_pos ⟨rfl, rfl⟩, if_neg (by omega), if_pos (by omega)]
        · rw [if_neg c]
          by_cases c2 : 412 ≤ k ∧ k < 412 + j ∧ q = t
          · rw [if_pos c2, if_pos (by omega)]
          · rw [if_neg c2, if_neg (by omega)])
    6 0 2001 () M0 rfl (by decide) (by
      funext k q
      unfold p_cp
      rw [if_neg (by omega)])
  obtain ⟨M', e, hM⟩ := K
  exact ⟨M', e, hM⟩
theorem c_put {M : xwM} {p i t : Nat} (hp : p < 300) (h1 : M 410 1 = nI p) (hi : i ≤ 300) (ht : t ≤ 300) : fX0_put (nI i) (nI t) M = some (p_cp 6 M ((p + i) % 300) ((p + t) % 300)) := by
  unfold fX0_put
  rw [c_place hp h1 hi]
  simp only [bni]
  rw [c_place hp h1 ht]
  obtain ⟨M', e, hM⟩ := c_put16 (Nat.mod_lt (p + i) (show 0 < 300 by decide)) (Nat.mod_lt (p + t) (show 0 < 300 by decide)) (M0 := M)
  simp only
  rw [e, hM]
theorem p_cp_o {M : xwM} {j s t k q : Nat} (h : k < 412 ∨ 412 + j ≤ k ∨ q ≠ t) : p_cp j M s t k q = M k q := by
  unfold p_cp
  rw [if_neg (by omega)]
theorem p_cp_i {M : xwM} {j s t k : Nat} (h : k < j) : p_cp j M s t (412 + k) t = M (412 + k) s := by
  unfold p_cp
  rw [if_pos (by omega)]
theorem p_FR_cp {M : xwM} {s t : Nat} : p_FR M (p_cp 6 M s t) := fun a ha => by
  funext b
  exact p_cp_o (by omega)
theorem p_ms_s (M : xwM) (k i : Nat) (x : Int32) : ms M k i x k i = x := by rw [ms_at, if_pos ⟨rfl, rfl⟩]
theorem c_send {A : pA} {M : xwM} (h : p_RC A M) (k a b d x v : Int32) : p_CV M (p_snd (p_mk k a b d x v) A) (fX0_send k a b d x v M) := by
  have h' := p_RC_ct h (i := 3) (by decide) (by decide) (x := A.1 1 0 3 + 1)
  have e3 : M 410 3 = A.1 1 0 3 := h.2.1 3 (by decide) (by decide)
  have e4 : M 410 4 = A.1 1 0 4 := h.2.1 4 (by decide) (by decide)
  rw [← e3] at h'
  have fr := p_FR_ms (M := M) (k := 410) (i := 3) (x := M 410 3 + 1) (by decide)
  unfold p_snd fX0_send xlet
  generalize hM1 : ms M 410 3 (M 410 3 + 1) = M1 at h' fr ⊢
  have e14 : M1 410 4 = A.1 1 0 4 := by rw [← hM1, ms_at, if_neg (by omega), e4]
  rw [← e3]
  obtain ⟨h1, hc, p, hp, q1, q2, q3, q4⟩ := h'
  dsimp only
  have q3' : A.2.length ≤ 300 := q3
  rw [q2]
  by_cases c : A.2.length < 300
  · rw [if_pos (show nI A.2.length < 300 from nI_lt c (by decide)), if_pos c]
    rw [c_place hp q1 (by omega)]
    simp only [bni]
    generalize hq : (p + A.2.length) % 300 = q
    have hql : q < 300 := by rw [← hq]; exact Nat.mod_lt _ (by decide)
    rw [show (0 : Int32) = nI 0 from rfl, p_ixr (by decide) (by decide), p_sto hql (by decide)]
    rw [show (1 : Int32) = nI 1 from rfl, p_ixr (by decide) (by decide), p_sto hql (by decide)]
    rw [show (2 : Int32) = nI 2 from rfl, p_ixr (by decide) (by decide), p_sto hql (by decide)]
    rw [show (3 : Int32) = nI 3 from rfl, p_ixr (by decide) (by decide), p_sto hql (by decide)]
    rw [show (4 : Int32) = nI 4 from rfl, p_ixr (by decide) (by decide), p_sto hql (by decide)]
    rw [show (5 : Int32) = nI 5 from rfl, p_ixr (by decide) (by decide), p_sto hql (by decide)]
    refine ⟨_, rfl, ⟨?_, ?_, p, hp, ?_, ?_, ?_, ?_⟩, ?_⟩
    · intro j n a1 a2 a3
      funext d'
      simp only [ms_at]
      iterate 7 rw [if_neg (by omega)]
      rw [h1 j n a1 a2 a3]
      rfl
    · intro i i1 i2
      simp only [ms_at]
      iterate 7 rw [if_neg (by omega)]
      rw [hc i i1 i2]
      rfl
    · simp only [ms_at]
      iterate 7 rw [if_neg (by omega)]
      rw [q1]
    · rw [p_ms_s]
      simp only [ms_at]
      iterate 6 rw [if_neg (by omega)]
      rw [q2]
      show nI A.2.length + nI 1 = nI (A.2 ++ [p_mk k a b d x v]).length
      rw [nI_add, List.length_append]
      rfl
    · show (A.2 ++ [p_mk k a b d x v]).length ≤ 300
      rw [List.length_append]
      exact c
    · intro i l hl f hf
      have hl : (A.2 ++ [p_mk k a b d x v])[i]? = some l := hl
      by_cases ci : i < A.2.length
      · rw [List.getElem?_append_left ci] at hl
        have ne : (p + i) % 300 ≠ q := by omega
        simp only [ms_at]
        iterate 7 rw [if_neg (by omega)]
        exact q4 i l hl f hf
      · have hi2 : i < (A.2 ++ [p_mk k a b d x v]).length := (List.getElem?_eq_some_iff.mp hl).1
        rw [List.length_append] at hi2
        have ei : i = A.2.length := by simp at hi2; omega
        subst ei
        rw [List.getElem?_append_right (Nat.le_refl _)] at hl
        simp at hl
        subst hl
        rw [hq]
        simp only [ms_at]
        rw [if_neg (by omega)]
        unfold p_mk
        match f, hf with
        | 0, _ => simp
        | 1, _ => simp
        | 2, _ => simp
        | 3, _ => simp
        | 4, _ => simp
        | 5, _ => simp
    · intro k' hk'
      funext b'
      simp only [ms_at]
      iterate 7 rw [if_neg (by omega)]
      rw [fr k' hk']
  · rw [if_neg (show ¬ nI A.2.length < 300 from nI_nlt (b := 300) (by omega) (by omega)), if_neg c]
    have h'' : p_RC (p_st A.1 1 0 3 (M 410 3 + 1), A.2) M1 := ⟨h1, hc, p, hp, q1, q2, q3, q4⟩
    rw [e14]
    exact ⟨_, rfl, p_RC_ct h'' (by decide) (by decide), p_FR_t fr (p_FR_ms (by decide))⟩

theorem c_repeat {A : pA} {M : xwM} (h : p_RC A M) {i : Nat} {l : pL} (hl : A.2[i]? = some l) : ∃ M', fX0_repeat (nI i) M = some (if A.2.length < 300 then 1 else 0, M') ∧ p_RC (if A.2.length < 300 then (A.1, A.2 ++ [l]) else A) M' ∧ p_FR M M' := by
  have h0 := h
  obtain ⟨h1, hc, p, hp, q1, q2, q3, q4⟩ := h
  have hi : i < A.2.length := (List.getElem?_eq_some_iff.mp hl).1
  unfold fX0_repeat xlet
  dsimp only
  rw [q2]
  by_cases c : A.2.length < 300
  · rw [if_pos (show nI A.2.length < 300 from nI_lt c (by decide)), if_pos c, if_pos c]
    rw [c_put hp q1 (by omega) (by omega)]
    simp only [bnv]
    refine ⟨_, rfl, ⟨?_, ?_, p, hp, ?_, ?_, ?_, ?_⟩, ?_⟩
    · intro j n a1 a2 a3
      funext d'
      rw [ms_at, if_neg (by omega), p_cp_o (by omega), h1 j n a1 a2 a3]
    · intro i i1 i2
      rw [ms_at, if_neg (by omega), p_cp_o (by omega), hc i i1 i2]
    · rw [ms_at, if_neg (by omega), p_cp_o (by omega), q1]
    · rw [p_ms_s, p_cp_o (by omega), q2]
      show nI A.2.length + nI 1 = nI (A.2 ++ [l]).length
      rw [nI_add, List.length_append]
      rfl
    · show (A.2 ++ [l]).length ≤ 300
      rw [List.length_append]
      exact c
    · intro i' l' hl' f hf
      have hl' : (A.2 ++ [l])[i']? = some l' := hl'
      rw [ms_at, if_neg (by omega)]
      by_cases ci : i' < A.2.length
      · rw [List.getElem?_append_left ci] at hl'
        rw [p_cp_o (by omega)]
        exact q4 i' l' hl' f hf
      · have hi2 : i' < (A.2 ++ [l]).length := (List.getElem?_eq_some_iff.mp hl').1
        rw [List.length_append] at hi2
        have ei : i' = A.2.length := by simp at hi2; omega
        subst ei
        rw [List.getElem?_append_right (Nat.le_refl _)] at hl'
        simp at hl'
        subst hl'
        rw [p_cp_i hf]
        exact q4 i l hl f hf
    · intro k' hk'
      funext b'
      rw [ms_at, if_neg (by omega), p_cp_o (by omega)]
  · rw [if_neg (show ¬ nI A.2.length < 300 from nI_nlt (b := 300) (by omega) (by omega)), if_neg c, if_neg c]
    exact ⟨M, rfl, h0, p_FR_r M⟩
/-- the ring while the first i letters move one place on -/
def p_mv (M0 : xwM) (p i j : Nat) (M : xwM) : Prop := (∀ k q, (k < 412 ∨ 418 ≤ k) → M k q = M0 k q) ∧ ∀ f, f < 6 → ∀ r, r < 300 → M (412 + f) ((p + r) % 300) = if j < r ∧ r ≤ i then M0 (412 + f) ((p + r - 1) % 300) else M0 (412 + f) ((p + r) % 300)
theorem c_away2 {M0 : xwM} {p i : Nat} (hp : p < 300) (q1 : M0 410 1 = nI p) (hi : i < 300) : ∀ (j fu : Nat) (M : xwM), j ≤ i → j < fu → p_mv M0 p i j M → ∃ M', p_mv M0 p i 0 M' ∧ fX0_takeAway_2 fu (nI j) M = some (ms (ms M' 410 1 (nI ((p + 1) % 300))) 410 2 (M' 410 2 - 1)) := by
  intro j
  induction j with
  | zero =>
    intro fu M hj hf hM
    obtain ⟨fu', rfl⟩ : ∃ fu', fu = fu' + 1 := ⟨fu - 1, by omega⟩
    refine ⟨M, hM, ?_⟩
    have e1 : M 410 1 = nI p := by rw [hM.1 410 1 (by omega), q1]
    rw [fX0_takeAway_2]
    rw [if_pos (show nI 0 ≤ 0 from nI_le (a := 0) (b := 0) (Nat.le_refl 0) (by decide))]
    rw [show (1 : Int32) = nI 1 from rfl, c_place hp e1 (by decide)]
    simp only [bni, xlet]
    rw [ms_at, if_neg (by omega)]
  | succ j ih =>
    intro fu M hj hf hM
    obtain ⟨fu', rfl⟩ : ∃ fu', fu = fu' + 1 := ⟨fu - 1, by omega⟩
    have e1 : M 410 1 = nI p := by rw [hM.1 410 1 (by omega), q1]
    obtain ⟨M', a1, a2⟩ := ih fu' (p_cp 6 M ((p + j) % 300) ((p + (j + 1)) % 300)) (by omega) (by omega) ⟨fun k q hk => by rw [p_cp_o (by omega), hM.1 k q hk], fun f hf' r hr => by
      by_cases c : r = j + 1
      · subst c
        rw [p_cp_i hf', hM.2 f hf' j (by omega), if_neg (by omega), if_pos (by omega)]
        congr 1
      · rw [p_cp_o (by omega), hM.2 f hf' r hr]
        by_cases c2 : j + 1 < r ∧ r ≤ i
        · rw [if_pos c2, if_pos (by omega)]
        · rw [if_neg c2, if_neg (by omega)]⟩
    refine ⟨M', a1, ?_⟩
    rw [fX0_takeAway_2]
    rw [if_neg (show ¬ nI (j + 1) ≤ 0 from nI_nle (by omega) (by omega))]
    rw [nI_pred, c_put hp e1 (by omega) (by omega)]
    simp only [bnv]
    rw [nI_m1]
    exact a2
theorem c_away {A : pA} {M : xwM} (h : p_RC A M) {i : Nat} (hi : i < A.2.length) : p_CV M (A.1, A.2.eraseIdx i) (fX0_takeAway (nI i) M) := by
  obtain ⟨h1, hc, p, hp, q1, q2, q3, q4⟩ := h
  obtain ⟨M', ⟨a1, a2⟩, a3⟩ := c_away2 hp q1 (i := i) (by omega) i 2001 M (Nat.le_refl i) (by omega) ⟨fun _ _ _ => rfl, fun f hf r hr => by rw [if_neg (by omega)]⟩
  refine ⟨_, a3, ⟨?_, ?_, (p + 1) % 300, Nat.mod_lt _ (by decide), ?_, ?_, ?_, ?_⟩, ?_⟩
  · intro j n b1 b2 b3
    funext d'
    rw [ms_at, if_neg (by omega), ms_at, if_neg (by omega), a1 _ _ (by omega), h1 j n b1 b2 b3]
  · intro i i1 i2
    rw [ms_at, if_neg (by omega), ms_at, if_neg (by omega), a1 _ _ (by omega), hc i i1 i2]
  · rw [ms_at, if_neg (by omega), p_ms_s]
  · rw [p_ms_s, a1 _ _ (by omega), q2]
    show nI A.2.length - nI 1 = nI (A.2.eraseIdx i).length
    rw [nI_sub (by omega), List.length_eraseIdx_of_lt hi]
  · show (A.2.eraseIdx i).length ≤ 300
    rw [List.length_eraseIdx_of_lt hi]
    omega
  · intro r l hl f hf
    have hl : (A.2.eraseIdx i)[r]? = some l := hl
    have hr : r < (A.2.eraseIdx i).length := (List.getElem?_eq_some_iff.mp hl).1
    rw [List.length_eraseIdx_of_lt hi] at hr
    rw [ms_at, if_neg (by omega), ms_at, if_neg (by omega)]
    rw [show ((p + 1) % 300 + r) % 300 = (p + (r + 1)) % 300 by omega, a2 f hf (r + 1) (by omega)]
    rw [List.getElem?_eraseIdx] at hl
    by_cases c : r < i
    · rw [if_pos c] at hl
      rw [if_pos (by omega), show p + (r + 1) - 1 = p + r by omega]
      exact q4 r l hl f hf
    · rw [if_neg c] at hl
      rw [if_neg (by omega)]
      exact q4 (r + 1) l hl f hf
  · intro k' hk'
    funext b'
    rw [ms_at, if_neg (by omega), ms_at, if_neg (by omega), a1 _ _ (by omega)]
