/-! the reference's row of letters -/
theorem p_ix6 (i f : Nat) : 6 * nI i + nI f = nI (6 * i + f) := by
  rw [show (6 : Int32) = nI 6 from rfl, nI_mul, nI_add]
theorem p_ix60 (i : Nat) : 6 * nI i = nI (6 * i) := by
  rw [show (6 : Int32) = nI 6 from rfl, nI_mul]
theorem p_MV_s {M : xwM} {A : pA} (h : p_RM A M) : p_MV M A (some M) := ⟨M, rfl, h, p_FM_r M, rfl⟩
theorem p_MV_t {M M1 : xwM} {A : pA} {o : Option xwM} (h1 : p_FM M M1) (h0 : M1 418 0 = M 418 0) (h : p_MV M1 A o) : p_MV M A o := by
  obtain ⟨M', a, b, c, d⟩ := h
  exact ⟨M', a, b, p_FM_t h1 c, d.trans h0⟩
theorem p_MV_b {M : xwM} {A B : pA} {o : Option xwM} {f : xwM → Option xwM} (h : p_MV M A o) (k : ∀ M', p_RM A M' → p_MV M' B (f M')) : p_MV M B (bnv o f) := by
  obtain ⟨M', a, b, c, d⟩ := h
  rw [a]
  exact p_MV_t c d (k M' b)
theorem p_ms0 {M : xwM} {k i : Nat} {x : Int32} (h : k ≠ 418 ∨ i ≠ 0) : ms M k i x 418 0 = M 418 0 := by
  rw [ms_at, if_neg (by omega)]
/-- letters alone change: codes 429, and 13 of 418 -/
theorem p_RM_l {T : pT} {L L' : List pL} {M M' : xwM} (h : p_RM (T, L) M) (hk : ∀ k q, k ≠ 429 → (k = 418 → q ≠ 13) → M' k q = M k q) (hl : p_lr L' M') : p_RM (T, L') M' := by
  obtain ⟨h1, h2, h3, h4, h5, h6, h7, h8, h9, h10, ⟨h11, h12, h13⟩, ⟨k, h14, h15⟩, h16⟩ := h
  refine ⟨?_, ?_, ?_, ?_, ?_, ?_, ?_, ?_, ?_, ?_, ⟨?_, ?_, ?_⟩, ⟨k, ?_, h15⟩, hl⟩
  · intro a b c d; rw [hk _ _ (by decide) (by omega)]; exact h1 a b c d
  · intro a b; rw [hk _ _ (by decide) (by omega)]; exact h2 a b
  · intro a b c d; rw [hk _ _ (by decide) (by omega)]; exact h3 a b c d
  · intro a b c d; rw [hk _ _ (by decide) (by omega)]; exact h4 a b c d
  · intro a b c d; rw [hk _ _ (by decide) (by omega)]; exact h5 a b c d
  · intro a b c d e; rw [hk _ _ (by decide) (by omega)]; exact h6 a b c d e
  · intro a b c d e; rw [hk _ _ (by decide) (by omega)]; exact h7 a b c d e
  · intro a b c d e; rw [hk _ _ (by decide) (by omega)]; exact h8 a b c d e
  · intro a b c d e f; rw [hk _ _ (by decide) (by omega)]; exact h9 a b c d e f
  · intro a b c d e f; rw [hk _ _ (by decide) (by omega)]; exact h10 a b c d e f
  · rw [hk _ _ (by decide) (by omega)]; exact h11
  · rw [hk _ _ (by decide) (by omega)]; exact h12
  · rw [hk _ _ (by decide) (by omega)]; exact h13
  · rw [hk _ _ (by decide) (by omega)]; exact h14
theorem p_lr_of {A : pA} {M : xwM} (h : p_RM A M) : p_lr A.2 M := h.2.2.2.2.2.2.2.2.2.2.2.2
theorem r_ct {A : pA} {M : xwM} (h : p_RM A M) : M 418 14 = A.1 1 0 3 ∧ M 418 15 = A.1 1 0 4 ∧ M 418 16 = A.1 1 0 5 := h.2.2.2.2.2.2.2.2.2.2.1
theorem r_send {A : pA} {M : xwM} (h : p_RM A M) (k a b d x v : Int32) : p_MV M (p_snd (p_mk k a b d x v) A) (fX3_send k a b d x v M) := by
  have e3 := (r_ct h).1
  have e4 := (r_ct h).2.1
  have h' := p_RMc3 h (x := A.1 1 0 3 + 1)
  rw [← e3] at h'
  have fr := p_FM_ms (M := M) (k := 418) (i := 14) (x := M 418 14 + 1) (by decide)
  have f0 : ms M 418 14 (M 418 14 + 1) 418 0 = M 418 0 := p_ms0 (Or.inr (by decide))
  unfold p_snd fX3_send xlet
  have e14 : ms M 418 14 (M 418 14 + 1) 418 15 = A.1 1 0 4 := by rw [ms_at, if_neg (by omega), e4]
  generalize ms M 418 14 (M 418 14 + 1) = M1 at h' fr f0 e14 ⊢
  dsimp only
  rw [← e3]
  obtain ⟨l1, l2, l3⟩ := p_lr_of h'
  have l1' : M1 418 13 = nI A.2.length := l1
  have l2' : A.2.length ≤ 300 := l2
  rw [l1']
  refine p_MV_t fr f0 ?_
  by_cases c : A.2.length < 300
  · rw [if_neg (show ¬ nI A.2.length = 300 from fun e => by have := (nI_eq (a := A.2.length) (b := 300) (by omega) (by decide)).mp e; omega), if_pos c]
    rw [show 6 * nI A.2.length + 1 = nI (6 * A.2.length + 1) from p_ix6 _ 1, show 6 * nI A.2.length + 2 = nI (6 * A.2.length + 2) from p_ix6 _ 2, show 6 * nI A.2.length + 3 = nI (6 * A.2.length + 3) from p_ix6 _ 3, show 6 * nI A.2.length + 4 = nI (6 * A.2.length + 4) from p_ix6 _ 4, show 6 * nI A.2.length + 5 = nI (6 * A.2.length + 5) from p_ix6 _ 5, p_ix60]
    rw [p_sto (by omega) (by decide), p_sto (by omega) (by decide), p_sto (by omega) (by decide), p_sto (by omega) (by decide), p_sto (by omega) (by decide), p_sto (by omega) (by decide)]
    refine ⟨_, rfl, p_RM_l h' ?_ ⟨?_, ?_, ?_⟩, ?_, ?_⟩
    · intro k' q' a1 a2
      simp only [ms_at]
      iterate 7 rw [if_neg (by omega)]
    · rw [p_ms_s]
      simp only [ms_at]
      iterate 6 rw [if_neg (by omega)]
      rw [l1']
      show nI A.2.length + nI 1 = nI (A.2 ++ [p_mk k a b d x v]).length
      rw [nI_add, List.length_append]
      rfl
    · show (A.2 ++ [p_mk k a b d x v]).length ≤ 300
      rw [List.length_append]
      exact c
    · intro i l hl f hf
      by_cases ci : i < A.2.length
      · rw [List.getElem?_append_left ci] at hl
        simp only [ms_at]
        iterate 7 rw [if_neg (by omega)]
        exact l3 i l hl f hf
      · have hi2 : i < (A.2 ++ [p_mk k a b d x v]).length := (List.getElem?_eq_some_iff.mp hl).1
        rw [List.length_append] at hi2
        have ei : i = A.2.length := by simp at hi2; omega
        subst ei
        rw [List.getElem?_append_right (Nat.le_refl _)] at hl
        simp at hl
        subst hl
        simp only [ms_at]
        rw [if_neg (by omega)]
        unfold p_mk
        match f, hf with
        | 0, _ => simp
        | 1, _ => simp
        | 2, _ => simp
        | 3, _ => simp
        | 4, _ => simp
        | 5, _ => simp
    · intro k' hk'
      funext b'
      simp only [ms_at]
      iterate 7 rw [if_neg (by omega)]
    · simp only [ms_at]
      iterate 7 rw [if_neg (by omega)]
  · rw [if_pos (show nI A.2.length = 300 by rw [show A.2.length = 300 by omega]; rfl), if_neg c]
    rw [e14]
    exact ⟨_, rfl, p_RMc4 h', p_FM_ms (by decide), p_ms0 (Or.inr (by decide))⟩
def p_sc (j i : Nat) (M : xwM) : xwM := fun k q => if k = 429 ∧ 1800 ≤ q ∧ q < 1800 + j then M 429 (6 * i + (q - 1800)) else M k q
theorem r_takes2 {M0 : xwM} {i : Nat} (hi : i < 300) : fX3_takes_2 2001 (nI i) 0 M0 = fX3_takes_40 2001 (nI (6 * i)) (p_sc 6 i M0) := by
  have K := p_loop2 (α := Unit) (σ := xwM) (R := xwM) (fun fu j M => fX3_takes_2 fu (nI i) (nI j) M) (fun M => fX3_takes_40 2001 (nI (6 * i)) M) (fun j _ M => M = p_sc j i M0) (fun _ a => a) 6
    (fun fu a M _ => by
      show fX3_takes_2 (fu + 1) (nI i) (nI 6) M = _
      rw [fX3_takes_2, if_pos (show (6 : Int32) ≤ nI 6 from nI_le (a := 6) (Nat.le_refl 6) (by decide)), p_ix60])
    (fun fu j a M hj hM => by
      refine ⟨ms M 429 (1800 + j) (M 429 (6 * i + j)), ?_, ?_⟩
      · show fX3_takes_2 (fu + 1) (nI i) (nI j) M = fX3_takes_2 fu (nI i) (nI (j + 1)) _
        rw [fX3_takes_2]
        rw [if_neg (show ¬ (6 : Int32) ≤ nI j from nI_ge hj (by decide)), p_ix6, p_ld (by omega) (by decide), show 1800 + nI j = nI (1800 + j) from nI_add 1800 j, p_sto (by omega) (by decide), nI_1]
      · subst hM
        funext k q
        rw [ms_at]
        unfold p_sc
        by_cases c : k = 429 ∧ q = 1800 + j
        · obtain ⟨rfl, rfl⟩ := c
          rw [if_pos ⟨rfl, rfl⟩, if_neg (by omega), if_pos (by omega)]
          rw [show 1800 + j - 1800 = j by omega]
        · rw [if_neg c]
          by_cases c2 : k = 429 ∧ 1800 ≤ q ∧ q < 1800 + j
          · rw [if_pos c2, if_pos (by omega)]
          · rw [if_neg c2, if_neg (by omega)])
    6 0 2001 () M0 rfl (by decide) (by
      funext k q
      unfold p_sc
      rw [if_neg (by omega)])
  obtain ⟨M', e, hM⟩ := K
  rw [← hM]
  exact e
def p_sh (a j : Nat) (M : xwM) : xwM := fun k q => if k = 429 ∧ a ≤ q ∧ q < j then M 429 (q + 6) else M k q
theorem r_takes40 {M0 : xwM} {i len : Nat} (hl : len ≤ 300) (hi : i < len) (hm : M0 418 13 = nI len) : fX3_takes_40 2001 (nI (6 * i)) M0 = some (ms (p_sh (6 * i) (6 * (len - 1)) M0) 418 13 (nI (len - 1))) := by
  have K := p_loop2 (α := Unit) (σ := xwM) (R := xwM) (fun fu j M => fX3_takes_40 fu (nI j) M) (fun M => some (ms M 418 13 (nI (len - 1)))) (fun j _ M => M = p_sh (6 * i) j M0 ∧ 6 * i ≤ j) (fun _ a => a) (6 * (len - 1))
    (fun fu a M hM => by
      show fX3_takes_40 (fu + 1) (nI (6 * (len - 1))) M = _
      have e : M 418 13 = nI len := by
        rw [hM.1]; unfold p_sh; rw [if_neg (by omega), hm]
      rw [fX3_takes_40, e, p_ix60, show nI (6 * (len - 1)) + 6 = nI (6 * (len - 1) + 6) from nI_add _ 6, if_pos (nI_le (by omega) (by omega))]
      unfold xlet
      rw [show nI len - 1 = nI (len - 1) from nI_sub (b := 1) (by omega)])
    (fun fu j a M hj hM => by
      have e : M 418 13 = nI len := by
        rw [hM.1]; unfold p_sh; rw [if_neg (by omega), hm]
      refine ⟨ms M 429 j (M 429 (j + 6)), ?_, ?_, by have := hM.2; omega⟩
      · show fX3_takes_40 (fu + 1) (nI j) M = fX3_takes_40 fu (nI (j + 1)) _
        rw [fX3_takes_40, e, p_ix60, show nI j + 6 = nI (j + 6) from nI_add _ 6]
        rw [if_neg (nI_ge (by omega) (by omega)), p_ld (by omega) (by decide), p_sto (by omega) (by decide), nI_1]
      · obtain ⟨hM, hj6⟩ := hM
        subst hM
        funext k q
        rw [ms_at]
        unfold p_sh
        by_cases c : k = 429 ∧ q = j
        · obtain ⟨rfl, rfl⟩ := c
          rw [if_pos ⟨rfl, rfl⟩, if_neg (by omega), if_pos (by omega)]
        · rw [if_neg c]
          by_cases c2 : k = 429 ∧ 6 * i ≤ q ∧ q < j
          · rw [if_pos c2, if_pos (by omega)]
          · rw [if_neg c2, if_neg (by omega)])
    (6 * (len - 1) - 6 * i) (6 * i) 2001 () M0 (by omega) (by omega) ⟨by
      funext k q
      unfold p_sh
      rw [if_neg (by omega)], Nat.le_refl _⟩
  obtain ⟨M', e, hM, _⟩ := K
  rw [← hM]
  exact e
theorem r_take {A : pA} {M : xwM} (h : p_RM A M) {i : Nat} {l : pL} (hl : A.2[i]? = some l) : ∃ M', fX3_takes (nI i) M = some M' ∧ p_RM (A.1, A.2.eraseIdx i) M' ∧ p_FM M M' ∧ M' 418 0 = M 418 0 ∧ ∀ f, f < 6 → M' 429 (1800 + f) = l f := by
  have hi : i < A.2.length := (List.getElem?_eq_some_iff.mp hl).1
  obtain ⟨l1, l2, l3⟩ := p_lr_of h
  unfold fX3_takes
  rw [r_takes2 (by omega)]
  have e1 : p_sc 6 i M 418 13 = nI A.2.length := by unfold p_sc; rw [if_neg (by omega), l1]
  rw [r_takes40 l2 hi e1]
  have ev : ∀ k q, k ≠ 429 → p_sh (6 * i) (6 * (A.2.length - 1)) (p_sc 6 i M) k q = M k q := fun k q hk => by
    unfold p_sh p_sc
    rw [if_neg (by omega), if_neg (by omega)]
  refine ⟨_, rfl, p_RM_l h ?_ ⟨?_, ?_, ?_⟩, ?_, ?_, ?_⟩
  · intro k q hk h2
    rw [ms_at, if_neg (by omega), ev k q hk]
  · rw [p_ms_s, List.length_eraseIdx_of_lt hi]
  · rw [List.length_eraseIdx_of_lt hi]
    omega
  · intro r l' hl' f hf
    have hr : r < (A.2.eraseIdx i).length := (List.getElem?_eq_some_iff.mp hl').1
    rw [List.length_eraseIdx_of_lt hi] at hr
    rw [ms_at, if_neg (by omega)]
    rw [List.getElem?_eraseIdx] at hl'
    unfold p_sh p_sc
    by_cases c : r < i
    · rw [if_pos c] at hl'
      rw [if_neg (by omega), if_neg (by omega)]
      exact l3 r l' hl' f hf
    · rw [if_neg c] at hl'
      rw [if_pos (by omega), if_neg (by omega), show 6 * r + f + 6 = 6 * (r + 1) + f by omega]
      exact l3 (r + 1) l' hl' f hf
  · intro k hk
    funext b
    rw [ms_at, if_neg (by omega), ev k b (by omega)]
  · rw [ms_at, if_neg (by omega), ev _ _ (by decide)]
  · intro f hf
    rw [ms_at, if_neg (by omega)]
    unfold p_sh p_sc
    rw [if_neg (by omega), if_pos (by omega), show 1800 + f - 1800 = f by omega]
    exact l3 i l hl f hf
def p_rc (j i t : Nat) (M : xwM) : xwM := fun k q => if k = 429 ∧ 6 * t ≤ q ∧ q < 6 * t + j then M 429 (6 * i + (q - 6 * t)) else M k q
theorem r_copy38 {M0 : xwM} {i t : Nat} (ht : t < 300) (hi : i < t) (hm : M0 418 13 = nI t) : fX3_copy_38 2001 (nI i) 0 M0 = some (1, ms (p_rc 6 i t M0) 418 13 (nI (t + 1))) := by
  have K := p_loop2 (α := Unit) (σ := xwM) (R := Int32 × xwM) (fun fu j M => fX3_copy_38 fu (nI i) (nI j) M) (fun M => some (1, ms M 418 13 (nI (t + 1)))) (fun j _ M => M = p_rc j i t M0) (fun _ a => a) 6
    (fun fu a M hM => by
      show fX3_copy_38 (fu + 1) (nI i) (nI 6) M = _
      have e : M 418 13 = nI t := by
        rw [hM]; unfold p_rc; rw [if_neg (by omega), hm]
      rw [fX3_copy_38, if_pos (show (6 : Int32) ≤ nI 6 from nI_le (a := 6) (Nat.le_refl 6) (by decide)), e, nI_1]
      rfl)
    (fun fu j a M hj hM => by
      have e : M 418 13 = nI t := by
        rw [hM]; unfold p_rc; rw [if_neg (by omega), hm]
      refine ⟨ms M 429 (6 * t + j) (M 429 (6 * i + j)), ?_, ?_⟩
      · show fX3_copy_38 (fu + 1) (nI i) (nI j) M = fX3_copy_38 fu (nI i) (nI (j + 1)) _
        rw [fX3_copy_38]
        rw [if_neg (show ¬ (6 : Int32) ≤ nI j from nI_ge hj (by decide)), e, p_ix6, p_ix6, p_ld (by omega) (by decide), p_sto (by omega) (by decide), nI_1]
      · subst hM
        funext k q
        rw [ms_at]
        unfold p_rc
        by_cases c : k = 429 ∧ q = 6 * t + j
        · obtain ⟨rfl, rfl⟩ := c
          rw [if_pos ⟨rfl, rfl⟩, if_neg (by omega), if_pos (by omega), show 6 * t + j - 6 * t = j by omega]
        · rw [if_neg c]
          by_cases c2 : k = 429 ∧ 6 * t ≤ q ∧ q < 6 * t + j
          · rw [if_pos c2, if_pos (by omega)]
          · rw [if_neg c2, if_neg (by omega)])
    6 0 2001 () M0 rfl (by decide) (by
      funext k q
      unfold p_rc
      rw [if_neg (by omega)])
  obtain ⟨M', e, hM⟩ := K
  rw [← hM]
  exact e
theorem r_copy {A : pA} {M : xwM} (h : p_RM A M) {i : Nat} {l : pL} (hl : A.2[i]? = some l) (hc : A.2.length < 300) : ∃ M', fX3_copy_38 2001 (nI i) 0 M = some (1, M') ∧ p_RM (A.1, A.2 ++ [l]) M' ∧ p_FM M M' ∧ M' 418 0 = M 418 0 := by
  have hi : i < A.2.length := (List.getElem?_eq_some_iff.mp hl).1
  obtain ⟨l1, l2, l3⟩ := p_lr_of h
  rw [r_copy38 hc hi l1]
  have ev : ∀ k q, k ≠ 429 → p_rc 6 i A.2.length M k q = M k q := fun k q hk => by
    unfold p_rc
    rw [if_neg (by omega)]
  refine ⟨_, rfl, p_RM_l h ?_ ⟨?_, ?_, ?_⟩, ?_, ?_⟩
  · intro k q hk h2
    rw [ms_at, if_neg (by omega), ev k q hk]
  · rw [p_ms_s, List.length_append]
    rfl
  · rw [List.length_append]
    exact hc
  · intro r l' hl' f hf
    rw [ms_at, if_neg (by omega)]
    unfold p_rc
    by_cases ci : r < A.2.length
    · rw [List.getElem?_append_left ci] at hl'
      rw [if_neg (by omega)]
      exact l3 r l' hl' f hf
    · have hi2 : r < (A.2 ++ [l]).length := (List.getElem?_eq_some_iff.mp hl').1
      rw [List.length_append] at hi2
      have ei : r = A.2.length := by simp at hi2; omega
      subst ei
      rw [List.getElem?_append_right (Nat.le_refl _)] at hl'
      simp at hl'
      subst hl'
      rw [if_pos (by omega), show 6 * A.2.length + f - 6 * A.2.length = f by omega]
      exact l3 i l hl f hf
  · intro k hk
    funext b
    rw [ms_at, if_neg (by omega), ev k b (by omega)]
  · rw [ms_at, if_neg (by omega), ev _ _ (by decide)]
