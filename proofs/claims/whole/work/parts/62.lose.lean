/-! the class: a reboot's lost letters; what a radio keeps -/
theorem p_loop2 {α σ R : Type} (F : Nat → Nat → σ → Option R) (G : σ → Option R) (P : Nat → α → σ → Prop) (f : Nat → α → α) (N : Nat)
    (h0 : ∀ fu a s, P N a s → F (fu + 1) N s = G s) (hs : ∀ fu j a s, j < N → P j a s → ∃ s', F (fu + 1) j s = F fu (j + 1) s' ∧ P (j + 1) (f j a) s') :
    ∀ k j fu a s, j + k = N → k < fu → P j a s → ∃ s', F fu j s = G s' ∧ P N (p_up f k j a) s' := by
  intro k
  induction k with
  | zero =>
    intro j fu a s hj hf hp
    obtain ⟨fu', rfl⟩ : ∃ fu', fu = fu' + 1 := ⟨fu - 1, by omega⟩
    have e : j = N := by omega
    subst e
    exact ⟨s, h0 fu' a s hp, hp⟩
  | succ k ih =>
    intro j fu a s hj hf hp
    obtain ⟨fu', rfl⟩ : ∃ fu', fu = fu' + 1 := ⟨fu - 1, by omega⟩
    obtain ⟨s1, e1, hp1⟩ := hs fu' j a s (by omega) hp
    obtain ⟨s2, e2, hp2⟩ := ih (j + 1) fu' (f j a) s1 (by omega) (by omega) hp1
    exact ⟨s2, by rw [e1, e2], hp2⟩
def p_kp (x : Int32) (l : pL) : Bool := !(decide (l 1 = x)) && !(decide (l 2 = x))
def p_lsI (A : pA) (M0 : xwM) (p : Nat) (x : Int32) (i : Nat) (s : Int32 × xwM) : Prop :=
  s.1 = nI ((A.2.take i).filter (p_kp x)).length ∧ (∀ k q, (k < 412 ∨ 418 ≤ k) → s.2 k q = M0 k q) ∧ (∀ r l, ((A.2.take i).filter (p_kp x))[r]? = some l → ∀ f, f < 6 → s.2 (412 + f) ((p + r) % 300) = l f) ∧ (∀ r l, i ≤ r → A.2[r]? = some l → ∀ f, f < 6 → s.2 (412 + f) ((p + r) % 300) = l f)
theorem p_take1 {L : List pL} {i : Nat} {l : pL} (h : L[i]? = some l) : L.take (i + 1) = L.take i ++ [l] := by
  rw [List.take_add_one, h]
  rfl
theorem c_lose {A : pA} {M : xwM} (h : p_RC A M) (x : Int32) : ∃ M', fX0_loseAllOf x M = some (nI (A.2.length - (A.2.filter (p_kp x)).length), M') ∧ p_RC (p_st A.1 1 0 5 (A.1 1 0 5 + nI (A.2.length - (A.2.filter (p_kp x)).length)), A.2.filter (p_kp x)) M' ∧ p_FR M M' := by
  have h0 := h
  obtain ⟨h1, hc, p, hp, q1, q2, q3, q4⟩ := h
  have fl : ∀ i, ((A.2.take i).filter (p_kp x)).length ≤ i := fun i => Nat.le_trans (List.length_filter_le _ _) (by rw [List.length_take]; omega)
  have K := p_loop2 (α := Unit) (σ := Int32 × xwM) (R := Int32 × xwM) (fun fu j s => fX0_loseAllOf_4 fu x s.1 (nI j) s.2) (fun s => some (s.2 410 2 - s.1, ms (ms s.2 410 2 s.1) 410 5 ((ms s.2 410 2 s.1) 410 5 + (s.2 410 2 - s.1)))) (fun j _ s => p_lsI A M p x j s) (fun _ a => a) A.2.length
    (fun fu a s hs => by
      show fX0_loseAllOf_4 (fu + 1) x s.1 (nI A.2.length) s.2 = _
      have c : s.2 410 2 = nI A.2.length := by rw [hs.2.1 410 2 (by omega), q2]
      rw [fX0_loseAllOf_4, if_pos (by rw [c]; exact nI_le (Nat.le_refl _) (by omega))]
      rfl)
    (fun fu j a s hj hM => by
      obtain ⟨g1, g2, g3, g4⟩ := hM
      obtain ⟨l, hl⟩ : ∃ l, A.2[j]? = some l := ⟨A.2[j], by rw [List.getElem?_eq_getElem hj]⟩
      have e1 : s.2 410 1 = nI p := by rw [g2 410 1 (by omega), q1]
      have c : s.2 410 2 = nI A.2.length := by rw [g2 410 2 (by omega), q2]
      have r1 : fX0_read (nI j) 1 s.2 = some (l 1, s.2) := by
        rw [show (1 : Int32) = nI 1 from rfl, c_read hp e1 (by omega) (by decide), g4 j l (Nat.le_refl j) hl 1 (by decide)]
      have r2 : fX0_read (nI j) 2 s.2 = some (l 2, s.2) := by
        rw [show (2 : Int32) = nI 2 from rfl, c_read hp e1 (by omega) (by decide), g4 j l (Nat.le_refl j) hl 2 (by decide)]
      have tk : (A.2.take (j + 1)).filter (p_kp x) = (A.2.take j).filter (p_kp x) ++ [l].filter (p_kp x) := by
        rw [p_take1 hl, List.filter_append]
      have drop : p_kp x l = false → p_lsI A M p x (j + 1) s := fun hk => by
        have e : (A.2.take (j + 1)).filter (p_kp x) = (A.2.take j).filter (p_kp x) := by
          rw [tk]; simp [hk]
        refine ⟨by rw [e]; exact g1, g2, by rw [e]; exact g3, fun r l hr => g4 r l (by omega)⟩
      show ∃ s' : Int32 × xwM, fX0_loseAllOf_4 (fu + 1) x s.1 (nI j) s.2 = fX0_loseAllOf_4 fu x s'.1 (nI (j + 1)) s'.2 ∧ p_lsI A M p x (j + 1) s'
      rw [fX0_loseAllOf_4]
      rw [if_neg (by rw [c]; exact nI_ge hj (by omega)), r1]
      simp only [bni]
      by_cases c1 : l 1 = x
      · rw [if_pos c1]
        refine ⟨s, ?_, drop (by unfold p_kp; simp [c1])⟩
        unfold fX0_loseAllOf_41
        rw [nI_1]
      · rw [if_neg c1, r2]
        simp only
        by_cases c2 : l 2 = x
        · rw [if_pos c2]
          refine ⟨s, ?_, drop (by unfold p_kp; simp [c2])⟩
          unfold fX0_loseAllOf_41
          rw [nI_1]
        · rw [if_neg c2]
          have hk : p_kp x l = true := by unfold p_kp; simp [c1, c2]
          have e : (A.2.take (j + 1)).filter (p_kp x) = (A.2.take j).filter (p_kp x) ++ [l] := by
            rw [tk]; simp [hk]
          have flj := fl j
          rw [g1, c_put hp e1 (by omega) (by omega)]
          simp only [bnv]
          refine ⟨(nI (((A.2.take j).filter (p_kp x)).length + 1), p_cp 6 s.2 ((p + j) % 300) ((p + ((A.2.take j).filter (p_kp x)).length) % 300)), ?_, ?_, ?_, ?_, ?_⟩
          · unfold fX0_loseAllOf_41
            rw [nI_1, nI_1]
          · rw [e, List.length_append]
            rfl
          · intro k q hk
            show p_cp 6 _ _ _ k q = _
            rw [p_cp_o (by omega), g2 k q hk]
          · intro r l' hl' f hf
            show p_cp 6 _ _ _ (412 + f) _ = _
            rw [e] at hl'
            by_cases ci : r < ((A.2.take j).filter (p_kp x)).length
            · rw [List.getElem?_append_left ci] at hl'
              rw [p_cp_o (by omega)]
              exact g3 r l' hl' f hf
            · have hi2 : r < ((A.2.take j).filter (p_kp x) ++ [l]).length := (List.getElem?_eq_some_iff.mp hl').1
              rw [List.length_append] at hi2
              have ei : r = ((A.2.take j).filter (p_kp x)).length := by
                have : ([l] : List pL).length = 1 := rfl
                omega
              subst ei
              rw [List.getElem?_append_right (Nat.le_refl _)] at hl'
              simp at hl'
              subst hl'
              rw [p_cp_i hf]
              exact g4 j l (Nat.le_refl j) hl f hf
          · intro r l' hr hl' f hf
            show p_cp 6 _ _ _ (412 + f) _ = _
            have hr2 : r < A.2.length := (List.getElem?_eq_some_iff.mp hl').1
            rw [p_cp_o (by omega)]
            exact g4 r l' (by omega) hl' f hf)
    A.2.length 0 2001 () (0, M) (by omega) (by omega) ⟨by simp; rfl, fun _ _ _ => rfl, fun r l hl => by simp at hl, fun r l _ hl f hf => q4 r l hl f hf⟩
  obtain ⟨s, e1, e2, e3, e4, e5⟩ := K
  rw [List.take_length] at e2 e4
  have fl2 : (A.2.filter (p_kp x)).length ≤ A.2.length := List.length_filter_le _ _
  have c : s.2 410 2 = nI A.2.length := by rw [e3 410 2 (by omega), q2]
  have c5 : s.2 410 5 = A.1 1 0 5 := by rw [e3 410 5 (by omega), hc 5 (by decide) (by decide)]
  rw [c, e2, nI_sub fl2, ms_at, if_neg (by omega), c5] at e1
  refine ⟨_, e1, ⟨?_, ?_, p, hp, ?_, ?_, ?_, ?_⟩, ?_⟩
  · intro j n b1 b2 b3
    funext d'
    rw [ms_at, if_neg (by omega), ms_at, if_neg (by omega), e3 _ _ (by omega), h1 j n b1 b2 b3]
    show _ = p_st A.1 1 0 5 _ j n d'
    rw [p_st_at, if_neg (by omega)]
  · intro i i1 i2
    show _ = p_st A.1 1 0 5 _ 1 0 i
    rw [p_st_at, ms_at]
    by_cases c5 : i = 5
    · subst c5
      simp
    · rw [if_neg (by omega), if_neg (by omega), ms_at, if_neg (by omega), e3 _ _ (by omega), hc i i1 i2]
  · rw [ms_at, if_neg (by omega), ms_at, if_neg (by omega), e3 _ _ (by omega), q1]
  · rw [ms_at, if_neg (by omega), p_ms_s]
  · show (A.2.filter (p_kp x)).length ≤ 300
    omega
  · intro r l hl f hf
    rw [ms_at, if_neg (by omega), ms_at, if_neg (by omega)]
    exact e4 r l hl f hf
  · intro k' hk'
    funext b'
    rw [ms_at, if_neg (by omega), ms_at, if_neg (by omega), e3 _ _ (by omega)]
