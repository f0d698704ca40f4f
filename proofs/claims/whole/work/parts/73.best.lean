/-! the best neighbour: what the class's search and the reference's both find -/
def p_by (T : pT) (n d m : Nat) : Int32 := if T (11 + m) n d = -1 ∨ 60000 < T (24 + m) n d + T 3 n m ∨ p_gd T n d (T (11 + m) n d) (T (24 + m) n d) = false then 65535 else T (24 + m) n d + T 3 n m
theorem p_by_n {o : Nat → Nat} {T : pT} (h : p_IT o T) {n d m : Nat} (hn : n < 12) (hd : d < 12) (hm : m < 12) : ∃ k, p_by T n d m = nI k ∧ ((k = 65535 ∧ (T (11 + m) n d = -1 ∨ 60000 < T (24 + m) n d + T 3 n m ∨ p_gd T n d (T (11 + m) n d) (T (24 + m) n d) = false)) ∨ (k ≤ 60000 ∧ ¬ (T (11 + m) n d = -1 ∨ 60000 < T (24 + m) n d + T 3 n m ∨ p_gd T n d (T (11 + m) n d) (T (24 + m) n d) = false) ∧ T (24 + m) n d + T 3 n m = nI k ∧ ∃ a w c, a ≤ o d ∧ c ≤ 1000 ∧ T (11 + m) n d = nI a ∧ T (24 + m) n d = nI w ∧ T 3 n m = nI c ∧ k = w + c)) := by
  unfold p_by
  by_cases c : T (11 + m) n d = -1 ∨ 60000 < T (24 + m) n d + T 3 n m ∨ p_gd T n d (T (11 + m) n d) (T (24 + m) n d) = false
  · rw [if_pos c]
    exact ⟨65535, rfl, Or.inl ⟨rfl, c⟩⟩
  · rw [if_neg c]
    obtain ⟨h1, h2, h3, h4, h5, h6, h7, h8, h9⟩ := h
    rcases h8 n m d hn hm hd with ⟨e1, e2⟩ | ⟨a, w, ha, hw, e1, e2, e3⟩
    · exact absurd (Or.inl e1) c
    · obtain ⟨cc, hc, e4, e5⟩ := h2 n m hn hm
      have es : T (24 + m) n d + T 3 n m = nI (w + cc) := by rw [e2, e4, nI_add]
      refine ⟨w + cc, es, Or.inr ⟨?_, c, es, a, w, cc, ha, hc, e1, e2, e4, rfl⟩⟩
      have c2 : ¬ 60000 < nI (w + cc) := fun q => c (Or.inr (Or.inl (by rw [es]; exact q)))
      have := (not_congr (nI_ltI (a := 60000) (b := w + cc) (by decide) (by omega))).mp c2
      omega
def p_bv (T : pT) (n d m : Nat) : Nat := (p_by T n d m).toNatClampNeg
theorem p_bv_n {o : Nat → Nat} {T : pT} (h : p_IT o T) {n d m : Nat} (hn : n < 12) (hd : d < 12) (hm : m < 12) : p_by T n d m = nI (p_bv T n d m) ∧ (p_bv T n d m ≤ 60000 ∨ p_bv T n d m = 65535) := by
  obtain ⟨k, e, q⟩ := p_by_n h hn hd hm
  have hk : k ≤ 60000 ∨ k = 65535 := q.elim (fun q => Or.inr q.1) (fun q => Or.inl q.1)
  unfold p_bv
  rw [e, nI_clamp (by omega)]
  exact ⟨rfl, hk⟩
def p_bI (T : pT) (n d j : Nat) (b : Int32 × Int32) : Prop := ∃ k, b.2 = nI k ∧ (k ≤ 60000 ∨ k = 65535) ∧ (∀ m, m < j → k ≤ p_bv T n d m) ∧ ((k = 65535 ∧ b.1 = -1) ∨ (k ≤ 60000 ∧ ∃ m, m < j ∧ b.1 = nI m ∧ p_bv T n d m = k ∧ (nI m = T 6 n d ∨ ((∀ m', m' < m → p_bv T n d m' ≠ k) ∧ ∀ m', m' < j → nI m' = T 6 n d → p_bv T n d m' ≠ k))))
theorem p_bI_step {o : Nat → Nat} {T : pT} (h : p_IT o T) {n d j : Nat} (hn : n < 12) (hd : d < 12) (hj : j < 12) {b : Int32 × Int32} (hb : p_bI T n d j b) : p_bI T n d (j + 1) (p_bst T n d j b) := by
  obtain ⟨k, e, hk, h1, h2⟩ := hb
  obtain ⟨ky, ey, q⟩ := p_by_n h hn hd hj
  have eb : p_bv T n d j = ky := by
    unfold p_bv
    rw [ey, nI_clamp (by rcases q with q | q <;> omega)]
  have same : k ≤ ky → (ky = k → k ≤ 60000 → ¬ nI j = T 6 n d) → p_bI T n d (j + 1) b := fun g1 g2 => by
    refine ⟨k, e, hk, ?_, ?_⟩
    · intro m hm
      by_cases c : m = j
      · subst c; rw [eb]; exact g1
      · exact h1 m (by omega)
    · rcases h2 with r | ⟨r1, m, r2, r3, r4, r5⟩
      · exact Or.inl r
      · refine Or.inr ⟨r1, m, by omega, r3, r4, ?_⟩
        rcases r5 with r5 | ⟨r5, r6⟩
        · exact Or.inl r5
        · refine Or.inr ⟨r5, ?_⟩
          intro m' hm' e6
          by_cases c : m' = j
          · subst c
            rw [eb]
            exact fun e7 => g2 e7 r1 e6
          · exact r6 m' (by omega) e6
  have less : ky ≤ 60000 → (ky < k ∨ (ky = k ∧ nI j = T 6 n d)) → p_bI T n d (j + 1) (nI j, nI ky) := fun g0 g1 => by
    refine ⟨ky, rfl, Or.inl g0, ?_, Or.inr ⟨g0, j, by omega, rfl, eb, ?_⟩⟩
    · intro m hm
      by_cases c : m = j
      · subst c; rw [eb]; exact Nat.le_refl _
      · have := h1 m (by omega)
        omega
    · by_cases c6 : nI j = T 6 n d
      · exact Or.inl c6
      · right
        have g2 : ky < k := g1.elim id (fun q => absurd q.2 c6)
        refine ⟨?_, ?_⟩
        · intro m' hm'
          have := h1 m' hm'
          omega
        · intro m' hm' e6
          by_cases c : m' = j
          · subst c; exact absurd e6 c6
          · have := h1 m' (by omega)
            omega
  unfold p_bst
  rcases q with ⟨q1, q2⟩ | ⟨q1, q2, q3, _⟩
  · rw [if_pos q2]
    exact same (by omega) (fun _ _ => by omega)
  · rw [if_neg q2, q3, e]
    by_cases c : nI ky < nI k ∨ (nI ky = nI k ∧ nI j = T 6 n d)
    · rw [if_pos c]
      refine less q1 ?_
      rw [nI_ltI (by omega) (by omega), nI_eq (by omega) (by omega)] at c
      exact c
    · rw [if_neg c]
      rw [nI_ltI (by omega) (by omega), nI_eq (by omega) (by omega)] at c
      refine same (by omega) (fun g1 g2 g3 => c (Or.inr ⟨g1, g3⟩))
theorem p_bI_end {o : Nat → Nat} {T : pT} (h : p_IT o T) {n d : Nat} (hn : n < 12) (hd : d < 12) : p_bI T n d 12 (p_up (p_bst T n d) 12 0 (-1, 65535)) :=
  p_up_inv (fun j b => p_bI T n d j b) (p_bst T n d) 12 (fun j b hj hb => p_bI_step h hn hd hj hb) 12 0 (-1, 65535) rfl ⟨65535, rfl, Or.inr rfl, fun m hm => absurd hm (by omega), Or.inl ⟨rfl, rfl⟩⟩
/-- the best neighbour, in short -/
theorem p_best_n {o : Nat → Nat} {T : pT} (h : p_IT o T) {n d : Nat} (hn : n < 12) (hd : d < 12) : ∃ k, (k ≤ 60000 ∨ k = 65535) ∧ (∀ m, m < 12 → k ≤ p_bv T n d m) ∧ ((k = 65535 ∧ p_best T n d = -1) ∨ (k ≤ 60000 ∧ ∃ m, m < 12 ∧ p_best T n d = nI m ∧ p_bv T n d m = k ∧ (nI m = T 6 n d ∨ ((∀ m', m' < m → p_bv T n d m' ≠ k) ∧ ∀ m', m' < 12 → nI m' = T 6 n d → p_bv T n d m' ≠ k)))) := by
  obtain ⟨k, e, h1, h2, h3⟩ := p_bI_end h hn hd
  exact ⟨k, h1, h2, h3⟩
/-- what is chosen -/
theorem p_best_w {o : Nat → Nat} {T : pT} (h : p_IT o T) {n d : Nat} (hn : n < 12) (hd : d < 12) : (p_best T n d = -1 ∧ p_bn T n d (p_best T n d) = -1 ∧ p_bm T n d (p_best T n d) = -1 ∧ ∀ m, m < 12 → p_bv T n d m = 65535) ∨ ∃ m a w c, m < 12 ∧ a ≤ o d ∧ c ≤ 1000 ∧ w + c ≤ 60000 ∧ p_best T n d = nI m ∧ p_bn T n d (p_best T n d) = nI a ∧ p_bm T n d (p_best T n d) = nI (w + c) ∧ T (11 + m) n d = nI a ∧ T (24 + m) n d = nI w ∧ T 3 n m = nI c ∧ p_gd T n d (nI a) (nI w) = true ∧ p_bv T n d m = w + c ∧ T 3 n m ≠ 0 := by
  obtain ⟨k, hk, h1, h2⟩ := p_best_n h hn hd
  rcases h2 with ⟨e1, e2⟩ | ⟨e1, m, hm, e2, e3, e4⟩
  · left
    refine ⟨e2, by unfold p_bn; rw [if_pos e2], by unfold p_bm; rw [if_pos e2], ?_⟩
    intro m hm
    have := h1 m hm
    have := (p_bv_n h hn hd hm).2
    omega
  · right
    obtain ⟨ky, ey, q⟩ := p_by_n h hn hd hm
    have eb : p_bv T n d m = ky := by
      unfold p_bv
      rw [ey, nI_clamp (by rcases q with q | q <;> omega)]
    rcases q with ⟨q1, q2⟩ | ⟨q1, q2, q3, a, w, c, ha, hc, g1, g2, g3, g4⟩
    · omega
    · have hne : ¬ p_best T n d = -1 := by rw [e2]; exact nI_m1ne (by omega)
      refine ⟨m, a, w, c, hm, ha, hc, by omega, e2, ?_, ?_, g1, g2, g3, ?_, by omega, ?_⟩
      · unfold p_bn
        rw [if_neg hne, e2, nI_clamp (by omega), g1]
      · unfold p_bm
        rw [if_neg hne, e2, nI_clamp (by omega), g2, g3, nI_add]
      · rw [← g1, ← g2]
        cases e : p_gd T n d (T (11 + m) n d) (T (24 + m) n d) with
        | true => rfl
        | false => exact absurd (Or.inr (Or.inr e)) q2
      · obtain ⟨_, _, _, _, _, _, _, h8, h9⟩ := h
        rcases h8 n m d hn hm hd with ⟨f1, f2⟩ | ⟨_, _, _, _, _, _, f⟩
        · exact absurd (Or.inl f1) q2
        · exact f
theorem p_I_take {o : Nat → Nat} {T : pT} (h : p_IT o T) {n d : Nat} (hn : n < 12) (hd : d < 12) (hnd : n ≠ d) : p_IT o (p_take T n d (p_best T n d)) := by
  unfold p_take
  refine p_IT678 h hnd ?_
  rcases p_best_w h hn hd with ⟨e1, e2, e3, _⟩ | ⟨m, a, w, c, hm, ha, hc, hw, e1, e2, e3, _⟩
  · exact Or.inl ⟨e1, e2, e3⟩
  · exact Or.inr ⟨m, a, w + c, hm, ha, hw, e1, e2, e3⟩
theorem p_I_choose {o : Nat → Nat} {A : pA} (h : p_I o A) {n d : Nat} (hn : n < 12) (hd : d < 12) (hnd : n ≠ d) : p_I o (p_choose n d A) := by
  unfold p_choose
  split
  · exact h
  · unfold p_lost
    have h0 : p_IT o (p_take A.1 n d (p_best A.1 n d)) := p_I_take h.1 hn hd hnd
    generalize p_take A.1 n d (p_best A.1 n d) = T0 at h0
    have h1 : p_I o (T0, A.2) := And.intro h0 h.2
    have h2 := p_I_tellAll h1 hn hd
    split
    · exact p_I_ask h2 hn hd
    · exact h2
theorem p_I_chAll {o : Nat → Nat} {A : pA} (h : p_I o A) {n : Nat} (hn : n < 12) : p_I o (p_chAll n A) :=
  p_up_inv (fun _ A => p_I o A) _ 12 (fun d A hd hA => by
    split
    · exact hA
    · rename_i c
      exact p_I_choose hA hn hd (fun e => c e.symm)) 12 0 A rfl h
