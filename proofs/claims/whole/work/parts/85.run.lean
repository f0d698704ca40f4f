/-! ===== within one run: what a node has told with the number g = (own number at the run's start) + 1 it never loses; so no request for g + 1 arises ===== -/
def p_pw (d g : Nat) (x y : pL) : Prop := ¬ (x 0 = 1 ∧ x 3 = nI d ∧ x 4 = nI g ∧ y 0 = 1 ∧ y 3 = nI d ∧ y 5 = 65535 ∧ x 1 = y 1 ∧ x 2 = y 2)
def p_J (d g K : Nat) (A : pA) : Prop :=
  (∀ l, l ∈ A.2 → l 0 = 2 → l 3 = nI d → ∃ a, a ≤ g ∧ l 4 = nI a) ∧
  (∀ a, a < 12 → a ≠ d → A.1 4 a d = nI g → ∃ b m c v, b < 12 ∧ 1 ≤ c ∧ c ≤ 1000 ∧ m < v ∧ v ≤ 2000 * K ∧ A.1 6 a d = nI b ∧ A.1 7 a d = nI g ∧ A.1 8 a d = nI (m + c) ∧ A.1 (11 + b) a d = nI g ∧ A.1 (24 + b) a d = nI m ∧ A.1 3 a b = nI c ∧ A.1 5 a d = nI v) ∧
  (∀ a, a < 12 → a ≠ d → A.1 7 a d = nI g → A.1 4 a d = nI g) ∧
  (∀ a b, a < 12 → b < 12 → A.1 (11 + b) a d = nI g → (b = d ∨ A.1 4 b d = nI g) ∧ (∃ v, v ≤ 2000 * K + 1000 ∧ A.1 (24 + b) a d = nI v) ∧ ∀ l, l ∈ A.2 → l 0 = 1 → l 1 = nI b → l 2 = nI a → l 3 = nI d → l 5 ≠ 65535) ∧
  (∀ l, l ∈ A.2 → l 0 = 1 → l 3 = nI d → l 4 = nI g → (l 1 = nI d ∨ ∃ b, b < 12 ∧ l 1 = nI b ∧ A.1 4 b d = nI g) ∧ ∃ v, v ≤ 2000 * K + 1000 ∧ l 5 = nI v) ∧
  A.2.Pairwise (p_pw d g)
theorem p_J_col {d g K : Nat} {T T' : pT} {L : List pL} (h : p_J d g K (T, L)) (e : ∀ j a, j ≠ 1 → j ≠ 9 → (j = 7 → a ≠ d) → T' j a d = T j a d) (e3 : ∀ a b, T' 3 a b = T 3 a b) : p_J d g K (T', L) := by
  obtain ⟨h1, h2, h3, h4, h5, h6⟩ := h
  have e4 : ∀ a, T' 4 a d = T 4 a d := fun a => e 4 a (by decide) (by decide) (by omega)
  refine ⟨h1, ?_, ?_, ?_, ?_, h6⟩
  · intro a ha hd q
    have q' : T' 4 a d = nI g := q
    rw [e4] at q'
    obtain ⟨b, m, c, v, g0, g1, g2, g3, g4, f1, f2, f3, f4, f5, f6, f7⟩ := h2 a ha hd q'
    refine ⟨b, m, c, v, g0, g1, g2, g3, g4, ?_, ?_, ?_, ?_, ?_, ?_, ?_⟩
    · show T' 6 a d = _; rw [e _ _ (by decide) (by decide) (by omega)]; exact f1
    · show T' 7 a d = _; rw [e _ _ (by decide) (by decide) (fun _ => hd)]; exact f2
    · show T' 8 a d = _; rw [e _ _ (by decide) (by decide) (by omega)]; exact f3
    · show T' (11 + b) a d = _; rw [e _ _ (by omega) (by omega) (by omega)]; exact f4
    · show T' (24 + b) a d = _; rw [e _ _ (by omega) (by omega) (by omega)]; exact f5
    · show T' 3 a b = _; rw [e3]; exact f6
    · show T' 5 a d = _; rw [e _ _ (by decide) (by decide) (by omega)]; exact f7
  · intro a ha hd q
    have q' : T' 7 a d = nI g := q
    rw [e _ _ (by decide) (by decide) (fun _ => hd)] at q'
    show T' 4 a d = _
    rw [e4]
    exact h3 a ha hd q'
  · intro a b ha hb q
    have q' : T' (11 + b) a d = nI g := q
    rw [e _ _ (by omega) (by omega) (by omega)] at q'
    obtain ⟨f1, f2, f3⟩ := h4 a b ha hb q'
    refine ⟨?_, ?_, f3⟩
    · show b = d ∨ T' 4 b d = nI g; rw [e4]; exact f1
    · show ∃ v, v ≤ 2000 * K + 1000 ∧ T' (24 + b) a d = nI v
      rw [e _ _ (by omega) (by omega) (by omega)]; exact f2
  · intro l hl q0 q3 q4
    obtain ⟨f1, f2⟩ := h5 l hl q0 q3 q4
    refine ⟨?_, f2⟩
    rcases f1 with f1 | ⟨b, hb, r1, r2⟩
    · exact Or.inl f1
    · exact Or.inr ⟨b, hb, r1, by show T' 4 b d = _; rw [e4]; exact r2⟩
theorem p_J_sub {d g K : Nat} {T : pT} {L L' : List pL} (h : p_J d g K (T, L)) (s : L'.Sublist L) : p_J d g K (T, L') := by
  obtain ⟨h1, h2, h3, h4, h5, h6⟩ := h
  refine ⟨fun l hl => h1 l (s.subset hl), h2, h3, ?_, fun l hl => h5 l (s.subset hl), h6.sublist s⟩
  intro a b ha hb q
  obtain ⟨f1, f2, f3⟩ := h4 a b ha hb q
  exact ⟨f1, f2, fun l hl => f3 l (s.subset hl)⟩
def p_okL (d g K : Nat) (T : pT) (l : pL) : Prop :=
  (l 0 = 2 → l 3 = nI d → ∃ a, a ≤ g ∧ l 4 = nI a) ∧ (l 0 = 1 → l 3 = nI d → (l 4 = nI g → (l 1 = nI d ∨ ∃ b, b < 12 ∧ l 1 = nI b ∧ T 4 b d = nI g) ∧ ∃ v, v ≤ 2000 * K + 1000 ∧ l 5 = nI v) ∧ (l 5 = 65535 → ∃ b, b < 12 ∧ l 1 = nI b ∧ b ≠ d ∧ T 4 b d ≠ nI g))
theorem p_J_snd {d g K : Nat} {A : pA} (hd : d < 12) (h : p_J d g K A) {l : pL} (ok : p_okL d g K A.1 l) : p_J d g K (p_snd l A) := by
  have col : p_J d g K ((p_snd l A).1, A.2) := p_J_col (T := A.1) h (fun j a h1 _ _ => p_snd_T l A h1) (fun a b => p_snd_T l A (by decide))
  have t4 : ∀ a, (p_snd l A).1 4 a d = A.1 4 a d := fun a => p_snd_T l A (by decide)
  have e2 : (p_snd l A).2 = A.2 ++ [l] ∨ (p_snd l A).2 = A.2 := by
    unfold p_snd
    split
    · exact Or.inl rfl
    · exact Or.inr rfl
  generalize p_snd l A = B at col t4 e2
  obtain ⟨T', L'⟩ := B
  rcases e2 with e2 | e2
  · have e2 : L' = A.2 ++ [l] := e2
    have t4 : ∀ a, T' 4 a d = A.1 4 a d := t4
    have col : p_J d g K (T', A.2) := col
    subst e2
    obtain ⟨h1, h2, h3, h4, h5, h6⟩ := col
    have mem : ∀ x, x ∈ A.2 ++ [l] → x ∈ A.2 ∨ x = l := fun x hx => by
      rcases List.mem_append.mp hx with q | q
      · exact Or.inl q
      · exact Or.inr (List.mem_singleton.mp q)
    have inj : ∀ b b', b < 12 → b' < 12 → nI b = nI b' → b = b' := fun b b' hb hb' e => (nI_eq (by omega) (by omega)).mp e
    refine ⟨?_, h2, h3, ?_, ?_, ?_⟩
    · intro x hx q0 q3
      rcases mem x hx with q | q
      · exact h1 x q q0 q3
      · subst q; exact ok.1 q0 q3
    · intro a b ha hb q
      obtain ⟨f1, f2, f3⟩ := h4 a b ha hb q
      refine ⟨f1, f2, ?_⟩
      intro x hx q0 q1 q2 q3
      rcases mem x hx with r | r
      · exact f3 x r q0 q1 q2 q3
      · subst r
        intro q5
        obtain ⟨b', hb', r1, r2, r3⟩ := (ok.2 q0 q3).2 q5
        have : b' = b := inj b' b hb' hb (r1.symm.trans q1)
        subst this
        rcases f1 with f1 | f1
        · exact r2 f1
        · exact r3 ((t4 b').symm.trans f1)
    · intro x hx q0 q3 q4
      rcases mem x hx with r | r
      · exact h5 x r q0 q3 q4
      · subst r
        obtain ⟨f1, f2⟩ := (ok.2 q0 q3).1 q4
        refine ⟨?_, f2⟩
        rcases f1 with f1 | ⟨b, hb, r1, r2⟩
        · exact Or.inl f1
        · exact Or.inr ⟨b, hb, r1, (t4 b).trans r2⟩
    · refine List.pairwise_append.mpr ⟨h6, List.pairwise_singleton _ _, ?_⟩
      intro x hx y hy
      rw [List.mem_singleton] at hy
      subst hy
      intro ⟨x0, x3, x4, y0, y3, y5, xy1, xy2⟩
      obtain ⟨b', hb', r1, r2, r3⟩ := (ok.2 y0 y3).2 y5
      obtain ⟨f1, _⟩ := h5 x hx x0 x3 x4
      rcases f1 with f1 | ⟨b, hb, f1, f2⟩
      · exact r2 (inj b' d hb' hd (r1.symm.trans (xy1.symm.trans f1)))
      · have : b' = b := inj b' b hb' hb (r1.symm.trans (xy1.symm.trans f1))
        subst this
        exact r3 ((t4 b').symm.trans f2)
  · have e2 : L' = A.2 := e2
    subst e2
    exact col
theorem p_mk_3 (k a b d x v : Int32) : p_mk k a b d x v 3 = d := rfl
theorem p_ok_o {d g K e : Nat} (hd : d < 12) (he : e < 12) (hne : e ≠ d) (T : pT) (k a b x v : Int32) : p_okL d g K T (p_mk k a b (nI e) x v) := by
  have n3 : ¬ p_mk k a b (nI e) x v 3 = nI d := fun q => hne ((nI_eq (by omega) (by omega)).mp q)
  exact ⟨fun _ q => absurd q n3, fun _ q => absurd q n3⟩
theorem p_J_tell_o {d g K : Nat} {A : pA} (hd : d < 12) (h : p_J d g K A) {n m e : Nat} (he : e < 12) (hne : e ≠ d) : p_J d g K (p_tell n m e A) := by
  unfold p_tell
  split
  · exact p_J_snd hd h (p_ok_o hd he hne _ _ _ _ _ _)
  · refine p_J_snd hd ?_ (p_ok_o hd he hne _ _ _ _ _ _)
    split
    · refine p_J_col (T := A.1) h (fun j a _ _ _ => ?_) (fun a b => ?_)
      · rw [p_st_at, if_neg (by omega), p_st_at, if_neg (by omega)]
      · rw [p_st_at, if_neg (by omega), p_st_at, if_neg (by omega)]
    · exact h
theorem p_J_tellAll_o {d g K : Nat} {A : pA} (hd : d < 12) (h : p_J d g K A) {n e : Nat} (he : e < 12) (hne : e ≠ d) : p_J d g K (p_tellAll n e A) :=
  p_up_inv (fun _ A => p_J d g K A) (fun m A => if A.1 3 n m = 0 then A else p_tell n m e A) 12 (fun m A hm hA => by
    split
    · exact hA
    · exact p_J_tell_o hd hA he hne) 12 0 A rfl h
theorem p_J_req_o {d g K : Nat} {A : pA} (hd : d < 12) (h : p_J d g K A) {n e : Nat} (he : e < 12) (hne : e ≠ d) (ex x s : Int32) : p_J d g K (p_req n ex e x s A) :=
  p_up_inv (fun _ A => p_J d g K A) (fun m A => if nI m = ex ∨ A.1 3 n m = 0 then A else p_snd (p_mk 2 (nI n) (nI m) (nI e) x s) A) 12 (fun m A hm hA => by
    split
    · exact hA
    · exact p_J_snd hd hA (p_ok_o hd he hne _ _ _ _ _ _)) 12 0 A rfl h
theorem p_J_choose_o {d g K : Nat} {A : pA} (hd : d < 12) (h : p_J d g K A) {n e : Nat} (he : e < 12) (hne : e ≠ d) : p_J d g K (p_choose n e A) := by
  unfold p_choose
  split
  · exact h
  · have h1 : p_J d g K (p_take A.1 n e (p_best A.1 n e), A.2) := by
      refine p_J_col (T := A.1) h (fun j a _ _ _ => ?_) (fun a b => ?_)
      · unfold p_take
        rw [p_st_at, if_neg (by omega), p_st_at, if_neg (by omega), p_st_at, if_neg (by omega)]
      · unfold p_take
        rw [p_st_at, if_neg (by omega), p_st_at, if_neg (by omega), p_st_at, if_neg (by omega)]
    generalize (p_take A.1 n e (p_best A.1 n e), A.2) = B at h1
    have h2 := p_J_tellAll_o (n := n) hd h1 he hne
    unfold p_lost
    split
    · exact p_J_req_o hd h2 he hne _ _ _
    · exact h2
theorem p_J_req {d g K : Nat} {A : pA} (hd : d < 12) (h : p_J d g K A) {n a : Nat} (ha : a ≤ g) (ex s : Int32) : p_J d g K (p_req n ex d (nI a) s A) :=
  p_up_inv (fun _ A => p_J d g K A) (fun m A => if nI m = ex ∨ A.1 3 n m = 0 then A else p_snd (p_mk 2 (nI n) (nI m) (nI d) (nI a) s) A) 12 (fun m A hm hA => by
    split
    · exact hA
    · refine p_J_snd hd hA ⟨fun _ _ => ⟨a, ha, rfl⟩, fun q => absurd q (by show ¬ (2 : Int32) = 1; decide)⟩) 12 0 A rfl h
