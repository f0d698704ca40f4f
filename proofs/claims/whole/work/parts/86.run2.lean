/-! the run's invariant under telling, choosing, hearing, requests -/
theorem p_J_node {d g K K' n : Nat} {T T' : pT} {L : List pL} (h : p_J d g K (T, L)) (e : ∀ j a, (a ≠ n ∨ j = 3 ∨ 11 ≤ j) → T' j a d = T j a d) (e3 : ∀ a b, T' 3 a b = T 3 a b) (mono : T 4 n d = nI g → T' 4 n d = nI g) (hK : K ≤ K')
    (j2 : T' 4 n d = nI g → ∃ b m c v, b < 12 ∧ 1 ≤ c ∧ c ≤ 1000 ∧ m < v ∧ v ≤ 2000 * K' ∧ T' 6 n d = nI b ∧ T' 7 n d = nI g ∧ T' 8 n d = nI (m + c) ∧ T' (11 + b) n d = nI g ∧ T' (24 + b) n d = nI m ∧ T' 3 n b = nI c ∧ T' 5 n d = nI v) (j3 : T' 7 n d = nI g → T' 4 n d = nI g) : p_J d g K' (T', L) := by
  obtain ⟨h1, h2, h3, h4, h5, h6⟩ := h
  have m4 : ∀ a, T 4 a d = nI g → T' 4 a d = nI g := fun a q => by
    by_cases c : a = n
    · subst c; exact mono q
    · rw [e _ _ (Or.inl c)]; exact q
  refine ⟨h1, ?_, ?_, ?_, ?_, h6⟩
  · intro a ha hd q
    by_cases c : a = n
    · subst c; exact j2 q
    · have q' : T' 4 a d = nI g := q
      rw [e _ _ (Or.inl c)] at q'
      obtain ⟨b, m, c', v, g0, g1, g2, g3, g4, f1, f2, f3, f4, f5, f6, f7⟩ := h2 a ha hd q'
      refine ⟨b, m, c', v, g0, g1, g2, g3, by omega, ?_, ?_, ?_, ?_, ?_, ?_, ?_⟩
      · show T' 6 a d = _; rw [e _ _ (Or.inl c)]; exact f1
      · show T' 7 a d = _; rw [e _ _ (Or.inl c)]; exact f2
      · show T' 8 a d = _; rw [e _ _ (Or.inl c)]; exact f3
      · show T' (11 + b) a d = _; rw [e _ _ (Or.inl c)]; exact f4
      · show T' (24 + b) a d = _; rw [e _ _ (Or.inl c)]; exact f5
      · show T' 3 a b = _; rw [e3]; exact f6
      · show T' 5 a d = _; rw [e _ _ (Or.inl c)]; exact f7
  · intro a ha hd q
    by_cases c : a = n
    · subst c; exact j3 q
    · have q' : T' 7 a d = nI g := q
      rw [e _ _ (Or.inl c)] at q'
      exact m4 a (h3 a ha hd q')
  · intro a b ha hb q
    have q' : T' (11 + b) a d = nI g := q
    rw [e _ _ (Or.inr (Or.inr (by omega)))] at q'
    obtain ⟨f1, ⟨v, f2, f3⟩, f4⟩ := h4 a b ha hb q'
    refine ⟨f1.elim Or.inl (fun r => Or.inr (m4 b r)), ⟨v, by omega, ?_⟩, f4⟩
    show T' (24 + b) a d = _
    rw [e _ _ (Or.inr (Or.inr (by omega)))]
    exact f3
  · intro l hl q0 q3 q4
    obtain ⟨f1, ⟨v, f2, f3⟩⟩ := h5 l hl q0 q3 q4
    refine ⟨?_, v, by omega, f3⟩
    rcases f1 with f1 | ⟨b, hb, r1, r2⟩
    · exact Or.inl f1
    · exact Or.inr ⟨b, hb, r1, m4 b r2⟩
def p_mo (d g : Nat) (T T' : pT) : Prop := ∀ a, a < 12 → T 4 a d = nI g → T' 4 a d = nI g
def p_ct (T : pT) (d g : Nat) : Nat := p_sm (fun a => if T 4 a d = nI g then 1 else 0) 12 0 0
theorem p_sm_le (f g : Nat → Nat) : ∀ k j a b, a ≤ b → (∀ m, j ≤ m → m < j + k → f m ≤ g m) → p_sm f k j a ≤ p_sm g k j b := by
  intro k
  induction k with
  | zero => intro j a b h _; exact h
  | succ k ih =>
    intro j a b h hm
    have := hm j (Nat.le_refl _) (by omega)
    exact ih (j + 1) (a + f j) (b + g j) (by omega) (fun m h1 h2 => hm m (by omega) (by omega))
theorem p_ct_mo {T T' : pT} {d g : Nat} (h : p_mo d g T T') : p_ct T d g ≤ p_ct T' d g :=
  p_sm_le _ _ 12 0 0 0 (Nat.le_refl _) (fun m _ hm => by
    by_cases c : T 4 m d = nI g
    · rw [if_pos c, if_pos (h m (by omega) c)]; exact Nat.le_refl _
    · rw [if_neg c]; exact Nat.zero_le _)
theorem p_ct_new {T T' : pT} {d g n : Nat} (h : p_mo d g T T') (hn : n < 12) (h1 : ¬ T 4 n d = nI g) (h2 : T' 4 n d = nI g) : p_ct T d g + 1 ≤ p_ct T' d g := by
  have u := p_sm_upd (fun a => if T 4 a d = nI g then 1 else 0) (fun a => if a = n then 1 else if T 4 a d = nI g then 1 else 0) n 12 0 0 (Nat.zero_le _) (by omega) (fun m _ _ hm => by rw [if_neg hm])
  rw [if_neg h1, if_pos rfl] at u
  have l := p_sm_le (fun a => if a = n then 1 else if T 4 a d = nI g then 1 else 0) (fun a => if T' 4 a d = nI g then 1 else 0) 12 0 0 0 (Nat.le_refl _) (fun m _ hm => by
    by_cases c0 : m = n
    · rw [if_pos c0, c0, if_pos h2]; exact Nat.le_refl _
    · rw [if_neg c0]
      by_cases c : T 4 m d = nI g
      · rw [if_pos c, if_pos (h m (by omega) c)]; exact Nat.le_refl _
      · rw [if_neg c]; exact Nat.zero_le _)
  unfold p_ct
  omega
theorem p_ct_le {T : pT} {d g : Nat} (hd : d < 12) (h : ¬ T 4 d d = nI g) : p_ct T d g ≤ 11 := by
  have u := p_sm_upd (fun a => if T 4 a d = nI g then 1 else 0) (fun a => if a = d then 1 else if T 4 a d = nI g then 1 else 0) d 12 0 0 (Nat.zero_le _) (by omega) (fun m _ _ hm => by rw [if_neg hm])
  rw [if_neg h, if_pos rfl] at u
  have l := p_up_le2 (fun m x => x + (if m = d then 1 else if T 4 m d = nI g then 1 else 0)) 1 (fun j a => by
    split
    · omega
    · split <;> omega) 12 0 0
  unfold p_ct
  have l' : p_sm (fun a => if a = d then 1 else if T 4 a d = nI g then 1 else 0) 12 0 0 ≤ 12 := l
  omega
theorem p_J_tell {o : Nat → Nat} {d g K : Nat} {A : pA} (hI : p_I o A) (hg : 1 ≤ g) (hg2 : g ≤ 32001) (hK : K ≤ 11) (hd : d < 12) (h : p_J d g K A) {n m : Nat} (hn : n < 12) : p_J d g K (p_tell n m d A) ∧ p_mo d g A.1 (p_tell n m d A).1 := by
  obtain ⟨i1, i2, i3, i4, i5, i6, i7, i8, i9⟩ := hI.1
  have inj : ∀ a b, a ≤ 70000 → b ≤ 70000 → nI a = nI b → a = b := fun a b ha hb e => (nI_eq (by omega) (by omega)).mp e
  have od := i9 d hd
  obtain ⟨h1, h2, h3, h4, h5, h6⟩ := h
  have h : p_J d g K A := ⟨h1, h2, h3, h4, h5, h6⟩
  have mo1 : ∀ (l : pL) (B : pA), p_mo d g A.1 B.1 → p_mo d g A.1 (p_snd l B).1 := fun l B q a ha r => by rw [p_snd_T l B (by decide)]; exact q a ha r
  have mo0 : p_mo d g A.1 A.1 := fun a _ r => r
  unfold p_tell
  by_cases c : A.1 6 n d = -1
  · rw [if_pos c]
    have hnd : n ≠ d := fun e => by
      rw [e, (i4 d hd).1] at c
      exact nI_m1ne (by omega) c
    have n4 : ¬ A.1 4 n d = nI g := fun e => by
      obtain ⟨b, _, _, _, _, _, _, _, _, f1, _⟩ := h2 n hn hnd e
      rw [c] at f1
      exact nI_m1ne (n := b) (by omega) f1.symm
    refine ⟨p_J_snd hd h ⟨fun q => absurd q (by show ¬ (1 : Int32) = 2; decide), fun _ _ => ⟨fun q => ?_, fun _ => ⟨n, hn, rfl, hnd, n4⟩⟩⟩, mo1 _ _ mo0⟩
    have q' : (if A.1 4 n d = -1 then 0 else A.1 4 n d) = nI g := q
    by_cases c4 : A.1 4 n d = -1
    · rw [if_pos c4] at q'
      have := inj 0 g (by omega) (by omega) q'
      omega
    · rw [if_neg c4] at q'
      exact absurd q' n4
  · rw [if_neg c]
    by_cases c2 : d = n
    · rw [if_neg (show ¬ (d ≠ n ∧ p_gd A.1 n d (A.1 7 n d) (A.1 8 n d) = true) from fun q => q.1 c2)]
      subst c2
      refine ⟨p_J_snd hd h ⟨fun q => absurd q (by show ¬ (1 : Int32) = 2; decide), fun _ _ => ⟨fun q => ⟨Or.inl rfl, 0, Nat.zero_le _, (i4 d hd).2.2.1⟩, fun q => ?_⟩⟩, mo1 _ _ mo0⟩
      have q' : A.1 8 d d = 65535 := q
      rw [(i4 d hd).2.2.1] at q'
      exact absurd q' (by decide)
    · have hnd : n ≠ d := fun e => c2 e.symm
      rcases i6 n d hn hd hnd with ⟨e1, _, _⟩ | ⟨b0, a, w, hb0, ha, hw, e1, e2, e3⟩
      · exact absurd e1 c
      · have n65 : ¬ A.1 8 n d = 65535 := fun q => by
          rw [e3] at q
          have := inj w 65535 (by omega) (by omega) q
          omega
        by_cases c7 : A.1 7 n d = nI g
        · have t4 := h3 n hn hnd c7
          obtain ⟨b, mm, cc, v, g0, g1, g2, g3, g4, f1, f2, f3, f4, f5, f6, f7⟩ := h2 n hn hnd t4
          have lt : ∀ B : pA, B.1 4 n d = nI g → p_okL d g K B.1 (p_mk 1 (nI n) (nI m) (nI d) (A.1 7 n d) (A.1 8 n d)) := fun B hB => ⟨fun q => absurd q (by show ¬ (1 : Int32) = 2; decide), fun _ _ => ⟨fun _ => ⟨Or.inr ⟨n, hn, rfl, hB⟩, mm + cc, by omega, f3⟩, fun q => absurd q n65⟩⟩
          by_cases cg : d ≠ n ∧ p_gd A.1 n d (A.1 7 n d) (A.1 8 n d) = true
          · rw [if_pos cg]
            have good : mm + cc < v := by
              have q := cg.2
              unfold p_gd at q
              rw [c7, t4, f3, f7, p_nw_n (by omega) (by omega), decide_eq_false (nI_m1ne (n := g) (by omega)), decide_eq_false (Nat.lt_irrefl g)] at q
              simp at q
              exact (nI_ltI (by omega) (by omega)).mp q.2
            have hB : p_J d g K (p_st (p_st A.1 4 n d (A.1 7 n d)) 5 n d (A.1 8 n d), A.2) := by
              refine p_J_node (n := n) (T := A.1) h (fun j a' hj => ?_) (fun a' b' => ?_) (fun _ => ?_) (Nat.le_refl _) (fun _ => ⟨b, mm, cc, mm + cc, g0, g1, g2, by omega, by omega, ?_, ?_, ?_, ?_, ?_, ?_, ?_⟩) (fun _ => ?_)
              · rw [p_st_at, if_neg (by omega), p_st_at, if_neg (by omega)]
              · rw [p_st_at, if_neg (by omega), p_st_at, if_neg (by omega)]
              · rw [p_st_at, if_neg (by omega), p_st_at, if_pos ⟨rfl, rfl, rfl⟩]; exact c7
              · rw [p_st_at, if_neg (by omega), p_st_at, if_neg (by omega)]; exact f1
              · rw [p_st_at, if_neg (by omega), p_st_at, if_neg (by omega)]; exact f2
              · rw [p_st_at, if_neg (by omega), p_st_at, if_neg (by omega)]; exact f3
              · rw [p_st_at, if_neg (by omega), p_st_at, if_neg (by omega)]; exact f4
              · rw [p_st_at, if_neg (by omega), p_st_at, if_neg (by omega)]; exact f5
              · rw [p_st_at, if_neg (by omega), p_st_at, if_neg (by omega)]; exact f6
              · rw [p_st_at, if_pos ⟨rfl, rfl, rfl⟩]; exact f3
              · rw [p_st_at, if_neg (by omega), p_st_at, if_pos ⟨rfl, rfl, rfl⟩]; exact c7
            have h4B : p_st (p_st A.1 4 n d (A.1 7 n d)) 5 n d (A.1 8 n d) 4 n d = nI g := by
              rw [p_st_at, if_neg (by omega), p_st_at, if_pos ⟨rfl, rfl, rfl⟩]; exact c7
            refine ⟨p_J_snd hd hB (lt (_, A.2) h4B), mo1 _ _ (fun a' ha' r => ?_)⟩
            show p_st (p_st A.1 4 n d (A.1 7 n d)) 5 n d (A.1 8 n d) 4 a' d = nI g
            by_cases ca : a' = n
            · rw [ca]; exact h4B
            · rw [p_st_at, if_neg (by omega), p_st_at, if_neg (by omega)]; exact r
          · rw [if_neg cg]
            exact ⟨p_J_snd hd h (lt A t4), mo1 _ _ mo0⟩
        · have n4 : ¬ A.1 4 n d = nI g := fun e => by
            obtain ⟨_, _, _, _, _, _, _, _, _, _, f2, _⟩ := h2 n hn hnd e
            exact c7 f2
          have lt : ∀ B : pA, p_okL d g K B.1 (p_mk 1 (nI n) (nI m) (nI d) (A.1 7 n d) (A.1 8 n d)) := fun B => ⟨fun q => absurd q (by show ¬ (1 : Int32) = 2; decide), fun _ _ => ⟨fun q => absurd q c7, fun q => absurd q n65⟩⟩
          by_cases cg : d ≠ n ∧ p_gd A.1 n d (A.1 7 n d) (A.1 8 n d) = true
          · rw [if_pos cg]
            have n4B : ¬ p_st (p_st A.1 4 n d (A.1 7 n d)) 5 n d (A.1 8 n d) 4 n d = nI g := by
              rw [p_st_at, if_neg (by omega), p_st_at, if_pos ⟨rfl, rfl, rfl⟩]; exact c7
            have hB : p_J d g K (p_st (p_st A.1 4 n d (A.1 7 n d)) 5 n d (A.1 8 n d), A.2) := by
              refine p_J_node (n := n) (T := A.1) h (fun j a' hj => ?_) (fun a' b' => ?_) (fun r => absurd r n4) (Nat.le_refl _) (fun r => absurd r n4B) (fun r => ?_)
              · rw [p_st_at, if_neg (by omega), p_st_at, if_neg (by omega)]
              · rw [p_st_at, if_neg (by omega), p_st_at, if_neg (by omega)]
              · rw [p_st_at, if_neg (by omega), p_st_at, if_neg (by omega)] at r
                exact absurd r c7
            refine ⟨p_J_snd hd hB (lt (_, A.2)), mo1 _ _ (fun a' ha' r => ?_)⟩
            show p_st (p_st A.1 4 n d (A.1 7 n d)) 5 n d (A.1 8 n d) 4 a' d = nI g
            by_cases ca : a' = n
            · rw [ca] at r; exact absurd r n4
            · rw [p_st_at, if_neg (by omega), p_st_at, if_neg (by omega)]; exact r
          · rw [if_neg cg]
            exact ⟨p_J_snd hd h (lt A), mo1 _ _ mo0⟩
theorem p_J_tellAll {o : Nat → Nat} {d g K : Nat} {A : pA} (hI : p_I o A) (hg : 1 ≤ g) (hg2 : g ≤ 32001) (hK : K ≤ 11) (hd : d < 12) (h : p_J d g K A) {n : Nat} (hn : n < 12) : p_J d g K (p_tellAll n d A) ∧ p_mo d g A.1 (p_tellAll n d A).1 := by
  have := p_up_inv (fun _ B => p_J d g K B ∧ p_I o B ∧ p_mo d g A.1 B.1) (fun m A => if A.1 3 n m = 0 then A else p_tell n m d A) 12 (fun m B hm hB => by
    split
    · exact hB
    · obtain ⟨b1, b2, b3⟩ := hB
      obtain ⟨q1, q2⟩ := p_J_tell b2 hg hg2 hK hd b1 (m := m) hn
      exact ⟨q1, p_I_tell b2 hn hm hd, fun a ha r => q2 a ha (b3 a ha r)⟩) 12 0 A rfl ⟨h, hI, fun a _ r => r⟩
  exact ⟨this.1, this.2.2⟩
theorem p_tell_g {n m d : Nat} {A : pA} (hnd : d ≠ n) (h6 : ¬ A.1 6 n d = -1) (hgd : p_gd A.1 n d (A.1 7 n d) (A.1 8 n d) = true) : p_tell n m d A = p_snd (p_mk 1 (nI n) (nI m) (nI d) (A.1 7 n d) (A.1 8 n d)) (p_st (p_st A.1 4 n d (A.1 7 n d)) 5 n d (A.1 8 n d), A.2) := by
  unfold p_tell
  rw [if_neg h6, if_pos ⟨hnd, hgd⟩]
theorem p_tell_b {n m d : Nat} {A : pA} (h6 : ¬ A.1 6 n d = -1) (hgd : p_gd A.1 n d (A.1 7 n d) (A.1 8 n d) = false) : p_tell n m d A = p_snd (p_mk 1 (nI n) (nI m) (nI d) (A.1 7 n d) (A.1 8 n d)) A := by
  unfold p_tell
  rw [if_neg h6, if_neg (fun q => by rw [hgd] at q; exact absurd q.2 (by decide))]
theorem p_tellAll_set {n d : Nat} {A : pA} (hnd : d ≠ n) (h6 : ¬ A.1 6 n d = -1) (hgd : p_gd A.1 n d (A.1 7 n d) (A.1 8 n d) = true) (hgd' : p_gd (p_st (p_st A.1 4 n d (A.1 7 n d)) 5 n d (A.1 8 n d)) n d (A.1 7 n d) (A.1 8 n d) = false) : ∀ k j, (∃ m, j ≤ m ∧ m < j + k ∧ A.1 3 n m ≠ 0) → p_up (fun m A => if A.1 3 n m = 0 then A else p_tell n m d A) k j A = p_up (fun m A => if A.1 3 n m = 0 then A else p_tell n m d A) k j (p_st (p_st A.1 4 n d (A.1 7 n d)) 5 n d (A.1 8 n d), A.2) := by
  intro k
  induction k with
  | zero => intro j ⟨m, h1, h2, _⟩; omega
  | succ k ih =>
    intro j ⟨m, h1, h2, h3⟩
    have t : ∀ j', j' ≠ 4 → j' ≠ 5 → ∀ a b, p_st (p_st A.1 4 n d (A.1 7 n d)) 5 n d (A.1 8 n d) j' a b = A.1 j' a b := fun j' q4 q5 a b => by rw [p_st_at, if_neg (by omega), p_st_at, if_neg (by omega)]
    unfold p_up
    dsimp only
    have e3 := t 3 (by decide) (by decide) n j
    by_cases c : A.1 3 n j = 0
    · rw [if_pos c, if_pos (e3.trans c)]
      have mj : m ≠ j := fun e => h3 (by rw [e]; exact c)
      exact ih (j + 1) ⟨m, by omega, by omega, h3⟩
    · rw [if_neg c, if_neg (fun q => c (e3.symm.trans q))]
      have e : p_tell n j d A = p_tell n j d (p_st (p_st A.1 4 n d (A.1 7 n d)) 5 n d (A.1 8 n d), A.2) := by
        have t6 : ¬ (p_st (p_st A.1 4 n d (A.1 7 n d)) 5 n d (A.1 8 n d), A.2).1 6 n d = -1 := fun q => h6 ((t 6 (by decide) (by decide) n d).symm.trans q)
        have t7 : (p_st (p_st A.1 4 n d (A.1 7 n d)) 5 n d (A.1 8 n d), A.2).1 7 n d = A.1 7 n d := t 7 (by decide) (by decide) n d
        have t8 : (p_st (p_st A.1 4 n d (A.1 7 n d)) 5 n d (A.1 8 n d), A.2).1 8 n d = A.1 8 n d := t 8 (by decide) (by decide) n d
        rw [p_tell_g hnd h6 hgd, p_tell_b t6 (by rw [t7, t8]; exact hgd'), t7, t8]
      rw [e]
