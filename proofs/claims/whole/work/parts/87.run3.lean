/-! the run's invariant while node n's way is not yet chosen anew -/
def p_Jn (d g K n : Nat) (A : pA) : Prop :=
  (∀ l, l ∈ A.2 → l 0 = 2 → l 3 = nI d → ∃ a, a ≤ g ∧ l 4 = nI a) ∧
  (∀ a, a < 12 → a ≠ d → A.1 4 a d = nI g → ∃ b m c v, b < 12 ∧ 1 ≤ c ∧ c ≤ 1000 ∧ m < v ∧ v ≤ 2000 * K ∧ A.1 (11 + b) a d = nI g ∧ A.1 (24 + b) a d = nI m ∧ A.1 3 a b = nI c ∧ A.1 5 a d = nI v ∧ (a ≠ n → A.1 6 a d = nI b ∧ A.1 7 a d = nI g ∧ A.1 8 a d = nI (m + c))) ∧
  (∀ a, a < 12 → a ≠ d → A.1 7 a d = nI g → A.1 4 a d = nI g) ∧
  (∀ a b, a < 12 → b < 12 → A.1 (11 + b) a d = nI g → (b = d ∨ A.1 4 b d = nI g) ∧ (∃ v, v ≤ 2000 * K + 1000 ∧ A.1 (24 + b) a d = nI v) ∧ ∀ l, l ∈ A.2 → l 0 = 1 → l 1 = nI b → l 2 = nI a → l 3 = nI d → l 5 ≠ 65535) ∧
  (∀ l, l ∈ A.2 → l 0 = 1 → l 3 = nI d → l 4 = nI g → (l 1 = nI d ∨ ∃ b, b < 12 ∧ l 1 = nI b ∧ A.1 4 b d = nI g) ∧ ∃ v, v ≤ 2000 * K + 1000 ∧ l 5 = nI v) ∧
  A.2.Pairwise (p_pw d g)
theorem p_Jn_of {d g K : Nat} {A : pA} (h : p_J d g K A) (n : Nat) : p_Jn d g K n A := by
  obtain ⟨h1, h2, h3, h4, h5, h6⟩ := h
  refine ⟨h1, ?_, h3, h4, h5, h6⟩
  intro a ha hd q
  obtain ⟨b, m, c', v, g0, g1, g2, g3, g4, f1, f2, f3, f4, f5, f6, f7⟩ := h2 a ha hd q
  exact ⟨b, m, c', v, g0, g1, g2, g3, g4, f4, f5, f6, f7, fun _ => ⟨f1, f2, f3⟩⟩
/-- node n takes a way (tables 6, 7, 8, perhaps its bound): the invariant stands again -/
theorem p_Jn_node {d g K K' n : Nat} {T T' : pT} {L : List pL} (h : p_Jn d g K n (T, L)) (e : ∀ j a, (a ≠ n ∨ j = 3 ∨ 11 ≤ j) → T' j a d = T j a d) (e3 : ∀ a b, T' 3 a b = T 3 a b) (mono : T 4 n d = nI g → T' 4 n d = nI g) (hK : K ≤ K')
    (j2 : T' 4 n d = nI g → ∃ b m c v, b < 12 ∧ 1 ≤ c ∧ c ≤ 1000 ∧ m < v ∧ v ≤ 2000 * K' ∧ T' 6 n d = nI b ∧ T' 7 n d = nI g ∧ T' 8 n d = nI (m + c) ∧ T' (11 + b) n d = nI g ∧ T' (24 + b) n d = nI m ∧ T' 3 n b = nI c ∧ T' 5 n d = nI v) (j3 : T' 7 n d = nI g → T' 4 n d = nI g) : p_J d g K' (T', L) := by
  obtain ⟨h1, h2, h3, h4, h5, h6⟩ := h
  have m4 : ∀ a, T 4 a d = nI g → T' 4 a d = nI g := fun a q => by
    by_cases c : a = n
    · subst c; exact mono q
    · rw [e _ _ (Or.inl c)]; exact q
  refine ⟨h1, ?_, ?_, ?_, ?_, h6⟩
  · intro a ha hd q
    by_cases c : a = n
    · subst c; exact j2 q
    · have q' : T' 4 a d = nI g := q
      rw [e _ _ (Or.inl c)] at q'
      obtain ⟨b, m, c', v, g0, g1, g2, g3, g4, f4, f5, f6, f7, ff⟩ := h2 a ha hd q'
      obtain ⟨f1, f2, f3⟩ := ff c
      refine ⟨b, m, c', v, g0, g1, g2, g3, by omega, ?_, ?_, ?_, ?_, ?_, ?_, ?_⟩
      · show T' 6 a d = _; rw [e _ _ (Or.inl c)]; exact f1
      · show T' 7 a d = _; rw [e _ _ (Or.inl c)]; exact f2
      · show T' 8 a d = _; rw [e _ _ (Or.inl c)]; exact f3
      · show T' (11 + b) a d = _; rw [e _ _ (Or.inl c)]; exact f4
      · show T' (24 + b) a d = _; rw [e _ _ (Or.inl c)]; exact f5
      · show T' 3 a b = _; rw [e3]; exact f6
      · show T' 5 a d = _; rw [e _ _ (Or.inl c)]; exact f7
  · intro a ha hd q
    by_cases c : a = n
    · subst c; exact j3 q
    · have q' : T' 7 a d = nI g := q
      rw [e _ _ (Or.inl c)] at q'
      exact m4 a (h3 a ha hd q')
  · intro a b ha hb q
    have q' : T' (11 + b) a d = nI g := q
    rw [e _ _ (Or.inr (Or.inr (by omega)))] at q'
    obtain ⟨f1, ⟨v, f2, f3⟩, f4⟩ := h4 a b ha hb q'
    refine ⟨f1.elim Or.inl (fun r => Or.inr (m4 b r)), ⟨v, by omega, ?_⟩, f4⟩
    show T' (24 + b) a d = _
    rw [e _ _ (Or.inr (Or.inr (by omega)))]
    exact f3
  · intro l hl q0 q3 q4
    obtain ⟨f1, ⟨v, f2, f3⟩⟩ := h5 l hl q0 q3 q4
    refine ⟨?_, v, by omega, f3⟩
    rcases f1 with f1 | ⟨b, hb, r1, r2⟩
    · exact Or.inl f1
    · exact Or.inr ⟨b, hb, r1, m4 b r2⟩
def p_JK (d g : Nat) (A : pA) : Prop := ∃ K, p_J d g K A ∧ K ≤ p_ct A.1 d g
theorem p_take_T {T : pT} {n d : Nat} {b : Int32} {j a e : Nat} (h : (j ≠ 6 ∧ j ≠ 7 ∧ j ≠ 8) ∨ a ≠ n ∨ e ≠ d) : p_take T n d b j a e = T j a e := by
  unfold p_take
  rw [p_st_at, if_neg (by omega), p_st_at, if_neg (by omega), p_st_at, if_neg (by omega)]
theorem p_take_6 {T : pT} {n d : Nat} {b : Int32} : p_take T n d b 6 n d = b := by
  unfold p_take
  rw [p_st_at, if_neg (by omega), p_st_at, if_neg (by omega), p_st_at, if_pos ⟨rfl, rfl, rfl⟩]
theorem p_take_7 {T : pT} {n d : Nat} {b : Int32} : p_take T n d b 7 n d = p_bn T n d b := by
  unfold p_take
  rw [p_st_at, if_neg (by omega), p_st_at, if_pos ⟨rfl, rfl, rfl⟩]
theorem p_take_8 {T : pT} {n d : Nat} {b : Int32} : p_take T n d b 8 n d = p_bm T n d b := by
  unfold p_take
  rw [p_st_at, if_pos ⟨rfl, rfl, rfl⟩]
theorem p_gd_lt {T : pT} {n d a w g v : Nat} (h4 : T 4 n d = nI g) (h5 : T 5 n d = nI v) (ha : a ≤ g) (hg : g ≤ 32001) (hv : v ≤ 60000) (hw : w ≤ 65535) (q : p_gd T n d (nI a) (nI w) = true) : a = g ∧ w < v := by
  unfold p_gd at q
  rw [h4, h5, p_nw_n (by omega) (by omega), decide_eq_false (nI_m1ne (n := g) (by omega)), decide_eq_false (show ¬ g < a by omega)] at q
  simp at q
  have q1 := (nI_eq (by omega) (by omega)).mp q.2.1
  have q2 := (nI_ltI (by omega) (by omega)).mp q.2.2
  exact ⟨q1, q2⟩
theorem p_gd_ge {T : pT} {n d w g v : Nat} (h4 : T 4 n d = nI g) (h5 : T 5 n d = nI v) (hg : g ≤ 32001) (hv : v ≤ 60000) (hw : w ≤ 60000) (q : w < v) : p_gd T n d (nI g) (nI w) = true := by
  unfold p_gd
  rw [h4, h5, decide_eq_false (show ¬ nI w = 65535 from fun r => by have := (nI_eq (a := w) (b := 65535) (by omega) (by decide)).mp r; omega), decide_eq_true (show nI g = nI g from rfl), decide_eq_false (nI_ge q (by omega))]
  simp
theorem p_J_choose {o : Nat → Nat} {d g K n : Nat} {A : pA} (hI : p_I o A) (hog : o d ≤ g) (hg : 1 ≤ g) (hg2 : g ≤ 32001) (hd : d < 12) (hn : n < 12) (hnd : n ≠ d) (h : p_Jn d g K n A) (hK : K ≤ p_ct A.1 d g) : p_JK d g (p_choose n d A) := by
  obtain ⟨i1, i2, i3, i4, i5, i6, i7, i8, i9⟩ := hI.1
  have n4d : ¬ A.1 4 d d = nI g := by
    rw [(i4 d hd).2.2.2]
    exact fun q => nI_m1ne (n := g) (by omega) q.symm
  have K11 : K ≤ 11 := Nat.le_trans hK (p_ct_le hd n4d)
  obtain ⟨h1, h2, h3, h4, h5, h6⟩ := h
  have h : p_Jn d g K n A := ⟨h1, h2, h3, h4, h5, h6⟩
  have et : ∀ j a, (a ≠ n ∨ j = 3 ∨ 11 ≤ j) → p_take A.1 n d (p_best A.1 n d) j a d = A.1 j a d := fun j a hj => p_take_T (by omega)
  have et3 : ∀ a b, p_take A.1 n d (p_best A.1 n d) 3 a b = A.1 3 a b := fun a b => p_take_T (by omega)
  have et4 : p_take A.1 n d (p_best A.1 n d) 4 n d = A.1 4 n d := p_take_T (by omega)
  have et5 : p_take A.1 n d (p_best A.1 n d) 5 n d = A.1 5 n d := p_take_T (by omega)
  have hI1 : p_I o (p_take A.1 n d (p_best A.1 n d), A.2) := And.intro (p_I_take hI.1 hn hd hnd) hI.2
  have mo1 : p_mo d g A.1 (p_take A.1 n d (p_best A.1 n d)) := fun a _ r => by rw [p_take_T (by omega)]; exact r
  have same : (A.1 6 n d = p_best A.1 n d ∧ A.1 7 n d = p_bn A.1 n d (p_best A.1 n d) ∧ A.1 8 n d = p_bm A.1 n d (p_best A.1 n d)) → (p_take A.1 n d (p_best A.1 n d), A.2) = A := fun c => by
    unfold p_take
    rw [← c.2.1, ← c.2.2, ← c.1]
    rw [p_st_id (T := A.1) (j := 6) rfl, p_st_id (T := A.1) (j := 7) rfl, p_st_id (T := A.1) (j := 8) rfl]
  -- with the bound as it is
  have plain : p_J d g K (p_take A.1 n d (p_best A.1 n d), A.2) → p_JK d g (p_choose n d A) := fun q => by
    unfold p_choose
    by_cases c : A.1 6 n d = p_best A.1 n d ∧ A.1 7 n d = p_bn A.1 n d (p_best A.1 n d) ∧ A.1 8 n d = p_bm A.1 n d (p_best A.1 n d)
    · rw [if_pos c]
      rw [same c] at q
      exact ⟨K, q, hK⟩
    · rw [if_neg c]
      have e6 : (p_take A.1 n d (p_best A.1 n d), A.2).1 6 n d = p_best A.1 n d := p_take_6
      have mo1' : p_mo d g A.1 (p_take A.1 n d (p_best A.1 n d), A.2).1 := mo1
      generalize (p_take A.1 n d (p_best A.1 n d), A.2) = B at q hI1 e6 mo1'
      obtain ⟨t1, t2⟩ := p_J_tellAll hI1 hg hg2 K11 hd q hn
      have tI := p_I_tellAll hI1 hn hd
      have t6 : (p_tellAll n d B).1 6 n d = p_best A.1 n d := by rw [p_tellAll_T n d B (by omega), e6]
      have mo2 : p_mo d g A.1 (p_tellAll n d B).1 := fun a ha r => t2 a ha (mo1' a ha r)
      generalize p_tellAll n d B = C at t1 tI t6 mo2
      unfold p_lost
      by_cases c6 : C.1 6 n d = -1
      · rw [if_pos c6]
        refine ⟨K, ?_, Nat.le_trans hK (p_ct_mo (fun a ha r => by rw [p_ask_T n d C (by decide)]; exact mo2 a ha r))⟩
        unfold p_ask
        rcases tI.1.2.2.2.2.1 n d hn hd with ⟨e1, e2⟩ | ⟨a, w, ha, hw, e1, e2⟩
        · rw [if_pos e1]
          exact p_J_req (a := 0) hd t1 (Nat.zero_le _) _ _
        · have an : a ≠ g := fun e => by
            rw [e] at e1
            obtain ⟨b, _, _, _, _, _, _, _, _, f1, _⟩ := t1.2.1 n hn hnd e1
            rw [c6] at f1
            exact nI_m1ne (n := b) (by omega) f1.symm
          rw [e1, if_neg (nI_m1ne (by omega)), nI_1, nx_m16 (by omega)]
          exact p_J_req (a := a + 1) hd t1 (by omega) _ _
      · rw [if_neg c6]
        exact ⟨K, t1, Nat.le_trans hK (p_ct_mo mo2)⟩
  rcases p_best_w hI.1 hn hd with ⟨e1, e2, e3, e4⟩ | ⟨m, a, w, c, hm, ha, hc, hw, e1, e2, e3, g1, g2, g3, gd, gb, g6⟩
  · -- no way
    have n4 : ¬ A.1 4 n d = nI g := fun q => by
      obtain ⟨b, m, c', v, g0, g1, g2, g3, g4, f4, f5, f6, f7, _⟩ := h2 n hn hnd q
      have eb := e4 b g0
      have es : A.1 (24 + b) n d + A.1 3 n b = nI (m + c') := by rw [f5, f6, nI_add]
      have eby : p_by A.1 n d b = nI (m + c') := by
        unfold p_by
        rw [if_neg, es]
        intro r
        rcases r with r | r | r
        · rw [f4] at r
          exact nI_m1ne (n := g) (by omega) r
        · rw [es] at r
          have := (nI_ltI (a := 60000) (b := m + c') (by decide) (by omega)).mp r
          omega
        · rw [f4, f5, p_gd_ge q f7 (by omega) (by omega) (by omega) g3] at r
          cases r
      unfold p_bv at eb
      rw [eby, nI_clamp (by omega)] at eb
      omega
    refine plain (p_Jn_node (T := A.1) h et et3 (fun q => absurd q n4) (Nat.le_refl _) (fun q => ?_) (fun q => ?_))
    · rw [et4] at q
      exact absurd q n4
    · rw [p_take_7, e2] at q
      exact absurd q.symm (nI_m1ne (by omega))
  · have c1 : 1 ≤ c := by
      rcases Nat.eq_zero_or_pos c with z | z
      · rw [z] at g3
        exact absurd g3 g6
      · exact z
    by_cases q4 : A.1 4 n d = nI g
    · obtain ⟨b, m', c', v, k0, k1, k2, k3, k4, f4, f5, f6, f7, _⟩ := h2 n hn hnd q4
      obtain ⟨ag, wv⟩ := p_gd_lt q4 f7 (by omega) (by omega) (by omega) (by omega) gd
      rw [ag] at e2 g1
      refine plain (p_Jn_node (T := A.1) h et et3 (fun q => by rw [et4]; exact q) (Nat.le_refl _) (fun q => ⟨m, w, c, v, hm, c1, hc, wv, k4, ?_, ?_, ?_, ?_, ?_, ?_, ?_⟩) (fun q => ?_))
      · rw [p_take_6]; exact e1
      · rw [p_take_7]; exact e2
      · rw [p_take_8]; exact e3
      · rw [et _ _ (by omega)]; exact g1
      · rw [et _ _ (by omega)]; exact g2
      · rw [et3]; exact g3
      · rw [et5]; exact f7
      · rw [et4]; exact q4
    · by_cases qa : a = g
      · -- the number g comes here for the first time
        subst qa
        have hc' : ¬ (A.1 6 n d = p_best A.1 n d ∧ A.1 7 n d = p_bn A.1 n d (p_best A.1 n d) ∧ A.1 8 n d = p_bm A.1 n d (p_best A.1 n d)) := fun q => q4 (h3 n hn hnd (q.2.1.trans e2))
        obtain ⟨_, ⟨v0, v1, v2⟩, _⟩ := h4 n m hn hm g1
        have wv : w ≤ 2000 * K + 1000 := by
          have := (nI_eq (by omega) (by omega)).mp (g2.symm.trans v2)
          omega
        unfold p_choose
        rw [if_neg hc']
        have t6 : p_take A.1 n d (p_best A.1 n d) 6 n d = nI m := p_take_6.trans e1
        have t7 : p_take A.1 n d (p_best A.1 n d) 7 n d = nI a := p_take_7.trans e2
        have t8 : p_take A.1 n d (p_best A.1 n d) 8 n d = nI (w + c) := p_take_8.trans e3
        generalize hT1 : p_take A.1 n d (p_best A.1 n d) = T1 at et et3 et4 et5 hI1 mo1 t6 t7 t8
        have t6' : ¬ (T1, A.2).1 6 n d = -1 := by
          show ¬ T1 6 n d = -1
          rw [t6]
          exact nI_m1ne (by omega)
        have n65 : ¬ nI (w + c) = 65535 := fun r => by
          have := (nI_eq (a := w + c) (b := 65535) (by omega) (by decide)).mp r
          omega
        have gd1 : p_gd T1 n d (T1 7 n d) (T1 8 n d) = true := by
          unfold p_gd
          rw [t7, t8, et4, decide_eq_false n65]
          rcases i5 n d hn hd with ⟨r1, _⟩ | ⟨x, _, hx, _, r1, _⟩
          · rw [decide_eq_true r1]; rfl
          · have : x ≠ a := fun e => q4 (by rw [r1, e])
            rw [r1, p_nw_n (by omega) (by omega), decide_eq_true (show x < a by omega)]
            simp
        have gd2 : p_gd (p_st (p_st T1 4 n d (T1 7 n d)) 5 n d (T1 8 n d)) n d (T1 7 n d) (T1 8 n d) = false := by
          unfold p_gd
          have x4 : p_st (p_st T1 4 n d (T1 7 n d)) 5 n d (T1 8 n d) 4 n d = nI a := by
            rw [p_st_at, if_neg (by omega), p_st_at, if_pos ⟨rfl, rfl, rfl⟩, t7]
          have x5 : p_st (p_st T1 4 n d (T1 7 n d)) 5 n d (T1 8 n d) 5 n d = nI (w + c) := by
            rw [p_st_at, if_pos ⟨rfl, rfl, rfl⟩, t8]
          rw [x4, x5, t7, t8, decide_eq_false (nI_m1ne (n := a) (by omega)), p_nw_n (by omega) (by omega), decide_eq_false (Nat.lt_irrefl a), decide_eq_true (show nI (w + c) ≤ nI (w + c) from nI_le (Nat.le_refl _) (by omega))]
          simp
        have eqs : p_tellAll n d (T1, A.2) = p_tellAll n d (p_st (p_st T1 4 n d (T1 7 n d)) 5 n d (T1 8 n d), A.2) := by
          unfold p_tellAll
          exact p_tellAll_set (A := (T1, A.2)) (fun e => hnd e.symm) t6' gd1 gd2 12 0 ⟨m, Nat.zero_le _, by omega, by show T1 3 n m ≠ 0; rw [et3]; exact g6⟩
        rw [eqs]
        have hI2 : p_I o (p_st (p_st T1 4 n d (T1 7 n d)) 5 n d (T1 8 n d), A.2) := And.intro (p_IT45 hI1.1 hnd (by rw [t7, t8]; exact Or.inr ⟨a, w + c, ha, hw, rfl, rfl⟩)) hI.2
        have y : ∀ j x e, (j ≠ 4 ∧ j ≠ 5) ∨ x ≠ n ∨ e ≠ d → p_st (p_st T1 4 n d (T1 7 n d)) 5 n d (T1 8 n d) j x e = T1 j x e := fun j x e hj => by rw [p_st_at, if_neg (by omega), p_st_at, if_neg (by omega)]
        have y4 : p_st (p_st T1 4 n d (T1 7 n d)) 5 n d (T1 8 n d) 4 n d = nI a := by
          rw [p_st_at, if_neg (by omega), p_st_at, if_pos ⟨rfl, rfl, rfl⟩, t7]
        have y5 : p_st (p_st T1 4 n d (T1 7 n d)) 5 n d (T1 8 n d) 5 n d = nI (w + c) := by
          rw [p_st_at, if_pos ⟨rfl, rfl, rfl⟩, t8]
        have hJ2 : p_J d a (K + 1) (p_st (p_st T1 4 n d (T1 7 n d)) 5 n d (T1 8 n d), A.2) := by
          refine p_Jn_node (T := A.1) h (fun j x hj => ?_) (fun x z => ?_) (fun q => absurd q q4) (by omega) (fun q => ⟨m, w, c, w + c, hm, c1, hc, by omega, by omega, ?_, ?_, ?_, ?_, ?_, ?_, y5⟩) (fun _ => y4)
          · rw [y _ _ _ (by omega)]; exact et j x hj
          · rw [y _ _ _ (by omega)]; exact et3 x z
          · rw [y _ _ _ (by omega)]; exact t6
          · rw [y _ _ _ (by omega)]; exact t7
          · rw [y _ _ _ (by omega)]; exact t8
          · rw [y _ _ _ (by omega), et _ _ (by omega)]; exact g1
          · rw [y _ _ _ (by omega), et _ _ (by omega)]; exact g2
          · rw [y _ _ _ (by omega), et3]; exact g3
        have mo2 : p_mo d a A.1 (p_st (p_st T1 4 n d (T1 7 n d)) 5 n d (T1 8 n d)) := fun x hx r => by
          by_cases cx : x = n
          · rw [cx]; exact y4
          · rw [y _ _ _ (by omega)]; exact mo1 x hx r
        have ct2 := p_ct_new mo2 hn q4 y4
        have n4d2 : ¬ p_st (p_st T1 4 n d (T1 7 n d)) 5 n d (T1 8 n d) 4 d d = nI a := by
          have z : p_st (p_st T1 4 n d (T1 7 n d)) 5 n d (T1 8 n d) 4 d d = -1 := (hI2.1.2.2.2.1 d hd).2.2.2
          exact fun q => nI_m1ne (n := a) (by omega) (q.symm.trans z)
        have K12 : K + 1 ≤ 11 := Nat.le_trans (by omega) (p_ct_le hd n4d2)
        have y6 : (p_st (p_st T1 4 n d (T1 7 n d)) 5 n d (T1 8 n d), A.2).1 6 n d = nI m := by
          show p_st (p_st T1 4 n d (T1 7 n d)) 5 n d (T1 8 n d) 6 n d = nI m
          rw [y _ _ _ (by omega)]; exact t6
        have ct2' : K + 1 ≤ p_ct (p_st (p_st T1 4 n d (T1 7 n d)) 5 n d (T1 8 n d), A.2).1 d a := by
          show K + 1 ≤ p_ct (p_st (p_st T1 4 n d (T1 7 n d)) 5 n d (T1 8 n d)) d a
          omega
        generalize (p_st (p_st T1 4 n d (T1 7 n d)) 5 n d (T1 8 n d), A.2) = B at hI2 hJ2 y6 ct2'
        obtain ⟨u1, u2⟩ := p_J_tellAll hI2 hg hg2 K12 hd hJ2 hn
        unfold p_lost
        rw [p_tellAll_T n d B (by omega), y6, if_neg (nI_m1ne (by omega))]
        exact ⟨K + 1, u1, Nat.le_trans ct2' (p_ct_mo u2)⟩
      · refine plain (p_Jn_node (T := A.1) h et et3 (fun q => absurd q q4) (Nat.le_refl _) (fun q => ?_) (fun q => ?_))
        · rw [et4] at q
          exact absurd q q4
        · rw [p_take_7, e2] at q
          exact absurd ((nI_eq (by omega) (by omega)).mp q) qa
