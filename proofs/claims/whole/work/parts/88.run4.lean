/-! a letter handed over from the front of the row keeps the run's invariant -/
theorem p_J_told {o : Nat → Nat} {d g K n m x w : Nat} {T : pT} {l : pL} {L : List pL} (hI : p_IT o T) (hog : o d ≤ g) (hg2 : g ≤ 32001) (hK : K ≤ 11) (hd : d < 12) (hn : n < 12) (hm : m < 12) (hnd : n ≠ d) (hx : x ≤ o d) (hw : w ≤ 65535) (h : p_J d g K (T, l :: L)) (l0 : l 0 = 1) (l1 : l 1 = nI m) (l2 : l 2 = nI n) (l3 : l 3 = nI d) (l4 : l 4 = nI x) (l5 : l 5 = nI w) (hl : ¬ (T 6 n d = nI m ∧ nI w ≠ 65535 ∧ p_gd T n d (nI x) (nI w) = false)) : p_Jn d g K n (p_st (p_st T (11 + m) n d (nI x)) (24 + m) n d (nI w), L) := by
  obtain ⟨h1, h2, h3, h4, h5, h6⟩ := h
  have sub : ∀ y, y ∈ L → y ∈ l :: L := fun y hy => List.mem_cons_of_mem _ hy
  have hself : l ∈ l :: L := List.mem_cons_self
  have t : ∀ j a e, j < 11 ∨ (a ≠ n ∨ e ≠ d) ∨ (j ≠ 11 + m ∧ j ≠ 24 + m) → p_st (p_st T (11 + m) n d (nI x)) (24 + m) n d (nI w) j a e = T j a e := fun j a e hj => by rw [p_st_at, if_neg (by omega), p_st_at, if_neg (by omega)]
  have tx : p_st (p_st T (11 + m) n d (nI x)) (24 + m) n d (nI w) (11 + m) n d = nI x := by
    rw [p_st_at, if_neg (by omega), p_st_at, if_pos ⟨rfl, rfl, rfl⟩]
  have tw : p_st (p_st T (11 + m) n d (nI x)) (24 + m) n d (nI w) (24 + m) n d = nI w := by
    rw [p_st_at, if_pos ⟨rfl, rfl, rfl⟩]
  generalize hT' : p_st (p_st T (11 + m) n d (nI x)) (24 + m) n d (nI w) = T' at t tx tw
  refine ⟨fun y hy => h1 y (sub y hy), ?_, ?_, ?_, ?_, (List.pairwise_cons.mp h6).2⟩
  · intro a ha had q
    have q' : T' 4 a d = nI g := q
    rw [t _ _ _ (by omega)] at q'
    obtain ⟨b, m', c', v, g0, g1, g2, g3, g4, f1, f2, f3, f4, f5, f6, f7⟩ := h2 a ha had q'
    by_cases ca : a = n ∧ b = m
    · obtain ⟨ca1, ca2⟩ := ca
      subst ca1 ca2
      have f1' : T 6 a d = nI b := f1
      have f4' : T (11 + b) a d = nI g := f4
      have f7' : T 5 a d = nI v := f7
      have n65 : nI w ≠ 65535 := fun e => (h4 a b ha hm f4').2.2 l hself l0 l1 l2 l3 (by rw [l5]; exact e)
      have gd : p_gd T a d (nI x) (nI w) = true := by
        cases e : p_gd T a d (nI x) (nI w) with
        | true => rfl
        | false => exact absurd ⟨f1', n65, e⟩ hl
      obtain ⟨xg, wv⟩ := p_gd_lt q' f7' (by omega) (by omega) (by omega) hw gd
      refine ⟨b, w, c', v, g0, g1, g2, wv, g4, ?_, ?_, ?_, ?_, fun r => absurd rfl r⟩
      · show T' (11 + b) a d = _; rw [tx, xg]
      · exact tw
      · show T' 3 a b = _; rw [t _ _ _ (by omega)]; exact f6
      · show T' 5 a d = _; rw [t _ _ _ (by omega)]; exact f7
    · refine ⟨b, m', c', v, g0, g1, g2, g3, g4, ?_, ?_, ?_, ?_, fun _ => ⟨?_, ?_, ?_⟩⟩
      · show T' (11 + b) a d = _; rw [t _ _ _ (by omega)]; exact f4
      · show T' (24 + b) a d = _; rw [t _ _ _ (by omega)]; exact f5
      · show T' 3 a b = _; rw [t _ _ _ (by omega)]; exact f6
      · show T' 5 a d = _; rw [t _ _ _ (by omega)]; exact f7
      · show T' 6 a d = _; rw [t _ _ _ (by omega)]; exact f1
      · show T' 7 a d = _; rw [t _ _ _ (by omega)]; exact f2
      · show T' 8 a d = _; rw [t _ _ _ (by omega)]; exact f3
  · intro a ha had q
    have q' : T' 7 a d = nI g := q
    rw [t _ _ _ (by omega)] at q'
    show T' 4 a d = _
    rw [t _ _ _ (by omega)]
    exact h3 a ha had q'
  · intro a b ha hb q
    have q' : T' (11 + b) a d = nI g := q
    by_cases ca : a = n ∧ b = m
    · obtain ⟨ca1, ca2⟩ := ca
      subst ca1 ca2
      rw [tx] at q'
      obtain ⟨f1, v, f2, f3⟩ := h5 l hself l0 l3 (l4.trans q')
      refine ⟨?_, ⟨v, f2, ?_⟩, ?_⟩
      · rcases f1 with f1 | ⟨b', hb', r1, r2⟩
        · exact Or.inl ((nI_eq (by omega) (by omega)).mp (l1.symm.trans f1))
        · have : b = b' := (nI_eq (by omega) (by omega)).mp (l1.symm.trans r1)
          subst this
          right
          show T' 4 b d = _
          rw [t _ _ _ (by omega)]
          exact r2
      · show T' (24 + b) a d = _
        rw [tw, ← l5]
        exact f3
      · intro y hy y0 y1 y2 y3 y5
        exact (List.pairwise_cons.mp h6).1 y hy ⟨l0, l3, l4.trans q', y0, y3, y5, l1.trans y1.symm, l2.trans y2.symm⟩
    · rw [t _ _ _ (by omega)] at q'
      obtain ⟨f1, ⟨v, f2, f3⟩, f4⟩ := h4 a b ha hb q'
      refine ⟨?_, ⟨v, f2, ?_⟩, fun y hy => f4 y (sub y hy)⟩
      · show b = d ∨ T' 4 b d = _; rw [t _ _ _ (by omega)]; exact f1
      · show T' (24 + b) a d = _; rw [t _ _ _ (by omega)]; exact f3
  · intro y hy y0 y3 y4
    obtain ⟨f1, f2⟩ := h5 y (sub y hy) y0 y3 y4
    refine ⟨?_, f2⟩
    rcases f1 with f1 | ⟨b, hb, r1, r2⟩
    · exact Or.inl f1
    · exact Or.inr ⟨b, hb, r1, by show T' 4 b d = _; rw [t _ _ _ (by omega)]; exact r2⟩
theorem p_J_tail {d g K : Nat} {T : pT} {l : pL} {L : List pL} (h : p_J d g K (T, l :: L)) : p_J d g K (T, L) := p_J_sub h (List.sublist_cons_self l L)
theorem p_ct_T {T T' : pT} {d g : Nat} (h : ∀ a, T' 4 a d = T 4 a d) : p_ct T d g ≤ p_ct T' d g := p_ct_mo (fun a _ r => by rw [h]; exact r)
theorem p_JK_K {o : Nat → Nat} {d g K : Nat} {A : pA} (hI : p_IT o A.1) (hd : d < 12) (hg2 : g ≤ 32001) (hK : K ≤ p_ct A.1 d g) : K ≤ 11 := by
  have n4d : ¬ A.1 4 d d = nI g := by
    rw [(hI.2.2.2.1 d hd).2.2.2]
    exact fun q => nI_m1ne (n := g) (by omega) q.symm
  exact Nat.le_trans hK (p_ct_le hd n4d)
/-- the front letter is about d -/
theorem p_J_do {o : Nat → Nat} {d g : Nat} {T : pT} {l : pL} {L : List pL} (hI : p_I o (T, l :: L)) (hog : o d ≤ g) (hg : 1 ≤ g) (hg2 : g ≤ 32001) (hb : ∀ d, d < 12 → o d < 32000) (hd : d < 12) (h : p_JK d g (T, l :: L)) (l3 : l 3 = nI d) : p_JK d g (p_do l (T, L)) := by
  obtain ⟨K, hJ, hK⟩ := h
  have K11 : K ≤ 11 := p_JK_K hI.1 hd hg2 hK
  have hJt := p_J_tail hJ
  have hIt : p_I o (T, L) := And.intro hI.1 (fun y hy => hI.2 y (List.mem_cons_of_mem _ hy))
  have hK' : K ≤ p_ct (T, L).1 d g := hK
  obtain ⟨m, n, d', x, w, hm, hn, hd', e1, e2, e3, e4, e5, r⟩ := hI.2 l List.mem_cons_self
  have hdd : d' = d := (nI_eq (by omega) (by omega)).mp (e3.symm.trans l3)
  subst hdd
  have od := hb d' hd
  unfold p_do
  rw [e1, e2, e3, e4, e5, p_nI hm, p_nI hn, p_nI hd]
  by_cases c : (T, L).1 3 n m = 0
  · rw [if_pos c]
    refine ⟨K, p_J_col (T := T) hJt (fun j a h1 _ _ => ?_) (fun a b => ?_), Nat.le_trans hK' (p_ct_T (fun a => ?_))⟩
    · rw [p_st_at, if_neg (by omega)]
    · rw [p_st_at, if_neg (by omega)]
    · exact (p_st_at T 1 0 5 (T 1 0 5 + 1) 4 a d').trans (if_neg (by omega))
  · rw [if_neg c]
    rcases r with ⟨r1, r2, r3⟩ | ⟨r1, r2, r3⟩
    · rw [if_pos r1]
      unfold p_hear
      by_cases cn : d' = n
      · rw [if_pos cn]
        exact ⟨K, hJt, hK'⟩
      · rw [if_neg cn]
        have hnd : n ≠ d' := fun e => cn e.symm
        by_cases cl : (T, L).1 6 n d' = nI m ∧ nI w ≠ 65535 ∧ p_gd (T, L).1 n d' (nI x) (nI w) = false
        · rw [if_pos cl]
          exact p_J_choose hIt hog hg hg2 hd hn hnd (p_Jn_of hJt n) hK'
        · rw [if_neg cl]
          have h2 := p_J_told hI.1 hog hg2 K11 hd hn hm hnd r2 (by omega) hJ r1 e1 e2 e3 e4 e5 cl
          refine p_J_choose (p_heardT hIt (n := n) hm r2 r3 c) hog hg hg2 hd hn hnd h2 (Nat.le_trans hK' (p_ct_T (fun a => ?_)))
          show p_st (p_st T (11 + m) n d' (nI x)) (24 + m) n d' (nI w) 4 a d' = T 4 a d'
          rw [p_st_at, if_neg (by omega), p_st_at, if_neg (by omega)]
    · rw [if_neg (show ¬ l 0 = 1 by rw [r1]; decide)]
      obtain ⟨x', hx', ex'⟩ := hJ.1 l List.mem_cons_self r1 e3
      have hxg : x ≤ g := by
        have := (nI_eq (by omega) (by omega)).mp (e4.symm.trans ex')
        omega
      unfold p_hreq
      by_cases cn : d' = n
      · rw [if_pos cn]
        subst cn
        by_cases cw : p_nw (nI x) ((T, L).1 7 d' d') = true
        · rw [if_pos cw]
          have hI2 : p_I (p_op o d') (p_raise d' (T, L).1, (T, L).2) := p_I_raise hIt hn od
          have e4' : ∀ j a b, j ≠ 7 ∨ a ≠ d' ∨ b ≠ d' → p_raise d' T j a b = T j a b := fun j a b hj => by unfold p_raise; rw [p_st_at, if_neg (by omega)]
          have hJ2 : p_J d' g K (p_raise d' T, L) := p_J_col (T := T) hJt (fun j a _ _ h7 => e4' j a d' (Classical.byCases (fun cj : j = 7 => Or.inr (Or.inl (h7 cj))) (fun cj => Or.inl cj))) (fun a b => e4' 3 a b (by omega))
          obtain ⟨u1, u2⟩ := p_J_tellAll (A := (p_raise d' T, L)) hI2 hg hg2 K11 hd hJ2 hn
          refine ⟨K, u1, Nat.le_trans hK' (Nat.le_trans (p_ct_T (T' := p_raise d' T) (fun a => e4' 4 a d' (by omega))) (p_ct_mo u2))⟩
        · rw [if_neg cw]
          obtain ⟨u1, u2⟩ := p_J_tellAll hIt hg hg2 K11 hd hJt hn
          exact ⟨K, u1, Nat.le_trans hK' (p_ct_mo u2)⟩
      · rw [if_neg cn]
        by_cases c2 : (T, L).1 6 n d' ≠ -1 ∧ p_nw (nI x) ((T, L).1 7 n d') = false
        · rw [if_pos c2]
          obtain ⟨u1, u2⟩ := p_J_tell hIt hg hg2 K11 hd hJt (m := m) hn
          exact ⟨K, u1, Nat.le_trans hK' (p_ct_mo u2)⟩
        · rw [if_neg c2]
          by_cases c3 : ¬ nI w ≤ 1 ∧ ((T, L).1 9 n d' = -1 ∨ p_nw (nI x) ((T, L).1 9 n d') = true)
          · rw [if_pos c3]
            have hJ2 : p_J d' g K (p_st T 9 n d' (nI x), L) := p_J_col (T := T) hJt (fun j a _ h9 _ => by rw [p_st_at, if_neg (by omega)]) (fun a b => by rw [p_st_at, if_neg (by omega)])
            refine ⟨K, p_J_req hd hJ2 hxg _ _, Nat.le_trans hK' (p_ct_T (fun a => ?_))⟩
            rw [p_req_T _ _ _ _ _ _ (by decide)]
            show p_st T 9 n d' (nI x) 4 a d' = T 4 a d'
            rw [p_st_at, if_neg (by omega)]
          · rw [if_neg c3]
            exact ⟨K, hJt, hK'⟩
/-- the front letter is about another node -/
theorem p_choose_T4 {n e : Nat} {A : pA} {a d : Nat} (hed : e ≠ d) : (p_choose n e A).1 4 a d = A.1 4 a d := by
  unfold p_choose
  split
  · rfl
  · have h1 : ∀ B : pA, (p_lost n e B).1 4 a d = B.1 4 a d := fun B => by
      unfold p_lost
      split
      · exact p_ask_T n e B (by decide)
      · rfl
    rw [h1, p_tellAll_T _ _ _ (by omega)]
    exact p_take_T (T := A.1) (n := n) (d := e) (b := p_best A.1 n e) (j := 4) (a := a) (e := d) (by omega)
theorem p_J_do_o {o : Nat → Nat} {d g : Nat} {T : pT} {l : pL} {L : List pL} (hI : p_I o (T, l :: L)) (hd : d < 12) (h : p_JK d g (T, l :: L)) (l3 : l 3 ≠ nI d) : p_JK d g (p_do l (T, L)) := by
  obtain ⟨K, hJ, hK⟩ := h
  have hJt := p_J_tail hJ
  have hK' : K ≤ p_ct (T, L).1 d g := hK
  obtain ⟨m, n, e, x, w, hm, hn, he, e1, e2, e3, e4, e5, r⟩ := hI.2 l List.mem_cons_self
  have hed : e ≠ d := fun q => l3 (by rw [e3, q])
  unfold p_do
  rw [e1, e2, e3, e4, e5, p_nI hm, p_nI hn, p_nI he]
  by_cases c : (T, L).1 3 n m = 0
  · rw [if_pos c]
    refine ⟨K, p_J_col (T := T) hJt (fun j a h1 _ _ => ?_) (fun a b => ?_), Nat.le_trans hK' (p_ct_T (fun a => ?_))⟩
    · rw [p_st_at, if_neg (by omega)]
    · rw [p_st_at, if_neg (by omega)]
    · exact (p_st_at T 1 0 5 (T 1 0 5 + 1) 4 a d).trans (if_neg (by omega))
  · rw [if_neg c]
    by_cases c1 : l 0 = 1
    · rw [if_pos c1]
      unfold p_hear
      by_cases cn : e = n
      · rw [if_pos cn]
        exact ⟨K, hJt, hK'⟩
      · rw [if_neg cn]
        split
        · exact ⟨K, p_J_choose_o hd hJt he hed, Nat.le_trans hK' (p_ct_T (fun a => p_choose_T4 hed))⟩
        · have hJ2 : p_J d g K (p_st (p_st T (11 + m) n e (nI x)) (24 + m) n e (nI w), L) := p_J_col (T := T) hJt (fun j a _ _ _ => by rw [p_st_at, if_neg (by omega), p_st_at, if_neg (by omega)]) (fun a b => by rw [p_st_at, if_neg (by omega), p_st_at, if_neg (by omega)])
          refine ⟨K, p_J_choose_o hd hJ2 he hed, Nat.le_trans hK' (p_ct_T (fun a => ?_))⟩
          rw [p_choose_T4 hed]
          show p_st (p_st T (11 + m) n e (nI x)) (24 + m) n e (nI w) 4 a d = T 4 a d
          rw [p_st_at, if_neg (by omega), p_st_at, if_neg (by omega)]
    · rw [if_neg c1]
      unfold p_hreq
      by_cases cn : e = n
      · rw [if_pos cn]
        subst cn
        split
        · have e4' : ∀ j a b, j ≠ 7 ∨ a ≠ e ∨ b ≠ e → p_raise e T j a b = T j a b := fun j a b hj => by unfold p_raise; rw [p_st_at, if_neg (by omega)]
          have hJ2 : p_J d g K (p_raise e T, L) := p_J_col (T := T) hJt (fun j a _ _ h7 => e4' j a d (by omega)) (fun a b => e4' 3 a b (by omega))
          refine ⟨K, p_J_tellAll_o hd hJ2 he hed, Nat.le_trans hK' (p_ct_T (fun a => ?_))⟩
          rw [p_tellAll_T _ _ _ (by omega)]
          exact e4' 4 a d (by omega)
        · refine ⟨K, p_J_tellAll_o hd hJt he hed, Nat.le_trans hK' (p_ct_T (fun a => ?_))⟩
          rw [p_tellAll_T _ _ _ (by omega)]
      · rw [if_neg cn]
        split
        · refine ⟨K, p_J_tell_o hd hJt he hed, Nat.le_trans hK' (p_ct_T (fun a => ?_))⟩
          rw [p_tell_T _ _ _ _ (by omega)]
        · split
          · have hJ2 : p_J d g K (p_st T 9 n e (nI x), L) := p_J_col (T := T) hJt (fun j a _ _ _ => by rw [p_st_at, if_neg (by omega)]) (fun a b => by rw [p_st_at, if_neg (by omega)])
            refine ⟨K, p_J_req_o hd hJ2 he hed _ _ _, Nat.le_trans hK' (p_ct_T (fun a => ?_))⟩
            rw [p_req_T _ _ _ _ _ _ (by decide)]
            show p_st T 9 n e (nI x) 4 a d = T 4 a d
            rw [p_st_at, if_neg (by omega)]
          · exact ⟨K, hJt, hK'⟩
