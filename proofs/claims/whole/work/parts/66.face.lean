/-! the class's face against the spec -/
def p_isN (x : Int32) : Prop := ∃ n, n < 12 ∧ x = nI n
def p_CX (M : xwM) (r : Int32) (A : pA) (o : Option xwX) : Prop := ∃ M', o = some (.inl r, M') ∧ p_RC A M' ∧ p_FR M M'
theorem p_isN_of {x : Int32} (h1 : ¬ x < 0) (h2 : x < 12) : p_isN x := by
  obtain ⟨j, hj, rfl⟩ := nI_of h1
  exact ⟨j, (nI_ltI hj (by decide : 12 < 2 ^ 31)).mp h2, rfl⟩
theorem c_node1 {n : Nat} (hn : n < 12) (M : xwM) : fX2_requireNode (nI n) M = some (.inl 0, M) := by
  unfold fX2_requireNode
  rw [if_neg (nI_pos (by omega)), if_pos (show nI n < 12 from nI_lt hn (by decide))]
theorem c_node0 {x : Int32} (h : ¬ p_isN x) (M : xwM) : fX2_requireNode x M = some (.inr xIAE, M) := by
  unfold fX2_requireNode fX2_requireNode_10
  by_cases c : x < 0
  · rw [if_pos c]
  · rw [if_neg c, if_neg (fun c2 => h (p_isN_of c c2))]
def p_pr (a b : Int32) : Prop := p_isN a ∧ p_isN b ∧ a ≠ b
theorem c_pair1 {a b : Int32} (h : p_pr a b) (M : xwM) : fX2_requirePair a b M = some (.inl 0, M) := by
  obtain ⟨⟨n, hn, rfl⟩, ⟨m, hm, rfl⟩, h⟩ := h
  unfold fX2_requirePair
  rw [c_node1 hn, bnxE, c_node1 hm, bnxE, if_neg h]
theorem c_pair0 {a b : Int32} (h : ¬ p_pr a b) (M : xwM) : fX2_requirePair a b M = some (.inr xIAE, M) := by
  unfold fX2_requirePair
  by_cases c1 : p_isN a
  · by_cases c2 : p_isN b
    · by_cases c3 : a = b
      · obtain ⟨n, hn, e1⟩ := c1
        subst c3
        rw [e1, c_node1 hn, bnxE, c_node1 hn, bnxE, if_pos rfl]
      · exact absurd ⟨c1, c2, c3⟩ h
    · obtain ⟨n, hn, e1⟩ := c1
      rw [e1, c_node1 hn, bnxE, c_node0 c2, bnxX]
  · rw [c_node0 c1, bnxX]
theorem c_upto1 {x g : Int32} (h1 : ¬ x < 0) (h2 : x ≤ g) (M : xwM) : fX2_requireUpTo x g M = some (.inl 0, M) := by
  unfold fX2_requireUpTo
  rw [if_neg h1, if_pos h2]
theorem c_upto0 {x g : Int32} (h : ¬ (¬ x < 0 ∧ x ≤ g)) (M : xwM) : fX2_requireUpTo x g M = some (.inr xIAE, M) := by
  unfold fX2_requireUpTo fX2_requireUpTo_9
  by_cases c : x < 0
  · rw [if_pos c]
  · rw [if_neg c, if_neg (fun c2 => h ⟨c, c2⟩)]
def p_isL (A : pA) (x : Int32) : Prop := ∃ i, i < A.2.length ∧ x = nI i
theorem c_ltr1 {A : pA} {M : xwM} (h : p_RC A M) {i : Nat} (hi : i < A.2.length) : fX2_requireLetter (nI i) M = some (.inl 0, M) := by
  obtain ⟨h1, hc, p, hp, q1, q2, q3, q4⟩ := h
  unfold fX2_requireLetter
  rw [if_neg (nI_pos (by omega)), q2, if_pos (nI_lt hi (by omega))]
theorem c_ltr0 {A : pA} {M : xwM} (h : p_RC A M) {x : Int32} (hx : ¬ p_isL A x) : fX2_requireLetter x M = some (.inr xIAE, M) := by
  obtain ⟨h1, hc, p, hp, q1, q2, q3, q4⟩ := h
  unfold fX2_requireLetter fX2_requireLetter_15
  by_cases c : x < 0
  · rw [if_pos c]
  · rw [if_neg c, q2]
    rw [if_neg]
    intro c2
    obtain ⟨j, hj, rfl⟩ := nI_of c
    exact hx ⟨j, (nI_ltI hj (by omega)).mp c2, rfl⟩
theorem p_CX_v {M : xwM} {A B : pA} {r : Int32} {o : Option xwM} {f : xwM → Option xwX} (h : p_CV M A o) (k : ∀ M', p_RC A M' → p_CX M' r B (f M')) : p_CX M r B (bnv o f) := by
  obtain ⟨M', a, b, c⟩ := h
  obtain ⟨M2, d, e, f⟩ := k M' b
  rw [a]
  exact ⟨M2, d, e, p_FR_t c f⟩
theorem p_CX_s {M : xwM} {A : pA} {r : Int32} (h : p_RC A M) : p_CX M r A (some (.inl r, M)) := ⟨M, rfl, h, p_FR_r M⟩
theorem p_CX_t {M M1 : xwM} {A : pA} {r : Int32} {o : Option xwX} (h1 : p_FR M M1) (h : p_CX M1 r A o) : p_CX M r A o := by
  obtain ⟨M', a, b, c⟩ := h
  exact ⟨M', a, b, p_FR_t h1 c⟩
def p_fg (n m : Nat) (T : pT) : pT := p_fi (p_fi T (11 + m) n (-1)) (24 + m) n (-1)
def p_lo (a b : Nat) : Nat := if b < a then b else a
def p_hi (a b : Nat) : Nat := if a < b then b else a
noncomputable def p_link (a b : Nat) (c : Int32) (A : pA) : pA :=
  if c = A.1 3 a b then A
  else if A.1 3 a b = 0 then p_every (p_hi a b) (p_lo a b) (p_every (p_lo a b) (p_hi a b) (p_st (p_st A.1 3 a b c) 3 b a c, A.2))
  else p_chAll (p_hi a b) (p_chAll (p_lo a b) (if c = 0 then p_fg b a (p_fg a b (p_st (p_st A.1 3 a b c) 3 b a c)) else p_st (p_st A.1 3 a b c) 3 b a c, A.2))
theorem p_lo_I {a b : Nat} (ha : a < 12) (hb : b < 12) : (if nI b < nI a then nI b else nI a) = nI (p_lo a b) := by
  unfold p_lo
  by_cases c : b < a
  · rw [if_pos c, if_pos (nI_lt c (by omega))]
  · rw [if_neg c, if_neg (nI_nlt (by omega) (by omega))]
theorem p_hi_I {a b : Nat} (ha : a < 12) (hb : b < 12) : (if nI a < nI b then nI b else nI a) = nI (p_hi a b) := by
  unfold p_hi
  by_cases c : a < b
  · rw [if_pos c, if_pos (nI_lt c (by omega))]
  · rw [if_neg c, if_neg (nI_nlt (by omega) (by omega))]
theorem p_lo_l {a b : Nat} (ha : a < 12) (hb : b < 12) : p_lo a b < 12 := by unfold p_lo; split <;> omega
theorem p_hi_l {a b : Nat} (ha : a < 12) (hb : b < 12) : p_hi a b < 12 := by unfold p_hi; split <;> omega
theorem c_link {A : pA} {M : xwM} (h : p_RC A M) {a b : Nat} {c : Int32} (ha : a < 12) (hb : b < 12) (hab : a ≠ b) (h1 : ¬ c < 0) (h2 : c ≤ 1000) : p_CX M (A.1 3 a b) (p_link a b c A) (fX2_link (nI a) (nI b) c M) := by
  have hp : p_pr (nI a) (nI b) := ⟨⟨a, ha, rfl⟩, ⟨b, hb, rfl⟩, fun e => hab ((nI_eq (by omega) (by omega)).mp e)⟩
  unfold fX2_link fX2_link_120 p_link
  rw [c_pair1 hp, bnxE, c_upto1 h1 h2, bnxE, p_ixr ha (by decide), p_ld hb (by decide), c_T h (by decide) (by decide) ha]
  by_cases c1 : c = A.1 3 a b
  · rw [if_pos c1, if_pos c1]
    exact p_CX_s h
  · rw [if_neg c1, if_neg c1, p_ixr ha (by decide), p_sto hb (by decide), p_ixr hb (by decide), p_sto ha (by decide), p_lo_I ha hb, p_hi_I ha hb]
    have r1 := p_RC_ms h (j := 3) (d := b) (x := c) (by decide) (by decide) ha
    have r2 := p_RC_ms r1 (j := 3) (d := a) (x := c) (by decide) (by decide) hb
    refine p_CX_t (p_FR_t (p_FR_ms (M := M) (k := 3 + 34 * a) (i := b) (x := c) (by omega)) (p_FR_ms (k := 3 + 34 * b) (i := a) (x := c) (by omega))) ?_
    by_cases c2 : A.1 3 a b = 0
    · rw [if_pos c2, if_pos c2]
      exact p_CX_v (c_every r2 (p_lo_l ha hb)) (fun M3 r3 => p_CX_v (c_every r3 (p_hi_l ha hb)) (fun M4 r4 => p_CX_s r4))
    · rw [if_neg c2, if_neg c2]
      by_cases c3 : c = 0
      · rw [if_pos c3, if_pos c3, p_ixr ha (by decide)]
        refine p_CX_v (c_forgetN r2 ha hb) (fun M3 r3 => ?_)
        rw [p_ixr hb (by decide)]
        refine p_CX_v (c_forgetN r3 hb ha) (fun M4 r4 => ?_)
        exact p_CX_v (c_chAll r4 (p_lo_l ha hb)) (fun M5 r5 => p_CX_v (c_chAll r5 (p_hi_l ha hb)) (fun M6 r6 => p_CX_s r6))
      · rw [if_neg c3, if_neg c3]
        exact p_CX_v (c_chAll r2 (p_lo_l ha hb)) (fun M5 r5 => p_CX_v (c_chAll r5 (p_hi_l ha hb)) (fun M6 r6 => p_CX_s r6))
def p_ann (n : Nat) (A : pA) : pA := p_up (fun d A => if A.1 6 n d = -1 ∧ A.1 4 n d = -1 then A else p_tellAll n d A) 12 0 A
theorem c_ct {A : pA} {M : xwM} (h : p_RC A M) : M 410 3 = A.1 1 0 3 := h.2.1 3 (by decide) (by decide)
theorem c_ann {A : pA} {M : xwM} (h : p_RC A M) {n : Nat} (hn : n < 12) : p_CX M ((p_ann n A).1 1 0 3 - A.1 1 0 3) (p_ann n A) (fX2_announce (nI n) M) := by
  unfold fX2_announce
  rw [c_node1 hn, bnxE, c_ct h]
  generalize A.1 1 0 3 = y
  have K := p_loop (fun fu j M => fX2_announce_14 fu (nI n) y (nI j) M) (fun M => some (.inl (M 410 3 - y), M)) (fun _ A M' => p_RC A M' ∧ p_FR M M') (fun d A => if A.1 6 n d = -1 ∧ A.1 4 n d = -1 then A else p_tellAll n d A) 12
    (fun fu M => by
      show fX2_announce_14 (fu + 1) (nI n) y (nI 12) M = _
      rw [fX2_announce_14, if_pos nI12])
    (fun fu j A M1 hj hp => by
      obtain ⟨h, hf⟩ := hp
      show ∃ M', fX2_announce_14 (fu + 1) (nI n) y (nI j) M1 = fX2_announce_14 fu (nI n) y (nI (j + 1)) M' ∧ _
      rw [fX2_announce_14, if_neg (nI12n hj), p_ixr hn (by decide)]
      unfold fX2_announce_46 fX2_announce_52
      rw [nI_1]
      obtain ⟨M2, e2, r2, f2⟩ := c_tellAll h hn hj
      by_cases c : A.1 6 n j = -1
      · rw [c_way0 h hn hj c, bniE, if_pos rfl, p_ixr hn (by decide)]
        by_cases c2 : A.1 4 n j = -1
        · rw [c_bnd0 h hn hj c2, bniE, if_pos rfl, if_pos (show A.1 6 n j = -1 ∧ A.1 4 n j = -1 from ⟨c, c2⟩)]
          exact ⟨_, rfl, h, hf⟩
        · rw [c_bnd1 h hn hj c2, bniE, if_neg one0, if_neg (show ¬ (A.1 6 n j = -1 ∧ A.1 4 n j = -1) from fun q => c2 q.2), e2, bnvE]
          exact ⟨_, rfl, r2, p_FR_t hf f2⟩
      · rw [c_way1 h hn hj c, bniE, if_neg one0, if_neg (show ¬ (A.1 6 n j = -1 ∧ A.1 4 n j = -1) from fun q => c q.1), e2, bnvE]
        exact ⟨_, rfl, r2, p_FR_t hf f2⟩)
    12 0 2001 A M rfl (by decide) ⟨h, p_FR_r M⟩
  obtain ⟨M', e, r, f⟩ := K
  have r' : p_RC (p_ann n A) M' := r
  rw [c_ct r'] at e
  exact ⟨M', e, r, f⟩
theorem c_renew {A : pA} {M : xwM} (h : p_RC A M) {n : Nat} (hn : n < 12) (hs : A.1 2 n 9 = nI n) : p_CX M ((A.1 7 n n + 1) &&& 65535) (p_tellAll n n (p_raise n A.1, A.2)) (fX2_renew (nI n) M) := by
  unfold fX2_renew
  rw [c_node1 hn, bnxE, p_ixr hn (by decide)]
  obtain ⟨M1, e1, r1, f1⟩ := c_raise h hn hs
  rw [e1, bniE]
  exact p_CX_t f1 (p_CX_v (c_tellAll r1 hn hn) (fun M' r' => p_CX_s r'))
theorem c_askO {A : pA} {M : xwM} (h : p_RC A M) {n d : Nat} (hn : n < 12) (hd : d < 12) (hnd : n ≠ d) : p_CX M ((p_lost n d A).1 1 0 3 - A.1 1 0 3) (p_lost n d A) (fX2_ask (nI n) (nI d) M) := by
  have hp : p_pr (nI n) (nI d) := ⟨⟨n, hn, rfl⟩, ⟨d, hd, rfl⟩, fun e => hnd ((nI_eq (by omega) (by omega)).mp e)⟩
  unfold fX2_ask fX2_ask_32
  rw [c_pair1 hp, bnxE, p_ixr hn (by decide), c_ct h]
  by_cases c : A.1 6 n d = -1
  · have e : p_lost n d A = p_ask n d A := by unfold p_lost; rw [if_pos c]
    rw [c_way0 h hn hd c, bniE, if_pos rfl, e]
    obtain ⟨M1, e1, r1, f1⟩ := c_ask h hn hd
    rw [e1, bnvE, c_ct r1]
    exact p_CX_t f1 (p_CX_s r1)
  · have e : p_lost n d A = A := by unfold p_lost; rw [if_neg c]
    rw [c_way1 h hn hd c, bniE, if_neg one0, e, c_ct h]
    exact p_CX_s h
def p_reb (n : Nat) (A : pA) : pA := (p_st (p_fi (p_fi (p_fi A.1 4 n (-1)) 5 n (-1)) 9 n (-1)) 1 0 5 (A.1 1 0 5 + nI (A.2.length - (A.2.filter (p_kp (nI n))).length)), A.2.filter (p_kp (nI n)))
theorem c_reb1 {A : pA} {M : xwM} (h : p_RC A M) {n : Nat} (hn : n < 12) (hd : p_deg A.1 n = 0) : p_CX M (nI (A.2.length - (A.2.filter (p_kp (nI n))).length)) (p_reb n A) (fX2_reboot (nI n) M) := by
  unfold fX2_reboot
  rw [c_node1 hn, bnxE, p_ixr hn (by decide), c_count h hn, bniE, hd, if_pos nI_0, p_ixr hn (by decide)]
  refine p_CX_v (c_forgetB h hn) (fun M1 r1 => ?_)
  obtain ⟨M2, e2, r2, f2⟩ := c_lose r1 (nI n)
  rw [e2, bniE]
  refine p_CX_t f2 ?_
  have e : p_reb n A = (p_st (p_fi (p_fi (p_fi A.1 4 n (-1)) 5 n (-1)) 9 n (-1)) 1 0 5 (p_fi (p_fi (p_fi A.1 4 n (-1)) 5 n (-1)) 9 n (-1) 1 0 5 + nI (A.2.length - (A.2.filter (p_kp (nI n))).length)), A.2.filter (p_kp (nI n))) := by
    unfold p_reb
    rw [p_fi_at, if_neg (by omega), p_fi_at, if_neg (by omega), p_fi_at, if_neg (by omega)]
  rw [e]
  exact p_CX_s r2
theorem c_reb0 {A : pA} {M : xwM} (h : p_RC A M) {n : Nat} (hn : n < 12) (hd : ¬ p_deg A.1 n = 0) : fX2_reboot (nI n) M = some (.inr xISE, M) := by
  unfold fX2_reboot
  have := p_deg_le A.1 n
  rw [c_node1 hn, bnxE, p_ixr hn (by decide), c_count h hn, bniE, if_neg (nI_ne0 (by omega) (by omega))]
