/-! the reference's link; the count of links -/
def p_sm (f : Nat → Nat) (k j a : Nat) : Nat := p_up (fun m x => x + f m) k j a
theorem p_sm_add (f : Nat → Nat) : ∀ k j a b, p_sm f k j (a + b) = p_sm f k j a + b := by
  intro k
  induction k with
  | zero => intro j a b; rfl
  | succ k ih =>
    intro j a b
    show p_sm f k (j + 1) (a + b + f j) = p_sm f k (j + 1) (a + f j) + b
    rw [show a + b + f j = a + f j + b by omega, ih]
theorem p_sm_same (f g : Nat → Nat) : ∀ k j a, (∀ m, j ≤ m → m < j + k → g m = f m) → p_sm g k j a = p_sm f k j a := by
  intro k
  induction k with
  | zero => intro j a _; rfl
  | succ k ih =>
    intro j a h
    show p_sm g k (j + 1) (a + g j) = p_sm f k (j + 1) (a + f j)
    rw [h j (Nat.le_refl _) (by omega)]
    exact ih (j + 1) _ (fun m h1 h2 => h m (by omega) (by omega))
theorem p_sm_upd (f g : Nat → Nat) (i : Nat) : ∀ k j a, j ≤ i → i < j + k → (∀ m, j ≤ m → m < j + k → m ≠ i → g m = f m) → p_sm g k j a + f i = p_sm f k j a + g i := by
  intro k
  induction k with
  | zero => intro j a h1 h2; omega
  | succ k ih =>
    intro j a h1 h2 h
    show p_sm g k (j + 1) (a + g j) + f i = p_sm f k (j + 1) (a + f j) + g i
    by_cases c : j = i
    · subst c
      rw [p_sm_same f g k (j + 1) _ (fun m a1 a2 => h m (by omega) (by omega) (by omega)), p_sm_add, p_sm_add]
      omega
    · rw [h j (Nat.le_refl _) (by omega) c]
      exact ih (j + 1) _ (by omega) (by omega) (fun m a1 a2 a3 => h m (by omega) (by omega) a3)
def p_on (x : Int32) : Nat := if x = 0 then 0 else 1
theorem p_deg_sm (T : pT) (n : Nat) : p_deg T n = p_sm (fun m => p_on (T 3 n m)) 12 0 0 := by
  unfold p_deg p_sm
  refine p_up_congr _ _ 12 (fun j a hj => ?_) 12 0 0 rfl
  show (if T 3 n j = 0 then a else a + 1) = a + (if T 3 n j = 0 then 0 else 1)
  by_cases c : T 3 n j = 0
  · rw [if_pos c, if_pos c]; rfl
  · rw [if_neg c, if_neg c]
theorem p_deg_upd {T : pT} {n m : Nat} (hm : m < 12) (c : Int32) : p_deg (p_st T 3 n m c) n + p_on (T 3 n m) = p_deg T n + p_on c := by
  rw [p_deg_sm, p_deg_sm]
  have := p_sm_upd (fun m' => p_on (T 3 n m')) (fun m' => p_on (p_st T 3 n m c 3 n m')) m 12 0 0 (Nat.zero_le _) (by omega) (fun m' _ _ h => by rw [p_st_at, if_neg (fun q => h q.2.2)])
  rw [p_st_at, if_pos ⟨rfl, rfl, rfl⟩] at this
  exact this
theorem p_ends_upd {T : pT} {n m : Nat} (hn : n < 12) (hm : m < 12) (c : Int32) : p_ends (p_st T 3 n m c) + p_on (T 3 n m) = p_ends T + p_on c := by
  have h := p_sm_upd (fun n' => p_deg T n') (fun n' => p_deg (p_st T 3 n m c) n') n 12 0 0 (Nat.zero_le _) (by omega) (fun n' _ _ hn' => p_deg_congr (fun m' _ => by rw [p_st_at, if_neg (fun q => hn' q.2.1)]))
  have h2 := p_deg_upd (T := T) (n := n) hm c
  have e1 : p_ends T = p_sm (fun n' => p_deg T n') 12 0 0 := rfl
  have e2 : p_ends (p_st T 3 n m c) = p_sm (fun n' => p_deg (p_st T 3 n m c) n') 12 0 0 := rfl
  rw [e1, e2]
  omega
def p_sc3 (a b : Nat) (c : Int32) (T : pT) : pT := p_st (p_st T 3 a b c) 3 b a c
theorem p_sc3_ends {o : Nat → Nat} {T : pT} (h : p_IT o T) {a b : Nat} (ha : a < 12) (hb : b < 12) (hab : a ≠ b) (c : Int32) : p_ends (p_sc3 a b c T) + 2 * p_on (T 3 a b) = p_ends T + 2 * p_on c := by
  unfold p_sc3
  have h1 := p_ends_upd (T := T) ha hb c
  have h2 := p_ends_upd (T := p_st T 3 a b c) hb ha c
  have e : p_st T 3 a b c 3 b a = T 3 a b := by rw [p_st_at, if_neg (by omega), p_3sym h hb ha]
  rw [e] at h2
  omega
theorem p_sc3_at (a b : Nat) (c : Int32) (T : pT) (j n d : Nat) : p_sc3 a b c T j n d = if j = 3 ∧ ((n = a ∧ d = b) ∨ (n = b ∧ d = a)) then c else T j n d := by
  unfold p_sc3
  rw [p_st_at, p_st_at]
  by_cases c1 : j = 3 ∧ n = b ∧ d = a
  · rw [if_pos c1, if_pos (by omega)]
  · rw [if_neg c1]
    by_cases c2 : j = 3 ∧ n = a ∧ d = b
    · rw [if_pos c2, if_pos (by omega)]
    · rw [if_neg c2, if_neg (by omega)]
theorem p_RM3 {o : Nat → Nat} {A : pA} {M : xwM} (h : p_RM A M) (hI : p_IT o A.1) {a b k : Nat} {c : Int32} (ha : a < 12) (hb : b < 12) (hab : a ≠ b) (hk : 2 * k = p_ends (p_sc3 a b c A.1)) : p_RM (p_sc3 a b c A.1, A.2) (ms (ms (ms M 419 (12 * a + b) c) 419 (12 * b + a) c) 418 2 (nI k)) := by
  obtain ⟨h1, h2, h3, h4, h5, h6, h7, h8, h9, h10, ⟨h11, h12, h13⟩, ⟨k', h14, h15⟩, h16, h17, h18⟩ := h
  have e : ∀ q i, q ≠ 419 → (q = 418 → i ≠ 2) → ms (ms (ms M 419 (12 * a + b) c) 419 (12 * b + a) c) 418 2 (nI k) q i = M q i := fun q i hq hi => by rw [ms_at, if_neg (by omega), ms_at, if_neg (by omega), ms_at, if_neg (by omega)]
  have t : ∀ j n d, j ≠ 3 → (p_sc3 a b c A.1, A.2).1 j n d = A.1 j n d := fun j n d hj => (p_sc3_at a b c A.1 j n d).trans (if_neg (by omega))
  refine ⟨?_, ?_, ?_, ?_, ?_, ?_, ?_, ?_, ?_, ?_, ⟨?_, ?_, ?_⟩, ⟨k, ?_, hk⟩, ?_, h17, ?_⟩
  · intro n m hn hm
    show _ = p_sc3 a b c A.1 3 n m
    rw [p_sc3_at, ms_at, if_neg (by omega), ms_at, ms_at]
    by_cases c1 : n = b ∧ m = a
    · rw [if_pos (by omega), if_pos (by omega)]
    · rw [if_neg (by omega)]
      by_cases c2 : n = a ∧ m = b
      · rw [if_pos (by omega), if_pos (by omega)]
      · rw [if_neg (by omega), if_neg (by omega), h1 n m hn hm]
  · intro n hn; rw [e _ _ (by decide) (by omega), t _ _ _ (by decide)]; exact h2 n hn
  · intro n d hn hd; rw [e _ _ (by decide) (by omega), t _ _ _ (by decide)]; exact h3 n d hn hd
  · intro n d hn hd; rw [e _ _ (by decide) (by omega), t _ _ _ (by decide)]; exact h4 n d hn hd
  · intro n d hn hd; rw [e _ _ (by decide) (by omega), t _ _ _ (by decide)]; exact h5 n d hn hd
  · intro n d hn hd hnd; rw [e _ _ (by decide) (by omega), t _ _ _ (by decide)]; exact h6 n d hn hd hnd
  · intro n d hn hd hnd; rw [e _ _ (by decide) (by omega), t _ _ _ (by decide)]; exact h7 n d hn hd hnd
  · intro n d hn hd hnd; rw [e _ _ (by decide) (by omega), t _ _ _ (by decide)]; exact h8 n d hn hd hnd
  · intro n m d hn hm hd; rw [e _ _ (by decide) (by omega), t _ _ _ (by omega)]; exact h9 n m d hn hm hd
  · intro n m d hn hm hd; rw [e _ _ (by decide) (by omega), t _ _ _ (by omega)]; exact h10 n m d hn hm hd
  · rw [e _ _ (by decide) (by omega), t _ _ _ (by decide)]; exact h11
  · rw [e _ _ (by decide) (by omega), t _ _ _ (by decide)]; exact h12
  · rw [e _ _ (by decide) (by omega), t _ _ _ (by decide)]; exact h13
  · rw [p_ms_s]
  · rw [e _ _ (by decide) (by omega)]; exact h16
  · intro i l hl f hf; rw [e _ _ (by decide) (by omega)]; exact h18 i l hl f hf
def p_fk (a b k : Nat) (T : pT) : pT := fun j n d => if d < k ∧ ((n = a ∧ (j = 11 + b ∨ j = 24 + b)) ∨ (n = b ∧ (j = 11 + a ∨ j = 24 + a))) then -1 else T j n d
theorem p_fk_0 (a b : Nat) (T : pT) : p_fk a b 0 T = T := by
  funext j n d
  unfold p_fk
  rw [if_neg (by omega)]
theorem p_fk_sym (a b k : Nat) (T : pT) : p_fk a b k T = p_fk b a k T := by
  funext j n d
  unfold p_fk
  by_cases c : d < k ∧ ((n = a ∧ (j = 11 + b ∨ j = 24 + b)) ∨ (n = b ∧ (j = 11 + a ∨ j = 24 + a)))
  · rw [if_pos c, if_pos (by omega)]
  · rw [if_neg c, if_neg (by omega)]
theorem p_fk_e (a b : Nat) (T : pT) : p_fg b a (p_fg a b T) = p_fk a b 12 T := by
  funext j n d
  unfold p_fg p_fk
  rw [p_fi_at, p_fi_at, p_fi_at, p_fi_at]
  by_cases c : d < 12 ∧ ((n = a ∧ (j = 11 + b ∨ j = 24 + b)) ∨ (n = b ∧ (j = 11 + a ∨ j = 24 + a)))
  · rw [if_pos c]
    split
    · rfl
    · split
      · rfl
      · split
        · rfl
        · rw [if_pos (by omega)]
  · rw [if_neg c, if_neg (by omega), if_neg (by omega), if_neg (by omega), if_neg (by omega)]
theorem p_fk_s (a b k : Nat) (T : pT) : p_st (p_st (p_st (p_st (p_fk a b k T) (11 + b) a k (-1)) (24 + b) a k (-1)) (11 + a) b k (-1)) (24 + a) b k (-1) = p_fk a b (k + 1) T := by
  funext j n d
  rw [p_st_at, p_st_at, p_st_at, p_st_at]
  unfold p_fk
  by_cases c : d < k + 1 ∧ ((n = a ∧ (j = 11 + b ∨ j = 24 + b)) ∨ (n = b ∧ (j = 11 + a ∨ j = 24 + a)))
  · rw [if_pos c]
    split
    · rfl
    · split
      · rfl
      · split
        · rfl
        · split
          · rfl
          · rw [if_pos (by omega)]
  · rw [if_neg c, if_neg (by omega), if_neg (by omega), if_neg (by omega), if_neg (by omega), if_neg (by omega)]
theorem p_IT3 {o : Nat → Nat} {T : pT} (h : p_IT o T) {a b c : Nat} (hab : a ≠ b) (hc : c ≤ 1000) (h0 : c = 0 → ∀ d, d < 12 → T (11 + b) a d = -1 ∧ T (24 + b) a d = -1 ∧ T (11 + a) b d = -1 ∧ T (24 + a) b d = -1) : p_IT o (p_sc3 a b (nI c) T) := by
  obtain ⟨h1, h2, h3, h4, h5, h6, h7, h8, h9⟩ := h
  have e : ∀ j n' d', j ≠ 3 → p_sc3 a b (nI c) T j n' d' = T j n' d' := fun j n' d' hj => by rw [p_sc3_at, if_neg (by omega)]
  refine ⟨?_, ?_, ?_, ?_, ?_, ?_, ?_, ?_, h9⟩
  · intro n hn; rw [e _ _ _ (by omega)]; exact h1 n hn
  · intro n m hn hm
    rw [p_sc3_at, p_sc3_at]
    by_cases q : (n = a ∧ m = b) ∨ (n = b ∧ m = a)
    · rw [if_pos ⟨rfl, q⟩, if_pos (by omega)]
      exact ⟨c, hc, rfl, rfl⟩
    · rw [if_neg (fun r => q r.2), if_neg (by omega)]
      exact h2 n m hn hm
  · intro n hn; rw [p_sc3_at, if_neg (by omega)]; exact h3 n hn
  · intro n' hn; rw [e _ _ _ (by omega), e _ _ _ (by omega), e _ _ _ (by omega), e _ _ _ (by omega)]; exact h4 n' hn
  · intro n' d' hn hd; rw [e _ _ _ (by omega), e _ _ _ (by omega)]; exact h5 n' d' hn hd
  · intro n' d' hn hd hnd; rw [e _ _ _ (by omega), e _ _ _ (by omega), e _ _ _ (by omega)]; exact h6 n' d' hn hd hnd
  · intro n' d' hn hd; rw [e _ _ _ (by omega)]; exact h7 n' d' hn hd
  · intro n m d hn hm hd
    rw [e (11 + m) _ _ (by omega), e (24 + m) _ _ (by omega), p_sc3_at]
    by_cases q : (n = a ∧ m = b) ∨ (n = b ∧ m = a)
    · rw [if_pos ⟨rfl, q⟩]
      by_cases c0 : c = 0
      · left
        rcases q with ⟨rfl, rfl⟩ | ⟨rfl, rfl⟩
        · exact ⟨(h0 c0 d hd).1, (h0 c0 d hd).2.1⟩
        · exact ⟨(h0 c0 d hd).2.2.1, (h0 c0 d hd).2.2.2⟩
      · rcases h8 n m d hn hm hd with r | ⟨x, w, r1, r2, r3, r4, r5⟩
        · exact Or.inl r
        · exact Or.inr ⟨x, w, r1, r2, r3, r4, nI_ne0 (by omega) (by omega)⟩
    · rw [if_neg (fun r => q r.2)]
      exact h8 n m d hn hm hd
theorem p_ITfk {o : Nat → Nat} {T : pT} (h : p_IT o T) {a b : Nat} (ha : a < 12) (hb : b < 12) (k : Nat) : p_IT o (p_fk a b k T) := by
  obtain ⟨h1, h2, h3, h4, h5, h6, h7, h8, h9⟩ := h
  have e : ∀ j n' d', j < 11 → p_fk a b k T j n' d' = T j n' d' := fun j n' d' hj => by unfold p_fk; rw [if_neg (by omega)]
  refine ⟨?_, ?_, ?_, ?_, ?_, ?_, ?_, ?_, h9⟩
  · intro n hn; rw [e _ _ _ (by omega)]; exact h1 n hn
  · intro n m hn hm; rw [e _ _ _ (by omega), e _ _ _ (by omega)]; exact h2 n m hn hm
  · intro n hn; rw [e _ _ _ (by omega)]; exact h3 n hn
  · intro n' hn; rw [e _ _ _ (by omega), e _ _ _ (by omega), e _ _ _ (by omega), e _ _ _ (by omega)]; exact h4 n' hn
  · intro n' d' hn hd; rw [e _ _ _ (by omega), e _ _ _ (by omega)]; exact h5 n' d' hn hd
  · intro n' d' hn hd hnd; rw [e _ _ _ (by omega), e _ _ _ (by omega), e _ _ _ (by omega)]; exact h6 n' d' hn hd hnd
  · intro n' d' hn hd; rw [e _ _ _ (by omega)]; exact h7 n' d' hn hd
  · intro n m d hn hm hd
    rw [e 3 _ _ (by omega)]
    by_cases q : d < k ∧ ((n = a ∧ m = b) ∨ (n = b ∧ m = a))
    · left
      unfold p_fk
      exact ⟨if_pos (by omega), if_pos (by omega)⟩
    · have r : ∀ j, j = 11 + m ∨ j = 24 + m → p_fk a b k T j n d = T j n d := fun j hj => by
        unfold p_fk
        by_cases t : d < k ∧ ((n = a ∧ (j = 11 + b ∨ j = 24 + b)) ∨ (n = b ∧ (j = 11 + a ∨ j = 24 + a)))
        · exact absurd t (by omega)
        · rw [if_neg t]
      rw [r _ (Or.inl rfl), r _ (Or.inr rfl)]
      exact h8 n m d hn hm hd
theorem r_link271 {o : Nat → Nat} {A : pA} {M : xwM} (h : p_RM A M) (hI : p_I o A) {a b : Nat} (ha : a < 12) (hb : b < 12) (r : Int32) : p_MX M r (p_chAll b (p_chAll a A)) (fX3_link_271 r (nI a) (nI b) M) := by
  unfold fX3_link_271 fX3_link_283
  refine p_MX_v (r_choosesAll h hI ha) (fun M1 h1 => ?_)
  exact p_MX_v (r_choosesAll h1 (p_I_chAll hI ha) hb) (fun M2 h2 => p_MX_s h2)
theorem r_link170 {o : Nat → Nat} {T : pT} {L : List pL} {M : xwM} {a b : Nat} (h : p_RM (T, L) M) (hI : p_I o (p_fk a b 12 T, L)) (ha : a < 12) (hb : b < 12) (r : Int32) : p_MX M r (p_chAll b (p_chAll a (p_fk a b 12 T, L))) (fX3_link_170 2001 0 r (nI a) (nI b) 0 M) := by
  have K := p_loop2 (α := Unit) (σ := xwM) (R := Int32 × xwM) (fun fu j M => fX3_link_170 fu 0 r (nI a) (nI b) (nI j) M) (fun M => fX3_link_271 r (nI a) (nI b) M) (fun j _ M' => p_RM (p_fk a b j T, L) M' ∧ p_FM M M' ∧ M' 418 0 = M 418 0) (fun _ a => a) 12
    (fun fu x M _ => by
      show fX3_link_170 (fu + 1) 0 r (nI a) (nI b) (nI 12) M = _
      rw [fX3_link_170, if_pos nI12])
    (fun fu j x M1 hj hM => by
      obtain ⟨q, f, z⟩ := hM
      refine ⟨ms (ms (ms (ms M1 427 (144 * a + 12 * b + j) (-1)) 428 (144 * a + 12 * b + j) (-1)) 427 (144 * b + 12 * a + j) (-1)) 428 (144 * b + 12 * a + j) (-1), ?_, ?_, ?_, ?_⟩
      · show fX3_link_170 (fu + 1) 0 r (nI a) (nI b) (nI j) M1 = fX3_link_170 fu 0 r (nI a) (nI b) (nI (j + 1)) _
        rw [fX3_link_170, if_neg (nI12n hj), if_pos rfl, p_ix3, p_ix3, p_sto (by omega) (by decide), p_sto (by omega) (by decide), p_sto (by omega) (by decide), p_sto (by omega) (by decide), nI_1]
      · rw [← p_fk_s]
        exact p_RMtm (p_RMtn (p_RMtm (p_RMtn q ha hb hj) ha hb hj) hb ha hj) hb ha hj
      · exact p_FM_t f (p_FM_t (p_FM_ms (by decide)) (p_FM_t (p_FM_ms (by decide)) (p_FM_t (p_FM_ms (by decide)) (p_FM_ms (by decide)))))
      · rw [p_ms0 (Or.inl (by decide)), p_ms0 (Or.inl (by decide)), p_ms0 (Or.inl (by decide)), p_ms0 (Or.inl (by decide)), z])
    12 0 2001 () M rfl (by decide) ⟨by rw [p_fk_0]; exact h, p_FM_r M, rfl⟩
  obtain ⟨M1, e, q, f, z⟩ := K
  have e' : fX3_link_170 2001 0 r (nI a) (nI b) (nI 0) M = fX3_link_271 r (nI a) (nI b) M1 := e
  rw [nI_0] at e'
  rw [e']
  exact p_MX_t f z (r_link271 q hI ha hb r)
theorem p_ms_id {M : xwM} {k i : Nat} {x : Int32} (h : M k i = x) : ms M k i x = M := by
  funext a b
  rw [ms_at]
  by_cases c : a = k ∧ b = i
  · rw [if_pos c, c.1, c.2, h]
  · rw [if_neg c]
theorem p_lohi {a b : Nat} (ha : a < 12) (hb : b < 12) (hab : a ≠ b) : (p_lo a b = a ∧ p_hi a b = b) ∨ (p_lo a b = b ∧ p_hi a b = a) := by
  unfold p_lo p_hi
  by_cases c : a < b
  · left
    rw [if_neg (by omega), if_pos c]
    exact ⟨rfl, rfl⟩
  · right
    rw [if_pos (by omega), if_neg c]
    exact ⟨rfl, rfl⟩
theorem r_link79 {o : Nat → Nat} {A : pA} {M : xwM} (h : p_RM A M) (hI : p_I o A) {a b c : Nat} (ha : a < 12) (hb : b < 12) (hab : a ≠ b) (hc : c ≤ 1000) : p_MX M (A.1 3 a b) (p_link a b (nI c) A) (fX3_link_79 (nI a) (nI b) (nI c) (A.1 3 a b) (nI (p_lo a b)) (nI (p_hi a b)) M) := by
  have hlo := p_lo_l ha hb
  have hhi := p_hi_l ha hb
  obtain ⟨w, hw, w1, w2⟩ := hI.1.2.1 a b ha hb
  have hends := p_sc3_ends hI.1 ha hb hab (nI c)
  obtain ⟨k, k1, k2⟩ := h.2.2.2.2.2.2.2.2.2.2.2.1
  have z0 : ∀ x, x ≤ 1000 → (nI x = 0 ↔ x = 0) := fun x hx => by
    rw [show (0 : Int32) = nI 0 from rfl]
    exact nI_eq (by omega) (by decide)
  unfold fX3_link_79 fX3_link_143 fX3_link_163 fX3_link_283 p_link
  rw [p_ix2, p_ix2, p_sto (by omega) (by decide), p_sto (by omega) (by decide)]
  have fr : ∀ x, p_FM M (ms (ms (ms M 419 (12 * a + b) (nI c)) 419 (12 * b + a) (nI c)) 418 2 x) := fun x => p_FM_t (p_FM_ms (by decide)) (p_FM_t (p_FM_ms (by decide)) (p_FM_ms (by decide)))
  have f0 : ∀ x, ms (ms (ms M 419 (12 * a + b) (nI c)) 419 (12 * b + a) (nI c)) 418 2 x 418 0 = M 418 0 := fun x => by
    rw [p_ms0 (Or.inr (by decide)), p_ms0 (Or.inl (by decide)), p_ms0 (Or.inl (by decide))]
  have l2 : ms (ms M 419 (12 * a + b) (nI c)) 419 (12 * b + a) (nI c) 418 2 = nI k := by
    rw [ms_at, if_neg (by omega), ms_at, if_neg (by omega), k1]
  by_cases c1 : nI c = A.1 3 a b
  · have ex : A.1 3 a b = nI c := c1.symm
    have i1 : ms M 419 (12 * a + b) (nI c) = M := p_ms_id ((r_3 h ha hb).trans ex)
    have i2 : ms M 419 (12 * b + a) (nI c) = M := p_ms_id ((r_3 h hb ha).trans ((p_3sym hI.1 hb ha).trans ex))
    rw [if_pos c1, i1, i2]
    by_cases c2 : A.1 3 a b = 0
    · rw [if_pos c2, if_pos (show nI c ≤ 0 by rw [c1, c2]; decide), if_pos c1.symm]
      exact p_MX_s h
    · rw [if_neg c2, if_pos c1.symm]
      exact p_MX_s h
  · rw [if_neg c1]
    by_cases c2 : A.1 3 a b = 0
    · have cn : c ≠ 0 := fun e => c1 (by rw [c2, e]; rfl)
      rw [if_pos c2, if_pos c2, if_neg (nI_nle (by omega) (by omega))]
      unfold xlet
      dsimp only
      rw [l2, nI_1]
      have hI1 : p_I o (p_sc3 a b (nI c) A.1, A.2) := And.intro (p_IT3 hI.1 hab hc (fun e => absurd e cn)) hI.2
      have h1 : p_RM (p_sc3 a b (nI c) A.1, A.2) (ms (ms (ms M 419 (12 * a + b) (nI c)) 419 (12 * b + a) (nI c)) 418 2 (nI (k + 1))) := p_RM3 h hI.1 ha hb hab (by
        unfold p_on at hends
        rw [if_pos c2, if_neg (fun q => cn ((z0 c hc).mp q))] at hends
        omega)
      refine p_MX_t (fr (nI (k + 1))) (f0 (nI (k + 1))) ?_
      refine p_MX_v (r_introduces h1 hI1 hlo hhi) (fun M2 h2 => ?_)
      exact p_MX_v (r_introduces h2 (p_I_every hI1 hlo hhi) hhi hlo) (fun M3 h3 => p_MX_s h3)
    · rw [if_neg c2, if_neg c2, if_neg (show ¬ A.1 3 a b = nI c from fun q => c1 q.symm)]
      by_cases c3 : c = 0
      · rw [if_pos ((z0 c hc).mpr c3), if_pos ((z0 c hc).mpr c3)]
        unfold xlet
        rw [l2]
        have hends2 : 2 * (k - 1) = p_ends (p_sc3 a b (nI c) A.1) ∧ 1 ≤ k := by
          unfold p_on at hends
          rw [if_neg c2, if_pos ((z0 c hc).mpr c3)] at hends
          omega
        rw [show nI k - 1 = nI (k - 1) from nI_sub (b := 1) hends2.2]
        have h1 : p_RM (p_sc3 a b (nI c) A.1, A.2) (ms (ms (ms M 419 (12 * a + b) (nI c)) 419 (12 * b + a) (nI c)) 418 2 (nI (k - 1))) := p_RM3 h hI.1 ha hb hab hends2.1
        have comm : p_fk a b 12 (p_sc3 a b (nI c) A.1) = p_sc3 a b (nI c) (p_fk a b 12 A.1) := by
          funext j n d
          rw [p_sc3_at]
          unfold p_fk
          rw [p_sc3_at]
          by_cases q : j = 3 ∧ ((n = a ∧ d = b) ∨ (n = b ∧ d = a))
          · rw [if_pos q, if_pos q, if_neg (by omega)]
          · rw [if_neg q, if_neg q]
        have hIT : p_IT o (p_fk a b 12 (p_sc3 a b (nI c) A.1)) := by
          rw [comm]
          refine p_IT3 (p_ITfk hI.1 ha hb 12) hab hc (fun _ d hd => ?_)
          unfold p_fk
          exact ⟨if_pos (by omega), if_pos (by omega), if_pos (by omega), if_pos (by omega)⟩
        refine p_MX_t (fr (nI (k - 1))) (f0 (nI (k - 1))) ?_
        have e0 : nI c = 0 := (z0 c hc).mpr c3
        rw [p_fk_e]
        show p_MX _ _ (p_chAll (p_hi a b) (p_chAll (p_lo a b) (p_fk a b 12 (p_sc3 a b (nI c) A.1), A.2))) _
        have sym : p_fk a b 12 (p_sc3 a b (nI c) A.1) = p_fk (p_lo a b) (p_hi a b) 12 (p_sc3 a b (nI c) A.1) := by
          rcases p_lohi ha hb hab with ⟨q1, q2⟩ | ⟨q1, q2⟩
          · rw [q1, q2]
          · rw [q1, q2, p_fk_sym]
        rw [sym] at hIT ⊢
        have K := r_link170 h1 (And.intro hIT hI.2) hlo hhi (A.1 3 a b)
        rw [e0] at K ⊢
        exact K
      · rw [if_neg (fun q => c3 ((z0 c hc).mp q)), if_neg (fun q => c3 ((z0 c hc).mp q))]
        unfold xlet
        rw [l2, show nI k - 0 = nI k from nI_sub (b := 0) (Nat.zero_le _)]
        have h1 : p_RM (p_sc3 a b (nI c) A.1, A.2) (ms (ms (ms M 419 (12 * a + b) (nI c)) 419 (12 * b + a) (nI c)) 418 2 (nI k)) := p_RM3 h hI.1 ha hb hab (by
          unfold p_on at hends
          rw [if_neg c2, if_neg (fun q => c3 ((z0 c hc).mp q))] at hends
          omega)
        have hI1 : p_I o (p_sc3 a b (nI c) A.1, A.2) := And.intro (p_IT3 hI.1 hab hc (fun e => absurd e c3)) hI.2
        refine p_MX_t (fr (nI k)) (f0 (nI k)) ?_
        show p_MX _ _ _ (fX3_link_170 2001 (nI c) (A.1 3 a b) (nI (p_lo a b)) (nI (p_hi a b)) 0 _)
        rw [fX3_link_170, if_neg (show ¬ (12 : Int32) ≤ 0 by decide), if_neg (fun q => c3 ((z0 c hc).mp q))]
        exact r_link271 h1 hI1 hlo hhi _
theorem r_link1 {o : Nat → Nat} {A : pA} {M : xwM} (h : p_RM A M) (hI : p_I o A) {a b c : Nat} (ha : a < 12) (hb : b < 12) (hab : a ≠ b) (hc : c ≤ 1000) : p_RO M 0 (A.1 3 a b) (p_link a b (nI c) A) (fX3_link (nI a) (nI b) (nI c) M) := by
  have h0 := p_RM_0 h 0
  have K := r_link79 h0 hI ha hb hab hc
  unfold fX3_link fX3_link_36 fX3_link_67
  rw [r_node1 ha, bniE, if_neg one0, r_node1 hb, bniE, if_neg one0, if_neg (show ¬ nI a = nI b from fun e => hab ((nI_eq (by omega) (by omega)).mp e)), if_neg (nI_pos (by omega)), if_pos (show nI c ≤ 1000 from nI_le hc (by decide)), r_ref0, bniE, if_pos rfl, p_ix2, p_ld (by omega) (by decide), r_3 h0 ha hb]
  refine p_RO_ok ?_
  unfold p_lo p_hi at K
  by_cases q : a < b
  · rw [if_neg (by omega), if_pos q] at K
    rw [if_neg (show ¬ nI b ≤ nI a from nI_ge q (by omega)), if_neg (show ¬ nI b ≤ nI a from nI_ge q (by omega))]
    exact K
  · rw [if_pos (by omega), if_neg q] at K
    rw [if_pos (show nI b ≤ nI a from nI_le (by omega) (by omega)), if_pos (show nI b ≤ nI a from nI_le (by omega) (by omega))]
    exact K
theorem r_link0 {A : pA} {M : xwM} (h : p_RM A M) {x y c : Int32} (hx : ¬ (p_pr x y ∧ ¬ c < 0 ∧ c ≤ 1000)) : p_RO M 1 0 A (fX3_link x y c M) := by
  unfold fX3_link fX3_link_31 fX3_link_36
  have z := p_RO_no h 1
  by_cases c1 : p_isN x
  · obtain ⟨n, hn, e1⟩ := c1
    rw [e1, r_node1 hn, bniE, if_neg one0]
    by_cases c2 : p_isN y
    · obtain ⟨m, hm, e2⟩ := c2
      rw [e2, r_node1 hm, bniE, if_neg one0]
      by_cases c3 : nI n = nI m
      · rw [if_pos c3, r_ref1, bniE, if_neg one0]
        exact z
      · rw [if_neg c3]
        by_cases c4 : c < 0
        · rw [if_pos c4, r_ref1, bniE, if_neg one0]
          exact z
        · rw [if_neg c4]
          by_cases c5 : c ≤ 1000
          · exact absurd ⟨⟨⟨n, hn, e1⟩, ⟨m, hm, e2⟩, by rw [e1, e2]; exact c3⟩, c4, c5⟩ hx
          · rw [if_neg c5, r_ref1, bniE, if_neg one0]
            exact z
    · rw [r_node0 c2, bniE, if_pos rfl, r_ref1, bniE, if_neg one0]
      exact z
  · rw [r_node0 c1, bniE, if_pos rfl, r_ref1, bniE, if_neg one0]
    exact z
theorem p_I_link {o : Nat → Nat} {A : pA} (hI : p_I o A) {a b c : Nat} (ha : a < 12) (hb : b < 12) (hab : a ≠ b) (hc : c ≤ 1000) : p_I o (p_link a b (nI c) A) := by
  have hlo := p_lo_l ha hb
  have hhi := p_hi_l ha hb
  unfold p_link
  by_cases c1 : nI c = A.1 3 a b
  · rw [if_pos c1]; exact hI
  · rw [if_neg c1]
    have z0 : nI c = 0 ↔ c = 0 := by
      rw [show (0 : Int32) = nI 0 from rfl]
      exact nI_eq (by omega) (by decide)
    by_cases c2 : A.1 3 a b = 0
    · rw [if_pos c2]
      have cn : c ≠ 0 := fun e => c1 (by rw [c2, e]; rfl)
      have hI1 : p_I o (p_sc3 a b (nI c) A.1, A.2) := And.intro (p_IT3 hI.1 hab hc (fun e => absurd e cn)) hI.2
      exact p_I_every (p_I_every hI1 hlo hhi) hhi hlo
    · rw [if_neg c2]
      refine p_I_chAll (p_I_chAll ?_ hlo) hhi
      by_cases c3 : c = 0
      · rw [if_pos (z0.mpr c3), p_fk_e]
        show p_I o (p_fk a b 12 (p_sc3 a b (nI c) A.1), A.2)
        have comm : p_fk a b 12 (p_sc3 a b (nI c) A.1) = p_sc3 a b (nI c) (p_fk a b 12 A.1) := by
          funext j n d
          rw [p_sc3_at]
          unfold p_fk
          rw [p_sc3_at]
          by_cases q : j = 3 ∧ ((n = a ∧ d = b) ∨ (n = b ∧ d = a))
          · rw [if_pos q, if_pos q, if_neg (by omega)]
          · rw [if_neg q, if_neg q]
        rw [comm]
        refine And.intro (p_IT3 (p_ITfk hI.1 ha hb 12) hab hc (fun _ d hd => ?_)) hI.2
        unfold p_fk
        exact ⟨if_pos (by omega), if_pos (by omega), if_pos (by omega), if_pos (by omega)⟩
      · rw [if_neg (fun q => c3 (z0.mp q))]
        exact And.intro (p_IT3 hI.1 hab hc (fun e => absurd e c3)) hI.2
