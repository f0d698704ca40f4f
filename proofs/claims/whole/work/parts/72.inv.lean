/-! ===== the invariant of the spec's state; o d: the own number of node d ===== -/
def p_bok (b : Nat) (x v : Int32) : Prop := (x = -1 ∧ v = -1) ∨ ∃ a w, a ≤ b ∧ w ≤ 60000 ∧ x = nI a ∧ v = nI w
def p_wok (b : Nat) (c x v : Int32) : Prop := (c = -1 ∧ x = -1 ∧ v = -1) ∨ ∃ m a w, m < 12 ∧ a ≤ b ∧ w ≤ 60000 ∧ c = nI m ∧ x = nI a ∧ v = nI w
def p_pok (b : Nat) (x : Int32) : Prop := x = -1 ∨ ∃ a, a ≤ b + 1 ∧ x = nI a
def p_tok (b : Nat) (x v c : Int32) : Prop := (x = -1 ∧ v = -1) ∨ ∃ a w, a ≤ b ∧ (w ≤ 60000 ∨ w = 65535) ∧ x = nI a ∧ v = nI w ∧ c ≠ 0
def p_lI (o : Nat → Nat) (l : pL) : Prop := ∃ m n d a w, m < 12 ∧ n < 12 ∧ d < 12 ∧ l 1 = nI m ∧ l 2 = nI n ∧ l 3 = nI d ∧ l 4 = nI a ∧ l 5 = nI w ∧ ((l 0 = 1 ∧ a ≤ o d ∧ (w ≤ 60000 ∨ w = 65535)) ∨ (l 0 = 2 ∧ a ≤ o d + 1 ∧ w ≤ 8))
def p_IT (o : Nat → Nat) (T : pT) : Prop :=
  (∀ n, n < 12 → T 2 n 9 = nI n) ∧
  (∀ n m, n < 12 → m < 12 → ∃ c, c ≤ 1000 ∧ T 3 n m = nI c ∧ T 3 m n = nI c) ∧ (∀ n, n < 12 → T 3 n n = 0) ∧
  (∀ n, n < 12 → T 6 n n = nI n ∧ T 7 n n = nI (o n) ∧ T 8 n n = 0 ∧ T 4 n n = -1) ∧
  (∀ n d, n < 12 → d < 12 → p_bok (o d) (T 4 n d) (T 5 n d)) ∧
  (∀ n d, n < 12 → d < 12 → n ≠ d → p_wok (o d) (T 6 n d) (T 7 n d) (T 8 n d)) ∧
  (∀ n d, n < 12 → d < 12 → p_pok (o d) (T 9 n d)) ∧
  (∀ n m d, n < 12 → m < 12 → d < 12 → p_tok (o d) (T (11 + m) n d) (T (24 + m) n d) (T 3 n m)) ∧
  (∀ d, d < 12 → o d ≤ 32000)
def p_I (o : Nat → Nat) (A : pA) : Prop := p_IT o A.1 ∧ ∀ l, l ∈ A.2 → p_lI o l
theorem p_IT1 {o : Nat → Nat} {T : pT} (h : p_IT o T) {a b : Nat} {x : Int32} : p_IT o (p_st T 1 a b x) := by
  obtain ⟨h1, h2, h3, h4, h5, h6, h7, h8, h9⟩ := h
  have e : ∀ j n d, j ≠ 1 → p_st T 1 a b x j n d = T j n d := fun j n d hj => by rw [p_st_at, if_neg (by omega)]
  refine ⟨?_, ?_, ?_, ?_, ?_, ?_, ?_, ?_, h9⟩
  · intro n hn; rw [e _ _ _ (by decide)]; exact h1 n hn
  · intro n m hn hm; rw [e _ _ _ (by decide), e _ _ _ (by decide)]; exact h2 n m hn hm
  · intro n hn; rw [e _ _ _ (by decide)]; exact h3 n hn
  · intro n hn; rw [e _ _ _ (by decide), e _ _ _ (by decide), e _ _ _ (by decide), e _ _ _ (by decide)]; exact h4 n hn
  · intro n d hn hd; rw [e _ _ _ (by decide), e _ _ _ (by decide)]; exact h5 n d hn hd
  · intro n d hn hd hnd; rw [e _ _ _ (by decide), e _ _ _ (by decide), e _ _ _ (by decide)]; exact h6 n d hn hd hnd
  · intro n d hn hd; rw [e _ _ _ (by decide)]; exact h7 n d hn hd
  · intro n m d hn hm hd; rw [e _ _ _ (by omega), e _ _ _ (by omega), e _ _ _ (by decide)]; exact h8 n m d hn hm hd
theorem p_IT45 {o : Nat → Nat} {T : pT} (h : p_IT o T) {n d : Nat} {x v : Int32} (hnd : n ≠ d) (hb : p_bok (o d) x v) : p_IT o (p_st (p_st T 4 n d x) 5 n d v) := by
  obtain ⟨h1, h2, h3, h4, h5, h6, h7, h8, h9⟩ := h
  have e : ∀ j n' d', j ≠ 4 ∧ j ≠ 5 ∨ n' ≠ n ∨ d' ≠ d → p_st (p_st T 4 n d x) 5 n d v j n' d' = T j n' d' := fun j n' d' hj => by rw [p_st_at, if_neg (by omega), p_st_at, if_neg (by omega)]
  refine ⟨?_, ?_, ?_, ?_, ?_, ?_, ?_, ?_, h9⟩
  · intro n hn; rw [e _ _ _ (by omega)]; exact h1 n hn
  · intro n m hn hm; rw [e _ _ _ (by omega), e _ _ _ (by omega)]; exact h2 n m hn hm
  · intro n hn; rw [e _ _ _ (by omega)]; exact h3 n hn
  · intro n' hn; rw [e _ _ _ (by omega), e _ _ _ (by omega), e _ _ _ (by omega), e _ _ _ (by omega)]; exact h4 n' hn
  · intro n' d' hn hd
    by_cases c : n' = n ∧ d' = d
    · obtain ⟨rfl, rfl⟩ := c
      rw [p_st_at, if_neg (by omega), p_st_at, if_pos ⟨rfl, rfl, rfl⟩, p_st_at, if_pos ⟨rfl, rfl, rfl⟩]
      exact hb
    · rw [e _ _ _ (by omega), e _ _ _ (by omega)]; exact h5 n' d' hn hd
  · intro n' d' hn hd hnd; rw [e _ _ _ (by omega), e _ _ _ (by omega), e _ _ _ (by omega)]; exact h6 n' d' hn hd hnd
  · intro n' d' hn hd; rw [e _ _ _ (by omega)]; exact h7 n' d' hn hd
  · intro n m d hn hm hd; rw [e _ _ _ (by omega), e _ _ _ (by omega), e _ _ _ (by omega)]; exact h8 n m d hn hm hd
theorem p_IT678 {o : Nat → Nat} {T : pT} (h : p_IT o T) {n d : Nat} {c x v : Int32} (hnd : n ≠ d) (hb : p_wok (o d) c x v) : p_IT o (p_st (p_st (p_st T 6 n d c) 7 n d x) 8 n d v) := by
  obtain ⟨h1, h2, h3, h4, h5, h6, h7, h8, h9⟩ := h
  have e : ∀ j n' d', j ≠ 6 ∧ j ≠ 7 ∧ j ≠ 8 ∨ n' ≠ n ∨ d' ≠ d → p_st (p_st (p_st T 6 n d c) 7 n d x) 8 n d v j n' d' = T j n' d' := fun j n' d' hj => by rw [p_st_at, if_neg (by omega), p_st_at, if_neg (by omega), p_st_at, if_neg (by omega)]
  refine ⟨?_, ?_, ?_, ?_, ?_, ?_, ?_, ?_, h9⟩
  · intro n hn; rw [e _ _ _ (by omega)]; exact h1 n hn
  · intro n m hn hm; rw [e _ _ _ (by omega), e _ _ _ (by omega)]; exact h2 n m hn hm
  · intro n hn; rw [e _ _ _ (by omega)]; exact h3 n hn
  · intro n' hn; rw [e _ _ _ (by omega), e _ _ _ (by omega), e _ _ _ (by omega), e _ _ _ (by omega)]; exact h4 n' hn
  · intro n' d' hn hd; rw [e _ _ _ (by omega), e _ _ _ (by omega)]; exact h5 n' d' hn hd
  · intro n' d' hn hd hnd
    by_cases c : n' = n ∧ d' = d
    · obtain ⟨rfl, rfl⟩ := c
      rw [p_st_at, if_neg (by omega), p_st_at, if_neg (by omega), p_st_at, if_pos ⟨rfl, rfl, rfl⟩, p_st_at, if_neg (by omega), p_st_at, if_pos ⟨rfl, rfl, rfl⟩, p_st_at, if_pos ⟨rfl, rfl, rfl⟩]
      exact hb
    · rw [e _ _ _ (by omega), e _ _ _ (by omega), e _ _ _ (by omega)]; exact h6 n' d' hn hd hnd
  · intro n' d' hn hd; rw [e _ _ _ (by omega)]; exact h7 n' d' hn hd
  · intro n m d hn hm hd; rw [e _ _ _ (by omega), e _ _ _ (by omega), e _ _ _ (by omega)]; exact h8 n m d hn hm hd
theorem p_IT9 {o : Nat → Nat} {T : pT} (h : p_IT o T) {n d : Nat} {x : Int32} (hb : p_pok (o d) x) : p_IT o (p_st T 9 n d x) := by
  obtain ⟨h1, h2, h3, h4, h5, h6, h7, h8, h9⟩ := h
  have e : ∀ j n' d', j ≠ 9 ∨ n' ≠ n ∨ d' ≠ d → p_st T 9 n d x j n' d' = T j n' d' := fun j n' d' hj => by rw [p_st_at, if_neg (by omega)]
  refine ⟨?_, ?_, ?_, ?_, ?_, ?_, ?_, ?_, h9⟩
  · intro n hn; rw [e _ _ _ (by omega)]; exact h1 n hn
  · intro n m hn hm; rw [e _ _ _ (by omega), e _ _ _ (by omega)]; exact h2 n m hn hm
  · intro n hn; rw [e _ _ _ (by omega)]; exact h3 n hn
  · intro n' hn; rw [e _ _ _ (by omega), e _ _ _ (by omega), e _ _ _ (by omega), e _ _ _ (by omega)]; exact h4 n' hn
  · intro n' d' hn hd; rw [e _ _ _ (by omega), e _ _ _ (by omega)]; exact h5 n' d' hn hd
  · intro n' d' hn hd hnd; rw [e _ _ _ (by omega), e _ _ _ (by omega), e _ _ _ (by omega)]; exact h6 n' d' hn hd hnd
  · intro n' d' hn hd
    by_cases c : n' = n ∧ d' = d
    · obtain ⟨rfl, rfl⟩ := c
      rw [p_st_at, if_pos ⟨rfl, rfl, rfl⟩]
      exact hb
    · rw [e _ _ _ (by omega)]; exact h7 n' d' hn hd
  · intro n m d hn hm hd; rw [e _ _ _ (by omega), e _ _ _ (by omega), e _ _ _ (by omega)]; exact h8 n m d hn hm hd
theorem p_ITt {o : Nat → Nat} {T : pT} (h : p_IT o T) {n m d : Nat} {x v : Int32} (hm : m < 12) (hb : p_tok (o d) x v (T 3 n m)) : p_IT o (p_st (p_st T (11 + m) n d x) (24 + m) n d v) := by
  obtain ⟨h1, h2, h3, h4, h5, h6, h7, h8, h9⟩ := h
  have e : ∀ j n' d', j ≠ 11 + m ∧ j ≠ 24 + m ∨ n' ≠ n ∨ d' ≠ d → p_st (p_st T (11 + m) n d x) (24 + m) n d v j n' d' = T j n' d' := fun j n' d' hj => by rw [p_st_at, if_neg (by omega), p_st_at, if_neg (by omega)]
  refine ⟨?_, ?_, ?_, ?_, ?_, ?_, ?_, ?_, h9⟩
  · intro n hn; rw [e _ _ _ (by omega)]; exact h1 n hn
  · intro n m hn hm; rw [e _ _ _ (by omega), e _ _ _ (by omega)]; exact h2 n m hn hm
  · intro n hn; rw [e _ _ _ (by omega)]; exact h3 n hn
  · intro n' hn; rw [e _ _ _ (by omega), e _ _ _ (by omega), e _ _ _ (by omega), e _ _ _ (by omega)]; exact h4 n' hn
  · intro n' d' hn hd; rw [e _ _ _ (by omega), e _ _ _ (by omega)]; exact h5 n' d' hn hd
  · intro n' d' hn hd hnd; rw [e _ _ _ (by omega), e _ _ _ (by omega), e _ _ _ (by omega)]; exact h6 n' d' hn hd hnd
  · intro n' d' hn hd; rw [e _ _ _ (by omega)]; exact h7 n' d' hn hd
  · intro n' m' d' hn hm' hd
    by_cases c : n' = n ∧ m' = m ∧ d' = d
    · obtain ⟨rfl, rfl, rfl⟩ := c
      rw [e 3 _ _ (by omega), p_st_at, if_neg (by omega), p_st_at, if_pos ⟨rfl, rfl, rfl⟩, p_st_at, if_pos ⟨rfl, rfl, rfl⟩]
      exact hb
    · rw [e _ _ _ (by omega), e _ _ _ (by omega), e _ _ _ (by omega)]; exact h8 n' m' d' hn hm' hd
theorem p_I_snd {o : Nat → Nat} {A : pA} (h : p_I o A) {l : pL} (hl : p_lI o l) : p_I o (p_snd l A) := by
  unfold p_snd
  by_cases c : A.2.length < 300
  · rw [if_pos c]
    refine ⟨p_IT1 h.1, ?_⟩
    intro l' hl'
    rcases List.mem_append.mp hl' with q | q
    · exact h.2 l' q
    · rw [List.mem_singleton] at q
      rw [q]
      exact hl
  · rw [if_neg c]
    exact ⟨p_IT1 (p_IT1 h.1), h.2⟩
theorem p_I_tell {o : Nat → Nat} {A : pA} (h : p_I o A) {n m d : Nat} (hn : n < 12) (hm : m < 12) (hd : d < 12) : p_I o (p_tell n m d A) := by
  have hT := h.1
  obtain ⟨h1, h2, h3, h4, h5, h6, h7, h8, h9⟩ := h.1
  unfold p_tell
  by_cases c : A.1 6 n d = -1
  · rw [if_pos c]
    refine p_I_snd h ?_
    rcases h5 n d hn hd with ⟨e1, e2⟩ | ⟨a, w, ha, hw, e1, e2⟩
    · rw [if_pos e1]
      exact ⟨n, m, d, 0, 65535, hn, hm, hd, rfl, rfl, rfl, rfl, rfl, Or.inl ⟨rfl, Nat.zero_le _, Or.inr rfl⟩⟩
    · have := h9 d hd
      rw [e1, if_neg (nI_m1ne (by omega))]
      exact ⟨n, m, d, a, 65535, hn, hm, hd, rfl, rfl, rfl, rfl, rfl, Or.inl ⟨rfl, ha, Or.inr rfl⟩⟩
  · rw [if_neg c]
    by_cases c2 : d = n
    · rw [if_neg (show ¬ (d ≠ n ∧ p_gd A.1 n d (A.1 7 n d) (A.1 8 n d) = true) from fun q => q.1 c2)]
      subst c2
      obtain ⟨q1, q2, q3, q4⟩ := h4 d hd
      refine p_I_snd h ?_
      rw [q2, q3]
      exact ⟨d, m, d, o d, 0, hn, hm, hd, rfl, rfl, rfl, rfl, rfl, Or.inl ⟨rfl, Nat.le_refl _, Or.inl (Nat.zero_le _)⟩⟩
    · rcases h6 n d hn hd (fun e => c2 e.symm) with ⟨e1, e2, e3⟩ | ⟨b, a, w, hb, ha, hw, e1, e2, e3⟩
      · exact absurd e1 c
      · have hl : p_lI o (p_mk 1 (nI n) (nI m) (nI d) (A.1 7 n d) (A.1 8 n d)) := by
          rw [e2, e3]
          exact ⟨n, m, d, a, w, hn, hm, hd, rfl, rfl, rfl, rfl, rfl, Or.inl ⟨rfl, ha, Or.inl hw⟩⟩
        refine p_I_snd ?_ hl
        split
        · refine ⟨p_IT45 hT (fun e => c2 e.symm) ?_, h.2⟩
          rw [e2, e3]
          exact Or.inr ⟨a, w, ha, hw, rfl, rfl⟩
        · exact h
theorem p_I_tellAll {o : Nat → Nat} {A : pA} (h : p_I o A) {n d : Nat} (hn : n < 12) (hd : d < 12) : p_I o (p_tellAll n d A) :=
  p_up_inv (fun _ A => p_I o A) _ 12 (fun m A hm hA => by
    split
    · exact hA
    · exact p_I_tell hA hn hm hd) 12 0 A rfl h
theorem p_I_every {o : Nat → Nat} {A : pA} (h : p_I o A) {n m : Nat} (hn : n < 12) (hm : m < 12) : p_I o (p_every n m A) :=
  p_up_inv (fun _ A => p_I o A) _ 12 (fun d A hd hA => by
    split
    · exact hA
    · exact p_I_tell hA hn hm hd) 12 0 A rfl h
theorem p_I_req {o : Nat → Nat} {A : pA} (h : p_I o A) {n d a w : Nat} (hn : n < 12) (hd : d < 12) (ha : a ≤ o d + 1) (hw : w ≤ 8) (ex : Int32) : p_I o (p_req n ex d (nI a) (nI w) A) :=
  p_up_inv (fun _ A => p_I o A) _ 12 (fun m A hm hA => by
    split
    · exact hA
    · exact p_I_snd hA ⟨n, m, d, a, w, hn, hm, hd, rfl, rfl, rfl, rfl, rfl, Or.inr ⟨rfl, ha, hw⟩⟩) 12 0 A rfl h
theorem nx_and (a b : Nat) : nI a &&& nI b = nI (a &&& b) := by
  apply Int32.toBitVec_inj.1
  show BitVec.ofNat 32 a &&& BitVec.ofNat 32 b = BitVec.ofNat 32 (a &&& b)
  apply BitVec.eq_of_getLsbD_eq
  intro i hi
  simp [hi]
theorem nx_mod (k : Nat) : nI k &&& 65535 = nI (k % 65536) := by
  show nI k &&& nI 65535 = _
  rw [nx_and, show (65535 : Nat) = 2 ^ 16 - 1 from rfl, Nat.and_two_pow_sub_one_eq_mod]
theorem nx_m16 {k : Nat} (h : k < 65536) : nI k &&& 65535 = nI k := by rw [nx_mod, Nat.mod_eq_of_lt h]
theorem nI_wrap (a : Nat) : nI a = nI (4294967296 + a) := by
  apply Int32.toBitVec_inj.1
  show BitVec.ofNat 32 a = BitVec.ofNat 32 (4294967296 + a)
  apply BitVec.eq_of_toNat_eq
  simp
theorem p_nw_n {a b : Nat} (ha : a ≤ 32767) (hb : b ≤ 32767) : p_nw (nI a) (nI b) = decide (b < a) := by
  unfold p_nw
  by_cases c : b ≤ a
  · rw [nI_sub c, nx_m16 (by omega)]
    by_cases c2 : b < a
    · rw [decide_eq_true c2, decide_eq_false (show ¬ nI (a - b) < 1 from nI_nlt (b := 1) (by omega) (by omega)), decide_eq_false (show ¬ 32767 < nI (a - b) from nI_nlt (a := 32767) (by omega) (by decide))]
      rfl
    · rw [decide_eq_false c2, decide_eq_true (show nI (a - b) < 1 from nI_lt (b := 1) (by omega) (by decide))]
      rfl
  · rw [decide_eq_false (show ¬ b < a by omega), nI_wrap a, nI_sub (by omega), nx_mod, decide_eq_true (show 32767 < nI ((4294967296 + a - b) % 65536) from nI_lt (a := 32767) (by omega) (by omega))]
    simp
theorem p_pq_n {T : pT} {n d a b : Nat} (ha : T 9 n d = -1 ∨ T 9 n d = nI a) (h1 : a ≤ 32767) (h2 : b ≤ 32767) : p_pq T n d (nI b) := by
  unfold p_pq
  rcases ha with e | e
  · rw [e]
    simp
  · rw [e, p_nw_n h1 h2, p_nw_n h2 h1, nI_eq (by omega) (by omega)]
    have := nI_m1ne (n := a) (by omega)
    simp [this]
    omega
theorem p_I_ask {o : Nat → Nat} {A : pA} (h : p_I o A) {n d : Nat} (hn : n < 12) (hd : d < 12) : p_I o (p_ask n d A) := by
  unfold p_ask
  have h9 := h.1.2.2.2.2.2.2.2.2 d hd
  rcases h.1.2.2.2.2.1 n d hn hd with ⟨e1, e2⟩ | ⟨a, w, ha, hw, e1, e2⟩
  · rw [if_pos e1]
    exact p_I_req h hn hd (a := 0) (w := 8) (Nat.zero_le _) (Nat.le_refl _) _
  · rw [e1, if_neg (nI_m1ne (by omega)), nI_1, nx_m16 (by omega)]
    exact p_I_req h hn hd (a := a + 1) (w := 8) (by omega) (Nat.le_refl _) _
