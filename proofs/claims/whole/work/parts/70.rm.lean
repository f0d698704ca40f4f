/-! the reference's memory against the spec -/
theorem nI_mul (a b : Nat) : nI a * nI b = nI (a * b) := (Int32.ofNat_mul a b).symm
theorem p_ix2 (n d : Nat) : 12 * nI n + nI d = nI (12 * n + d) := by
  rw [show (12 : Int32) = nI 12 from rfl, nI_mul, nI_add]
theorem p_ix3 (n m d : Nat) : 144 * nI n + 12 * nI m + nI d = nI (144 * n + 12 * m + d) := by
  rw [show (144 : Int32) = nI 144 from rfl, show (12 : Int32) = nI 12 from rfl, nI_mul, nI_mul, nI_add, nI_add]
theorem p_up_congr {α : Type} (f g : Nat → α → α) (N : Nat) (h : ∀ j a, j < N → f j a = g j a) : ∀ k j a, j + k = N → p_up f k j a = p_up g k j a := by
  intro k
  induction k with
  | zero => intro j a _; rfl
  | succ k ih =>
    intro j a hj
    show p_up f k (j + 1) (f j a) = p_up g k (j + 1) (g j a)
    rw [h j a (by omega), ih (j + 1) _ (by omega)]
theorem p_deg_congr {T T' : pT} {n : Nat} (h : ∀ m, m < 12 → T 3 n m = T' 3 n m) : p_deg T n = p_deg T' n :=
  p_up_congr _ _ 12 (fun j a hj => by rw [h j hj]) 12 0 0 rfl
theorem p_ends_congr {T T' : pT} (h : ∀ n m, n < 12 → m < 12 → T 3 n m = T' 3 n m) : p_ends T = p_ends T' :=
  p_up_congr _ _ 12 (fun j a hj => by rw [p_deg_congr (fun m hm => h j m hj hm)]) 12 0 0 rfl
def p_lr (L : List pL) (M : xwM) : Prop := M 418 13 = nI L.length ∧ L.length ≤ 300 ∧ ∀ i l, L[i]? = some l → ∀ f, f < 6 → M 429 (6 * i + f) = l f
def p_RM (A : pA) (M : xwM) : Prop :=
  (∀ n m, n < 12 → m < 12 → M 419 (12 * n + m) = A.1 3 n m) ∧ (∀ n, n < 12 → M 420 n = A.1 7 n n) ∧
  (∀ n d, n < 12 → d < 12 → M 421 (12 * n + d) = A.1 4 n d) ∧ (∀ n d, n < 12 → d < 12 → M 422 (12 * n + d) = A.1 5 n d) ∧ (∀ n d, n < 12 → d < 12 → M 426 (12 * n + d) = A.1 9 n d) ∧
  (∀ n d, n < 12 → d < 12 → n ≠ d → M 423 (12 * n + d) = A.1 6 n d) ∧ (∀ n d, n < 12 → d < 12 → n ≠ d → M 424 (12 * n + d) = A.1 7 n d) ∧ (∀ n d, n < 12 → d < 12 → n ≠ d → M 425 (12 * n + d) = A.1 8 n d) ∧
  (∀ n m d, n < 12 → m < 12 → d < 12 → M 427 (144 * n + 12 * m + d) = A.1 (11 + m) n d) ∧ (∀ n m d, n < 12 → m < 12 → d < 12 → M 428 (144 * n + 12 * m + d) = A.1 (24 + m) n d) ∧
  (M 418 14 = A.1 1 0 3 ∧ M 418 15 = A.1 1 0 4 ∧ M 418 16 = A.1 1 0 5) ∧ (∃ k, M 418 2 = nI k ∧ 2 * k = p_ends A.1) ∧ p_lr A.2 M
def p_FM (M M' : xwM) : Prop := ∀ k, (k < 418 ∨ 430 ≤ k) → M' k = M k
def p_MV (M : xwM) (A : pA) (o : Option xwM) : Prop := ∃ M', o = some M' ∧ p_RM A M' ∧ p_FM M M' ∧ M' 418 0 = M 418 0
theorem p_FM_r (M : xwM) : p_FM M M := fun _ _ => rfl
theorem p_FM_t {M M1 M2 : xwM} (h1 : p_FM M M1) (h2 : p_FM M1 M2) : p_FM M M2 := fun k hk => (h2 k hk).trans (h1 k hk)
theorem p_FM_ms {M : xwM} {k i : Nat} {x : Int32} (h : 418 ≤ k ∧ k < 430) : p_FM M (ms M k i x) := fun a ha => by
  funext b
  rw [ms_at, if_neg (by omega)]
theorem p_RM4 {A : pA} {M : xwM} (h : p_RM A M) {n d : Nat} (hn : n < 12) (hd : d < 12) {x : Int32} : p_RM (p_st A.1 4 n d x, A.2) (ms M 421 (12 * n + d) x) := by
  obtain ⟨h1, h2, h3, h4, h5, h6, h7, h8, h9, h10, ⟨h11, h12, h13⟩, ⟨k, h14, h15⟩, h16, h17, h18⟩ := h
  refine ⟨?_, ?_, ?_, ?_, ?_, ?_, ?_, ?_, ?_, ?_, ⟨?_, ?_, ?_⟩, ⟨k, ?_, ?_⟩, ?_, h17, ?_⟩
  · intro n' m' a1 a2
    show _ = p_st A.1 4 n d x 3 n' m'
    rw [ms_at, if_neg (by omega), p_st_at, if_neg (by omega), h1 n' m' a1 a2]
  · intro n' a1
    show _ = p_st A.1 4 n d x 7 n' n'
    rw [ms_at, if_neg (by omega), p_st_at, if_neg (by omega), h2 n' a1]
  · intro n' d' a1 a2
    show _ = p_st A.1 4 n d x 4 n' d'
    rw [ms_at, p_st_at]
    by_cases e : n' = n ∧ d' = d
    · rw [if_pos (by omega), if_pos (by omega)]
    · rw [if_neg (by omega), if_neg (by omega), h3 n' d' a1 a2]
  · intro n' d' a1 a2
    show _ = p_st A.1 4 n d x 5 n' d'
    rw [ms_at, if_neg (by omega), p_st_at, if_neg (by omega), h4 n' d' a1 a2]
  · intro n' d' a1 a2
    show _ = p_st A.1 4 n d x 9 n' d'
    rw [ms_at, if_neg (by omega), p_st_at, if_neg (by omega), h5 n' d' a1 a2]
  · intro n' d' a1 a2 a3
    show _ = p_st A.1 4 n d x 6 n' d'
    rw [ms_at, if_neg (by omega), p_st_at, if_neg (by omega), h6 n' d' a1 a2 a3]
  · intro n' d' a1 a2 a3
    show _ = p_st A.1 4 n d x 7 n' d'
    rw [ms_at, if_neg (by omega), p_st_at, if_neg (by omega), h7 n' d' a1 a2 a3]
  · intro n' d' a1 a2 a3
    show _ = p_st A.1 4 n d x 8 n' d'
    rw [ms_at, if_neg (by omega), p_st_at, if_neg (by omega), h8 n' d' a1 a2 a3]
  · intro n' m' d' a1 a2 a3
    show _ = p_st A.1 4 n d x (11 + m') n' d'
    rw [ms_at, if_neg (by omega), p_st_at, if_neg (by omega), h9 n' m' d' a1 a2 a3]
  · intro n' m' d' a1 a2 a3
    show _ = p_st A.1 4 n d x (24 + m') n' d'
    rw [ms_at, if_neg (by omega), p_st_at, if_neg (by omega), h10 n' m' d' a1 a2 a3]
  · show _ = p_st A.1 4 n d x 1 0 3
    rw [ms_at, if_neg (by omega), p_st_at, if_neg (by omega), h11]
  · show _ = p_st A.1 4 n d x 1 0 4
    rw [ms_at, if_neg (by omega), p_st_at, if_neg (by omega), h12]
  · show _ = p_st A.1 4 n d x 1 0 5
    rw [ms_at, if_neg (by omega), p_st_at, if_neg (by omega), h13]
  · rw [ms_at, if_neg (by omega), h14]
  · rw [h15]
    exact p_ends_congr (fun n' m' _ _ => by show _ = p_st A.1 4 n d x 3 n' m'; rw [p_st_at, if_neg (by omega)])
  · rw [ms_at, if_neg (by omega), h16]
  · intro i l hl f hf
    rw [ms_at, if_neg (by omega), h18 i l hl f hf]
theorem p_RM5 {A : pA} {M : xwM} (h : p_RM A M) {n d : Nat} (hn : n < 12) (hd : d < 12) {x : Int32} : p_RM (p_st A.1 5 n d x, A.2) (ms M 422 (12 * n + d) x) := by
  obtain ⟨h1, h2, h3, h4, h5, h6, h7, h8, h9, h10, ⟨h11, h12, h13⟩, ⟨k, h14, h15⟩, h16, h17, h18⟩ := h
  refine ⟨?_, ?_, ?_, ?_, ?_, ?_, ?_, ?_, ?_, ?_, ⟨?_, ?_, ?_⟩, ⟨k, ?_, ?_⟩, ?_, h17, ?_⟩
  · intro n' m' a1 a2
    show _ = p_st A.1 5 n d x 3 n' m'
    rw [ms_at, if_neg (by omega), p_st_at, if_neg (by omega), h1 n' m' a1 a2]
  · intro n' a1
    show _ = p_st A.1 5 n d x 7 n' n'
    rw [ms_at, if_neg (by omega), p_st_at, if_neg (by omega), h2 n' a1]
  · intro n' d' a1 a2
    show _ = p_st A.1 5 n d x 4 n' d'
    rw [ms_at, if_neg (by omega), p_st_at, if_neg (by omega), h3 n' d' a1 a2]
  · intro n' d' a1 a2
    show _ = p_st A.1 5 n d x 5 n' d'
    rw [ms_at, p_st_at]
    by_cases e : n' = n ∧ d' = d
    · rw [if_pos (by omega), if_pos (by omega)]
    · rw [if_neg (by omega), if_neg (by omega), h4 n' d' a1 a2]
  · intro n' d' a1 a2
    show _ = p_st A.1 5 n d x 9 n' d'
    rw [ms_at, if_neg (by omega), p_st_at, if_neg (by omega), h5 n' d' a1 a2]
  · intro n' d' a1 a2 a3
    show _ = p_st A.1 5 n d x 6 n' d'
    rw [ms_at, if_neg (by omega), p_st_at, if_neg (by omega), h6 n' d' a1 a2 a3]
  · intro n' d' a1 a2 a3
    show _ = p_st A.1 5 n d x 7 n' d'
    rw [ms_at, if_neg (by omega), p_st_at, if_neg (by omega), h7 n' d' a1 a2 a3]
  · intro n' d' a1 a2 a3
    show _ = p_st A.1 5 n d x 8 n' d'
    rw [ms_at, if_neg (by omega), p_st_at, if_neg (by omega), h8 n' d' a1 a2 a3]
  · intro n' m' d' a1 a2 a3
    show _ = p_st A.1 5 n d x (11 + m') n' d'
    rw [ms_at, if_neg (by omega), p_st_at, if_neg (by omega), h9 n' m' d' a1 a2 a3]
  · intro n' m' d' a1 a2 a3
    show _ = p_st A.1 5 n d x (24 + m') n' d'
    rw [ms_at, if_neg (by omega), p_st_at, if_neg (by omega), h10 n' m' d' a1 a2 a3]
  · show _ = p_st A.1 5 n d x 1 0 3
    rw [ms_at, if_neg (by omega), p_st_at, if_neg (by omega), h11]
  · show _ = p_st A.1 5 n d x 1 0 4
    rw [ms_at, if_neg (by omega), p_st_at, if_neg (by omega), h12]
  · show _ = p_st A.1 5 n d x 1 0 5
    rw [ms_at, if_neg (by omega), p_st_at, if_neg (by omega), h13]
  · rw [ms_at, if_neg (by omega), h14]
  · rw [h15]
    exact p_ends_congr (fun n' m' _ _ => by show _ = p_st A.1 5 n d x 3 n' m'; rw [p_st_at, if_neg (by omega)])
  · rw [ms_at, if_neg (by omega), h16]
  · intro i l hl f hf
    rw [ms_at, if_neg (by omega), h18 i l hl f hf]
theorem p_RM9 {A : pA} {M : xwM} (h : p_RM A M) {n d : Nat} (hn : n < 12) (hd : d < 12) {x : Int32} : p_RM (p_st A.1 9 n d x, A.2) (ms M 426 (12 * n + d) x) := by
  obtain ⟨h1, h2, h3, h4, h5, h6, h7, h8, h9, h10, ⟨h11, h12, h13⟩, ⟨k, h14, h15⟩, h16, h17, h18⟩ := h
  refine ⟨?_, ?_, ?_, ?_, ?_, ?_, ?_, ?_, ?_, ?_, ⟨?_, ?_, ?_⟩, ⟨k, ?_, ?_⟩, ?_, h17, ?_⟩
  · intro n' m' a1 a2
    show _ = p_st A.1 9 n d x 3 n' m'
    rw [ms_at, if_neg (by omega), p_st_at, if_neg (by omega), h1 n' m' a1 a2]
  · intro n' a1
    show _ = p_st A.1 9 n d x 7 n' n'
    rw [ms_at, if_neg (by omega), p_st_at, if_neg (by omega), h2 n' a1]
  · intro n' d' a1 a2
    show _ = p_st A.1 9 n d x 4 n' d'
    rw [ms_at, if_neg (by omega), p_st_at, if_neg (by omega), h3 n' d' a1 a2]
  · intro n' d' a1 a2
    show _ = p_st A.1 9 n d x 5 n' d'
    rw [ms_at, if_neg (by omega), p_st_at, if_neg (by omega), h4 n' d' a1 a2]
  · intro n' d' a1 a2
    show _ = p_st A.1 9 n d x 9 n' d'
    rw [ms_at, p_st_at]
    by_cases e : n' = n ∧ d' = d
    · rw [if_pos (by omega), if_pos (by omega)]
    · rw [if_neg (by omega), if_neg (by omega), h5 n' d' a1 a2]
  · intro n' d' a1 a2 a3
    show _ = p_st A.1 9 n d x 6 n' d'
    rw [ms_at, if_neg (by omega), p_st_at, if_neg (by omega), h6 n' d' a1 a2 a3]
  · intro n' d' a1 a2 a3
    show _ = p_st A.1 9 n d x 7 n' d'
    rw [ms_at, if_neg (by omega), p_st_at, if_neg (by omega), h7 n' d' a1 a2 a3]
  · intro n' d' a1 a2 a3
    show _ = p_st A.1 9 n d x 8 n' d'
    rw [ms_at, if_neg (by omega), p_st_at, if_neg (by omega), h8 n' d' a1 a2 a3]
  · intro n' m' d' a1 a2 a3
    show _ = p_st A.1 9 n d x (11 + m') n' d'
    rw [ms_at, if_neg (by omega), p_st_at, if_neg (by omega), h9 n' m' d' a1 a2 a3]
  · intro n' m' d' a1 a2 a3
    show _ = p_st A.1 9 n d x (24 + m') n' d'
    rw [ms_at, if_neg (by omega), p_st_at, if_neg (by omega), h10 n' m' d' a1 a2 a3]
  · show _ = p_st A.1 9 n d x 1 0 3
    rw [ms_at, if_neg (by omega), p_st_at, if_neg (by omega), h11]
  · show _ = p_st A.1 9 n d x 1 0 4
    rw [ms_at, if_neg (by omega), p_st_at, if_neg (by omega), h12]
  · show _ = p_st A.1 9 n d x 1 0 5
    rw [ms_at, if_neg (by omega), p_st_at, if_neg (by omega), h13]
  · rw [ms_at, if_neg (by omega), h14]
  · rw [h15]
    exact p_ends_congr (fun n' m' _ _ => by show _ = p_st A.1 9 n d x 3 n' m'; rw [p_st_at, if_neg (by omega)])
  · rw [ms_at, if_neg (by omega), h16]
  · intro i l hl f hf
    rw [ms_at, if_neg (by omega), h18 i l hl f hf]
theorem p_RM6 {A : pA} {M : xwM} (h : p_RM A M) {n d : Nat} (hn : n < 12) (hd : d < 12) {x : Int32} : p_RM (p_st A.1 6 n d x, A.2) (ms M 423 (12 * n + d) x) := by
  obtain ⟨h1, h2, h3, h4, h5, h6, h7, h8, h9, h10, ⟨h11, h12, h13⟩, ⟨k, h14, h15⟩, h16, h17, h18⟩ := h
  refine ⟨?_, ?_, ?_, ?_, ?_, ?_, ?_, ?_, ?_, ?_, ⟨?_, ?_, ?_⟩, ⟨k, ?_, ?_⟩, ?_, h17, ?_⟩
  · intro n' m' a1 a2
    show _ = p_st A.1 6 n d x 3 n' m'
    rw [ms_at, if_neg (by omega), p_st_at, if_neg (by omega), h1 n' m' a1 a2]
  · intro n' a1
    show _ = p_st A.1 6 n d x 7 n' n'
    rw [ms_at, if_neg (by omega), p_st_at, if_neg (by omega), h2 n' a1]
  · intro n' d' a1 a2
    show _ = p_st A.1 6 n d x 4 n' d'
    rw [ms_at, if_neg (by omega), p_st_at, if_neg (by omega), h3 n' d' a1 a2]
  · intro n' d' a1 a2
    show _ = p_st A.1 6 n d x 5 n' d'
    rw [ms_at, if_neg (by omega), p_st_at, if_neg (by omega), h4 n' d' a1 a2]
  · intro n' d' a1 a2
    show _ = p_st A.1 6 n d x 9 n' d'
    rw [ms_at, if_neg (by omega), p_st_at, if_neg (by omega), h5 n' d' a1 a2]
  · intro n' d' a1 a2 a3
    show _ = p_st A.1 6 n d x 6 n' d'
    rw [ms_at, p_st_at]
    by_cases e : n' = n ∧ d' = d
    · rw [if_pos (by omega), if_pos (by omega)]
    · rw [if_neg (by omega), if_neg (by omega), h6 n' d' a1 a2 a3]
  · intro n' d' a1 a2 a3
    show _ = p_st A.1 6 n d x 7 n' d'
    rw [ms_at, if_neg (by omega), p_st_at, if_neg (by omega), h7 n' d' a1 a2 a3]
  · intro n' d' a1 a2 a3
    show _ = p_st A.1 6 n d x 8 n' d'
    rw [ms_at, if_neg (by omega), p_st_at, if_neg (by omega), h8 n' d' a1 a2 a3]
  · intro n' m' d' a1 a2 a3
    show _ = p_st A.1 6 n d x (11 + m') n' d'
    rw [ms_at, if_neg (by omega), p_st_at, if_neg (by omega), h9 n' m' d' a1 a2 a3]
  · intro n' m' d' a1 a2 a3
    show _ = p_st A.1 6 n d x (24 + m') n' d'
    rw [ms_at, if_neg (by omega), p_st_at, if_neg (by omega), h10 n' m' d' a1 a2 a3]
  · show _ = p_st A.1 6 n d x 1 0 3
    rw [ms_at, if_neg (by omega), p_st_at, if_neg (by omega), h11]
  · show _ = p_st A.1 6 n d x 1 0 4
    rw [ms_at, if_neg (by omega), p_st_at, if_neg (by omega), h12]
  · show _ = p_st A.1 6 n d x 1 0 5
    rw [ms_at, if_neg (by omega), p_st_at, if_neg (by omega), h13]
  · rw [ms_at, if_neg (by omega), h14]
  · rw [h15]
    exact p_ends_congr (fun n' m' _ _ => by show _ = p_st A.1 6 n d x 3 n' m'; rw [p_st_at, if_neg (by omega)])
  · rw [ms_at, if_neg (by omega), h16]
  · intro i l hl f hf
    rw [ms_at, if_neg (by omega), h18 i l hl f hf]
theorem p_RM7 {A : pA} {M : xwM} (h : p_RM A M) {n d : Nat} (hn : n < 12) (hd : d < 12) (hnd : n ≠ d) {x : Int32} : p_RM (p_st A.1 7 n d x, A.2) (ms M 424 (12 * n + d) x) := by
  obtain ⟨h1, h2, h3, h4, h5, h6, h7, h8, h9, h10, ⟨h11, h12, h13⟩, ⟨k, h14, h15⟩, h16, h17, h18⟩ := h
  refine ⟨?_, ?_, ?_, ?_, ?_, ?_, ?_, ?_, ?_, ?_, ⟨?_, ?_, ?_⟩, ⟨k, ?_, ?_⟩, ?_, h17, ?_⟩
  · intro n' m' a1 a2
    show _ = p_st A.1 7 n d x 3 n' m'
    rw [ms_at, if_neg (by omega), p_st_at, if_neg (by omega), h1 n' m' a1 a2]
  · intro n' a1
    show _ = p_st A.1 7 n d x 7 n' n'
    rw [ms_at, if_neg (by omega), p_st_at, if_neg (by omega), h2 n' a1]
  · intro n' d' a1 a2
    show _ = p_st A.1 7 n d x 4 n' d'
    rw [ms_at, if_neg (by omega), p_st_at, if_neg (by omega), h3 n' d' a1 a2]
  · intro n' d' a1 a2
    show _ = p_st A.1 7 n d x 5 n' d'
    rw [ms_at, if_neg (by omega), p_st_at, if_neg (by omega), h4 n' d' a1 a2]
  · intro n' d' a1 a2
    show _ = p_st A.1 7 n d x 9 n' d'
    rw [ms_at, if_neg (by omega), p_st_at, if_neg (by omega), h5 n' d' a1 a2]
  · intro n' d' a1 a2 a3
    show _ = p_st A.1 7 n d x 6 n' d'
    rw [ms_at, if_neg (by omega), p_st_at, if_neg (by omega), h6 n' d' a1 a2 a3]
  · intro n' d' a1 a2 a3
    show _ = p_st A.1 7 n d x 7 n' d'
    rw [ms_at, p_st_at]
    by_cases e : n' = n ∧ d' = d
    · rw [if_pos (by omega), if_pos (by omega)]
    · rw [if_neg (by omega), if_neg (by omega), h7 n' d' a1 a2 a3]
  · intro n' d' a1 a2 a3
    show _ = p_st A.1 7 n d x 8 n' d'
    rw [ms_at, if_neg (by omega), p_st_at, if_neg (by omega), h8 n' d' a1 a2 a3]
  · intro n' m' d' a1 a2 a3
    show _ = p_st A.1 7 n d x (11 + m') n' d'
    rw [ms_at, if_neg (by omega), p_st_at, if_neg (by omega), h9 n' m' d' a1 a2 a3]
  · intro n' m' d' a1 a2 a3
    show _ = p_st A.1 7 n d x (24 + m') n' d'
    rw [ms_at, if_neg (by omega), p_st_at, if_neg (by omega), h10 n' m' d' a1 a2 a3]
  · show _ = p_st A.1 7 n d x 1 0 3
    rw [ms_at, if_neg (by omega), p_st_at, if_neg (by omega), h11]
  · show _ = p_st A.1 7 n d x 1 0 4
    rw [ms_at, if_neg (by omega), p_st_at, if_neg (by omega), h12]
  · show _ = p_st A.1 7 n d x 1 0 5
    rw [ms_at, if_neg (by omega), p_st_at, if_neg (by omega), h13]
  · rw [ms_at, if_neg (by omega), h14]
  · rw [h15]
    exact p_ends_congr (fun n' m' _ _ => by show _ = p_st A.1 7 n d x 3 n' m'; rw [p_st_at, if_neg (by omega)])
  · rw [ms_at, if_neg (by omega), h16]
  · intro i l hl f hf
    rw [ms_at, if_neg (by omega), h18 i l hl f hf]
theorem p_RM8 {A : pA} {M : xwM} (h : p_RM A M) {n d : Nat} (hn : n < 12) (hd : d < 12) {x : Int32} : p_RM (p_st A.1 8 n d x, A.2) (ms M 425 (12 * n + d) x) := by
  obtain ⟨h1, h2, h3, h4, h5, h6, h7, h8, h9, h10, ⟨h11, h12, h13⟩, ⟨k, h14, h15⟩, h16, h17, h18⟩ := h
  refine ⟨?_, ?_, ?_, ?_, ?_, ?_, ?_, ?_, ?_, ?_, ⟨?_, ?_, ?_⟩, ⟨k, ?_, ?_⟩, ?_, h17, ?_⟩
  · intro n' m' a1 a2
    show _ = p_st A.1 8 n d x 3 n' m'
    rw [ms_at, if_neg (by omega), p_st_at, if_neg (by omega), h1 n' m' a1 a2]
  · intro n' a1
    show _ = p_st A.1 8 n d x 7 n' n'
    rw [ms_at, if_neg (by omega), p_st_at, if_neg (by omega), h2 n' a1]
  · intro n' d' a1 a2
    show _ = p_st A.1 8 n d x 4 n' d'
    rw [ms_at, if_neg (by omega), p_st_at, if_neg (by omega), h3 n' d' a1 a2]
  · intro n' d' a1 a2
    show _ = p_st A.1 8 n d x 5 n' d'
    rw [ms_at, if_neg (by omega), p_st_at, if_neg (by omega), h4 n' d' a1 a2]
  · intro n' d' a1 a2
    show _ = p_st A.1 8 n d x 9 n' d'
    rw [ms_at, if_neg (by omega), p_st_at, if_neg (by omega), h5 n' d' a1 a2]
  · intro n' d' a1 a2 a3
    show _ = p_st A.1 8 n d x 6 n' d'
    rw [ms_at, if_neg (by omega), p_st_at, if_neg (by omega), h6 n' d' a1 a2 a3]
  · intro n' d' a1 a2 a3
    show _ = p_st A.1 8 n d x 7 n' d'
    rw [ms_at, if_neg (by omega), p_st_at, if_neg (by omega), h7 n' d' a1 a2 a3]
  · intro n' d' a1 a2 a3
    show _ = p_st A.1 8 n d x 8 n' d'
    rw [ms_at, p_st_at]
    by_cases e : n' = n ∧ d' = d
    · rw [if_pos (by omega), if_pos (by omega)]
    · rw [if_neg (by omega), if_neg (by omega), h8 n' d' a1 a2 a3]
  · intro n' m' d' a1 a2 a3
    show _ = p_st A.1 8 n d x (11 + m') n' d'
    rw [ms_at, if_neg (by omega), p_st_at, if_neg (by omega), h9 n' m' d' a1 a2 a3]
  · intro n' m' d' a1 a2 a3
    show _ = p_st A.1 8 n d x (24 + m') n' d'
    rw [ms_at, if_neg (by omega), p_st_at, if_neg (by omega), h10 n' m' d' a1 a2 a3]
  · show _ = p_st A.1 8 n d x 1 0 3
    rw [ms_at, if_neg (by omega), p_st_at, if_neg (by omega), h11]
  · show _ = p_st A.1 8 n d x 1 0 4
    rw [ms_at, if_neg (by omega), p_st_at, if_neg (by omega), h12]
  · show _ = p_st A.1 8 n d x 1 0 5
    rw [ms_at, if_neg (by omega), p_st_at, if_neg (by omega), h13]
  · rw [ms_at, if_neg (by omega), h14]
  · rw [h15]
    exact p_ends_congr (fun n' m' _ _ => by show _ = p_st A.1 8 n d x 3 n' m'; rw [p_st_at, if_neg (by omega)])
  · rw [ms_at, if_neg (by omega), h16]
  · intro i l hl f hf
    rw [ms_at, if_neg (by omega), h18 i l hl f hf]
theorem p_RMo {A : pA} {M : xwM} (h : p_RM A M) {n : Nat} (hn : n < 12) {x : Int32} : p_RM (p_st A.1 7 n n x, A.2) (ms M 420 n x) := by
  obtain ⟨h1, h2, h3, h4, h5, h6, h7, h8, h9, h10, ⟨h11, h12, h13⟩, ⟨k, h14, h15⟩, h16, h17, h18⟩ := h
  refine ⟨?_, ?_, ?_, ?_, ?_, ?_, ?_, ?_, ?_, ?_, ⟨?_, ?_, ?_⟩, ⟨k, ?_, ?_⟩, ?_, h17, ?_⟩
  · intro n' m' a1 a2
    show _ = p_st A.1 7 n n x 3 n' m'
    rw [ms_at, if_neg (by omega), p_st_at, if_neg (by omega), h1 n' m' a1 a2]
  · intro n' a1
    show _ = p_st A.1 7 n n x 7 n' n'
    rw [ms_at, p_st_at]
    by_cases e : n' = n
    · rw [if_pos (by omega), if_pos (by omega)]
    · rw [if_neg (by omega), if_neg (by omega), h2 n' a1]
  · intro n' d' a1 a2
    show _ = p_st A.1 7 n n x 4 n' d'
    rw [ms_at, if_neg (by omega), p_st_at, if_neg (by omega), h3 n' d' a1 a2]
  · intro n' d' a1 a2
    show _ = p_st A.1 7 n n x 5 n' d'
    rw [ms_at, if_neg (by omega), p_st_at, if_neg (by omega), h4 n' d' a1 a2]
  · intro n' d' a1 a2
    show _ = p_st A.1 7 n n x 9 n' d'
    rw [ms_at, if_neg (by omega), p_st_at, if_neg (by omega), h5 n' d' a1 a2]
  · intro n' d' a1 a2 a3
    show _ = p_st A.1 7 n n x 6 n' d'
    rw [ms_at, if_neg (by omega), p_st_at, if_neg (by omega), h6 n' d' a1 a2 a3]
  · intro n' d' a1 a2 a3
    show _ = p_st A.1 7 n n x 7 n' d'
    rw [ms_at, if_neg (by omega), p_st_at, if_neg (by omega), h7 n' d' a1 a2 a3]
  · intro n' d' a1 a2 a3
    show _ = p_st A.1 7 n n x 8 n' d'
    rw [ms_at, if_neg (by omega), p_st_at, if_neg (by omega), h8 n' d' a1 a2 a3]
  · intro n' m' d' a1 a2 a3
    show _ = p_st A.1 7 n n x (11 + m') n' d'
    rw [ms_at, if_neg (by omega), p_st_at, if_neg (by omega), h9 n' m' d' a1 a2 a3]
  · intro n' m' d' a1 a2 a3
    show _ = p_st A.1 7 n n x (24 + m') n' d'
    rw [ms_at, if_neg (by omega), p_st_at, if_neg (by omega), h10 n' m' d' a1 a2 a3]
  · show _ = p_st A.1 7 n n x 1 0 3
    rw [ms_at, if_neg (by omega), p_st_at, if_neg (by omega), h11]
  · show _ = p_st A.1 7 n n x 1 0 4
    rw [ms_at, if_neg (by omega), p_st_at, if_neg (by omega), h12]
  · show _ = p_st A.1 7 n n x 1 0 5
    rw [ms_at, if_neg (by omega), p_st_at, if_neg (by omega), h13]
  · rw [ms_at, if_neg (by omega), h14]
  · rw [h15]
    exact p_ends_congr (fun n' m' _ _ => by show _ = p_st A.1 7 n n x 3 n' m'; rw [p_st_at, if_neg (by omega)])
  · rw [ms_at, if_neg (by omega), h16]
  · intro i l hl f hf
    rw [ms_at, if_neg (by omega), h18 i l hl f hf]
theorem p_RMtn {A : pA} {M : xwM} (h : p_RM A M) {n m d : Nat} (hn : n < 12) (hm : m < 12) (hd : d < 12) {x : Int32} : p_RM (p_st A.1 (11 + m) n d x, A.2) (ms M 427 (144 * n + 12 * m + d) x) := by
  obtain ⟨h1, h2, h3, h4, h5, h6, h7, h8, h9, h10, ⟨h11, h12, h13⟩, ⟨k, h14, h15⟩, h16, h17, h18⟩ := h
  refine ⟨?_, ?_, ?_, ?_, ?_, ?_, ?_, ?_, ?_, ?_, ⟨?_, ?_, ?_⟩, ⟨k, ?_, ?_⟩, ?_, h17, ?_⟩
  · intro n' m' a1 a2
    show _ = p_st A.1 (11 + m) n d x 3 n' m'
    rw [ms_at, if_neg (by omega), p_st_at, if_neg (by omega), h1 n' m' a1 a2]
  · intro n' a1
    show _ = p_st A.1 (11 + m) n d x 7 n' n'
    rw [ms_at, if_neg (by omega), p_st_at, if_neg (by omega), h2 n' a1]
  · intro n' d' a1 a2
    show _ = p_st A.1 (11 + m) n d x 4 n' d'
    rw [ms_at, if_neg (by omega), p_st_at, if_neg (by omega), h3 n' d' a1 a2]
  · intro n' d' a1 a2
    show _ = p_st A.1 (11 + m) n d x 5 n' d'
    rw [ms_at, if_neg (by omega), p_st_at, if_neg (by omega), h4 n' d' a1 a2]
  · intro n' d' a1 a2
    show _ = p_st A.1 (11 + m) n d x 9 n' d'
    rw [ms_at, if_neg (by omega), p_st_at, if_neg (by omega), h5 n' d' a1 a2]
  · intro n' d' a1 a2 a3
    show _ = p_st A.1 (11 + m) n d x 6 n' d'
    rw [ms_at, if_neg (by omega), p_st_at, if_neg (by omega), h6 n' d' a1 a2 a3]
  · intro n' d' a1 a2 a3
    show _ = p_st A.1 (11 + m) n d x 7 n' d'
    rw [ms_at, if_neg (by omega), p_st_at, if_neg (by omega), h7 n' d' a1 a2 a3]
  · intro n' d' a1 a2 a3
    show _ = p_st A.1 (11 + m) n d x 8 n' d'
    rw [ms_at, if_neg (by omega), p_st_at, if_neg (by omega), h8 n' d' a1 a2 a3]
  · intro n' m' d' a1 a2 a3
    show _ = p_st A.1 (11 + m) n d x (11 + m') n' d'
    rw [ms_at, p_st_at]
    by_cases e : n' = n ∧ m' = m ∧ d' = d
    · rw [if_pos (by omega), if_pos (by omega)]
    · rw [if_neg (by omega), if_neg (by omega), h9 n' m' d' a1 a2 a3]
  · intro n' m' d' a1 a2 a3
    show _ = p_st A.1 (11 + m) n d x (24 + m') n' d'
    rw [ms_at, if_neg (by omega), p_st_at, if_neg (by omega), h10 n' m' d' a1 a2 a3]
  · show _ = p_st A.1 (11 + m) n d x 1 0 3
    rw [ms_at, if_neg (by omega), p_st_at, if_neg (by omega), h11]
  · show _ = p_st A.1 (11 + m) n d x 1 0 4
    rw [ms_at, if_neg (by omega), p_st_at, if_neg (by omega), h12]
  · show _ = p_st A.1 (11 + m) n d x 1 0 5
    rw [ms_at, if_neg (by omega), p_st_at, if_neg (by omega), h13]
  · rw [ms_at, if_neg (by omega), h14]
  · rw [h15]
    exact p_ends_congr (fun n' m' _ _ => by show _ = p_st A.1 (11 + m) n d x 3 n' m'; rw [p_st_at, if_neg (by omega)])
  · rw [ms_at, if_neg (by omega), h16]
  · intro i l hl f hf
    rw [ms_at, if_neg (by omega), h18 i l hl f hf]
theorem p_RMtm {A : pA} {M : xwM} (h : p_RM A M) {n m d : Nat} (hn : n < 12) (hm : m < 12) (hd : d < 12) {x : Int32} : p_RM (p_st A.1 (24 + m) n d x, A.2) (ms M 428 (144 * n + 12 * m + d) x) := by
  obtain ⟨h1, h2, h3, h4, h5, h6, h7, h8, h9, h10, ⟨h11, h12, h13⟩, ⟨k, h14, h15⟩, h16, h17, h18⟩ := h
  refine ⟨?_, ?_, ?_, ?_, ?_, ?_, ?_, ?_, ?_, ?_, ⟨?_, ?_, ?_⟩, ⟨k, ?_, ?_⟩, ?_, h17, ?_⟩
  · intro n' m' a1 a2
    show _ = p_st A.1 (24 + m) n d x 3 n' m'
    rw [ms_at, if_neg (by omega), p_st_at, if_neg (by omega), h1 n' m' a1 a2]
  · intro n' a1
    show _ = p_st A.1 (24 + m) n d x 7 n' n'
    rw [ms_at, if_neg (by omega), p_st_at, if_neg (by omega), h2 n' a1]
  · intro n' d' a1 a2
    show _ = p_st A.1 (24 + m) n d x 4 n' d'
    rw [ms_at, if_neg (by omega), p_st_at, if_neg (by omega), h3 n' d' a1 a2]
  · intro n' d' a1 a2
    show _ = p_st A.1 (24 + m) n d x 5 n' d'
    rw [ms_at, if_neg (by omega), p_st_at, if_neg (by omega), h4 n' d' a1 a2]
  · intro n' d' a1 a2
    show _ = p_st A.1 (24 + m) n d x 9 n' d'
    rw [ms_at, if_neg (by omega), p_st_at, if_neg (by omega), h5 n' d' a1 a2]
  · intro n' d' a1 a2 a3
    show _ = p_st A.1 (24 + m) n d x 6 n' d'
    rw [ms_at, if_neg (by omega), p_st_at, if_neg (by omega), h6 n' d' a1 a2 a3]
  · intro n' d' a1 a2 a3
    show _ = p_st A.1 (24 + m) n d x 7 n' d'
    rw [ms_at, if_neg (by omega), p_st_at, if_neg (by omega), h7 n' d' a1 a2 a3]
  · intro n' d' a1 a2 a3
    show _ = p_st A.1 (24 + m) n d x 8 n' d'
    rw [ms_at, if_neg (by omega), p_st_at, if_neg (by omega), h8 n' d' a1 a2 a3]
  · intro n' m' d' a1 a2 a3
    show _ = p_st A.1 (24 + m) n d x (11 + m') n' d'
    rw [ms_at, if_neg (by omega), p_st_at, if_neg (by omega), h9 n' m' d' a1 a2 a3]
  · intro n' m' d' a1 a2 a3
    show _ = p_st A.1 (24 + m) n d x (24 + m') n' d'
    rw [ms_at, p_st_at]
    by_cases e : n' = n ∧ m' = m ∧ d' = d
    · rw [if_pos (by omega), if_pos (by omega)]
    · rw [if_neg (by omega), if_neg (by omega), h10 n' m' d' a1 a2 a3]
  · show _ = p_st A.1 (24 + m) n d x 1 0 3
    rw [ms_at, if_neg (by omega), p_st_at, if_neg (by omega), h11]
  · show _ = p_st A.1 (24 + m) n d x 1 0 4
    rw [ms_at, if_neg (by omega), p_st_at, if_neg (by omega), h12]
  · show _ = p_st A.1 (24 + m) n d x 1 0 5
    rw [ms_at, if_neg (by omega), p_st_at, if_neg (by omega), h13]
  · rw [ms_at, if_neg (by omega), h14]
  · rw [h15]
    exact p_ends_congr (fun n' m' _ _ => by show _ = p_st A.1 (24 + m) n d x 3 n' m'; rw [p_st_at, if_neg (by omega)])
  · rw [ms_at, if_neg (by omega), h16]
  · intro i l hl f hf
    rw [ms_at, if_neg (by omega), h18 i l hl f hf]
theorem p_RMc3 {A : pA} {M : xwM} (h : p_RM A M)   {x : Int32} : p_RM (p_st A.1 1 0 3 x, A.2) (ms M 418 14 x) := by
  obtain ⟨h1, h2, h3, h4, h5, h6, h7, h8, h9, h10, ⟨h11, h12, h13⟩, ⟨k, h14, h15⟩, h16, h17, h18⟩ := h
  refine ⟨?_, ?_, ?_, ?_, ?_, ?_, ?_, ?_, ?_, ?_, ⟨?_, ?_, ?_⟩, ⟨k, ?_, ?_⟩, ?_, h17, ?_⟩
  · intro n' m' a1 a2
    show _ = p_st A.1 1 0 3 x 3 n' m'
    rw [ms_at, if_neg (by omega), p_st_at, if_neg (by omega), h1 n' m' a1 a2]
  · intro n' a1
    show _ = p_st A.1 1 0 3 x 7 n' n'
    rw [ms_at, if_neg (by omega), p_st_at, if_neg (by omega), h2 n' a1]
  · intro n' d' a1 a2
    show _ = p_st A.1 1 0 3 x 4 n' d'
    rw [ms_at, if_neg (by omega), p_st_at, if_neg (by omega), h3 n' d' a1 a2]
  · intro n' d' a1 a2
    show _ = p_st A.1 1 0 3 x 5 n' d'
    rw [ms_at, if_neg (by omega), p_st_at, if_neg (by omega), h4 n' d' a1 a2]
  · intro n' d' a1 a2
    show _ = p_st A.1 1 0 3 x 9 n' d'
    rw [ms_at, if_neg (by omega), p_st_at, if_neg (by omega), h5 n' d' a1 a2]
  · intro n' d' a1 a2 a3
    show _ = p_st A.1 1 0 3 x 6 n' d'
    rw [ms_at, if_neg (by omega), p_st_at, if_neg (by omega), h6 n' d' a1 a2 a3]
  · intro n' d' a1 a2 a3
    show _ = p_st A.1 1 0 3 x 7 n' d'
    rw [ms_at, if_neg (by omega), p_st_at, if_neg (by omega), h7 n' d' a1 a2 a3]
  · intro n' d' a1 a2 a3
    show _ = p_st A.1 1 0 3 x 8 n' d'
    rw [ms_at, if_neg (by omega), p_st_at, if_neg (by omega), h8 n' d' a1 a2 a3]
  · intro n' m' d' a1 a2 a3
    show _ = p_st A.1 1 0 3 x (11 + m') n' d'
    rw [ms_at, if_neg (by omega), p_st_at, if_neg (by omega), h9 n' m' d' a1 a2 a3]
  · intro n' m' d' a1 a2 a3
    show _ = p_st A.1 1 0 3 x (24 + m') n' d'
    rw [ms_at, if_neg (by omega), p_st_at, if_neg (by omega), h10 n' m' d' a1 a2 a3]
  · show _ = p_st A.1 1 0 3 x 1 0 3
    rw [ms_at, if_pos (by omega), p_st_at, if_pos (by omega)]
  · show _ = p_st A.1 1 0 3 x 1 0 4
    rw [ms_at, if_neg (by omega), p_st_at, if_neg (by omega), h12]
  · show _ = p_st A.1 1 0 3 x 1 0 5
    rw [ms_at, if_neg (by omega), p_st_at, if_neg (by omega), h13]
  · rw [ms_at, if_neg (by omega), h14]
  · rw [h15]
    exact p_ends_congr (fun n' m' _ _ => by show _ = p_st A.1 1 0 3 x 3 n' m'; rw [p_st_at, if_neg (by omega)])
  · rw [ms_at, if_neg (by omega), h16]
  · intro i l hl f hf
    rw [ms_at, if_neg (by omega), h18 i l hl f hf]
theorem p_RMc4 {A : pA} {M : xwM} (h : p_RM A M)   {x : Int32} : p_RM (p_st A.1 1 0 4 x, A.2) (ms M 418 15 x) := by
  obtain ⟨h1, h2, h3, h4, h5, h6, h7, h8, h9, h10, ⟨h11, h12, h13⟩, ⟨k, h14, h15⟩, h16, h17, h18⟩ := h
  refine ⟨?_, ?_, ?_, ?_, ?_, ?_, ?_, ?_, ?_, ?_, ⟨?_, ?_, ?_⟩, ⟨k, ?_, ?_⟩, ?_, h17, ?_⟩
  · intro n' m' a1 a2
    show _ = p_st A.1 1 0 4 x 3 n' m'
    rw [ms_at, if_neg (by omega), p_st_at, if_neg (by omega), h1 n' m' a1 a2]
  · intro n' a1
    show _ = p_st A.1 1 0 4 x 7 n' n'
    rw [ms_at, if_neg (by omega), p_st_at, if_neg (by omega), h2 n' a1]
  · intro n' d' a1 a2
    show _ = p_st A.1 1 0 4 x 4 n' d'
    rw [ms_at, if_neg (by omega), p_st_at, if_neg (by omega), h3 n' d' a1 a2]
  · intro n' d' a1 a2
    show _ = p_st A.1 1 0 4 x 5 n' d'
    rw [ms_at, if_neg (by omega), p_st_at, if_neg (by omega), h4 n' d' a1 a2]
  · intro n' d' a1 a2
    show _ = p_st A.1 1 0 4 x 9 n' d'
    rw [ms_at, if_neg (by omega), p_st_at, if_neg (by omega), h5 n' d' a1 a2]
  · intro n' d' a1 a2 a3
    show _ = p_st A.1 1 0 4 x 6 n' d'
    rw [ms_at, if_neg (by omega), p_st_at, if_neg (by omega), h6 n' d' a1 a2 a3]
  · intro n' d' a1 a2 a3
    show _ = p_st A.1 1 0 4 x 7 n' d'
    rw [ms_at, if_neg (by omega), p_st_at, if_neg (by omega), h7 n' d' a1 a2 a3]
  · intro n' d' a1 a2 a3
    show _ = p_st A.1 1 0 4 x 8 n' d'
    rw [ms_at, if_neg (by omega), p_st_at, if_neg (by omega), h8 n' d' a1 a2 a3]
  · intro n' m' d' a1 a2 a3
    show _ = p_st A.1 1 0 4 x (11 + m') n' d'
    rw [ms_at, if_neg (by omega), p_st_at, if_neg (by omega), h9 n' m' d' a1 a2 a3]
  · intro n' m' d' a1 a2 a3
    show _ = p_st A.1 1 0 4 x (24 + m') n' d'
    rw [ms_at, if_neg (by omega), p_st_at, if_neg (by omega), h10 n' m' d' a1 a2 a3]
  · show _ = p_st A.1 1 0 4 x 1 0 3
    rw [ms_at, if_neg (by omega), p_st_at, if_neg (by omega), h11]
  · show _ = p_st A.1 1 0 4 x 1 0 4
    rw [ms_at, if_pos (by omega), p_st_at, if_pos (by omega)]
  · show _ = p_st A.1 1 0 4 x 1 0 5
    rw [ms_at, if_neg (by omega), p_st_at, if_neg (by omega), h13]
  · rw [ms_at, if_neg (by omega), h14]
  · rw [h15]
    exact p_ends_congr (fun n' m' _ _ => by show _ = p_st A.1 1 0 4 x 3 n' m'; rw [p_st_at, if_neg (by omega)])
  · rw [ms_at, if_neg (by omega), h16]
  · intro i l hl f hf
    rw [ms_at, if_neg (by omega), h18 i l hl f hf]
theorem p_RMc5 {A : pA} {M : xwM} (h : p_RM A M)   {x : Int32} : p_RM (p_st A.1 1 0 5 x, A.2) (ms M 418 16 x) := by
  obtain ⟨h1, h2, h3, h4, h5, h6, h7, h8, h9, h10, ⟨h11, h12, h13⟩, ⟨k, h14, h15⟩, h16, h17, h18⟩ := h
  refine ⟨?_, ?_, ?_, ?_, ?_, ?_, ?_, ?_, ?_, ?_, ⟨?_, ?_, ?_⟩, ⟨k, ?_, ?_⟩, ?_, h17, ?_⟩
  · intro n' m' a1 a2
    show _ = p_st A.1 1 0 5 x 3 n' m'
    rw [ms_at, if_neg (by omega), p_st_at, if_neg (by omega), h1 n' m' a1 a2]
  · intro n' a1
    show _ = p_st A.1 1 0 5 x 7 n' n'
    rw [ms_at, if_neg (by omega), p_st_at, if_neg (by omega), h2 n' a1]
  · intro n' d' a1 a2
    show _ = p_st A.1 1 0 5 x 4 n' d'
    rw [ms_at, if_neg (by omega), p_st_at, if_neg (by omega), h3 n' d' a1 a2]
  · intro n' d' a1 a2
    show _ = p_st A.1 1 0 5 x 5 n' d'
    rw [ms_at, if_neg (by omega), p_st_at, if_neg (by omega), h4 n' d' a1 a2]
  · intro n' d' a1 a2
    show _ = p_st A.1 1 0 5 x 9 n' d'
    rw [ms_at, if_neg (by omega), p_st_at, if_neg (by omega), h5 n' d' a1 a2]
  · intro n' d' a1 a2 a3
    show _ = p_st A.1 1 0 5 x 6 n' d'
    rw [ms_at, if_neg (by omega), p_st_at, if_neg (by omega), h6 n' d' a1 a2 a3]
  · intro n' d' a1 a2 a3
    show _ = p_st A.1 1 0 5 x 7 n' d'
    rw [ms_at, if_neg (by omega), p_st_at, if_neg (by omega), h7 n' d' a1 a2 a3]
  · intro n' d' a1 a2 a3
    show _ = p_st A.1 1 0 5 x 8 n' d'
    rw [ms_at, if_neg (by omega), p_st_at, if_neg (by omega), h8 n' d' a1 a2 a3]
  · intro n' m' d' a1 a2 a3
    show _ = p_st A.1 1 0 5 x (11 + m') n' d'
    rw [ms_at, if_neg (by omega), p_st_at, if_neg (by omega), h9 n' m' d' a1 a2 a3]
  · intro n' m' d' a1 a2 a3
    show _ = p_st A.1 1 0 5 x (24 + m') n' d'
    rw [ms_at, if_neg (by omega), p_st_at, if_neg (by omega), h10 n' m' d' a1 a2 a3]
  · show _ = p_st A.1 1 0 5 x 1 0 3
    rw [ms_at, if_neg (by omega), p_st_at, if_neg (by omega), h11]
  · show _ = p_st A.1 1 0 5 x 1 0 4
    rw [ms_at, if_neg (by omega), p_st_at, if_neg (by omega), h12]
  · show _ = p_st A.1 1 0 5 x 1 0 5
    rw [ms_at, if_pos (by omega), p_st_at, if_pos (by omega)]
  · rw [ms_at, if_neg (by omega), h14]
  · rw [h15]
    exact p_ends_congr (fun n' m' _ _ => by show _ = p_st A.1 1 0 5 x 3 n' m'; rw [p_st_at, if_neg (by omega)])
  · rw [ms_at, if_neg (by omega), h16]
  · intro i l hl f hf
    rw [ms_at, if_neg (by omega), h18 i l hl f hf]
