/-! ===== the pure part: the state by tables and a row of letters; the class's memory and the reference's against it ===== -/
abbrev pT : Type := Nat → Nat → Nat → Int32
abbrev pL : Type := Nat → Int32
abbrev pA : Type := pT × List pL
def p_st (T : pT) (j n d : Nat) (x : Int32) : pT := fun a b c => if a = j ∧ b = n ∧ c = d then x else T a b c
theorem p_st_at (T : pT) (j n d : Nat) (x : Int32) (a b c : Nat) : p_st T j n d x a b c = if a = j ∧ b = n ∧ c = d then x else T a b c := rfl
def p_fi (T : pT) (j n : Nat) (x : Int32) : pT := fun a b c => if a = j ∧ b = n ∧ c < 12 then x else T a b c
theorem p_fi_at (T : pT) (j n : Nat) (x : Int32) (a b c : Nat) : p_fi T j n x a b c = if a = j ∧ b = n ∧ c < 12 then x else T a b c := rfl
def p_up {α : Type} (f : Nat → α → α) : Nat → Nat → α → α
  | 0, _, a => a
  | k + 1, j, a => p_up f k (j + 1) (f j a)
theorem p_loop {α σ R : Type} (F : Nat → Nat → σ → Option R) (G : σ → Option R) (P : Nat → α → σ → Prop) (f : Nat → α → α) (N : Nat)
    (h0 : ∀ fu s, F (fu + 1) N s = G s) (hs : ∀ fu j a s, j < N → P j a s → ∃ s', F (fu + 1) j s = F fu (j + 1) s' ∧ P (j + 1) (f j a) s') :
    ∀ k j fu a s, j + k = N → k < fu → P j a s → ∃ s', F fu j s = G s' ∧ P N (p_up f k j a) s' := by
  intro k
  induction k with
  | zero =>
    intro j fu a s hj hf hp
    obtain ⟨fu', rfl⟩ : ∃ fu', fu = fu' + 1 := ⟨fu - 1, by omega⟩
    have e : j = N := by omega
    subst e
    exact ⟨s, h0 fu' s, hp⟩
  | succ k ih =>
    intro j fu a s hj hf hp
    obtain ⟨fu', rfl⟩ : ∃ fu', fu = fu' + 1 := ⟨fu - 1, by omega⟩
    obtain ⟨s1, e1, hp1⟩ := hs fu' j a s (by omega) hp
    obtain ⟨s2, e2, hp2⟩ := ih (j + 1) fu' (f j a) s1 (by omega) (by omega) hp1
    exact ⟨s2, by rw [e1, e2], hp2⟩
theorem p_up_inv {α : Type} (P : Nat → α → Prop) (f : Nat → α → α) (N : Nat) (hs : ∀ j a, j < N → P j a → P (j + 1) (f j a)) : ∀ k j a, j + k = N → P j a → P N (p_up f k j a) := by
  intro k
  induction k with
  | zero =>
    intro j a hj hp
    have e : j = N := by omega
    subst e
    exact hp
  | succ k ih =>
    intro j a hj hp
    exact ih (j + 1) (f j a) (by omega) (hs j a (by omega) hp)
/-! the numbers -/
theorem p_ld {α : Type} {M : xwM} {k n i : Nat} {f : Int32 → Option α} (h : i < n) (hn : n < 2 ^ 31) : ld M k n (nI i) f = f (M k i) := by
  unfold ld
  rw [if_neg (nI_in h hn), nI_clamp (by omega)]
theorem p_sto {α : Type} {M : xwM} {k n i : Nat} {x : Int32} {f : xwM → Option α} (h : i < n) (hn : n < 2 ^ 31) : sto M k n (nI i) x f = f (ms M k i x) := by
  unfold sto
  rw [if_neg (nI_in h hn), nI_clamp (by omega)]
theorem p_ixr {α : Type} {n i : Nat} {f : Nat → Option α} (h : i < n) (hn : n < 2 ^ 31) : ixr n (nI i) f = f i := by
  unfold ixr
  rw [if_neg (nI_in h hn), nI_clamp (by omega)]
theorem nI_sub {a b : Nat} (h : b ≤ a) : nI a - nI b = nI (a - b) := by
  have e : nI a = nI (a - b) + nI b := by rw [nI_add]; congr 1; omega
  rw [e, Int32.add_sub_cancel]
theorem nI_m1 (a : Nat) : nI (a + 1) + (-1) = nI a := by
  have e := nI_pred a
  rw [Int32.sub_eq_add_neg] at e
  exact e
theorem nI_12 {x : Int32} {n : Nat} (hn : n < 2 ^ 31) (h : ¬ x < 0) (h2 : ¬ nI n ≤ x) : ∃ j : Nat, j < n ∧ x = nI j := by
  obtain ⟨j, hj, rfl⟩ := nI_of h
  refine ⟨j, ?_, rfl⟩
  have h3 := (not_congr (nI_leI hn hj)).mp h2
  omega
theorem nI_m1ne {n : Nat} (h : n < 2 ^ 31) : ¬ nI n = -1 := by
  intro e
  have e2 := congrArg Int32.toInt e
  rw [nI_toInt h] at e2
  have e3 : (-1 : Int32).toInt = -1 := by decide
  rw [e3] at e2
  omega
/-! the spec -/
def p_mk (k a b d x v : Int32) : pL := fun f => if f = 0 then k else if f = 1 then a else if f = 2 then b else if f = 3 then d else if f = 4 then x else v
def p_snd (l : pL) (A : pA) : pA := if A.2.length < 300 then (p_st A.1 1 0 3 (A.1 1 0 3 + 1), A.2 ++ [l]) else (p_st (p_st A.1 1 0 3 (A.1 1 0 3 + 1)) 1 0 4 (A.1 1 0 4 + 1), A.2)
def p_nw (a b : Int32) : Bool := !(decide (((a - b) &&& 65535) < 1)) && !(decide (32767 < ((a - b) &&& 65535)))
def p_gd (T : pT) (n d : Nat) (x v : Int32) : Bool := !(decide (v = 65535)) && (decide (T 4 n d = -1) || p_nw x (T 4 n d) || (decide (x = T 4 n d) && !(decide (T 5 n d ≤ v))))
def p_tell (n m d : Nat) (A : pA) : pA :=
  if A.1 6 n d = -1 then p_snd (p_mk 1 (nI n) (nI m) (nI d) (if A.1 4 n d = -1 then 0 else A.1 4 n d) 65535) A
  else p_snd (p_mk 1 (nI n) (nI m) (nI d) (A.1 7 n d) (A.1 8 n d)) (if d ≠ n ∧ p_gd A.1 n d (A.1 7 n d) (A.1 8 n d) = true then (p_st (p_st A.1 4 n d (A.1 7 n d)) 5 n d (A.1 8 n d), A.2) else A)
def p_tellAll (n d : Nat) (A : pA) : pA := p_up (fun m A => if A.1 3 n m = 0 then A else p_tell n m d A) 12 0 A
def p_every (n m : Nat) (A : pA) : pA := p_up (fun d A => if A.1 6 n d = -1 then A else p_tell n m d A) 12 0 A
def p_req (n : Nat) (ex : Int32) (d : Nat) (x s : Int32) (A : pA) : pA := p_up (fun m A => if nI m = ex ∨ A.1 3 n m = 0 then A else p_snd (p_mk 2 (nI n) (nI m) (nI d) x s) A) 12 0 A
def p_ask (n d : Nat) (A : pA) : pA := p_req n (-1) d (if A.1 4 n d = -1 then 0 else (A.1 4 n d + 1) &&& 65535) 8 A
def p_bst (T : pT) (n d m : Nat) (b : Int32 × Int32) : Int32 × Int32 :=
  if T (11 + m) n d = -1 ∨ 60000 < T (24 + m) n d + T 3 n m ∨ p_gd T n d (T (11 + m) n d) (T (24 + m) n d) = false then b
  else if T (24 + m) n d + T 3 n m < b.2 ∨ (T (24 + m) n d + T 3 n m = b.2 ∧ nI m = T 6 n d) then (nI m, T (24 + m) n d + T 3 n m) else b
def p_best (T : pT) (n d : Nat) : Int32 := (p_up (p_bst T n d) 12 0 (-1, 65535)).1
def p_bn (T : pT) (n d : Nat) (b : Int32) : Int32 := if b = -1 then -1 else T (11 + b.toNatClampNeg) n d
def p_bm (T : pT) (n d : Nat) (b : Int32) : Int32 := if b = -1 then -1 else T (24 + b.toNatClampNeg) n d + T 3 n b.toNatClampNeg
def p_take (T : pT) (n d : Nat) (b : Int32) : pT := p_st (p_st (p_st T 6 n d b) 7 n d (p_bn T n d b)) 8 n d (p_bm T n d b)
def p_same (T : pT) (n d : Nat) (b : Int32) : Prop := b = T 6 n d ∧ p_bn T n d b = T 7 n d ∧ p_bm T n d b = T 8 n d
def p_lost (n d : Nat) (A : pA) : pA := if A.1 6 n d = -1 then p_ask n d A else A
noncomputable def p_choose (n d : Nat) (A : pA) : pA :=
  if A.1 6 n d = p_best A.1 n d ∧ A.1 7 n d = p_bn A.1 n d (p_best A.1 n d) ∧ A.1 8 n d = p_bm A.1 n d (p_best A.1 n d) then A
  else p_lost n d (p_tellAll n d (p_take A.1 n d (p_best A.1 n d), A.2))
noncomputable def p_chAll (n : Nat) (A : pA) : pA := p_up (fun d A => if d = n then A else p_choose n d A) 12 0 A
noncomputable def p_hear (n m d : Nat) (x v : Int32) (A : pA) : pA :=
  if d = n then A else p_choose n d (if A.1 6 n d = nI m ∧ v ≠ 65535 ∧ p_gd A.1 n d x v = false then A else (p_st (p_st A.1 (11 + m) n d x) (24 + m) n d v, A.2))
def p_raise (n : Nat) (T : pT) : pT := p_st T 7 n n ((T 7 n n + 1) &&& 65535)
def p_hreq (n m d : Nat) (x s : Int32) (A : pA) : pA :=
  if d = n then p_tellAll n n (if p_nw x (A.1 7 n n) = true then (p_raise n A.1, A.2) else A)
  else if A.1 6 n d ≠ -1 ∧ p_nw x (A.1 7 n d) = false then p_tell n m d A
  else if ¬ s ≤ 1 ∧ (A.1 9 n d = -1 ∨ p_nw x (A.1 9 n d) = true) then p_req n (nI m) d x (s - 1) (p_st A.1 9 n d x, A.2)
  else A
def p_nat (x : Int32) : Nat := x.toNatClampNeg
noncomputable def p_do (l : pL) (A : pA) : pA :=
  if A.1 3 (p_nat (l 2)) (p_nat (l 1)) = 0 then (p_st A.1 1 0 5 (A.1 1 0 5 + 1), A.2)
  else if l 0 = 1 then p_hear (p_nat (l 2)) (p_nat (l 1)) (p_nat (l 3)) (l 4) (l 5) A
  else p_hreq (p_nat (l 2)) (p_nat (l 1)) (p_nat (l 3)) (l 4) (l 5) A
noncomputable def p_hand (i : Nat) (A : pA) : pA := match A.2[i]? with
  | none => A
  | some l => p_do l (A.1, A.2.eraseIdx i)
/-! the class's memory against it -/
def p_rg (L : List pL) (M : xwM) (p : Nat) : Prop := p < 300 ∧ M 410 1 = nI p ∧ M 410 2 = nI L.length ∧ L.length ≤ 300 ∧ ∀ i l, L[i]? = some l → ∀ f, f < 6 → M (412 + f) ((p + i) % 300) = l f
def p_RC (A : pA) (M : xwM) : Prop := (∀ j n, 2 ≤ j → j ≤ 35 → n < 12 → M (j + 34 * n) = A.1 j n) ∧ (∀ i, 3 ≤ i → i ≤ 5 → M 410 i = A.1 1 0 i) ∧ ∃ p, p_rg A.2 M p
def p_FR (M M' : xwM) : Prop := ∀ k, 418 ≤ k → M' k = M k
def p_CV (M : xwM) (A : pA) (o : Option xwM) : Prop := ∃ M', o = some M' ∧ p_RC A M' ∧ p_FR M M'
theorem p_FR_r (M : xwM) : p_FR M M := fun _ _ => rfl
theorem p_FR_t {M M1 M2 : xwM} (h1 : p_FR M M1) (h2 : p_FR M1 M2) : p_FR M M2 := fun k hk => (h2 k hk).trans (h1 k hk)
theorem p_FR_ms {M : xwM} {k i : Nat} {x : Int32} (h : k < 418) : p_FR M (ms M k i x) := fun a ha => by
  funext b
  rw [ms_at, if_neg (by omega)]
theorem p_RC_ms {A : pA} {M : xwM} (h : p_RC A M) {j n d : Nat} (h2 : 2 ≤ j) (h3 : j ≤ 35) (hn : n < 12) {x : Int32} : p_RC (p_st A.1 j n d x, A.2) (ms M (j + 34 * n) d x) := by
  obtain ⟨h1, hc, p, hp, q1, q2, q3, q4⟩ := h
  refine ⟨?_, ?_, p, hp, ?_, ?_, q3, ?_⟩
  · intro j' n' a1 a2 a3
    funext d'
    rw [ms_at, h1 j' n' a1 a2 a3]
    show _ = p_st A.1 j n d x j' n' d'
    rw [p_st_at]
    by_cases e : j' = j ∧ n' = n
    · obtain ⟨rfl, rfl⟩ := e
      simp
    · rw [if_neg (by omega), if_neg (by omega)]
  · intro i i1 i2
    rw [ms_at, if_neg (by omega), hc i i1 i2]
    show _ = p_st A.1 j n d x 1 0 i
    rw [p_st_at, if_neg (by omega)]
  · rw [ms_at, if_neg (by omega), q1]
  · rw [ms_at, if_neg (by omega), q2]
  · intro i l hl f hf
    rw [ms_at, if_neg (by omega), q4 i l hl f hf]
theorem p_RC_ct {A : pA} {M : xwM} (h : p_RC A M) {i : Nat} (h2 : 3 ≤ i) (h3 : i ≤ 5) {x : Int32} : p_RC (p_st A.1 1 0 i x, A.2) (ms M 410 i x) := by
  obtain ⟨h1, hc, p, hp, q1, q2, q3, q4⟩ := h
  refine ⟨?_, ?_, p, hp, ?_, ?_, q3, ?_⟩
  · intro j' n' a1 a2 a3
    funext d'
    rw [ms_at, if_neg (by omega), h1 j' n' a1 a2 a3]
    show _ = p_st A.1 1 0 i x j' n' d'
    rw [p_st_at, if_neg (by omega)]
  · intro i' i1 i2
    rw [ms_at, hc i' i1 i2]
    show _ = p_st A.1 1 0 i x 1 0 i'
    rw [p_st_at]
    by_cases e : i' = i
    · subst e; simp
    · rw [if_neg (by omega), if_neg (by omega)]
  · rw [ms_at, if_neg (by omega), q1]
  · rw [ms_at, if_neg (by omega), q2]
  · intro i l hl f hf
    rw [ms_at, if_neg (by omega), q4 i l hl f hf]
theorem p_RC_fil {A : pA} {M : xwM} (h : p_RC A M) {j n : Nat} (h2 : 2 ≤ j) (h3 : j ≤ 35) (hn : n < 12) {x : Int32} : p_RC (p_fi A.1 j n x, A.2) (fil M (j + 34 * n) 12 x) := by
  obtain ⟨h1, hc, p, hp, q1, q2, q3, q4⟩ := h
  refine ⟨?_, ?_, p, hp, ?_, ?_, q3, ?_⟩
  · intro j' n' a1 a2 a3
    funext d'
    rw [fil_at, h1 j' n' a1 a2 a3]
    show _ = p_fi A.1 j n x j' n' d'
    rw [p_fi_at]
    by_cases e : j' = j ∧ n' = n
    · obtain ⟨rfl, rfl⟩ := e
      simp
    · rw [if_neg (by omega), if_neg (by omega)]
  · intro i i1 i2
    rw [fil_at, if_neg (by omega), hc i i1 i2]
    show _ = p_fi A.1 j n x 1 0 i
    rw [p_fi_at, if_neg (by omega)]
  · rw [fil_at, if_neg (by omega), q1]
  · rw [fil_at, if_neg (by omega), q2]
  · intro i l hl f hf
    rw [fil_at, if_neg (by omega), q4 i l hl f hf]
theorem p_FR_fil {M : xwM} {k n : Nat} {x : Int32} (h : k < 418) : p_FR M (fil M k n x) := fun a ha => by
  funext b
  rw [fil_at, if_neg (by omega)]
