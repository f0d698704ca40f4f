/-! the law's step: class and reference answer alike, and the invariant stands -/
theorem p_lok_of {o : Nat → Nat} {l : pL} (h : p_lI o l) : p_lok l := by
  obtain ⟨m, n, d, a, w, hm, hn, hd, e1, e2, e3, e4, e5, r⟩ := h
  exact ⟨r.elim (fun q => Or.inl q.1) (fun q => Or.inr q.1), ⟨m, hm, e1⟩, ⟨n, hn, e2⟩, ⟨d, hd, e3⟩⟩
theorem p_pq_of {o : Nat → Nat} {T : pT} {l : pL} (hI : p_IT o T) (h : p_lI o l) : p_pq T (p_nat (l 2)) (p_nat (l 3)) (l 4) := by
  obtain ⟨m, n, d, a, w, hm, hn, hd, e1, e2, e3, e4, e5, r⟩ := h
  have h9 := hI.2.2.2.2.2.2.2.2 d hd
  rw [e2, e3, e4, p_nI hn, p_nI hd]
  have ha : a ≤ 32767 := by rcases r with r | r <;> omega
  rcases hI.2.2.2.2.2.2.1 n d hn hd with q | ⟨x, hx, q⟩
  · exact p_pq_n (a := 0) (Or.inl q) (by decide) ha
  · exact p_pq_n (a := x) (Or.inr q) (by omega) ha
theorem p_own_do {o g : Nat → Nat} {A : pA} (h : p_I o A) (hb : ∀ d, d < 12 → o d < 32000) {l : pL} (hl : p_lI o l) (hq : l 0 = 2 → ∀ d, d < 12 → l 3 = nI d → ∃ a, a ≤ g d ∧ l 4 = nI a) : ∃ o', (∀ d, d < 12 → o d ≤ o' d) ∧ (∀ d, d < 12 → o d ≤ g d → o' d ≤ g d) ∧ p_I o' (p_do l A) := by
  have keep : p_I o (p_do l A) → ∃ o', (∀ d, d < 12 → o d ≤ o' d) ∧ (∀ d, d < 12 → o d ≤ g d → o' d ≤ g d) ∧ p_I o' (p_do l A) := fun q => ⟨o, fun d _ => Nat.le_refl _, fun d _ q => q, q⟩
  have hl0 := hl
  obtain ⟨m, n, d, a, w, hm, hn, hd, e1, e2, e3, e4, e5, r⟩ := hl
  have od := hb d hd
  have edo : p_do l A = if A.1 3 n m = 0 then (p_st A.1 1 0 5 (A.1 1 0 5 + 1), A.2) else if l 0 = 1 then p_hear n m d (nI a) (nI w) A else p_hreq n m d (nI a) (nI w) A := by
    unfold p_do
    rw [e1, e2, e3, e4, e5, p_nI hm, p_nI hn, p_nI hd]
  rw [edo] at keep ⊢
  by_cases c : A.1 3 n m = 0
  · rw [if_pos c] at keep ⊢
    exact keep (And.intro (p_IT1 h.1) h.2)
  · rw [if_neg c] at keep ⊢
    rcases r with ⟨r1, r2, r3⟩ | ⟨r1, r2, r3⟩
    · rw [if_pos r1] at keep ⊢
      exact keep (p_I_hear h hn hm hd r2 r3 c)
    · have n1 : ¬ l 0 = 1 := by rw [r1]; decide
      rw [if_neg n1] at keep ⊢
      obtain ⟨a', ha', ea'⟩ := hq r1 d hd e3
      by_cases cn : d = n
      · subst cn
        have ag : a ≤ g d := by
          by_cases ca : a' < 65536
          · have := (nI_eq (by omega) (by omega)).mp (e4.symm.trans ea')
            omega
          · omega
        by_cases cw : p_nw (nI a) (A.1 7 d d) = true
        · have eh : p_hreq d m d (nI a) (nI w) A = p_tellAll d d (p_raise d A.1, A.2) := by
            unfold p_hreq
            rw [if_pos rfl, if_pos cw]
          rw [eh]
          refine ⟨p_op o d, fun d' _ => (p_op_le o d d').1, fun d' _ q => ?_, p_I_tellAll (p_I_raise h hn od) hn hn⟩
          unfold p_op
          by_cases cd : d' = d
          · rw [if_pos cd]
            rw [(h.1.2.2.2.1 d hd).2.1, p_nw_n (by omega) (by omega)] at cw
            have := of_decide_eq_true cw
            rw [cd]
            omega
          · rw [if_neg cd]
            exact q
        · have eh : p_hreq d m d (nI a) (nI w) A = p_tellAll d d A := by
            unfold p_hreq
            rw [if_pos rfl, if_neg cw]
          rw [eh] at keep ⊢
          exact keep (p_I_tellAll h hn hn)
      · refine keep ?_
        unfold p_hreq
        rw [if_neg cn]
        by_cases c2 : A.1 6 n d ≠ -1 ∧ p_nw (nI a) (A.1 7 n d) = false
        · rw [if_pos c2]
          exact p_I_tell h hn hm hd
        · rw [if_neg c2]
          by_cases c3 : ¬ nI w ≤ 1 ∧ (A.1 9 n d = -1 ∨ p_nw (nI a) (A.1 9 n d) = true)
          · rw [if_pos c3]
            have w1 : 1 < w := by
              have := (not_congr (nI_leI (a := w) (b := 1) (by omega) (by decide))).mp c3.1
              omega
            rw [show nI w - 1 = nI (w - 1) from nI_sub (b := 1) (by omega)]
            have h2 : p_I o (p_st A.1 9 n d (nI a), A.2) := And.intro (p_IT9 h.1 (Or.inr ⟨a, r2, rfl⟩)) h.2
            exact p_I_req h2 hn hd r2 (by omega) _
          · rw [if_neg c3]
            exact h
def p_JA (o0 : Nat → Nat) (B : pA) : Prop := ∃ o, p_I o B ∧ (∀ d, d < 12 → o0 d ≤ o d ∧ o d ≤ o0 d + 1) ∧ ∀ d, d < 12 → p_JK d (o0 d + 1) B
theorem p_JA_start {o : Nat → Nat} {A : pA} (h : p_I o A) : p_JA o A := by
  refine ⟨o, h, fun d _ => by omega, fun d hd => ⟨0, ?_, Nat.zero_le _⟩⟩
  obtain ⟨i1, i2, i3, i4, i5, i6, i7, i8, i9⟩ := h.1
  have od := i9 d hd
  have n4 : ∀ a, a < 12 → ¬ A.1 4 a d = nI (o d + 1) := fun a ha q => by
    rcases i5 a d ha hd with ⟨r, _⟩ | ⟨x, _, hx, _, r, _⟩
    · rw [r] at q
      exact nI_m1ne (n := o d + 1) (by omega) q.symm
    · have := (nI_eq (by omega) (by omega)).mp (r.symm.trans q)
      omega
  have nl : ∀ l, l ∈ A.2 → l 0 = 1 → l 3 = nI d → ¬ l 4 = nI (o d + 1) := fun l hl l0 l3 q => by
    obtain ⟨m, n, d', a, w, hm, hn, hd', e1, e2, e3, e4, e5, r⟩ := h.2 l hl
    have : d' = d := (nI_eq (by omega) (by omega)).mp (e3.symm.trans l3)
    subst this
    rcases r with ⟨r1, r2, r3⟩ | ⟨r1, r2, r3⟩
    · have := (nI_eq (by omega) (by omega)).mp (e4.symm.trans q)
      omega
    · rw [r1] at l0
      exact absurd l0 (by decide)
  refine ⟨?_, fun a ha _ q => absurd q (n4 a ha), ?_, ?_, fun l hl l0 l3 l4 => absurd l4 (nl l hl l0 l3), ?_⟩
  · intro l hl l0 l3
    obtain ⟨m, n, d', a, w, hm, hn, hd', e1, e2, e3, e4, e5, r⟩ := h.2 l hl
    have : d' = d := (nI_eq (by omega) (by omega)).mp (e3.symm.trans l3)
    subst this
    rcases r with ⟨r1, r2, r3⟩ | ⟨r1, r2, r3⟩
    · rw [r1] at l0
      exact absurd l0 (by decide)
    · exact ⟨a, r2, e4⟩
  · intro a ha had q
    rcases i6 a d ha hd had with ⟨_, r, _⟩ | ⟨_, x, _, _, hx, _, _, r, _⟩
    · rw [r] at q
      exact absurd q.symm (nI_m1ne (n := o d + 1) (by omega))
    · have := (nI_eq (by omega) (by omega)).mp (r.symm.trans q)
      omega
  · intro a b ha hb q
    rcases i8 a b d ha hb hd with ⟨r, _⟩ | ⟨x, _, hx, _, r, _⟩
    · rw [r] at q
      exact absurd q.symm (nI_m1ne (n := o d + 1) (by omega))
    · have := (nI_eq (by omega) (by omega)).mp (r.symm.trans q)
      omega
  · have gen : ∀ L : List pL, (∀ l, l ∈ L → l 0 = 1 → l 3 = nI d → ¬ l 4 = nI (o d + 1)) → L.Pairwise (p_pw d (o d + 1)) := by
      intro L
      induction L with
      | nil => intro _; exact List.Pairwise.nil
      | cons x L ih =>
        intro hL
        refine List.Pairwise.cons (fun y _ q => hL x List.mem_cons_self q.1 q.2.1 q.2.2.1) (ih (fun l hl => hL l (List.mem_cons_of_mem _ hl)))
    exact gen A.2 nl
theorem p_JA_hand {o0 : Nat → Nat} (hb : ∀ d, d < 12 → o0 d ≤ 31000) {B : pA} (h : p_JA o0 B) (hl : B.2.length ≠ 0) : p_JA o0 (p_hand 0 B) := by
  obtain ⟨o, hI, ho, hJ⟩ := h
  obtain ⟨T, L⟩ := B
  cases L with
  | nil => exact absurd rfl hl
  | cons l L =>
    have hb2 : ∀ d, d < 12 → o d < 32000 := fun d hd => by
      have := hb d hd
      have := ho d hd
      omega
    have eh : p_hand 0 (T, l :: L) = p_do l (T, L) := rfl
    rw [eh]
    have hIt : p_I o (T, L) := And.intro hI.1 (fun y hy => hI.2 y (List.mem_cons_of_mem _ hy))
    have hlI := hI.2 l List.mem_cons_self
    obtain ⟨o', q1, q2, q3⟩ := p_own_do (g := fun d => o0 d + 1) hIt hb2 hlI (fun l0 d hd l3 => by
      obtain ⟨K, hK, _⟩ := hJ d hd
      exact hK.1 l List.mem_cons_self l0 l3)
    refine ⟨o', q3, fun d hd => ⟨Nat.le_trans (ho d hd).1 (q1 d hd), q2 d hd (ho d hd).2⟩, fun d hd => ?_⟩
    have := hb d hd
    by_cases c : l 3 = nI d
    · exact p_J_do hI (ho d hd).2 (by omega) (by omega) hb2 hd (hJ d hd) c
    · exact p_J_do_o hI hd (hJ d hd) c
theorem p_JA_ok {o0 : Nat → Nat} (hb : ∀ d, d < 12 → o0 d ≤ 31000) {B : pA} (h : p_JA o0 B) : p_jok B ∧ ∃ o, p_I o B ∧ ∀ d, d < 12 → o d < 32000 := by
  obtain ⟨o, hI, ho, hJ⟩ := h
  refine ⟨⟨hI.1.1, fun l hl => ?_⟩, o, hI, fun d hd => ?_⟩
  · have hlI := hI.2 l (List.mem_of_getElem? hl)
    exact ⟨p_lok_of hlI, fun _ => p_pq_of hI.1 hlI⟩
  · have := hb d hd
    have := ho d hd
    omega
theorem p_JA_run {o0 : Nat → Nat} (hb : ∀ d, d < 12 → o0 d ≤ 31000) : ∀ (k h : Nat) (B : pA), p_JA o0 B → p_JA o0 (p_run k h B).2 := by
  intro k
  induction k with
  | zero => intro h B q; exact q
  | succ k ih =>
    intro h B q
    unfold p_run
    split
    · exact q
    · rename_i c
      exact ih (h + 1) _ (p_JA_hand hb q c)
/-! the two memories -/
theorem p_RC_cong {A : pA} {M M' : xwM} (h : p_RC A M) (e : ∀ k, k < 418 → M' k = M k) : p_RC A M' := by
  obtain ⟨h1, hc, p, hp, q1, q2, q3, q4⟩ := h
  refine ⟨fun j n a b c => ?_, fun i a b => ?_, p, hp, ?_, ?_, q3, fun i l hl f hf => ?_⟩
  · rw [e _ (by omega)]; exact h1 j n a b c
  · rw [e _ (by omega)]; exact hc i a b
  · rw [e _ (by omega)]; exact q1
  · rw [e _ (by omega)]; exact q2
  · rw [e _ (by omega)]; exact q4 i l hl f hf
theorem p_RM_cong {A : pA} {M M' : xwM} (h : p_RM A M) (e : ∀ k, 418 ≤ k → k < 430 → M' k = M k) : p_RM A M' := by
  obtain ⟨h1, h2, h3, h4, h5, h6, h7, h8, h9, h10, ⟨h11, h12, h13⟩, ⟨k, h14, h15⟩, h16, h17, h18⟩ := h
  refine ⟨?_, ?_, ?_, ?_, ?_, ?_, ?_, ?_, ?_, ?_, ⟨?_, ?_, ?_⟩, ⟨k, ?_, h15⟩, ?_, h17, ?_⟩
  · rw [e _ (by decide) (by decide)]; exact h1
  · rw [e _ (by decide) (by decide)]; exact h2
  · rw [e _ (by decide) (by decide)]; exact h3
  · rw [e _ (by decide) (by decide)]; exact h4
  · rw [e _ (by decide) (by decide)]; exact h5
  · rw [e _ (by decide) (by decide)]; exact h6
  · rw [e _ (by decide) (by decide)]; exact h7
  · rw [e _ (by decide) (by decide)]; exact h8
  · rw [e _ (by decide) (by decide)]; exact h9
  · rw [e _ (by decide) (by decide)]; exact h10
  · rw [e _ (by decide) (by decide)]; exact h11
  · rw [e _ (by decide) (by decide)]; exact h12
  · rw [e _ (by decide) (by decide)]; exact h13
  · rw [e _ (by decide) (by decide)]; exact h14
  · rw [e _ (by decide) (by decide)]; exact h16
  · rw [e _ (by decide) (by decide)]; exact h18
def p_two (A : pA) (M : xwM) : Prop := p_RC A M ∧ p_RM A M
theorem p_fin {A A' : pA} {M M1 : xwM} {k r : Int32} {o : Option (Int32 × xwM)} {h2 : xwM → Option (Int32 × xwM)} {z : Int32 → Int64} (h : p_two A M) (ho : o = some (k, M1)) (hC : p_RC A' M1) (hF : ∀ j, 418 ≤ j → j < 430 → M1 j = M j) (hR : ∀ Mx, p_RM A Mx → p_RO Mx k r A' (h2 Mx)) (hz : k = 0 → (M1 430 0).toInt64 = z r) : ∃ M3, lwLS o h2 z M3 ∧ p_two A' M3 := by
  obtain ⟨M2, e2, r2, f2, z2⟩ := hR M1 (p_RM_cong h.2 hF)
  refine ⟨M2, ⟨k, M1, r, M2, M2 418 0, ho, e2, rfl, z2, fun q => ?_⟩, p_RC_cong hC (fun j hj => f2 j (Or.inl hj)), r2⟩
  rw [f2 430 (Or.inr (Nat.le_refl _))]
  exact hz q
theorem p_fin1 {A A' : pA} {M : xwM} {r : Int32} {o : Option xwX} {h2 : xwM → Option (Int32 × xwM)} (h : p_two A M) (hC : p_CX M r A' o) (hR : ∀ Mx, p_RM A Mx → p_RO Mx 0 r A' (h2 Mx)) : ∃ M3, lwLS (hL1 o) h2 (fun b => b.toInt64) M3 ∧ p_two A' M3 := by
  obtain ⟨M', e, c, f⟩ := hC
  subst e
  refine p_fin h (k := 0) (M1 := ms M' 430 0 r) rfl (p_RC_cong c (fun j hj => ?_)) (fun j a b => ?_) hR (fun _ => ?_)
  · funext x; rw [ms_at, if_neg (by omega)]
  · funext x; rw [ms_at, if_neg (by omega), f j a]
  · rw [p_ms_s]
theorem p_fin0 {A : pA} {M : xwM} {o : Option xwX} {h2 : xwM → Option (Int32 × xwM)} {z : Int32 → Int64} (h : p_two A M) (hC : o = some (.inr xIAE, M)) (hR : ∀ Mx, p_RM A Mx → p_RO Mx 1 0 A (h2 Mx)) : ∃ M3, lwLS (hL1 o) h2 z M3 ∧ p_two A M3 := by
  subst hC
  refine p_fin h (k := 1) (M1 := M) ?_ h.1 (fun j _ _ => rfl) hR (fun q => absurd q (by decide))
  show (if xIAE = xIAE then some ((1 : Int32), M) else none) = some (1, M)
  rw [if_pos rfl]
def p_LI (n : Nat) (M : xwM) : Prop := ∃ A o, p_two A M ∧ p_I o A ∧ ∀ d, d < 12 → o d ≤ n
theorem p_LI_skip (n : Nat) (M : xwM) (h : p_LI n M) : p_LI (n + 1) M := by
  obtain ⟨A, o, a, b, c⟩ := h
  exact ⟨A, o, a, b, fun d hd => Nat.le_succ_of_le (c d hd)⟩
theorem p_mkLI {n : Nat} {o : Nat → Nat} {A' : pA} {P : xwM → Prop} (hI : p_I o A') (ho : ∀ d, d < 12 → o d ≤ n + 1) (h : ∃ M3, P M3 ∧ p_two A' M3) : ∃ M3, P M3 ∧ p_LI (n + 1) M3 := by
  obtain ⟨M3, a, b⟩ := h
  exact ⟨M3, a, A', o, b, hI, ho⟩
