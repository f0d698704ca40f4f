/-! the new objects' memory meets the invariant -/
theorem b_mRl (n : Nat) : ∀ (d i : Nat) (M : xwM) (k q : Nat), mRl n i d M k q = if ((11 + 34 * n + i ≤ k ∧ k < 11 + 34 * n + i + d) ∨ (24 + 34 * n + i ≤ k ∧ k < 24 + 34 * n + i + d)) ∧ q < 12 then -1 else M k q := by
  intro d
  induction d with
  | zero => intro i M k q; rw [if_neg (by omega)]; rfl
  | succ d ih =>
    intro i M k q
    show mRl n (i + 1) d _ k q = _
    rw [ih, fil_at, fil_at]
    by_cases c : ((11 + 34 * n + i ≤ k ∧ k < 11 + 34 * n + i + (d + 1)) ∨ (24 + 34 * n + i ≤ k ∧ k < 24 + 34 * n + i + (d + 1))) ∧ q < 12
    · rw [if_pos c]
      by_cases c1 : ((11 + 34 * n + (i + 1) ≤ k ∧ k < 11 + 34 * n + (i + 1) + d) ∨ (24 + 34 * n + (i + 1) ≤ k ∧ k < 24 + 34 * n + (i + 1) + d)) ∧ q < 12
      · rw [if_pos c1]
      · rw [if_neg c1]
        by_cases c2 : k = 23 + 34 * n + 1 + i ∧ q < 12
        · rw [if_pos c2]
        · rw [if_neg c2, if_pos (by omega)]
    · rw [if_neg c, if_neg (by omega), if_neg (by omega), if_neg (by omega)]
theorem b_mR_out {n : Nat} {M : xwM} {k : Nat} (h : k < 2 + 34 * n ∨ 36 + 34 * n ≤ k) : mR n M k = M k := by
  funext q
  unfold mR
  rw [ms_at, if_neg (by omega), ms_at, if_neg (by omega), ms_at, if_neg (by omega), b_mRl, if_neg (by omega)]
  iterate 6 rw [fil_at, if_neg (by omega)]
  rw [ms_at, if_neg (by omega)]
def b_ok (n : Nat) (X : xwM) : Prop := X (2 + 34 * n) 9 = nI n ∧ ∀ q, q < 12 → X (3 + 34 * n) q = 0 ∧ X (4 + 34 * n) q = -1 ∧ X (5 + 34 * n) q = -1 ∧ X (6 + 34 * n) q = (if q = n then nI n else -1) ∧ X (7 + 34 * n) q = (if q = n then 0 else -1) ∧ X (8 + 34 * n) q = (if q = n then 0 else -1) ∧ X (9 + 34 * n) q = -1 ∧ ∀ m, m < 12 → X (11 + m + 34 * n) q = -1 ∧ X (24 + m + 34 * n) q = -1
theorem b_ok_cong {n : Nat} {X Y : xwM} (h : b_ok n X) (e : ∀ k, 2 + 34 * n ≤ k → k < 36 + 34 * n → Y k = X k) : b_ok n Y := by
  refine ⟨?_, fun q hq => ?_⟩
  · rw [e _ (by omega) (by omega)]; exact h.1
  · obtain ⟨a1, a2, a3, a4, a5, a6, a7, a8⟩ := h.2 q hq
    rw [e _ (by omega) (by omega), e _ (by omega) (by omega), e _ (by omega) (by omega), e _ (by omega) (by omega), e _ (by omega) (by omega), e _ (by omega) (by omega), e _ (by omega) (by omega)]
    refine ⟨a1, a2, a3, a4, a5, a6, a7, fun m hm => ?_⟩
    rw [e _ (by omega) (by omega), e _ (by omega) (by omega)]
    exact a8 m hm
theorem b_mR_ok {n : Nat} {M : xwM} (h : ∀ q, M (3 + 34 * n) q = 0) : b_ok n (mR n M) := by
  unfold mR
  refine ⟨?_, fun q hq => ⟨?_, ?_, ?_, ?_, ?_, ?_, ?_, fun m hm => ⟨?_, ?_⟩⟩⟩
  · rw [ms_at, if_neg (by omega), ms_at, if_neg (by omega), ms_at, if_neg (by omega), b_mRl, if_neg (by omega)]
    iterate 6 rw [fil_at, if_neg (by omega)]
    rw [ms_at, if_pos ⟨rfl, rfl⟩]
  · rw [ms_at, if_neg (by omega), ms_at, if_neg (by omega), ms_at, if_neg (by omega), b_mRl, if_neg (by omega)]
    iterate 6 rw [fil_at, if_neg (by omega)]
    rw [ms_at, if_neg (by omega), h q]
  · rw [ms_at, if_neg (by omega), ms_at, if_neg (by omega), ms_at, if_neg (by omega), b_mRl, if_neg (by omega)]
    iterate 5 rw [fil_at, if_neg (by omega)]
    rw [fil_at, if_pos ⟨rfl, hq⟩]
  · rw [ms_at, if_neg (by omega), ms_at, if_neg (by omega), ms_at, if_neg (by omega), b_mRl, if_neg (by omega)]
    iterate 4 rw [fil_at, if_neg (by omega)]
    rw [fil_at, if_pos ⟨rfl, hq⟩]
  · rw [ms_at, if_neg (by omega), ms_at, if_neg (by omega), ms_at]
    by_cases c : q = n
    · rw [if_pos ⟨rfl, c⟩, if_pos c]
    · rw [if_neg (fun r => c r.2), if_neg c, b_mRl, if_neg (by omega)]
      iterate 3 rw [fil_at, if_neg (by omega)]
      rw [fil_at, if_pos ⟨rfl, hq⟩]
  · rw [ms_at, if_neg (by omega), ms_at]
    by_cases c : q = n
    · rw [if_pos ⟨rfl, c⟩, if_pos c]
    · rw [if_neg (fun r => c r.2), if_neg c, ms_at, if_neg (by omega), b_mRl, if_neg (by omega)]
      iterate 2 rw [fil_at, if_neg (by omega)]
      rw [fil_at, if_pos ⟨rfl, hq⟩]
  · rw [ms_at]
    by_cases c : q = n
    · rw [if_pos ⟨rfl, c⟩, if_pos c]
    · rw [if_neg (fun r => c r.2), if_neg c, ms_at, if_neg (by omega), ms_at, if_neg (by omega), b_mRl, if_neg (by omega)]
      rw [fil_at, if_neg (by omega), fil_at, if_pos ⟨rfl, hq⟩]
  · rw [ms_at, if_neg (by omega), ms_at, if_neg (by omega), ms_at, if_neg (by omega), b_mRl, if_neg (by omega)]
    rw [fil_at, if_pos ⟨rfl, hq⟩]
  · rw [ms_at, if_neg (by omega), ms_at, if_neg (by omega), ms_at, if_neg (by omega), b_mRl, if_pos (by omega)]
  · rw [ms_at, if_neg (by omega), ms_at, if_neg (by omega), ms_at, if_neg (by omega), b_mRl, if_pos (by omega)]
theorem b_mAl_out : ∀ (d i : Nat) (M : xwM) (k : Nat), (k < 2 + 34 * i ∨ 2 + 34 * (i + d) ≤ k) → mAl i d M k = M k := by
  intro d
  induction d with
  | zero => intro i M k h; rfl
  | succ d ih =>
    intro i M k h
    show mAl (i + 1) d (mR i M) k = M k
    rw [ih (i + 1) (mR i M) k (by omega)]
    exact b_mR_out (by omega)
theorem b_mAl_ok : ∀ (d i : Nat) (M : xwM) (n : Nat), i ≤ n → n < i + d → (∀ q, M (3 + 34 * n) q = 0) → b_ok n (mAl i d M) := by
  intro d
  induction d with
  | zero => intro i M n h1 h2; omega
  | succ d ih =>
    intro i M n h1 h2 h
    show b_ok n (mAl (i + 1) d (mR i M))
    by_cases c : n = i
    · subst c
      exact b_ok_cong (b_mR_ok h) (fun k a b => b_mAl_out d (n + 1) (mR n M) k (by omega))
    · exact ih (i + 1) (mR i M) n (by omega) (by omega) (fun q => by rw [b_mR_out (by omega)]; exact h q)
theorem b_mL1 : ∀ (d i : Nat) (M : xwM) (k q : Nat), mL1 i d M k q = if 421 ≤ k ∧ k ≤ 426 ∧ i ≤ q ∧ q < i + d then -1 else M k q := by
  intro d
  induction d with
  | zero => intro i M k q; rw [if_neg (by omega)]; rfl
  | succ d ih =>
    intro i M k q
    show mL1 (i + 1) d _ k q = _
    rw [ih]
    by_cases c : 421 ≤ k ∧ k ≤ 426 ∧ i ≤ q ∧ q < i + (d + 1)
    · rw [if_pos c]
      by_cases c1 : 421 ≤ k ∧ k ≤ 426 ∧ i + 1 ≤ q ∧ q < i + 1 + d
      · rw [if_pos c1]
      · rw [if_neg c1, ms_at, ms_at, ms_at, ms_at, ms_at, ms_at]
        by_cases d6 : k = 426 ∧ q = i
        · rw [if_pos d6]
        · rw [if_neg d6]
          by_cases d5 : k = 425 ∧ q = i
          · rw [if_pos d5]
          · rw [if_neg d5]
            by_cases d4 : k = 424 ∧ q = i
            · rw [if_pos d4]
            · rw [if_neg d4]
              by_cases d3 : k = 423 ∧ q = i
              · rw [if_pos d3]
              · rw [if_neg d3]
                by_cases d2 : k = 422 ∧ q = i
                · rw [if_pos d2]
                · rw [if_neg d2, if_pos (by omega)]
    · rw [if_neg c, if_neg (by omega)]
      iterate 6 rw [ms_at, if_neg (by omega)]
theorem b_mL2 : ∀ (d i : Nat) (M : xwM) (k q : Nat), mL2 i d M k q = if 427 ≤ k ∧ k ≤ 428 ∧ i ≤ q ∧ q < i + d then -1 else M k q := by
  intro d
  induction d with
  | zero => intro i M k q; rw [if_neg (by omega)]; rfl
  | succ d ih =>
    intro i M k q
    show mL2 (i + 1) d _ k q = _
    rw [ih]
    by_cases c : 427 ≤ k ∧ k ≤ 428 ∧ i ≤ q ∧ q < i + (d + 1)
    · rw [if_pos c]
      by_cases c1 : 427 ≤ k ∧ k ≤ 428 ∧ i + 1 ≤ q ∧ q < i + 1 + d
      · rw [if_pos c1]
      · rw [if_neg c1, ms_at, ms_at]
        by_cases d2 : k = 428 ∧ q = i
        · rw [if_pos d2]
        · rw [if_neg d2, if_pos (by omega)]
    · rw [if_neg c, if_neg (by omega)]
      iterate 2 rw [ms_at, if_neg (by omega)]
theorem b_M0 (k q : Nat) : M0 k q = if 427 ≤ k ∧ k ≤ 428 ∧ q < 1728 then -1 else if 421 ≤ k ∧ k ≤ 426 ∧ q < 144 then -1 else mAl 0 12 M00 k q := by
  unfold M0
  rw [b_mL2, b_mL1]
  by_cases c : 427 ≤ k ∧ k ≤ 428 ∧ q < 1728
  · rw [if_pos c, if_pos (by omega)]
  · rw [if_neg c, if_neg (by omega)]
    by_cases c2 : 421 ≤ k ∧ k ≤ 426 ∧ q < 144
    · rw [if_pos c2, if_pos (by omega)]
    · rw [if_neg c2, if_neg (by omega)]
theorem b_hi {k q : Nat} (h : 410 ≤ k) : mAl 0 12 M00 k q = 0 := by
  rw [b_mAl_out 12 0 M00 k (by omega)]
  rfl
theorem b_blk {n : Nat} (hn : n < 12) : b_ok n M0 :=
  b_ok_cong (b_mAl_ok 12 0 M00 n (Nat.zero_le _) (by omega) (fun q => rfl)) (fun k a b => by
    funext q
    rw [b_M0, if_neg (by omega), if_neg (by omega)])
def b_T : pT := fun j n d => if j = 1 then 0 else M0 (j + 34 * n) d
theorem b_T_at {j n d : Nat} (h : j ≠ 1) : b_T j n d = M0 (j + 34 * n) d := by
  unfold b_T
  rw [if_neg h]
theorem p_LI_0 : p_LI 0 M0 := by
  have hI : p_IT (fun _ => 0) b_T := by
    refine ⟨?_, ?_, ?_, ?_, ?_, ?_, ?_, ?_, fun d _ => Nat.zero_le _⟩
    · intro n hn; rw [b_T_at (by decide)]; exact (b_blk hn).1
    · intro n m hn hm
      rw [b_T_at (by decide), b_T_at (by decide)]
      exact ⟨0, by decide, ((b_blk hn).2 m hm).1, ((b_blk hm).2 n hn).1⟩
    · intro n hn; rw [b_T_at (by decide)]; exact ((b_blk hn).2 n hn).1
    · intro n hn
      obtain ⟨a1, a2, a3, a4, a5, a6, a7, a8⟩ := (b_blk hn).2 n hn
      rw [if_pos rfl] at a4 a5 a6
      rw [b_T_at (by decide), b_T_at (by decide), b_T_at (by decide), b_T_at (by decide)]
      exact ⟨a4, a5, a6, a2⟩
    · intro n d hn hd
      obtain ⟨a1, a2, a3, a4, a5, a6, a7, a8⟩ := (b_blk hn).2 d hd
      rw [b_T_at (by decide), b_T_at (by decide)]
      exact Or.inl ⟨a2, a3⟩
    · intro n d hn hd hnd
      obtain ⟨a1, a2, a3, a4, a5, a6, a7, a8⟩ := (b_blk hn).2 d hd
      rw [if_neg (fun e => hnd e.symm)] at a4 a5 a6
      rw [b_T_at (by decide), b_T_at (by decide), b_T_at (by decide)]
      exact Or.inl ⟨a4, a5, a6⟩
    · intro n d hn hd
      obtain ⟨a1, a2, a3, a4, a5, a6, a7, a8⟩ := (b_blk hn).2 d hd
      rw [b_T_at (by decide)]
      exact Or.inl a7
    · intro n m d hn hm hd
      obtain ⟨a1, a2, a3, a4, a5, a6, a7, a8⟩ := (b_blk hn).2 d hd
      rw [b_T_at (by omega), b_T_at (by omega)]
      exact Or.inl (a8 m hm)
  have z : ∀ k q, 410 ≤ k → k < 421 → M0 k q = 0 := fun k q a b => by rw [b_M0, if_neg (by omega), if_neg (by omega)]; exact b_hi a
  refine ⟨(b_T, []), fun _ => 0, ⟨?_, ?_⟩, And.intro hI (fun l hl => absurd hl List.not_mem_nil), fun d _ => Nat.le_refl _⟩
  · refine ⟨fun j n a b c => ?_, fun i a b => ?_, 0, by decide, ?_, ?_, by show 0 ≤ 300; decide, fun i l hl => ?_⟩
    · funext d
      show _ = b_T j n d
      rw [b_T_at (by omega)]
    · rw [z _ _ (by decide) (by decide)]; rfl
    · rw [z _ _ (by decide) (by decide)]; rfl
    · rw [z _ _ (by decide) (by decide)]; rfl
    · have hl : ([] : List pL)[i]? = some l := hl
      rw [List.getElem?_nil] at hl
      cases hl
  · refine ⟨?_, ?_, ?_, ?_, ?_, ?_, ?_, ?_, ?_, ?_, ⟨?_, ?_, ?_⟩, ⟨0, ?_, ?_⟩, ?_, by show 0 ≤ 300; decide, fun i l hl => ?_⟩
    · intro n m hn hm
      rw [z _ _ (by decide) (by decide)]
      dsimp only
      rw [b_T_at (by decide)]
      exact (((b_blk hn).2 m hm).1).symm
    · intro n hn
      rw [z _ _ (by decide) (by decide)]
      have a5 := ((b_blk hn).2 n hn).2.2.2.2.1
      rw [if_pos rfl] at a5
      dsimp only
      rw [b_T_at (by decide)]
      exact a5.symm
    · intro n d hn hd
      rw [b_M0, if_neg (by omega), if_pos (by omega)]
      dsimp only
      rw [b_T_at (by decide)]
      exact ((b_blk hn).2 d hd).2.1.symm
    · intro n d hn hd
      rw [b_M0, if_neg (by omega), if_pos (by omega)]
      dsimp only
      rw [b_T_at (by decide)]
      exact ((b_blk hn).2 d hd).2.2.1.symm
    · intro n d hn hd
      rw [b_M0, if_neg (by omega), if_pos (by omega)]
      dsimp only
      rw [b_T_at (by decide)]
      exact ((b_blk hn).2 d hd).2.2.2.2.2.2.1.symm
    · intro n d hn hd hnd
      rw [b_M0, if_neg (by omega), if_pos (by omega)]
      have a := ((b_blk hn).2 d hd).2.2.2.1
      rw [if_neg (fun e => hnd e.symm)] at a
      dsimp only
      rw [b_T_at (by decide)]
      exact a.symm
    · intro n d hn hd hnd
      rw [b_M0, if_neg (by omega), if_pos (by omega)]
      have a := ((b_blk hn).2 d hd).2.2.2.2.1
      rw [if_neg (fun e => hnd e.symm)] at a
      dsimp only
      rw [b_T_at (by decide)]
      exact a.symm
    · intro n d hn hd hnd
      rw [b_M0, if_neg (by omega), if_pos (by omega)]
      have a := ((b_blk hn).2 d hd).2.2.2.2.2.1
      rw [if_neg (fun e => hnd e.symm)] at a
      dsimp only
      rw [b_T_at (by decide)]
      exact a.symm
    · intro n m d hn hm hd
      rw [b_M0, if_pos (by omega)]
      dsimp only
      rw [b_T_at (by omega)]
      exact (((b_blk hn).2 d hd).2.2.2.2.2.2.2 m hm).1.symm
    · intro n m d hn hm hd
      rw [b_M0, if_pos (by omega)]
      dsimp only
      rw [b_T_at (by omega)]
      exact (((b_blk hn).2 d hd).2.2.2.2.2.2.2 m hm).2.symm
    · rw [z _ _ (by decide) (by decide)]; rfl
    · rw [z _ _ (by decide) (by decide)]; rfl
    · rw [z _ _ (by decide) (by decide)]; rfl
    · rw [z _ _ (by decide) (by decide)]; rfl
    · have : p_ends b_T = p_ends (fun _ _ _ => 0) := p_ends_congr (fun n m hn hm => by rw [b_T_at (by decide)]; exact ((b_blk hn).2 m hm).1)
      show 2 * 0 = p_ends b_T
      rw [this]
      decide
    · rw [z _ _ (by decide) (by decide)]; rfl
    · have hl : ([] : List pL)[i]? = some l := hl
      rw [List.getElem?_nil] at hl
      cases hl
