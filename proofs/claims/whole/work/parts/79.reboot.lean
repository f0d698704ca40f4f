/-! the reference's reboot -/
def p_cl (n k : Nat) (T : pT) : pT := fun j n' d => if n' = n ∧ d < k ∧ (j = 4 ∨ j = 5 ∨ j = 9) then -1 else T j n' d
theorem p_cl_s (n k : Nat) (T : pT) : p_st (p_st (p_st (p_cl n k T) 4 n k (-1)) 5 n k (-1)) 9 n k (-1) = p_cl n (k + 1) T := by
  funext j n' d
  rw [p_st_at, p_st_at, p_st_at]
  unfold p_cl
  by_cases c : n' = n ∧ d = k ∧ (j = 4 ∨ j = 5 ∨ j = 9)
  · rw [if_pos (show n' = n ∧ d < k + 1 ∧ (j = 4 ∨ j = 5 ∨ j = 9) by omega)]
    by_cases c9 : j = 9 ∧ n' = n ∧ d = k
    · rw [if_pos c9]
    · rw [if_neg c9]
      by_cases c5 : j = 5 ∧ n' = n ∧ d = k
      · rw [if_pos c5]
      · rw [if_neg c5, if_pos (by omega)]
  · rw [if_neg (by omega), if_neg (by omega), if_neg (by omega)]
    by_cases c2 : n' = n ∧ d < k ∧ (j = 4 ∨ j = 5 ∨ j = 9)
    · rw [if_pos c2, if_pos (by omega)]
    · rw [if_neg c2, if_neg (by omega)]
theorem p_cl_e (n : Nat) (T : pT) : p_cl n 12 T = p_fi (p_fi (p_fi T 4 n (-1)) 5 n (-1)) 9 n (-1) := by
  funext j n' d
  rw [p_fi_at, p_fi_at, p_fi_at]
  unfold p_cl
  by_cases c : n' = n ∧ d < 12 ∧ (j = 4 ∨ j = 5 ∨ j = 9)
  · rw [if_pos c]
    by_cases c9 : j = 9 ∧ n' = n ∧ d < 12
    · rw [if_pos c9]
    · rw [if_neg c9]
      by_cases c5 : j = 5 ∧ n' = n ∧ d < 12
      · rw [if_pos c5]
      · rw [if_neg c5, if_pos (by omega)]
  · rw [if_neg c, if_neg (by omega), if_neg (by omega), if_neg (by omega)]
theorem p_cl_0 (n : Nat) (T : pT) : p_cl n 0 T = T := by
  funext j n' d
  unfold p_cl
  rw [if_neg (by omega)]
theorem p_ITcl {o : Nat → Nat} {T : pT} (h : p_IT o T) (n : Nat) : p_IT o (p_cl n 12 T) := by
  obtain ⟨h1, h2, h3, h4, h5, h6, h7, h8, h9⟩ := h
  have e : ∀ j n' d', (j ≠ 4 ∧ j ≠ 5 ∧ j ≠ 9) → p_cl n 12 T j n' d' = T j n' d' := fun j n' d' hj => by unfold p_cl; rw [if_neg (by omega)]
  have e4 : ∀ j n' d', p_cl n 12 T j n' d' = T j n' d' ∨ p_cl n 12 T j n' d' = -1 := fun j n' d' => by
    unfold p_cl
    split
    · exact Or.inr rfl
    · exact Or.inl rfl
  refine ⟨?_, ?_, ?_, ?_, ?_, ?_, ?_, ?_, h9⟩
  · intro n hn; rw [e _ _ _ (by omega)]; exact h1 n hn
  · intro n m hn hm; rw [e _ _ _ (by omega), e _ _ _ (by omega)]; exact h2 n m hn hm
  · intro n hn; rw [e _ _ _ (by omega)]; exact h3 n hn
  · intro n' hn
    rw [e 6 _ _ (by omega), e 7 _ _ (by omega), e 8 _ _ (by omega)]
    refine ⟨(h4 n' hn).1, (h4 n' hn).2.1, (h4 n' hn).2.2.1, ?_⟩
    rcases e4 4 n' n' with q | q
    · rw [q]; exact (h4 n' hn).2.2.2
    · exact q
  · intro n' d' hn hd
    by_cases c : n' = n
    · left
      unfold p_cl
      exact ⟨if_pos ⟨c, hd, Or.inl rfl⟩, if_pos ⟨c, hd, Or.inr (Or.inl rfl)⟩⟩
    · have q : ∀ j, p_cl n 12 T j n' d' = T j n' d' := fun j => by unfold p_cl; rw [if_neg (fun q => c q.1)]
      rw [q, q]
      exact h5 n' d' hn hd
  · intro n' d' hn hd hnd; rw [e _ _ _ (by omega), e _ _ _ (by omega), e _ _ _ (by omega)]; exact h6 n' d' hn hd hnd
  · intro n' d' hn hd
    rcases e4 9 n' d' with q | q
    · rw [q]; exact h7 n' d' hn hd
    · exact Or.inl q
  · intro n m d hn hm hd; rw [e _ _ _ (by omega), e _ _ _ (by omega), e _ _ _ (by omega)]; exact h8 n m d hn hm hd
theorem r_reb136 {T : pT} {L : List pL} {n : Nat} : ∀ (j fu : Nat) (M : xwM), j ≤ L.length → j < fu → p_RM (T, L.take j ++ (L.drop j).filter (p_kp (nI n))) M → p_MX M (nI (L.length - (L.filter (p_kp (nI n))).length)) (p_st T 1 0 5 (T 1 0 5 + nI (L.length - (L.filter (p_kp (nI n))).length)), L.filter (p_kp (nI n))) (fX3_reboot_136 fu (nI n) (nI (L.length - j - ((L.drop j).filter (p_kp (nI n))).length)) (nI j + (-1)) M) := by
  intro j
  induction j with
  | zero =>
    intro fu M hj hf h
    obtain ⟨fu', rfl⟩ : ∃ fu', fu = fu' + 1 := ⟨fu - 1, by omega⟩
    rw [List.take_zero, List.drop_zero, List.nil_append] at h
    rw [fX3_reboot_136, if_pos (show nI 0 + (-1) < 0 by decide), List.drop_zero, Nat.sub_zero, (r_ct h).2.2]
    unfold xlet
    exact ⟨_, rfl, p_RMc5 h, p_FM_ms (by decide), p_ms0 (Or.inr (by decide))⟩
  | succ j ih =>
    intro fu M hj hf h
    obtain ⟨fu', rfl⟩ : ∃ fu', fu = fu' + 1 := ⟨fu - 1, by omega⟩
    have hjl : j < L.length := by omega
    have hl : L[j]? = some L[j] := List.getElem?_eq_getElem hjl
    generalize L[j] = l at hl
    have td : L.take (j + 1) = L.take j ++ [l] := p_take1 hl
    have dd : L.drop j = l :: L.drop (j + 1) := by
      obtain ⟨_, e⟩ := List.getElem?_eq_some_iff.mp hl
      rw [← e]
      exact List.drop_eq_getElem_cons hjl
    have tl : (L.take j).length = j := by rw [List.length_take]; omega
    have hl2 : (L.take (j + 1) ++ (L.drop (j + 1)).filter (p_kp (nI n)))[j]? = some l := by
      rw [td, List.append_assoc, List.getElem?_append_right (by omega), tl, Nat.sub_self]
      rfl
    have h31 := (r_len h).2
    have j300 : j < 300 := by
      have := (List.getElem?_eq_some_iff.mp hl2).1
      have h31' : (L.take (j + 1) ++ (L.drop (j + 1)).filter (p_kp (nI n))).length ≤ 300 := h31
      omega
    have k1 : M 429 (6 * j + 1) = l 1 := (p_lr_of h).2.2 j l hl2 1 (by decide)
    have k2 : M 429 (6 * j + 2) = l 2 := (p_lr_of h).2.2 j l hl2 2 (by decide)
    rw [fX3_reboot_136, nI_m1, if_neg (nI_pos (by omega)), show 6 * nI j + 1 = nI (6 * j + 1) from p_ix6 j 1, show 6 * nI j + 2 = nI (6 * j + 2) from p_ix6 j 2, p_ld (by omega) (by decide), k1, p_ld (by omega) (by decide), k2]
    unfold fX3_reboot_173 fX3_reboot_182
    have fle : ((L.drop (j + 1)).filter (p_kp (nI n))).length ≤ L.length - (j + 1) := by
      have := List.length_filter_le (p_kp (nI n)) (L.drop (j + 1))
      rw [List.length_drop] at this
      exact this
    have gone : p_kp (nI n) l = false → p_MX M (nI (L.length - (L.filter (p_kp (nI n))).length)) (p_st T 1 0 5 (T 1 0 5 + nI (L.length - (L.filter (p_kp (nI n))).length)), L.filter (p_kp (nI n))) (bnv (fX3_takes (nI j) M) fun M34 => fX3_reboot_136 fu' (nI n) (nI (L.length - (j + 1) - ((L.drop (j + 1)).filter (p_kp (nI n))).length) + 1) (nI j + (-1)) M34) := fun hk => by
      obtain ⟨M1, t1, h1, f1, z1, s1⟩ := r_take h hl2
      rw [t1, bnvE]
      refine p_MX_t f1 z1 ?_
      have e1 : (L.drop j).filter (p_kp (nI n)) = (L.drop (j + 1)).filter (p_kp (nI n)) := by
        rw [dd]; simp [hk]
      have e2 : (L.take (j + 1) ++ (L.drop (j + 1)).filter (p_kp (nI n))).eraseIdx j = L.take j ++ (L.drop j).filter (p_kp (nI n)) := by
        rw [e1, td, List.append_assoc, List.eraseIdx_append_of_length_le (by omega), tl, Nat.sub_self]
        rfl
      have h1' : p_RM (T, L.take j ++ (L.drop j).filter (p_kp (nI n))) M1 := by
        rw [← e2]; exact h1
      have K := ih fu' M1 (by omega) (by omega) h1'
      rw [e1] at K
      rw [nI_1, show L.length - (j + 1) - ((L.drop (j + 1)).filter (p_kp (nI n))).length + 1 = L.length - j - ((L.drop (j + 1)).filter (p_kp (nI n))).length by omega]
      exact K
    by_cases c1 : l 1 = nI n
    · rw [if_pos c1]
      exact gone (by unfold p_kp; simp [c1])
    · rw [if_neg c1]
      by_cases c2 : l 2 = nI n
      · rw [if_pos c2]
        exact gone (by unfold p_kp; simp [c2])
      · rw [if_neg c2]
        have hk : p_kp (nI n) l = true := by unfold p_kp; simp [c1, c2]
        have e1 : (L.drop j).filter (p_kp (nI n)) = l :: (L.drop (j + 1)).filter (p_kp (nI n)) := by
          rw [dd]; simp [hk]
        have h1' : p_RM (T, L.take j ++ (L.drop j).filter (p_kp (nI n))) M := by
          rw [e1]
          rw [td, List.append_assoc] at h
          exact h
        have K := ih fu' M (by omega) (by omega) h1'
        rw [e1, List.length_cons] at K
        rw [show L.length - j - (((L.drop (j + 1)).filter (p_kp (nI n))).length + 1) = L.length - (j + 1) - ((L.drop (j + 1)).filter (p_kp (nI n))).length by omega] at K
        exact K
theorem r_reb78 {A : pA} {M : xwM} (h : p_RM A M) {n : Nat} (hn : n < 12) : p_MX M (nI (A.2.length - (A.2.filter (p_kp (nI n))).length)) (p_reb n A) (fX3_reboot_78 2001 (nI n) 0 M) := by
  have K := p_loop2 (α := Unit) (σ := xwM) (R := Int32 × xwM) (fun fu j M => fX3_reboot_78 fu (nI n) (nI j) M) (fun M => fX3_reboot_136 2001 (nI n) 0 (M 418 13 - 1) M) (fun j _ M' => p_RM (p_cl n j A.1, A.2) M' ∧ p_FM M M' ∧ M' 418 0 = M 418 0) (fun _ a => a) 12
    (fun fu a M _ => by
      show fX3_reboot_78 (fu + 1) (nI n) (nI 12) M = _
      rw [fX3_reboot_78, if_pos nI12])
    (fun fu j a M1 hj hM => by
      obtain ⟨r, f, z⟩ := hM
      refine ⟨ms (ms (ms M1 421 (12 * n + j) (-1)) 422 (12 * n + j) (-1)) 426 (12 * n + j) (-1), ?_, ?_, ?_, ?_⟩
      · show fX3_reboot_78 (fu + 1) (nI n) (nI j) M1 = fX3_reboot_78 fu (nI n) (nI (j + 1)) _
        rw [fX3_reboot_78, if_neg (nI12n hj), p_ix2, p_sto (by omega) (by decide), p_sto (by omega) (by decide), p_sto (by omega) (by decide), nI_1]
      · rw [← p_cl_s]
        exact p_RM9 (p_RM5 (p_RM4 r hn hj) hn hj) hn hj
      · exact p_FM_t f (p_FM_t (p_FM_ms (by decide)) (p_FM_t (p_FM_ms (by decide)) (p_FM_ms (by decide))))
      · rw [p_ms0 (Or.inl (by decide)), p_ms0 (Or.inl (by decide)), p_ms0 (Or.inl (by decide)), z])
    12 0 2001 () M rfl (by decide) ⟨by rw [p_cl_0]; exact h, p_FM_r M, rfl⟩
  obtain ⟨M1, e, r, f, z⟩ := K
  have e' : fX3_reboot_78 2001 (nI n) (nI 0) M = fX3_reboot_136 2001 (nI n) 0 (M1 418 13 - 1) M1 := e
  rw [nI_0] at e'
  rw [e', (r_len r).1]
  refine p_MX_t f z ?_
  have h3 : A.2.length ≤ 300 := (r_len h).2
  have K2 := r_reb136 (T := p_cl n 12 A.1) (L := A.2) (n := n) A.2.length 2001 M1 (Nat.le_refl _) (by omega) (by
    rw [List.take_length, List.drop_length]
    simpa using r)
  rw [List.drop_length] at K2
  have e0 : A.2.length - A.2.length - ([].filter (p_kp (nI n))).length = 0 := by simp
  rw [e0, nI_0] at K2
  have e5 : p_cl n 12 A.1 1 0 5 = A.1 1 0 5 := by unfold p_cl; rw [if_neg (by omega)]
  rw [e5, p_cl_e] at K2
  rw [show nI (p_cl n 12 A.1, A.2).2.length - 1 = nI A.2.length + (-1) from Int32.sub_eq_add_neg _ _]
  exact K2
theorem r_reb4 {o : Nat → Nat} {A : pA} {M : xwM} (h : p_RM A M) (hI : p_IT o A.1) {n : Nat} (hn : n < 12) : ∃ s : Int32, ((s = 0 ∧ p_deg A.1 n = 0) ∨ (s = 1 ∧ p_deg A.1 n ≠ 0)) ∧ fX3_reboot (nI n) M = fX3_reboot_47 (nI n) s M := by
  have K := p_loop2 (α := Nat) (σ := Int32) (R := Int32 × xwM) (fun fu j s => fX3_reboot_4 fu (nI n) s (nI j) M) (fun s => fX3_reboot_47 (nI n) s M) (fun _ a s => (s = 0 ∧ a = 0) ∨ (s = 1 ∧ a ≠ 0)) (fun m k => if A.1 3 n m = 0 then k else k + 1) 12
    (fun fu a s _ => by
      show fX3_reboot_4 (fu + 1) (nI n) s (nI 12) M = _
      rw [fX3_reboot_4, if_pos nI12])
    (fun fu j a s hj hs => by
      show ∃ s', fX3_reboot_4 (fu + 1) (nI n) s (nI j) M = fX3_reboot_4 fu (nI n) s' (nI (j + 1)) M ∧ _
      have e0 := p_cost0 hI hn hj
      rw [fX3_reboot_4, if_neg (nI12n hj), r_node1 hn, bniE, if_neg one0, p_ix2, p_ld (by omega) (by decide), r_3 h hn hj]
      unfold fX3_reboot_35 fX3_reboot_40
      rw [nI_1]
      rcases hs with ⟨s1, s2⟩ | ⟨s1, s2⟩
      · rw [if_pos s1]
        by_cases c : A.1 3 n j = 0
        · rw [if_pos (e0.mpr c), if_pos c]
          exact ⟨0, rfl, Or.inl ⟨rfl, s2⟩⟩
        · rw [if_neg (fun q => c (e0.mp q)), if_neg c]
          exact ⟨1, rfl, Or.inr ⟨rfl, by omega⟩⟩
      · rw [s1, if_neg one0]
        refine ⟨1, rfl, Or.inr ⟨rfl, ?_⟩⟩
        split <;> omega)
    12 0 2001 0 0 rfl (by decide) (Or.inl ⟨rfl, rfl⟩)
  obtain ⟨s, e, q⟩ := K
  exact ⟨s, q, e⟩
theorem r_reb1 {o : Nat → Nat} {A : pA} {M : xwM} (h : p_RM A M) (hI : p_IT o A.1) {n : Nat} (hn : n < 12) (hd : p_deg A.1 n = 0) : p_RO M 0 (nI (A.2.length - (A.2.filter (p_kp (nI n))).length)) (p_reb n A) (fX3_reboot (nI n) M) := by
  obtain ⟨s, q, e⟩ := r_reb4 h hI hn
  rw [e]
  unfold fX3_reboot_47 fX3_reboot_68
  rcases q with ⟨q1, q2⟩ | ⟨q1, q2⟩
  · rw [r_node1 hn, bniE, if_neg one0, if_pos q1, r_ref0, bniE, if_pos rfl]
    exact p_RO_ok (r_reb78 (p_RM_0 h 0) hn)
  · exact absurd hd q2
theorem r_reb2 {o : Nat → Nat} {A : pA} {M : xwM} (h : p_RM A M) (hI : p_IT o A.1) {n : Nat} (hn : n < 12) (hd : ¬ p_deg A.1 n = 0) : p_RO M 2 0 A (fX3_reboot (nI n) M) := by
  obtain ⟨s, q, e⟩ := r_reb4 h hI hn
  rw [e]
  unfold fX3_reboot_47 fX3_reboot_68
  rcases q with ⟨q1, q2⟩ | ⟨q1, q2⟩
  · exact absurd q2 hd
  · rw [r_node1 hn, bniE, if_neg one0, q1, if_neg one0, r_ref2, bniE, if_neg one0]
    exact p_RO_no h 2
theorem r_reb0 {A : pA} {M : xwM} (h : p_RM A M) {x : Int32} (hx : ¬ p_isN x) : p_RO M 1 0 A (fX3_reboot x M) := by
  unfold fX3_reboot
  rw [fX3_reboot_4, if_neg (show ¬ (12 : Int32) ≤ 0 by decide), r_node0 hx, bniE, if_pos rfl]
  unfold fX3_reboot_47 fX3_reboot_68
  rw [r_node0 hx, bniE, if_pos rfl, r_ref1, bniE, if_neg one0]
  exact p_RO_no h 1
theorem p_I_reb {o : Nat → Nat} {A : pA} (h : p_I o A) (n : Nat) : p_I o (p_reb n A) := by
  unfold p_reb
  rw [← p_cl_e]
  exact And.intro (p_IT1 (p_ITcl h.1 n)) (fun l hl => h.2 l (List.mem_filter.mp hl).1)
