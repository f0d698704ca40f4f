/-! the fifteen calls -/
theorem p_int {x : Int32} {g : Nat} (hg : g < 2 ^ 31) (h1 : ¬ x < 0) (h2 : x ≤ nI g) : ∃ c, c ≤ g ∧ x = nI c := by
  obtain ⟨c, hc, rfl⟩ := nI_of h1
  exact ⟨c, (nI_leI hc hg).mp h2, rfl⟩
section OPS
variable {n : Nat} {M : xwM} {A : pA} {o : Nat → Nat}
theorem op_link (hn : n < 512) (h : p_two A M) (hI : p_I o A) (ho : ∀ d, d < 12 → o d ≤ n) (a1 a2 a3 : Int32) : ∃ M3, lwLS (hL1 (fX2_link a1 a2 a3 M)) (fX3_link a1 a2 a3) (fun b => b.toInt64) M3 ∧ p_LI (n + 1) M3 := by
  have ho' : ∀ d, d < 12 → o d ≤ n + 1 := fun d hd => Nat.le_succ_of_le (ho d hd)
  by_cases c : p_pr a1 a2 ∧ ¬ a3 < 0 ∧ a3 ≤ 1000
  · obtain ⟨⟨⟨a, ha, rfl⟩, ⟨b, hb, rfl⟩, hne⟩, h1, h2⟩ := c
    have hab : a ≠ b := fun e => hne (by rw [e])
    obtain ⟨cc, hc, rfl⟩ := p_int (g := 1000) (by decide) h1 h2
    exact p_mkLI (p_I_link hI ha hb hab hc) ho' (p_fin1 h (c_link h.1 ha hb hab h1 h2) (fun Mx hx => r_link1 hx hI ha hb hab hc))
  · refine p_mkLI hI ho' (p_fin0 h ?_ (fun Mx hx => r_link0 hx c))
    unfold fX2_link
    by_cases c1 : p_pr a1 a2
    · rw [c_pair1 c1, bnxE, c_upto0 (fun q => c ⟨c1, q⟩), bnxX]
    · rw [c_pair0 c1, bnxX]
theorem op_ann (hn : n < 512) (h : p_two A M) (hI : p_I o A) (ho : ∀ d, d < 12 → o d ≤ n) (a1 : Int32) : ∃ M3, lwLS (hL1 (fX2_announce a1 M)) (fX3_announce a1) (fun b => b.toInt64) M3 ∧ p_LI (n + 1) M3 := by
  have ho' : ∀ d, d < 12 → o d ≤ n + 1 := fun d hd => Nat.le_succ_of_le (ho d hd)
  by_cases c : p_isN a1
  · obtain ⟨a, ha, rfl⟩ := c
    exact p_mkLI (p_I_ann hI ha) ho' (p_fin1 h (c_ann h.1 ha) (fun Mx hx => r_ann1 hx hI ha))
  · refine p_mkLI hI ho' (p_fin0 h ?_ (fun Mx hx => r_ann0 hx c))
    unfold fX2_announce
    rw [c_node0 c, bnxX]
theorem op_renew (hn : n < 512) (h : p_two A M) (hI : p_I o A) (ho : ∀ d, d < 12 → o d ≤ n) (a1 : Int32) : ∃ M3, lwLS (hL1 (fX2_renew a1 M)) (fX3_renew a1) (fun b => b.toInt64) M3 ∧ p_LI (n + 1) M3 := by
  have ho' : ∀ d, d < 12 → o d ≤ n + 1 := fun d hd => Nat.le_succ_of_le (ho d hd)
  by_cases c : p_isN a1
  · obtain ⟨a, ha, rfl⟩ := c
    have hb : o a < 32000 := by have := ho a ha; omega
    refine p_mkLI (p_I_tellAll (p_I_raise hI ha hb) ha ha) (fun d hd => ?_) (p_fin1 h (c_renew h.1 ha (hI.1.1 a ha)) (fun Mx hx => r_renew1 hx hI ha hb))
    have := (p_op_le o a d).2
    have := ho d hd
    omega
  · refine p_mkLI hI ho' (p_fin0 h ?_ (fun Mx hx => r_renew0 hx c))
    unfold fX2_renew
    rw [c_node0 c, bnxX]
theorem op_ask (hn : n < 512) (h : p_two A M) (hI : p_I o A) (ho : ∀ d, d < 12 → o d ≤ n) (a1 a2 : Int32) : ∃ M3, lwLS (hL1 (fX2_ask a1 a2 M)) (fX3_ask a1 a2) (fun b => b.toInt64) M3 ∧ p_LI (n + 1) M3 := by
  have ho' : ∀ d, d < 12 → o d ≤ n + 1 := fun d hd => Nat.le_succ_of_le (ho d hd)
  by_cases c : p_pr a1 a2
  · obtain ⟨⟨a, ha, rfl⟩, ⟨b, hb, rfl⟩, hne⟩ := c
    have hab : a ≠ b := fun e => hne (by rw [e])
    exact p_mkLI (p_I_lost hI ha hb) ho' (p_fin1 h (c_askO h.1 ha hb hab) (fun Mx hx => r_ask1 hx hI ha hb hab))
  · refine p_mkLI hI ho' (p_fin0 h ?_ (fun Mx hx => r_ask0 hx c))
    unfold fX2_ask
    rw [c_pair0 c, bnxX]
theorem op_reboot (hn : n < 512) (h : p_two A M) (hI : p_I o A) (ho : ∀ d, d < 12 → o d ≤ n) (a1 : Int32) : ∃ M3, lwLS (hL2 (fX2_reboot a1 M)) (fX3_reboot a1) (fun b => b.toInt64) M3 ∧ p_LI (n + 1) M3 := by
  have ho' : ∀ d, d < 12 → o d ≤ n + 1 := fun d hd => Nat.le_succ_of_le (ho d hd)
  by_cases c : p_isN a1
  · obtain ⟨a, ha, rfl⟩ := c
    by_cases c2 : p_deg A.1 a = 0
    · obtain ⟨M', e, cc, f⟩ := c_reb1 h.1 ha c2
      rw [e]
      refine p_mkLI (p_I_reb hI a) ho' (p_fin h (k := 0) (M1 := ms M' 430 0 _) rfl (p_RC_cong cc (fun j hj => ?_)) (fun j a b => ?_) (fun Mx hx => r_reb1 hx hI.1 ha c2) (fun _ => ?_))
      · funext x; rw [ms_at, if_neg (by omega)]
      · funext x; rw [ms_at, if_neg (by omega), f j a]
      · rw [p_ms_s]
    · rw [c_reb0 h.1 ha c2]
      refine p_mkLI hI ho' (p_fin h (k := 2) (M1 := M) ?_ h.1 (fun j _ _ => rfl) (fun Mx hx => r_reb2 hx hI.1 ha c2) (fun q => absurd q (by decide)))
      show (if xISE = xIAE then some ((1 : Int32), M) else if xISE = xISE then some ((2 : Int32), M) else none) = some (2, M)
      rw [if_neg (by decide), if_pos rfl]
  · have e : fX2_reboot a1 M = some (.inr xIAE, M) := by
      unfold fX2_reboot
      rw [c_node0 c, bnxX]
    rw [e]
    refine p_mkLI hI ho' (p_fin h (k := 1) (M1 := M) ?_ h.1 (fun j _ _ => rfl) (fun Mx hx => r_reb0 hx c) (fun q => absurd q (by decide)))
    show (if xIAE = xIAE then some ((1 : Int32), M) else if xIAE = xISE then some ((2 : Int32), M) else none) = some (1, M)
    rw [if_pos rfl]
theorem p_getL {A : pA} {i : Nat} (hi : i < A.2.length) : A.2[i]? = some A.2[i] := List.getElem?_eq_getElem hi
theorem op_deliver (hn : n < 512) (h : p_two A M) (hI : p_I o A) (ho : ∀ d, d < 12 → o d ≤ n) (a1 : Int32) : ∃ M3, lwLS (hL1 (fX2_deliver a1 M)) (fX3_deliver a1) (fun b => b.toInt64) M3 ∧ p_LI (n + 1) M3 := by
  have ho' : ∀ d, d < 12 → o d ≤ n + 1 := fun d hd => Nat.le_succ_of_le (ho d hd)
  have hb : ∀ d, d < 12 → o d < 32000 := fun d hd => by have := ho d hd; omega
  by_cases c : p_isL A a1
  · obtain ⟨i, hi, rfl⟩ := c
    have hl := p_getL hi
    have hlI := hI.2 _ (List.mem_of_getElem? hl)
    obtain ⟨o', q1, q2⟩ := p_I_hand hI hb i
    refine p_mkLI q2 (fun d hd => ?_) (p_fin1 h (c_deliver h.1 hl (p_lok_of hlI) hI.1.1 (fun _ => p_pq_of hI.1 hlI)) (fun Mx hx => r_deliver1 hx hI hb hl))
    have := ho d hd
    have := q1 d
    omega
  · refine p_mkLI hI ho' (p_fin0 h ?_ (fun Mx hx => r_deliver0 hx c))
    unfold fX2_deliver
    rw [c_ltr0 h.1 c, bnxX]
theorem op_run (hn : n < 512) (h : p_two A M) (hI : p_I o A) (ho : ∀ d, d < 12 → o d ≤ n) (a1 : Int32) : ∃ M3, lwLS (hL1 (fX2_run a1 M)) (fX3_run a1) (fun b => b.toInt64) M3 ∧ p_LI (n + 1) M3 := by
  have ho' : ∀ d, d < 12 → o d ≤ n + 1 := fun d hd => Nat.le_succ_of_le (ho d hd)
  have hb : ∀ d, d < 12 → o d ≤ 31000 := fun d hd => by have := ho d hd; omega
  by_cases c : ¬ a1 < 0 ∧ a1 ≤ 500
  · obtain ⟨N, hN, rfl⟩ := p_int (g := 500) (by decide) c.1 c.2
    have hJ0 := p_JA_start hI
    obtain ⟨o', q1, q2, _⟩ := p_JA_run hb N 0 A hJ0
    refine p_mkLI q1 (fun d hd => ?_) (p_fin1 h (c_run (p_JA o) (fun B hB hl => p_JA_hand hb hB hl) (fun B hB => (p_JA_ok hb hB).1) h.1 hJ0 hN) (fun Mx hx => r_run1 (p_JA o) (fun B hB hl => p_JA_hand hb hB hl) (fun B hB => (p_JA_ok hb hB).2) hx hJ0 hN))
    have := ho d hd
    have := q2 d hd
    omega
  · refine p_mkLI hI ho' (p_fin0 h ?_ (fun Mx hx => r_run0 hx c))
    unfold fX2_run
    rw [c_upto0 c, bnxX]
theorem op_drop (hn : n < 512) (h : p_two A M) (hI : p_I o A) (ho : ∀ d, d < 12 → o d ≤ n) (a1 : Int32) : ∃ M3, lwLS (hL1 (fX2_drop a1 M)) (fX3_drop a1) (fun b => b.toInt64) M3 ∧ p_LI (n + 1) M3 := by
  have ho' : ∀ d, d < 12 → o d ≤ n + 1 := fun d hd => Nat.le_succ_of_le (ho d hd)
  by_cases c : p_isL A a1
  · obtain ⟨i, hi, rfl⟩ := c
    have hl := p_getL hi
    exact p_mkLI (p_I_e hI i) ho' (p_fin1 h (c_drop h.1 hl) (fun Mx hx => r_drop1 hx hl))
  · refine p_mkLI hI ho' (p_fin0 h ?_ (fun Mx hx => r_drop0 hx c))
    unfold fX2_drop
    rw [c_ltr0 h.1 c, bnxX]
theorem op_copy (hn : n < 512) (h : p_two A M) (hI : p_I o A) (ho : ∀ d, d < 12 → o d ≤ n) (a1 : Int32) : ∃ M3, lwLS (hL3 (fX2_copy a1 M)) (fX3_copy a1) (fun b => if b = 0 then (0 : Int32).toInt64 else (1 : Int32).toInt64) M3 ∧ p_LI (n + 1) M3 := by
  have ho' : ∀ d, d < 12 → o d ≤ n + 1 := fun d hd => Nat.le_succ_of_le (ho d hd)
  by_cases c : p_isL A a1
  · obtain ⟨i, hi, rfl⟩ := c
    have hl := p_getL hi
    obtain ⟨M', e, cc, f⟩ := c_copy h.1 hl
    rw [e]
    have hI' : p_I o (if A.2.length < 300 then (A.1, A.2 ++ [A.2[i]]) else A) := by
      split
      · refine And.intro hI.1 (fun l hm => ?_)
        rcases List.mem_append.mp hm with q | q
        · exact hI.2 l q
        · rw [List.mem_singleton] at q
          rw [q]
          exact hI.2 _ (List.mem_of_getElem? hl)
      · exact hI
    refine p_mkLI hI' ho' (p_fin h (k := 0) (M1 := ms M' 430 0 (if (if A.2.length < 300 then (1 : Int32) else 0) = 0 then 0 else 1)) rfl (p_RC_cong cc (fun j hj => ?_)) (fun j a b => ?_) (fun Mx hx => r_copy1 hx hl) (fun _ => ?_))
    · funext x; rw [ms_at, if_neg (by omega)]
    · funext x; rw [ms_at, if_neg (by omega), f j a]
    · rw [p_ms_s]
      by_cases c3 : A.2.length < 300
      · rw [if_pos c3, if_neg one0, if_neg one0]
      · rw [if_neg c3, if_pos rfl, if_pos rfl]
  · have e : fX2_copy a1 M = some (.inr xIAE, M) := by
      unfold fX2_copy
      rw [c_ltr0 h.1 c, bnxX]
    rw [e]
    refine p_mkLI hI ho' (p_fin h (k := 1) (M1 := M) ?_ h.1 (fun j _ _ => rfl) (fun Mx hx => r_copy0 hx c) (fun q => absurd q (by decide)))
    show (if xIAE = xIAE then some ((1 : Int32), M) else none) = some (1, M)
    rw [if_pos rfl]
theorem op_letter (hn : n < 512) (h : p_two A M) (hI : p_I o A) (ho : ∀ d, d < 12 → o d ≤ n) (a1 a2 : Int32) : ∃ M3, lwLS (hL1 (fX2_letter a1 a2 M)) (fX3_letter a1 a2) (fun b => b.toInt64) M3 ∧ p_LI (n + 1) M3 := by
  have ho' : ∀ d, d < 12 → o d ≤ n + 1 := fun d hd => Nat.le_succ_of_le (ho d hd)
  by_cases c : p_isL A a1 ∧ ¬ a2 < 0 ∧ a2 ≤ 5
  · obtain ⟨⟨i, hi, rfl⟩, h1, h2⟩ := c
    obtain ⟨f, hf, rfl⟩ := p_int (g := 5) (by decide) h1 h2
    have hl := p_getL hi
    exact p_mkLI hI ho' (p_fin1 h (c_letter h.1 hl (by omega)) (fun Mx hx => r_letter1 hx hl (by omega)))
  · refine p_mkLI hI ho' (p_fin0 h ?_ (fun Mx hx => r_letter0 hx c))
    unfold fX2_letter
    by_cases c1 : p_isL A a1
    · have c2 : ¬ (¬ a2 < 0 ∧ a2 ≤ 5) := fun q => c ⟨c1, q⟩
      obtain ⟨i, hi, rfl⟩ := c1
      rw [c_ltr1 h.1 hi, bnxE, c_upto0 c2, bnxX]
    · rw [c_ltr0 h.1 c1, bnxX]
theorem op_way (hn : n < 512) (h : p_two A M) (hI : p_I o A) (ho : ∀ d, d < 12 → o d ≤ n) (a1 a2 a3 : Int32) : ∃ M3, lwLS (hL1 (fX2_way a1 a2 a3 M)) (fX3_way a1 a2 a3) (fun b => b.toInt64) M3 ∧ p_LI (n + 1) M3 := by
  have ho' : ∀ d, d < 12 → o d ≤ n + 1 := fun d hd => Nat.le_succ_of_le (ho d hd)
  by_cases c : p_isN a1 ∧ p_isN a2 ∧ ¬ a3 < 0 ∧ a3 ≤ 4
  · obtain ⟨⟨a, ha, rfl⟩, ⟨b, hb, rfl⟩, h1, h2⟩ := c
    obtain ⟨w, hw, rfl⟩ := p_int (g := 4) (by decide) h1 h2
    exact p_mkLI hI ho' (p_fin1 h (c_way h.1 ha hb (by omega)) (fun Mx hx => r_way1 hx hI.1 ha hb (by omega)))
  · refine p_mkLI hI ho' (p_fin0 h ?_ (fun Mx hx => r_way0 hx c))
    unfold fX2_way
    by_cases c1 : p_isN a1
    · by_cases c2 : p_isN a2
      · have c3 : ¬ (¬ a3 < 0 ∧ a3 ≤ 4) := fun q => c ⟨c1, c2, q⟩
        obtain ⟨a, ha, rfl⟩ := c1
        obtain ⟨b, hb, rfl⟩ := c2
        rw [c_node1 ha, bnxE, c_node1 hb, bnxE, c_upto0 c3, bnxX]
      · obtain ⟨a, ha, rfl⟩ := c1
        rw [c_node1 ha, bnxE, c_node0 c2, bnxX]
    · rw [c_node0 c1, bnxX]
theorem op_told (hn : n < 512) (h : p_two A M) (hI : p_I o A) (ho : ∀ d, d < 12 → o d ≤ n) (a1 a2 a3 a4 : Int32) : ∃ M3, lwLS (hL1 (fX2_told a1 a2 a3 a4 M)) (fX3_told a1 a2 a3 a4) (fun b => b.toInt64) M3 ∧ p_LI (n + 1) M3 := by
  have ho' : ∀ d, d < 12 → o d ≤ n + 1 := fun d hd => Nat.le_succ_of_le (ho d hd)
  by_cases c : p_pr a1 a2 ∧ p_pr a1 a3 ∧ ¬ a4 < 0 ∧ a4 ≤ 2
  · obtain ⟨⟨⟨a, ha, ea⟩, ⟨b, hb, eb⟩, hne⟩, ⟨_, ⟨d, hd, ed⟩, hne2⟩, h1, h2⟩ := c
    subst ea eb ed
    have hab : a ≠ b := fun e => hne (by rw [e])
    have had : a ≠ d := fun e => hne2 (by rw [e])
    obtain ⟨w, hw, rfl⟩ := p_int (g := 2) (by decide) h1 h2
    exact p_mkLI hI ho' (p_fin1 h (c_told h.1 ha hb hd hab had (by omega)) (fun Mx hx => r_told1 hx hI.1 ha hb hd hab had (by omega)))
  · refine p_mkLI hI ho' (p_fin0 h ?_ (fun Mx hx => r_told0 hx c))
    unfold fX2_told
    by_cases c1 : p_pr a1 a2
    · by_cases c2 : p_pr a1 a3
      · rw [c_pair1 c1, bnxE, c_pair1 c2, bnxE, c_upto0 (fun q => c ⟨c1, c2, q⟩), bnxX]
      · rw [c_pair1 c1, bnxE, c_pair0 c2, bnxX]
    · rw [c_pair0 c1, bnxX]
theorem p_chR (hI : p_I o A) {d : Nat} (hd : d < 12) : ∀ n, n < 12 → A.1 6 n d = -1 ∨ p_isN (A.1 6 n d) := fun n hn => by
  by_cases c : n = d
  · subst c
    exact Or.inr ⟨n, hn, (hI.1.2.2.2.1 n hn).1⟩
  · rcases hI.1.2.2.2.2.2.1 n d hn hd c with ⟨r, _⟩ | ⟨m, _, _, hm, _, _, r, _⟩
    · exact Or.inl r
    · exact Or.inr ⟨m, hm, r⟩
theorem op_trace (hn : n < 512) (h : p_two A M) (hI : p_I o A) (ho : ∀ d, d < 12 → o d ≤ n) (a1 a2 : Int32) : ∃ M3, lwLS (hL1 (fX2_trace a1 a2 M)) (fX3_trace a1 a2) (fun b => b.toInt64) M3 ∧ p_LI (n + 1) M3 := by
  have ho' : ∀ d, d < 12 → o d ≤ n + 1 := fun d hd => Nat.le_succ_of_le (ho d hd)
  by_cases c : p_isN a1 ∧ p_isN a2
  · obtain ⟨⟨a, ha, rfl⟩, ⟨b, hb, rfl⟩⟩ := c
    exact p_mkLI hI ho' (p_fin1 h (c_trace h.1 ha hb (p_chR hI hb)) (fun Mx hx => r_trace1 hx ha hb (p_chR hI hb)))
  · refine p_mkLI hI ho' (p_fin0 h ?_ (fun Mx hx => r_trace0 hx c))
    unfold fX2_trace
    by_cases c1 : p_isN a1
    · have c2 : ¬ p_isN a2 := fun q => c ⟨c1, q⟩
      obtain ⟨a, ha, rfl⟩ := c1
      rw [c_node1 ha, bnxE, c_node0 c2, bnxX]
    · rw [c_node0 c1, bnxX]
theorem op_cost (hn : n < 512) (h : p_two A M) (hI : p_I o A) (ho : ∀ d, d < 12 → o d ≤ n) (a1 a2 : Int32) : ∃ M3, lwLS (hL1 (fX2_cost a1 a2 M)) (fX3_cost a1 a2) (fun b => b.toInt64) M3 ∧ p_LI (n + 1) M3 := by
  have ho' : ∀ d, d < 12 → o d ≤ n + 1 := fun d hd => Nat.le_succ_of_le (ho d hd)
  by_cases c : p_pr a1 a2
  · obtain ⟨⟨a, ha, rfl⟩, ⟨b, hb, rfl⟩, hne⟩ := c
    have hab : a ≠ b := fun e => hne (by rw [e])
    exact p_mkLI hI ho' (p_fin1 h (c_cost h.1 ha hb hab) (fun Mx hx => r_cost1 hx ha hb hab))
  · refine p_mkLI hI ho' (p_fin0 h ?_ (fun Mx hx => r_cost0 hx c))
    unfold fX2_cost
    rw [c_pair0 c, bnxX]
theorem op_total (hn : n < 512) (h : p_two A M) (hI : p_I o A) (ho : ∀ d, d < 12 → o d ≤ n) (a1 : Int32) : ∃ M3, lwLS (hL1 (fX2_total a1 M)) (fX3_total a1) (fun b => b.toInt64) M3 ∧ p_LI (n + 1) M3 := by
  have ho' : ∀ d, d < 12 → o d ≤ n + 1 := fun d hd => Nat.le_succ_of_le (ho d hd)
  by_cases c : ¬ a1 < 0 ∧ a1 ≤ 4
  · obtain ⟨w, hw, rfl⟩ := p_int (g := 4) (by decide) c.1 c.2
    exact p_mkLI hI ho' (p_fin1 h (c_total h.1 (by omega)) (fun Mx hx => r_total1 hx (by omega)))
  · refine p_mkLI hI ho' (p_fin0 h ?_ (fun Mx hx => r_total0 hx c))
    unfold fX2_total
    rw [c_upto0 c, bnxX]
end OPS
theorem p_step (n : Nat) (M : xwM) (hn : n < 512) (h : p_LI n M) (op : Nat) (a1 a2 a3 a4 : Int32) (hop : op < 15) : ∃ M3 : xwM, lwStep op a1 a2 a3 a4 M M3 ∧ p_LI (n + 1) M3 := by
  obtain ⟨A, o, h2, hI, ho⟩ := h
  match op, hop with
  | 0, _ => exact op_link hn h2 hI ho a1 a2 a3
  | 1, _ => exact op_ann hn h2 hI ho a1
  | 2, _ => exact op_renew hn h2 hI ho a1
  | 3, _ => exact op_ask hn h2 hI ho a1 a2
  | 4, _ => exact op_reboot hn h2 hI ho a1
  | 5, _ => exact op_deliver hn h2 hI ho a1
  | 6, _ => exact op_run hn h2 hI ho a1
  | 7, _ => exact op_drop hn h2 hI ho a1
  | 8, _ => exact op_copy hn h2 hI ho a1
  | 9, _ => exact op_letter hn h2 hI ho a1 a2
  | 10, _ => exact op_way hn h2 hI ho a1 a2 a3
  | 11, _ => exact op_told hn h2 hI ho a1 a2 a3 a4
  | 12, _ => exact op_trace hn h2 hI ho a1 a2
  | 13, _ => exact op_cost hn h2 hI ho a1 a2
  | 14, _ => exact op_total hn h2 hI ho a1
