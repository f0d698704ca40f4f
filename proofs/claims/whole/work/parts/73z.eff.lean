/-! which tables an act of the spec touches -/
theorem p_snd_T (l : pL) (A : pA) {j n d : Nat} (hj : j ≠ 1) : (p_snd l A).1 j n d = A.1 j n d := by
  unfold p_snd
  by_cases c : A.2.length < 300
  · rw [if_pos c]
    dsimp only
    rw [p_st_at, if_neg (by omega)]
  · rw [if_neg c]
    dsimp only
    rw [p_st_at, if_neg (by omega), p_st_at, if_neg (by omega)]
theorem p_tell_T (n m d : Nat) (A : pA) {j n' d' : Nat} (hj : j ≠ 1 ∧ (j ≠ 4 ∧ j ≠ 5 ∨ n' ≠ n ∨ d' ≠ d)) : (p_tell n m d A).1 j n' d' = A.1 j n' d' := by
  unfold p_tell
  by_cases c : A.1 6 n d = -1
  · rw [if_pos c, p_snd_T _ _ hj.1]
  · rw [if_neg c, p_snd_T _ _ hj.1]
    by_cases c2 : d ≠ n ∧ p_gd A.1 n d (A.1 7 n d) (A.1 8 n d) = true
    · rw [if_pos c2]
      dsimp only
      rw [p_st_at, if_neg (by omega), p_st_at, if_neg (by omega)]
    · rw [if_neg c2]
theorem p_up_T (f : Nat → pA → pA) (j n' d' : Nat) (h : ∀ i A, i < 12 → (f i A).1 j n' d' = A.1 j n' d') (A : pA) : (p_up f 12 0 A).1 j n' d' = A.1 j n' d' :=
  p_up_inv (fun _ B => B.1 j n' d' = A.1 j n' d') f 12 (fun i B hi hB => by rw [h i B hi, hB]) 12 0 A rfl rfl
theorem p_tellAll_T (n d : Nat) (A : pA) {j n' d' : Nat} (hj : j ≠ 1 ∧ (j ≠ 4 ∧ j ≠ 5 ∨ n' ≠ n ∨ d' ≠ d)) : (p_tellAll n d A).1 j n' d' = A.1 j n' d' := by
  unfold p_tellAll
  refine p_up_T (fun m A => if A.1 3 n m = 0 then A else p_tell n m d A) j n' d' (fun i B _ => ?_) A
  by_cases c : B.1 3 n i = 0
  · rw [if_pos c]
  · rw [if_neg c]
    exact p_tell_T n i d B hj
theorem p_req_T (n : Nat) (ex : Int32) (d : Nat) (x s : Int32) (A : pA) {j n' d' : Nat} (hj : j ≠ 1) : (p_req n ex d x s A).1 j n' d' = A.1 j n' d' := by
  unfold p_req
  refine p_up_T (fun m A => if nI m = ex ∨ A.1 3 n m = 0 then A else p_snd (p_mk 2 (nI n) (nI m) (nI d) x s) A) j n' d' (fun i B _ => ?_) A
  by_cases c : nI i = ex ∨ B.1 3 n i = 0
  · rw [if_pos c]
  · rw [if_neg c]
    exact p_snd_T _ B hj
theorem p_ask_T (n d : Nat) (A : pA) {j n' d' : Nat} (hj : j ≠ 1) : (p_ask n d A).1 j n' d' = A.1 j n' d' := by
  unfold p_ask
  exact p_req_T n (-1) d _ 8 A hj
