/-! the reference's numbers behind a plugging -/
def plN (q : Nat) : Bool := !(q == 12 || q == 24 || q == 26 || q == 27 || q == 28 || q == 29 || q == 31 || q == 32 || q == 33 || q == 34 || q == 45)
theorem bkd_st (M : Mo) (s : Nat) (h : Int) : (∀ j, j ≠ 0 → (bkdM M s h).1 j = M.1 j) ∧ ∀ q, (q < 26 ∨ 29 < q) → (bkdM M s h).2 q = M.2 q := by
  unfold bkdM
  split
  · exact ⟨fun j hj => if_neg hj, fun q _ => rfl⟩
  · refine ⟨fun j hj => if_neg hj, fun q hq => ?_⟩
    exact (if_neg (by omega)).trans ((if_neg (by omega)).trans ((if_neg (by omega)).trans (if_neg (by omega))))
theorem newM_st (M : Mo) (n s c k : Nat) (h : Int) : (∀ j, j ≠ 0 → j ≠ 30 → (newM M (bkdM M s h) n s c k).1 j = M.1 j) ∧ (newM M (bkdM M s h) n s c k).1 30 = M.1 30 + 1 ∧ (∀ q, plN q = true → (newM M (bkdM M s h) n s c k).2 q = M.2 q) ∧ (∀ i, (newM M (bkdM M s h) n s c k).2 12 i = if i = s then M.1 30 else M.2 12 i) ∧ (∀ i, (newM M (bkdM M s h) n s c k).2 31 i = if i = n then (s : Int) else M.2 31 i) ∧ (∀ i, (newM M (bkdM M s h) n s c k).2 32 i = if i = n then (c : Int) else M.2 32 i) ∧ (∀ i, (newM M (bkdM M s h) n s c k).2 33 i = if i = n then (k : Int) else M.2 33 i) ∧ (∀ i, (newM M (bkdM M s h) n s c k).2 34 i = if i = n then 1 else M.2 34 i) ∧ (∀ i, (newM M (bkdM M s h) n s c k).2 45 i = if i = n then 1400 else M.2 45 i) ∧ (∀ u, bkL (newM M (bkdM M s h) n s c k) u = bkL (bkdM M s h) u) := by
  obtain ⟨b1, b2⟩ := bkd_st M s h
  obtain ⟨t1, t2⟩ := cpT_st M s n (sesM (bkdM M s h) n s c k) 4
  have b12 := b2 12 (by omega)
  have b31 := b2 31 (by omega)
  have b32 := b2 32 (by omega)
  have b33 := b2 33 (by omega)
  have b34 := b2 34 (by omega)
  have b45 := b2 45 (by omega)
  have fr : ∀ q, q ≠ 12 → q ≠ 24 → (newM M (bkdM M s h) n s c k).2 q = (sesM (bkdM M s h) n s c k).2 q := fun q h1 h2 => by
    rw [← t2 q h2]
    funext i
    exact if_neg (fun e => h1 e)
  refine ⟨fun j h0 h30 => ?_, ?_, fun q hq => ?_, fun i => ?_, fun i => ?_, fun i => ?_, fun i => ?_, fun i => ?_, fun i => ?_, fun u => ?_⟩
  · refine (if_neg h30).trans ?_
    show (cpT M s n 4 (sesM (bkdM M s h) n s c k)).1 j = _
    rw [t1]
    exact b1 j h0
  · rfl
  · have hp : q ≠ 12 ∧ q ≠ 24 ∧ q ≠ 26 ∧ q ≠ 27 ∧ q ≠ 28 ∧ q ≠ 29 ∧ q ≠ 31 ∧ q ≠ 32 ∧ q ≠ 33 ∧ q ≠ 34 ∧ q ≠ 45 := by
      unfold plN at hq
      simp at hq
      omega
    rw [fr q hp.1 hp.2.1, ← b2 q (by omega)]
    funext i
    exact (if_neg (by omega)).trans ((if_neg (by omega)).trans ((if_neg (by omega)).trans ((if_neg (by omega)).trans (if_neg (by omega)))))
  · rw [← b12]
    show (if i = s then M.1 30 else (cpT M s n 4 (sesM (bkdM M s h) n s c k)).2 12 i) = _
    rw [t2 12 (by decide)]
    rfl
  · rw [fr 31 (by decide) (by decide), ← b31]
    rfl
  · rw [fr 32 (by decide) (by decide), ← b32]
    rfl
  · rw [fr 33 (by decide) (by decide), ← b33]
    rfl
  · rw [fr 34 (by decide) (by decide), ← b34]
    rfl
  · rw [fr 45 (by decide) (by decide), ← b45]
    rfl
  · unfold bkL
    rw [fr 26 (by decide) (by decide), fr 27 (by decide) (by decide), fr 28 (by decide) (by decide), fr 29 (by decide) (by decide)]
    rfl
/-- the tariff's copy -/
theorem newM_24 (M : Mo) (n s c k : Nat) (h : Int) : (∀ i, i < 4 * n → (newM M (bkdM M s h) n s c k).2 24 i = M.2 24 i) ∧ ∀ j, j < 4 → (newM M (bkdM M s h) n s c k).2 24 (4 * n + j) = M.2 23 (4 * (M.2 7 s).toNat + j) := by
  have b24 := (bkd_st M s h).2 24 (by omega)
  have key : ∀ m, (∀ i, i < 4 * n → (cpT M s n m (sesM (bkdM M s h) n s c k)).2 24 i = M.2 24 i) ∧ ∀ j, j < m → (cpT M s n m (sesM (bkdM M s h) n s c k)).2 24 (4 * n + j) = M.2 23 (4 * (M.2 7 s).toNat + j) := by
    intro m
    induction m with
    | zero => exact ⟨fun i _ => congrFun b24 i, fun j hj => absurd hj (Nat.not_lt_zero j)⟩
    | succ m ih =>
      refine ⟨fun i hi => ?_, fun j hj => ?_⟩
      · exact (if_neg (show ¬ i = 4 * n + m by omega)).trans (ih.1 i hi)
      · by_cases e : j = m
        · subst e
          exact if_pos rfl
        · exact (if_neg (show ¬ 4 * n + j = 4 * n + m by omega)).trans (ih.2 j (by omega))
  exact key 4
