/-! the reference: a minute -/
def oneM (M0 : Mo) (P : Nat → Int) (day : Int) (M : Mo) (k : Nat) : Mo :=
  if M0.2 34 k = 1 then
    (if M0.2 10 (M0.2 31 k).toNat = 0 then heardM (setA (setA (setA (setA (setA (setA (setA M 41 k (M.2 41 k + if P k = 0 ∧ M.2 15 (M0.2 32 k).toNat = M0.2 14 (M0.2 32 k).toNat then 1 else 0)) 15 (M0.2 32 k).toNat (M.2 15 (M0.2 32 k).toNat + P k)) 35 k (M.2 35 k + P k)) 36 k (P k)) 39 k (M.2 39 k + if day = 1 then P k else 0)) 40 k (M.2 40 k + if day = 1 then 0 else P k)) 37 k (M.2 37 k + 1)) k
     else setA (setA (setA (setA (setA (setA (setA M 41 k (M.2 41 k + if P k = 0 ∧ M.2 15 (M0.2 32 k).toNat = M0.2 14 (M0.2 32 k).toNat then 1 else 0)) 15 (M0.2 32 k).toNat (M.2 15 (M0.2 32 k).toNat + P k)) 35 k (M.2 35 k + P k)) 36 k (P k)) 39 k (M.2 39 k + if day = 1 then P k else 0)) 40 k (M.2 40 k + if day = 1 then 0 else P k)) 37 k (M.2 37 k + 1))
  else M
def ptM (M0 : Mo) (P : Nat → Int) (day : Int) : Nat → Mo → Mo
  | 0, M => M
  | k + 1, M => oneM M0 P day (ptM M0 P day k M) k
def dayM (M : Mo) : Int := if 360 ≤ M.1 1 % 1440 ∧ M.1 1 % 1440 ≤ 1319 then 1 else 0
/-- the rows that a minute's walk leaves -/
def stR (j : Nat) : Bool := !(j == 41 || j == 15 || j == 35 || j == 36 || j == 39 || j == 40 || j == 37 || j == 38 || j == 42 || j == 43 || j == 44)
theorem oneM_st (M0 : Mo) (P : Nat → Int) (day : Int) (M : Mo) (k : Nat) : (oneM M0 P day M k).1 = M.1 ∧ ∀ j, stR j = true → (oneM M0 P day M k).2 j = M.2 j := by
  unfold oneM heardM
  constructor
  · split
    · split <;> rfl
    · rfl
  · intro j hj
    have h : ∀ i, stR i = false → j ≠ i := fun i hi e => by rw [e, hi] at hj; cases hj
    have h1 := h 41 rfl
    have h2 := h 15 rfl
    have h3 := h 35 rfl
    have h4 := h 36 rfl
    have h5 := h 39 rfl
    have h6 := h 40 rfl
    have h7 := h 37 rfl
    have h8 := h 38 rfl
    have h9 := h 42 rfl
    have h10 := h 43 rfl
    have h11 := h 44 rfl
    funext x
    split
    · split <;> simp [setA, h1, h2, h3, h4, h5, h6, h7, h8, h9, h10, h11]
    · rfl
theorem ptM_st (M0 : Mo) (P : Nat → Int) (day : Int) (M : Mo) (k : Nat) : (ptM M0 P day k M).1 = M.1 ∧ ∀ j, stR j = true → (ptM M0 P day k M).2 j = M.2 j := by
  induction k with
  | zero => exact ⟨rfl, fun _ _ => rfl⟩
  | succ k ih =>
    have h := oneM_st M0 P day (ptM M0 P day k M) k
    exact ⟨h.1.trans ih.1, fun j hj => (h.2 j hj).trans (ih.2 j hj)⟩
/-- charges while a minute's walk goes on -/
theorem ptM_ch (M0 : Mo) (P : Nat → Int) (day : Int) (M : Mo) (n : Nat) (hP : ∀ k, k < n → 0 ≤ P k ∧ P k ≤ 50000) (i : Nat) : ∀ k, k ≤ n → M.2 15 i ≤ (ptM M0 P day k M).2 15 i ∧ (ptM M0 P day k M).2 15 i ≤ M.2 15 i + 50000 * k := by
  intro k
  induction k with
  | zero => exact fun _ => ⟨Int.le_refl _, by show M.2 15 i ≤ M.2 15 i + 50000 * ((0 : Nat) : Int); omega⟩
  | succ k ih =>
    intro hk
    have h1 := ih (by omega)
    have h2 := hP k (by omega)
    have h3 : (ptM M0 P day (k + 1) M).2 15 i = (ptM M0 P day k M).2 15 i ∨ (ptM M0 P day (k + 1) M).2 15 i = (ptM M0 P day k M).2 15 i + P k := by
      show (oneM M0 P day (ptM M0 P day k M) k).2 15 i = _ ∨ (oneM M0 P day (ptM M0 P day k M) k).2 15 i = _
      unfold oneM heardM
      by_cases e : i = (M0.2 32 k).toNat
      · split
        · right
          split <;> simp [setA, e]
        · left
          rfl
      · left
        split
        · split <;> simp [setA, e]
        · rfl
    omega
theorem setA_setR (M : Mo) (j k : Nat) (f : Nat → Int) (v : Int) : setA (setR M j f) j k v = setR M j (fun i => if i = k then v else f i) := by
  unfold setA setR
  refine Prod.ext rfl ?_
  funext i x
  by_cases h : i = j
  · subst h; simp
  · simp [h]
def lisM (M : Mo) : Mo := if M.1 1 % 1440 = 0 then setR M 21 (pre (M.2 20) (M.2 21) (M.1 17).toNat) else M
/-- behind a minute's walk -/
def m1M (M : Mo) (n : Nat) : Mo := setS (bp M (BM M n) (powM M n)) 2 (M.1 2 + if M.1 3 + M.1 4 < sumF (powM M n) n then 1 else 0)
def pass1 (M : Mo) (n : Nat) (M2 : Mo) : Prop := ∃ c a f t, lateI (M.1 1 + 1) (M.2 26) (M.2 27) (M.2 28) (M.2 29) c a f t (M.1 6).toNat ∧ M2 = lisM (bkM (setS (ptM M (powM M n) (dayM M) n (m1M M n)) 1 (M.1 1 + 1)) c a f t)
def okBk (M : Mo) : Prop := (∀ u, u < 8 → 0 ≤ M.2 26 u ∧ M.2 26 u ≤ 512) ∧ ∀ u : Nat, (u : Int) < M.1 6 → ∀ q ∈ bkL M u, 0 ≤ q.2.1 ∧ q.2.1 ≤ 20000
section REF8
variable {l : Launch} {D : va_G} {kA : Nat → ClassId} {b t0 mo : Nat} {ad : Nat → Nat} {M : Mo}

end REF8
