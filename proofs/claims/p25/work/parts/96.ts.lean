/-! the law's state, turn by turn -/
def TS (t0 : Nat) (ad : Nat → Nat) (y : Nat) (X : Mm) (Mr M : Mo) (n : Nat) (now ed nb : Int) : Prop := SX t0 ad y X Mr M ∧ JI M (Mr.2 0) n ∧ n ≤ 36 ∧ (∀ j : Nat, j < n → Mr.2 1 j = M.2 32 j ∧ Mr.2 2 j = M.2 31 j) ∧ (∀ i : Nat, i < 3 → Mr.2 3 i = M.2 12 i ∧ Mr.2 4 i = M.2 10 i) ∧ (M.1 1 = now ∧ now ≤ nb) ∧ (ed = 0 ∨ ed = 1) ∧ (ed = 0 → (∀ i : Nat, i < 3 → M.2 10 i = 0) ∧ M.1 2 = 0)
theorem SX.a0 {t0 y : Nat} {ad : Nat → Nat} {X : Mm} {Mr M : Mo} (h : SX t0 ad y X Mr M) : gK X (ad 0) = 20 ∧ gN X (ad 0) = 4 ∧ ∀ i, gA X (ad 0) i = Mr.2 0 i := h.ar 0 (by decide)
theorem SX.a1 {t0 y : Nat} {ad : Nat → Nat} {X : Mm} {Mr M : Mo} (h : SX t0 ad y X Mr M) : gK X (ad 1) = 20 ∧ gN X (ad 1) = 40 ∧ ∀ i, gA X (ad 1) i = Mr.2 1 i := h.ar 1 (by decide)
theorem SX.a2 {t0 y : Nat} {ad : Nat → Nat} {X : Mm} {Mr M : Mo} (h : SX t0 ad y X Mr M) : gK X (ad 2) = 20 ∧ gN X (ad 2) = 40 ∧ ∀ i, gA X (ad 2) i = Mr.2 2 i := h.ar 2 (by decide)
theorem SX.a3 {t0 y : Nat} {ad : Nat → Nat} {X : Mm} {Mr M : Mo} (h : SX t0 ad y X Mr M) : gK X (ad 3) = 20 ∧ gN X (ad 3) = 3 ∧ ∀ i, gA X (ad 3) i = Mr.2 3 i := h.ar 3 (by decide)
theorem SX.a4 {t0 y : Nat} {ad : Nat → Nat} {X : Mm} {Mr M : Mo} (h : SX t0 ad y X Mr M) : gK X (ad 4) = 20 ∧ gN X (ad 4) = 3 ∧ ∀ i, gA X (ad 4) i = Mr.2 4 i := h.ar 4 (by decide)
theorem ts_so {M : Mo} {jj n i : Nat} {had : Nat → Int} (hI : Iv M jj) (hJ : JI M had n) (hi : i < 3) : (M.2 10 i = 0 ∨ M.2 10 i = 1) ∧ (M.2 12 i = -1 ∨ ∃ k : Nat, k < n ∧ M.2 12 i = (k : Int) ∧ M.2 34 k = 1 ∧ M.2 31 k = (i : Int)) := by
  obtain ⟨c6, c13, c17, c30⟩ := hJ.1
  have o := hI.1.2.1 i (by omega)
  unfold okSo at o
  refine ⟨by omega, ?_⟩
  by_cases e : M.2 12 i = -1
  · exact Or.inl e
  · right
    have h9 := hI.2.1 i (by omega) e
    refine ⟨(M.2 12 i).toNat, by omega, by omega, h9.1, h9.2⟩
theorem ts_se {M : Mo} {jj n k : Nat} {had : Nat → Int} (hI : Iv M jj) (hJ : JI M had n) (hk : k < n) : (∃ i : Nat, i < 3 ∧ M.2 31 k = (i : Int) ∧ (M.2 34 k = 1 ↔ M.2 12 i = (k : Int)) ∧ (M.2 10 i = 0 → M.2 38 k = M.2 37 k) ∧ (M.2 10 i = 0 ∨ M.2 10 i = 1) ∧ -1 ≤ M.2 12 i ∧ M.2 12 i < 40) ∧ (0 ≤ M.2 32 k ∧ M.2 32 k < 4) ∧ (M.2 34 k = 1 ∨ M.2 34 k = 2 ∨ M.2 34 k = 3) ∧ (0 ≤ M.2 38 k ∧ M.2 38 k ≤ M.2 37 k ∧ M.2 37 k ≤ 20000) ∧ (M.2 34 k = 2 → M.2 38 k < M.2 37 k) ∧ (M.2 34 k = 3 → billM M k (M.2 42 k) (M.2 43 k) (M.2 44 k) = M.2 46 k ∧ billM M k (M.2 39 k) (M.2 40 k) (M.2 41 k) = M.2 46 k) ∧ (0 ≤ M.2 46 k ∧ M.2 46 k ≤ 21000000) ∧ (0 ≤ powM M n k ∧ powM M n k ≤ 50000 ∧ (M.2 34 k ≠ 1 → powM M n k = 0)) := by
  obtain ⟨⟨c6, c13, c17, c30⟩, -, -, hhr⟩ := hJ
  obtain ⟨s0, b0⟩ := hI.1.2.2.2.2.1 k (by omega)
  have o0 := hI.1.1
  unfold okSe at s0
  unfold okBi at b0
  unfold okSc at o0
  have iE := hI.2.2.2.2.1 k (by omega)
  have iR := hI.2.2.1 k (by omega)
  have iS := hI.2.1 (M.2 31 k).toNat (by omega)
  have o := hI.1.2.1 (M.2 31 k).toNat (by omega)
  unfold okSo at o
  have hh := hhr k hk
  have hp := powM_in hI.1 c30.symm hk
  have hb := bndM_in hI.1 (show (k : Int) < M.1 30 by omega)
  refine ⟨⟨(M.2 31 k).toNat, by omega, by omega, ⟨iR, fun e => ?_⟩, hh, by omega, by omega, by omega⟩, by omega, by omega, by omega, iE.2.2.2.2.2.2.2.1, fun e => ?_, by omega, by omega, by omega, hp.2.2⟩
  · have h9 := (iS (by omega)).1
    rw [e, Int.toNat_natCast] at h9
    exact h9
  · obtain ⟨e1, e2⟩ := iE.2.2.2.2.2.2.2.2 e
    obtain ⟨e3, e4, e5⟩ := iE.2.2.2.2.2.2.1 e1
    rw [e3, e4, e5]
    exact ⟨e2.symm, e2.symm⟩
theorem bud_pc {M : Mo} {jj n g : Nat} (hn : (n : Int) = M.1 30) : (phC M n - phC (pcN M n g) n) + budC (pcN M n g) = budC M ∧ (phS M n - phS (pcN M n g) n) + budS (pcN M n g) = budS M := by
  have hle := ph_le (M := M) (M2 := pcN M n g) (fun k => by
    have := pcN_mono M n 0 g k
    rw [Nat.zero_add] at this
    exact this) n
  obtain ⟨t1, -, -⟩ := pcN_t M n g
  have e30 := t1 30 (by decide) (by decide) (by decide)
  unfold budC budS
  rw [e30, ← hn, show ((n : Nat) : Int).toNat = n by omega]
  omega
theorem bill_bd {f : Nat → Int} {n : Nat} (h : ∀ k, k < n → 0 ≤ f k ∧ f k ≤ 21000000) : 0 ≤ sumF f n ∧ sumF f n ≤ 21000000 * n := by
  induction n with
  | zero => exact ⟨Int.le_refl _, Int.le_refl _⟩
  | succ n ih =>
    have h1 := ih (fun k hk => h k (Nat.lt_succ_of_lt hk))
    have h2 := h n (Nat.lt_succ_self n)
    show 0 ≤ sumF f n + f n ∧ sumF f n + f n ≤ 21000000 * ((n + 1 : Nat) : Int)
    omega
theorem sumF_4 (g : Nat → Int) : sumF g 4 = 0 + g 0 + g 1 + g 2 + g 3 := rfl
theorem sumF_3 (g : Nat → Int) : sumF g 3 = 0 + g 0 + g 1 + g 2 := rfl
/-- what the firms have together is what the cards owe -/
theorem acc_sum {M : Mo} (h17 : M.1 17 = 4) (h18 : ∀ k : Nat, k < 4 → 0 ≤ M.2 18 k ∧ M.2 18 k < 3) : acF M 0 + acF M 1 + acF M 2 = 0 + M.2 22 0 + M.2 22 1 + M.2 22 2 + M.2 22 3 := by
  have e17 : (M.1 17).toNat = 4 := by
    rw [h17]
    rfl
  have key : ∀ k : Nat, k < 4 → (if M.2 18 k = ((0 : Nat) : Int) then M.2 22 k else 0) + (if M.2 18 k = ((1 : Nat) : Int) then M.2 22 k else 0) + (if M.2 18 k = ((2 : Nat) : Int) then M.2 22 k else 0) = M.2 22 k := fun k hk => by
    have h9 := h18 k hk
    rcases (by omega : M.2 18 k = 0 ∨ M.2 18 k = 1 ∨ M.2 18 k = 2) with e | e | e <;> rw [e]
    · rw [if_pos (show (0 : Int) = ((0 : Nat) : Int) from rfl), if_neg (show ¬ (0 : Int) = ((1 : Nat) : Int) by decide), if_neg (show ¬ (0 : Int) = ((2 : Nat) : Int) by decide)]
      omega
    · rw [if_neg (show ¬ (1 : Int) = ((0 : Nat) : Int) by decide), if_pos (show (1 : Int) = ((1 : Nat) : Int) from rfl), if_neg (show ¬ (1 : Int) = ((2 : Nat) : Int) by decide)]
      omega
    · rw [if_neg (show ¬ (2 : Int) = ((0 : Nat) : Int) by decide), if_neg (show ¬ (2 : Int) = ((1 : Nat) : Int) by decide), if_pos (show (2 : Int) = ((2 : Nat) : Int) from rfl)]
      omega
  have k0 := key 0 (by decide)
  have k1 := key 1 (by decide)
  have k2 := key 2 (by decide)
  have k3 := key 3 (by decide)
  unfold acF
  rw [e17]
  simp only [sumF_4, sumF_3]
  omega
/-- what plugging may answer -/
theorem plu_cases {M M2 : Mo} {n i c k : Nat} {r : Int} (ha : (((i : Int) < M.1 6) ∧ ((c : Int) < M.1 13) ∧ ((k : Int) < M.1 17)) ∧ M.1 30 < 40) (h : pluP M n i c k M2 r) : (M2 = setS M 0 0 ∧ (r = -1 ∨ r = -3 ∨ r = -4 ∨ r = -5 ∨ (r = -2 ∧ M.2 12 i ≠ -1))) ∨ (M.2 12 i = -1 ∧ ¬ awyM M n c ∧ r = M.1 30 ∧ ∃ hb, M2 = newM M (bkdM M i hb) n i c k) := by
  rcases h with ⟨q, -⟩ | ⟨-, q⟩
  · exact absurd (show (0 ≤ (i : Int) ∧ (i : Int) < M.1 6) ∧ (0 ≤ (c : Int) ∧ (c : Int) < M.1 13) ∧ (0 ≤ (k : Int) ∧ (k : Int) < M.1 17) by omega) q
  · rw [Int.toNat_natCast, Int.toNat_natCast, Int.toNat_natCast] at q
    rcases q with ⟨q, -⟩ | ⟨-, e, -, rfl⟩ | ⟨-, e, -, q, rfl⟩ | ⟨-, e, -, -, -, rfl⟩ | ⟨-, -, h12, -, hb, -, q⟩
    · omega
    · exact Or.inl ⟨e, Or.inl rfl⟩
    · exact Or.inl ⟨e, Or.inr (Or.inr (Or.inr (Or.inr ⟨rfl, q⟩)))⟩
    · exact Or.inl ⟨e, Or.inr (Or.inl rfl)⟩
    · rcases q with ⟨e, -, -, rfl⟩ | ⟨e, -, -, rfl⟩ | ⟨-, hw, e, rfl⟩
      · exact Or.inl ⟨e, Or.inr (Or.inr (Or.inl rfl))⟩
      · exact Or.inl ⟨e, Or.inr (Or.inr (Or.inr (Or.inl rfl)))⟩
      · exact Or.inr ⟨h12, hw, by omega, hb, e⟩
