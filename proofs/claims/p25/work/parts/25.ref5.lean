/-! the reference: giving by levels -/
/-- who takes: it is served, it has its 1400 -/
def okTb (M : Mo) (n : Nat) (B P : Nat → Int) (tb : Nat → Bool) : Prop := (∀ k, tb k = true → k < n ∧ svd M k ∧ P k = 1400 ∧ 1400 ≤ B k) ∧ ∀ k, k < n → svd M k → 1400 ≤ P k → tb k = true
theorem open_lv {M : Mo} {n : Nat} {B P : Nat → Int} {tb : Nat → Bool} {h : Int} {k : Nat} (ht : okTb M n B P tb) (hh : 1400 ≤ h) (hk : k < n) : (svd M k ∧ 1400 ≤ lvF tb B P h k ∧ lvF tb B P h k < B k) ↔ (tb k = true ∧ h < B k) := by
  unfold lvF
  by_cases hb : tb k = true
  · obtain ⟨-, h2, -, h4⟩ := ht.1 k hb
    rw [if_pos hb]
    constructor
    · rintro ⟨-, h5, h6⟩
      refine ⟨hb, ?_⟩
      split at h6 <;> omega
    · rintro ⟨-, h5⟩
      rw [if_neg (by omega)]
      exact ⟨h2, hh, h5⟩
  · rw [if_neg hb]
    constructor
    · rintro ⟨h5, h6, -⟩
      exact absurd (ht.2 k hk h5 h6) hb
    · exact fun z => absurd z.1 hb
theorem lv_open {tb : Nat → Bool} {B P : Nat → Int} {h : Int} {k : Nat} (ho : tb k = true ∧ h < B k) : lvF tb B P h k = h := by
  unfold lvF
  rw [if_pos ho.1, if_neg (by omega)]
theorem lv_shut {tb : Nat → Bool} {B P : Nat → Int} {h g : Int} {k : Nat} (ho : ¬ (tb k = true ∧ h < B k)) (hg : h ≤ g) : lvF tb B P g k = lvF tb B P h k := by
  unfold lvF
  by_cases hb : tb k = true
  · rw [if_pos hb, if_pos hb]
    have : B k ≤ h := Int.not_lt.mp fun z => ho ⟨hb, z⟩
    split <;> split <;> omega
  · rw [if_neg hb, if_neg hb]
theorem lv_in {M : Mo} {n : Nat} {B P : Nat → Int} {tb : Nat → Bool} {h : Int} {k : Nat} (ht : okTb M n B P tb) (hh : 1400 ≤ h ∧ h ≤ 50000) (hB : 0 ≤ B k ∧ B k ≤ 50000) (hP : 0 ≤ P k ∧ P k ≤ 50000) : 0 ≤ lvF tb B P h k ∧ lvF tb B P h k ≤ 50000 := by
  unfold lvF
  split
  · split <;> omega
  · exact hP
/-- the least of those that are open, among those below k -/
def lsI (tb : Nat → Bool) (B : Nat → Int) (h : Int) (k : Nat) (z : Int) : Prop := (z = -1 ∧ ∀ j, j < k → ¬ (tb j = true ∧ h < B j)) ∨ (z = h ∧ ∃ j, j < k ∧ tb j = true ∧ h < B j)
theorem lsI_up {tb : Nat → Bool} {B : Nat → Int} {h : Int} {k : Nat} {z w : Int} (hi : lsI tb B h k z) (hh : 1400 ≤ h) (hw : ((tb k = true ∧ h < B k) ∧ (z = -1 ∨ h < z) ∧ w = h) ∨ (¬ ((tb k = true ∧ h < B k) ∧ (z = -1 ∨ h < z)) ∧ w = z)) : lsI tb B h (k + 1) w := by
  rcases hw with ⟨h1, h2, rfl⟩ | ⟨h1, rfl⟩
  · exact Or.inr ⟨rfl, k, Nat.lt_succ_self k, h1⟩
  · rcases hi with ⟨h2, h3⟩ | ⟨h2, j, h3, h4⟩
    · refine Or.inl ⟨h2, fun j hj => ?_⟩
      rcases Nat.lt_succ_iff_lt_or_eq.mp hj with z | rfl
      · exact h3 j z
      · exact fun z => h1 ⟨z, Or.inl h2⟩
    · exact Or.inr ⟨h2, j, Nat.lt_succ_of_lt h3, h4⟩
/-- the next bound -/
def nxI (tb : Nat → Bool) (B : Nat → Int) (h : Int) (k : Nat) (z : Int) : Prop := h < z ∧ z ≤ 1000000 ∧ (∀ j, j < k → tb j = true → h < B j → z ≤ B j) ∧ ((∃ j, j < k ∧ tb j = true ∧ h < B j) → z ≤ 50000)
theorem nxI_1 {tb : Nat → Bool} {B : Nat → Int} {h : Int} {k : Nat} {z w : Int} (hi : nxI tb B h k z) (ho : h < B k) (hB : B k ≤ 50000) (hw : w = (if B k < z then B k else z)) : nxI tb B h (k + 1) w := by
  obtain ⟨h1, h2, h3, h4⟩ := hi
  subst hw
  refine ⟨by split <;> omega, by split <;> omega, fun j hj ht hb => ?_, fun _ => by split <;> omega⟩
  rcases Nat.lt_succ_iff_lt_or_eq.mp hj with z | rfl
  · have := h3 j z ht hb
    split <;> omega
  · split <;> omega
theorem nxI_0 {tb : Nat → Bool} {B : Nat → Int} {h : Int} {k : Nat} {z : Int} (hi : nxI tb B h k z) (ho : ¬ (tb k = true ∧ h < B k)) : nxI tb B h (k + 1) z := by
  obtain ⟨h1, h2, h3, h4⟩ := hi
  refine ⟨h1, h2, fun j hj ht hb => ?_, fun ⟨j, hj, ht⟩ => ?_⟩
  · rcases Nat.lt_succ_iff_lt_or_eq.mp hj with z | rfl
    · exact h3 j z ht hb
    · exact absurd ⟨ht, hb⟩ ho
  · rcases Nat.lt_succ_iff_lt_or_eq.mp hj with z | rfl
    · exact h4 ⟨j, z, ht⟩
    · exact absurd ht ho
/-- powers of which those below k have got theirs: by each, or one while there are -/
def gvF (tb : Nat → Bool) (B P : Nat → Int) (h w q : Int) (k j : Nat) : Int := if j < k then (if 0 < w then lvF tb B P (h + w) j else fnF tb B P h q j) else lvF tb B P h j
theorem gv_1 {tb : Nat → Bool} {B P : Nat → Int} {h w q : Int} {k : Nat} (ho : tb k = true ∧ h < B k) (hw : 0 ≤ w) (hn : h + w ≤ B k) : (fun i => if i = k then h + (if 0 < w then w else if 0 < q - cntF tb B h k then 1 else 0) else gvF tb B P h w q k i) = gvF tb B P h w q (k + 1) := by
  funext i
  unfold gvF
  by_cases e : i = k
  · subst e
    rw [if_pos rfl, if_pos (Nat.lt_succ_self i)]
    by_cases h0 : 0 < w
    · rw [if_pos h0, if_pos h0]
      unfold lvF
      rw [if_pos ho.1]
      split <;> omega
    · rw [if_neg h0, if_neg h0]
      unfold fnF
      by_cases h1 : cntF tb B h i < q
      · rw [if_pos (show 0 < q - cntF tb B h i by omega), if_pos ⟨ho.1, ho.2, h1⟩]
      · rw [if_neg (show ¬ 0 < q - cntF tb B h i by omega), if_neg (fun z => h1 z.2.2), lv_open ho]
        omega
  · rw [if_neg e]
    have e2 : i < k + 1 ↔ i < k := by omega
    simp only [e2]
theorem gv_0 {tb : Nat → Bool} {B P : Nat → Int} {h w q : Int} {k : Nat} (ho : ¬ (tb k = true ∧ h < B k)) (hw : 0 ≤ w) : gvF tb B P h w q k = gvF tb B P h w q (k + 1) := by
  funext i
  unfold gvF
  by_cases e : i = k
  · subst e
    rw [if_neg (Nat.lt_irrefl i), if_pos (Nat.lt_succ_self i)]
    split
    · exact (lv_shut ho (by omega)).symm
    · unfold fnF
      rw [if_neg (fun z => ho ⟨z.1, z.2.1⟩)]
  · have e2 : i < k + 1 ↔ i < k := by omega
    simp only [e2]
theorem gv_all {tb : Nat → Bool} {B P : Nat → Int} {h w q : Int} {n : Nat} (ht : ∀ k, tb k = true → k < n) : gvF tb B P h w q n = if 0 < w then lvF tb B P (h + w) else fnF tb B P h q := by
  funext i
  unfold gvF
  by_cases e : i < n
  · rw [if_pos e]
    split <;> rfl
  · have h1 : ¬ tb i = true := fun z => e (ht i z)
    rw [if_neg e]
    split
    · unfold lvF
      rw [if_neg h1, if_neg h1]
    · unfold fnF
      rw [if_neg (fun z => h1 z.1)]
section REF5
variable {l : Launch} {D : va_G} {kA : Nat → ClassId} {b t0 mo : Nat} {ad : Nat → Nat} {M : Mo}

end REF5
