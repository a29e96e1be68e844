/-! giving watts: T says who takes (tb), B are the bounds, h is the level -/
def cntF (tb : Nat → Bool) (B : Nat → Int) (h : Int) : Nat → Int
  | 0 => 0
  | n + 1 => cntF tb B h n + if tb n = true ∧ h < B n then 1 else 0
def lvF (tb : Nat → Bool) (B P : Nat → Int) (h : Int) (k : Nat) : Int := if tb k = true then (if B k < h then B k else h) else P k
def fnF (tb : Nat → Bool) (B P : Nat → Int) (h r : Int) (k : Nat) : Int := if tb k = true ∧ h < B k ∧ cntF tb B h k < r then h + 1 else lvF tb B P h k
def wfF (tb : Nat → Bool) (B : Nat → Int) (n : Nat) : Nat → Int → Int × Int
  | 0, left => (50000, left)
  | f + 1, left => if left < cntF tb B (50000 - (f + 1 : Nat)) n ∨ cntF tb B (50000 - (f + 1 : Nat)) n = 0 then (50000 - (f + 1 : Nat), left) else wfF tb B n f (left - cntF tb B (50000 - (f + 1 : Nat)) n)
/-- the powers behind all giving -/
def shF (tb : Nat → Bool) (B P : Nat → Int) (n : Nat) (left : Int) (k : Nat) : Int := fnF tb B P (wfF tb B n 48600 left).1 (wfF tb B n 48600 left).2 k
theorem cntF_in (tb : Nat → Bool) (B : Nat → Int) (h : Int) (n : Nat) : 0 ≤ cntF tb B h n ∧ cntF tb B h n ≤ n := by
  induction n with
  | zero => exact ⟨Int.le_refl _, Int.le_refl _⟩
  | succ n ih =>
    show 0 ≤ cntF tb B h n + (if tb n = true ∧ h < B n then 1 else 0) ∧ cntF tb B h n + (if tb n = true ∧ h < B n then 1 else 0) ≤ ((n + 1 : Nat) : Int)
    split <;> omega
theorem cntF_0 {tb : Nat → Bool} {B : Nat → Int} {h : Int} {n : Nat} : cntF tb B h n = 0 ↔ ∀ k, k < n → ¬ (tb k = true ∧ h < B k) := by
  induction n with
  | zero => exact ⟨fun _ k hk => absurd hk (Nat.not_lt_zero k), fun _ => rfl⟩
  | succ n ih =>
    have h1 := cntF_in tb B h n
    show cntF tb B h n + (if tb n = true ∧ h < B n then 1 else 0) = 0 ↔ _
    constructor
    · intro hz k hk
      split at hz
      · omega
      · rename_i hn
        rcases Nat.lt_succ_iff_lt_or_eq.mp hk with z | rfl
        · exact ih.mp (by omega) k z
        · exact hn
    · intro hk
      rw [if_neg (hk n (Nat.lt_succ_self n)), ih.mpr (fun k z => hk k (Nat.lt_succ_of_lt z))]
      rfl
theorem cntF_mono {tb : Nat → Bool} {B : Nat → Int} {h : Int} {k n : Nat} (hk : k ≤ n) : cntF tb B h k ≤ cntF tb B h n := by
  induction n with
  | zero => rw [Nat.le_zero.mp hk]; exact Int.le_refl _
  | succ n ih =>
    rcases Nat.lt_or_eq_of_le hk with z | rfl
    · have := ih (Nat.le_of_lt_succ z)
      show _ ≤ cntF tb B h n + (if tb n = true ∧ h < B n then 1 else 0)
      split <;> omega
    · exact Int.le_refl _
theorem cntF_eq {tb : Nat → Bool} {B : Nat → Int} {h g : Int} {n : Nat} (e : ∀ k, k < n → tb k = true → (h < B k ↔ g < B k)) : cntF tb B h n = cntF tb B g n := by
  induction n with
  | zero => rfl
  | succ n ih =>
    show cntF tb B h n + (if tb n = true ∧ h < B n then 1 else 0) = cntF tb B g n + (if tb n = true ∧ g < B n then 1 else 0)
    rw [ih (fun k z => e k (Nat.lt_succ_of_lt z))]
    have e1 : (tb n = true ∧ h < B n) ↔ (tb n = true ∧ g < B n) := ⟨fun z => ⟨z.1, (e n (Nat.lt_succ_self n) z.1).mp z.2⟩, fun z => ⟨z.1, (e n (Nat.lt_succ_self n) z.1).mpr z.2⟩⟩
    simp only [e1]
/-- giving d watts to each of c at once -/
theorem wfF_jump {tb : Nat → Bool} {B : Nat → Int} {n f : Nat} {c left : Int} (hc : 0 < c) : ∀ d : Nat, (∀ i : Nat, i < d → cntF tb B (50000 - ((f + d : Nat) : Int) + i) n = c) → d * c ≤ left → wfF tb B n (f + d) left = wfF tb B n f (left - d * c) := by
  intro d
  induction d generalizing left with
  | zero => intro _ _; simp
  | succ d ih =>
    intro h hl
    have h0 := h 0 (Nat.zero_lt_succ d)
    have e0 : (50000 : Int) - ((f + (d + 1) : Nat) : Int) + ((0 : Nat) : Int) = 50000 - ((f + d + 1 : Nat) : Int) := by omega
    rw [e0] at h0
    have hm : ((d + 1 : Nat) : Int) * c = d * c + c := by
      rw [Int.natCast_add, Int.add_mul]
      simp
    have hd0 : 0 ≤ (d : Int) * c := Int.mul_nonneg (by omega) (by omega)
    show (if left < cntF tb B (50000 - ((f + d + 1 : Nat) : Int)) n ∨ cntF tb B (50000 - ((f + d + 1 : Nat) : Int)) n = 0 then ((50000 : Int) - ((f + d + 1 : Nat) : Int), left) else wfF tb B n (f + d) (left - cntF tb B (50000 - ((f + d + 1 : Nat) : Int)) n)) = _
    rw [h0, if_neg (by omega), ih (fun i hi => by
      have h1 := h (i + 1) (by omega)
      have e : (50000 : Int) - ((f + d : Nat) : Int) + (i : Int) = 50000 - ((f + (d + 1) : Nat) : Int) + ((i + 1 : Nat) : Int) := by omega
      rw [e]
      exact h1) (by omega)]
    have e : left - c - (d : Int) * c = left - ((d + 1 : Nat) : Int) * c := by omega
    rw [e]
theorem wfF_end {tb : Nat → Bool} {B : Nat → Int} {n f : Nat} {left : Int} (h : f = 0 ∨ left < cntF tb B (50000 - (f : Int)) n ∨ cntF tb B (50000 - (f : Int)) n = 0) : wfF tb B n f left = (50000 - (f : Int), left) := by
  cases f with
  | zero => rfl
  | succ f =>
    show (if left < cntF tb B (50000 - ((f + 1 : Nat) : Int)) n ∨ cntF tb B (50000 - ((f + 1 : Nat) : Int)) n = 0 then ((50000 : Int) - ((f + 1 : Nat) : Int), left) else wfF tb B n f (left - cntF tb B (50000 - ((f + 1 : Nat) : Int)) n)) = _
    rw [if_pos (h.resolve_left (by omega))]
/-- nothing is left, or nobody takes: the level is what it is -/
theorem fnF_lv {tb : Nat → Bool} {B P : Nat → Int} {h r : Int} {n : Nat} (ht : ∀ k, tb k = true → k < n) (hr : r ≤ 0 ∨ cntF tb B h n = 0) : fnF tb B P h r = lvF tb B P h := by
  funext k
  unfold fnF
  rw [if_neg]
  rintro ⟨h1, h2, h3⟩
  rcases hr with z | z
  · have := (cntF_in tb B h k).1
    omega
  · exact cntF_0.mp z k (ht k h1) ⟨h1, h2⟩
