/-! plugging and bookings, by numbers -/
theorem filter_one {α : Type} (p : α → Bool) : ∀ (xs : List α) (h : Nat), h < xs.length → (∀ i x, xs[i]? = some x → (p x = true ↔ i = h)) → xs.filter (fun x => !p x) = xs.eraseIdx h := by
  intro xs
  induction xs with
  | nil => exact fun h hh _ => absurd hh (Nat.not_lt_zero h)
  | cons a xs ih =>
    intro h hh H
    cases h with
    | zero =>
      have ha : p a = true := (H 0 a rfl).mpr rfl
      have hr : xs.filter (fun x => !p x) = xs := List.filter_eq_self.mpr (fun x hx => by
        obtain ⟨i, hi⟩ := List.mem_iff_getElem?.mp hx
        have h2 := H (i + 1) x (by rw [List.getElem?_cons_succ]; exact hi)
        cases e : p x with
        | false => rfl
        | true => exact absurd (h2.mp e) (by omega))
      rw [List.filter_cons, ha, hr]
      rfl
    | succ h =>
      have ha : p a = false := by
        cases e : p a with
        | false => rfl
        | true => exact absurd ((H 0 a rfl).mp e) (by omega)
      have hr := ih h (by have h3 : h + 1 < xs.length + 1 := hh; omega) (fun i x hx => by
        have h2 := H (i + 1) x (by rw [List.getElem?_cons_succ]; exact hx)
        exact ⟨fun e => by have := h2.mp e; omega, fun e => h2.mpr (by omega)⟩)
      rw [List.filter_cons, ha, hr]
      rfl
theorem hld_ex (M : Mo) (s : Nat) : ∃ h, hldM M s h := by
  have key : ∀ n : Nat, (∀ i : Nat, i < n → (i : Int) < M.2 26 s → M.1 1 < M.2 28 (1500 * s + i)) ∨ ∃ r : Nat, r < n ∧ (r : Int) < M.2 26 s ∧ M.2 28 (1500 * s + r) ≤ M.1 1 ∧ ∀ i : Nat, i < r → M.1 1 < M.2 28 (1500 * s + i) := by
    intro n
    induction n with
    | zero => exact Or.inl (fun i hi => absurd hi (Nat.not_lt_zero i))
    | succ n ih =>
      rcases ih with h1 | ⟨r, r1, r2, r3, r4⟩
      · by_cases e : (n : Int) < M.2 26 s ∧ M.2 28 (1500 * s + n) ≤ M.1 1
        · exact Or.inr ⟨n, by omega, e.1, e.2, fun i hi => h1 i hi (by omega)⟩
        · refine Or.inl (fun i hi h2 => ?_)
          by_cases e2 : i = n
          · subst e2
            omega
          · exact h1 i (by omega) h2
      · exact Or.inr ⟨r, by omega, r2, r3, r4⟩
  rcases key (M.2 26 s).toNat with h1 | ⟨r, r1, r2, r3, r4⟩
  · exact ⟨-1, Or.inl ⟨rfl, fun i hi => h1 i (by omega) hi⟩⟩
  · exact ⟨(r : Int), Or.inr ⟨by omega, r2, r3, fun i hi => r4 i (by omega)⟩⟩
/-- at most one booking holds now -/
theorem hld_uni {M : Mo} {jj s : Nat} {h : Int} (hB : ivB M jj) (hs : (s : Int) < M.1 6) (hh : hldM M s h) {i : Nat} (hi : (i : Int) < M.2 26 s) : (M.2 28 (1500 * s + i) ≤ M.1 1 ∧ M.1 1 < M.2 28 (1500 * s + i) + 15) ↔ (i : Int) = h := by
  obtain ⟨-, -, b3, b4⟩ := hB
  constructor
  · rintro ⟨h1, h2⟩
    rcases hh with ⟨-, h3⟩ | ⟨h3, h4, h5, h6⟩
    · have := h3 i hi
      omega
    · refine Classical.byContradiction fun e => ?_
      have c1 := b3 s i hs hi
      have c2 := b3 s h.toNat hs (by omega)
      have c3 := b4 s i h.toNat hs hi (by omega) (by omega)
      omega
  · intro e
    rcases hh with ⟨h3, -⟩ | ⟨h3, h4, h5, h6⟩
    · omega
    · have e2 : h.toNat = i := by omega
      rw [e2] at h5
      exact ⟨h5, (b3 s i hs hi).1⟩
theorem hld_other {M : Mo} {jj s : Nat} {h k : Int} (hB : ivB M jj) (hs : (s : Int) < M.1 6) (hh : hldM M s h) : (∃ i : Nat, (i : Int) < M.2 26 s ∧ M.2 27 (1500 * s + i) ≠ k ∧ M.2 28 (1500 * s + i) ≤ M.1 1 ∧ M.1 1 < M.2 28 (1500 * s + i) + 15) ↔ (h ≠ -1 ∧ M.2 27 (1500 * s + h.toNat) ≠ k) := by
  constructor
  · rintro ⟨i, h1, h2, h3⟩
    have e := (hld_uni hB hs hh h1).mp h3
    have e2 : h.toNat = i := by omega
    rw [e2]
    exact ⟨by omega, h2⟩
  · rintro ⟨h1, h2⟩
    have hc : 0 ≤ h ∧ h < M.2 26 s := by
      rcases hh with ⟨h3, -⟩ | ⟨h3, h4, -⟩
      · omega
      · exact ⟨h3, h4⟩
    exact ⟨h.toNat, by omega, h2, (hld_uni hB hs hh (by omega)).mpr (by omega)⟩
theorem bkd_far {M : Mo} {s u : Nat} {h : Int} (hus : u ≠ s) (hu : M.2 26 u ≤ 1500) (hs : M.2 26 s ≤ 1500) : bkL (bkdM M s h) u = bkL M u := by
  unfold bkdM
  split
  · rfl
  · exact go_that (c := M.2 26) (a := M.2 27) (f := M.2 28) (t := M.2 29) (p := h.toNat) hus hu hs
theorem bkd_at {M : Mo} {jj s : Nat} {h k : Int} (hB : ivB M jj) (hs : (s : Int) < M.1 6) (hh : hldM M s h) (hk : ¬ (h ≠ -1 ∧ M.2 27 (1500 * s + h.toNat) ≠ k)) : (bkL M s).filter (fun y => !decide (y.1 = k ∧ y.2.1 ≤ M.1 1 ∧ M.1 1 < y.2.1 + 15)) = bkL (bkdM M s h) s := by
  have hget : ∀ (i : Nat) (y : Int × Int × Int), (bkL M s)[i]? = some y → (i : Int) < M.2 26 s ∧ y = (M.2 27 (1500 * s + i), M.2 28 (1500 * s + i), M.2 29 (1500 * s + i)) := by
    intro i y hy
    have hl := (List.getElem?_eq_some_iff.mp hy).1
    unfold bkL at hy hl
    rw [blF_len] at hl
    have h1 : (i : Int) < M.2 26 s := by omega
    rw [blF_get h1] at hy
    cases hy
    exact ⟨h1, rfl⟩
  by_cases e : h = -1
  · have e2 : bkL (bkdM M s h) s = bkL M s := by
      unfold bkdM
      rw [if_pos e]
      rfl
    rw [e2]
    refine List.filter_eq_self.mpr (fun y hy => ?_)
    obtain ⟨i, hi⟩ := List.mem_iff_getElem?.mp hy
    obtain ⟨h1, rfl⟩ := hget i y hi
    have h2 : ¬ (M.2 27 (1500 * s + i) = k ∧ M.2 28 (1500 * s + i) ≤ M.1 1 ∧ M.1 1 < M.2 28 (1500 * s + i) + 15) := fun y => by
      have := (hld_uni hB hs hh h1).mp y.2
      omega
    show (!decide (M.2 27 (1500 * s + i) = k ∧ M.2 28 (1500 * s + i) ≤ M.1 1 ∧ M.1 1 < M.2 28 (1500 * s + i) + 15)) = true
    rw [decide_eq_false h2]
    rfl
  · have hc : 0 ≤ h ∧ h < M.2 26 s := by
      rcases hh with ⟨h3, -⟩ | ⟨h3, h4, -⟩
      · omega
      · exact ⟨h3, h4⟩
    have hk2 : M.2 27 (1500 * s + h.toNat) = k := Classical.byContradiction fun y => hk ⟨e, y⟩
    have e2 : bkL (bkdM M s h) s = (bkL M s).eraseIdx h.toNat := by
      unfold bkdM
      rw [if_neg e]
      exact go_this (c := M.2 26) (a := M.2 27) (f := M.2 28) (t := M.2 29) (p := h.toNat) (by omega)
    rw [e2]
    refine filter_one (fun y : Int × Int × Int => decide (y.1 = k ∧ y.2.1 ≤ M.1 1 ∧ M.1 1 < y.2.1 + 15)) (bkL M s) h.toNat (by unfold bkL; rw [blF_len]; omega) (fun i y hy => ?_)
    obtain ⟨h1, rfl⟩ := hget i y hy
    refine ⟨fun y => ?_, fun y => ?_⟩
    · have h9 : M.2 27 (1500 * s + i) = k ∧ M.2 28 (1500 * s + i) ≤ M.1 1 ∧ M.1 1 < M.2 28 (1500 * s + i) + 15 := of_decide_eq_true y
      have := (hld_uni hB hs hh h1).mp h9.2
      omega
    · subst y
      exact decide_eq_true ⟨hk2, (hld_uni hB hs hh h1).mpr (by omega)⟩
