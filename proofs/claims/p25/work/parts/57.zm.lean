/-! the class's numbers Z against the reference's numbers M -/
def rnM (M : Mo) (k : Nat) : Bool := decide (M.2 34 k = 1)
def capOf (m : Nat) : Nat := if m ≤ 128 then 128 else if m ≤ 256 then 256 else if m ≤ 512 then 512 else if m ≤ 1024 then 1024 else if m ≤ 2048 then 2048 else if m ≤ 4096 then 4096 else if m ≤ 8192 then 8192 else if m ≤ 16384 then 16384 else 20000
/-- what a row may still cost: places, arrays -/
def remS (c : Nat) : Nat := if c < 20000 then 60000 - 2 * c else 0
def remC (c : Nat) : Nat := if c < 157 then 8 else if c < 313 then 7 else if c < 625 then 6 else if c < 1250 then 5 else if c < 2500 then 4 else if c < 5000 then 3 else if c < 10000 then 2 else if c < 20000 then 1 else 0
def trfI (Z : Zs) (p : Nat) (t0 t1 t2 t3 : Int) : Prop := p < yC Z 9 ∧ yN Z 512 p = t0 ∧ yN Z 513 p = t1 ∧ yN Z 514 p = t2 ∧ yN Z 515 p = t3
/-- counts and lists -/
def zmC (Z : Zs) (M : Mo) : Prop := yC Z 11 = 1 ∧ yC Z 5 = 3 ∧ (yC Z 7 : Int) = M.1 6 ∧ (yC Z 3 : Int) = M.1 13 ∧ (yC Z 4 : Int) = M.1 17 ∧ (yC Z 6 : Int) = M.1 30 ∧ yC Z 10 = yC Z 6 ∧ yC Z 8 = yC Z 6 ∧ yC Z 20 = yC Z 6 ∧ yC Z 1 = 6 + yC Z 7
def zmL (Z : Zs) (M : Mo) : Prop := yL Z 0 = List.range 3 ∧ yL Z 1 = List.range (yC Z 7) ∧ yL Z 2 = List.range (yC Z 3) ∧ yL Z 3 = List.range (yC Z 4) ∧ yL Z 4 = List.range (yC Z 6) ∧ yL Z 5 = (List.range (yC Z 6)).filter (rnM M)
/-- the yard's own cells -/
def zmY (Z : Zs) (M : Mo) : Prop := (yT Z 640 0 = some 0 ∧ yT Z 641 0 = some 1 ∧ yT Z 642 0 = some 2 ∧ yT Z 643 0 = some 3 ∧ yT Z 644 0 = some 4 ∧ yT Z 645 0 = some 5) ∧ yN Z 647 0 = M.1 3 ∧ yN Z 648 0 = M.1 4 ∧ yN Z 649 0 = M.1 5
def zmT (Z : Zs) (M : Mo) : Prop := yN Z 646 0 = M.1 1 ∧ yN Z 650 0 = M.1 2
/-- a session has a value a minute -/
def zmW (Z : Zs) (M : Mo) : Prop := ∀ k : Nat, k < yC Z 6 → yN Z 576 k + M.2 37 k ≤ M.1 1 ∧ (M.2 34 k = 1 → yN Z 576 k + M.2 37 k = M.1 1)
def zmF (Z : Zs) (M : Mo) : Prop := ∀ i : Nat, i < 3 → yN Z 257 i = acF M i ∧ ∃ p, yT Z 256 i = some p ∧ trfI Z p (M.2 23 (4 * i)) (M.2 23 (4 * i + 1)) (M.2 23 (4 * i + 2)) (M.2 23 (4 * i + 3))
def zmS (Z : Zs) (M : Mo) : Prop := ∀ i : Nat, i < yC Z 7 → yN Z 384 i = (i : Int) ∧ yT Z 385 i = some (M.2 7 i).toNat ∧ yN Z 386 i = M.2 8 i ∧ yN Z 387 i = M.2 9 i ∧ yN Z 388 i = 1 - M.2 10 i ∧ yN Z 389 i = M.2 11 i ∧ yT Z 390 i = (if M.2 12 i = -1 then none else some (M.2 12 i).toNat) ∧ yT Z 391 i = some (6 + i)
def zmA (Z : Zs) (M : Mo) : Prop := ∀ i : Nat, i < yC Z 3 → yN Z 128 i = (i : Int) ∧ yN Z 129 i = M.2 14 i ∧ yN Z 130 i = M.2 16 i ∧ yN Z 131 i = M.2 15 i ∧ (yN Z 132 i = 0 ∨ yN Z 132 i = 1) ∧ (yN Z 132 i = 1 ↔ awyM M (yC Z 6) i)
def zmD (Z : Zs) (M : Mo) : Prop := ∀ i : Nat, i < yC Z 4 → yT Z 192 i = some (M.2 18 i).toNat ∧ yN Z 193 i = M.2 19 i ∧ yN Z 194 i = M.2 20 i ∧ yN Z 195 i = M.2 21 i ∧ yN Z 196 i = M.2 22 i
def zmE (Z : Zs) (M : Mo) : Prop := ∀ k : Nat, k < yC Z 6 → (yT Z 320 k = some (M.2 31 k).toNat ∧ yT Z 321 k = some (M.2 32 k).toNat ∧ yT Z 322 k = some (M.2 33 k).toNat ∧ yT Z 324 k = some k) ∧ (∃ p, yT Z 323 k = some p ∧ trfI Z p (M.2 24 (4 * k)) (M.2 24 (4 * k + 1)) (M.2 24 (4 * k + 2)) (M.2 24 (4 * k + 3))) ∧ yN Z 325 k = M.2 35 k ∧ yN Z 326 k = M.2 36 k ∧ yN Z 329 k = (if M.2 34 k = 1 then 0 else 1) ∧ yN Z 330 k = (if M.2 34 k = 3 then 1 else 0) ∧ yN Z 331 k = M.2 47 k ∧ (yN Z 328 k = 0 ∨ yN Z 328 k = 1) ∧ (0 ≤ yN Z 327 k ∧ yN Z 327 k ≤ 50000) ∧ (M.2 34 k = 1 → M.2 10 (M.2 31 k).toNat = 1 → M.2 45 k = if yN Z 328 k = 1 then 1400 else yN Z 327 k)
def tlZ (Z : Zs) (k : Nat) : Ta := (yN Z 448 k, yN Z 449 k, yN Z 450 k, yN Z 451 k)
def zmV (Z : Zs) (M : Mo) : Prop := ∀ k : Nat, k < yC Z 6 → yT Z 577 k = some k ∧ yT Z 580 k = some k ∧ yN Z 578 k = M.2 37 k ∧ yN Z 579 k = M.2 38 k ∧ 0 ≤ yN Z 576 k ∧ yK Z k = capOf (M.2 37 k).toNat ∧ (∀ i, i < (M.2 37 k).toNat → 0 ≤ yR Z k i ∧ yR Z k i ≤ 12000001) ∧ tkF (yR Z k) (yN Z 576 k) 0 (M.2 37 k).toNat (0, 0, 0, 0) = (M.2 35 k, M.2 39 k, M.2 40 k, M.2 41 k) ∧ tkF (yR Z k) (yN Z 576 k) 0 (M.2 38 k).toNat (0, 0, 0, 0) = tlZ Z k ∧ (tlZ Z k).2 = (M.2 42 k, M.2 43 k, M.2 44 k) ∧ (0 ≤ yN Z 448 k ∧ yN Z 448 k ≤ M.2 35 k)
/-- bookings -/
def bkZ (Z : Zs) (q : Nat) : Int × Int × Int := ((((yT Z 64 q).getD 0 : Nat) : Int), yN Z 65 q, yN Z 66 q)
def zmB (Z : Zs) (M : Mo) : Prop := (∀ q, q < yC Z 2 → ∃ k, yT Z 64 q = some k) ∧ ∀ u : Nat, u < yC Z 7 → (yL Z (6 + u)).map (bkZ Z) = bkL M u
def zmX (Z : Zs) (M : Mo) : Prop := zmC Z M ∧ zmL Z M ∧ zmY Z M ∧ zmF Z M ∧ zmS Z M ∧ zmA Z M ∧ zmD Z M ∧ zmE Z M ∧ zmV Z M
def ZM (Z : Zs) (M : Mo) : Prop := zmX Z M ∧ zmT Z M ∧ zmW Z M ∧ zmB Z M
/-! what holds of the reference's numbers throughout -/
def ivS (M : Mo) : Prop := ∀ i : Nat, (i : Int) < M.1 6 → M.2 12 i ≠ -1 → M.2 34 (M.2 12 i).toNat = 1 ∧ M.2 31 (M.2 12 i).toNat = (i : Int)
def ivR (M : Mo) : Prop := ∀ k : Nat, (k : Int) < M.1 30 → M.2 34 k = 1 → M.2 12 (M.2 31 k).toNat = (k : Int)
def ivC (M : Mo) : Prop := ∀ j k : Nat, (j : Int) < M.1 30 → (k : Int) < M.1 30 → M.2 34 j = 1 → M.2 34 k = 1 → M.2 32 j = M.2 32 k → j = k
def ivE (M : Mo) : Prop := ∀ k : Nat, (k : Int) < M.1 30 → M.2 35 k ≤ M.2 15 (M.2 32 k).toNat ∧ M.2 39 k + M.2 40 k = M.2 35 k ∧ M.2 41 k ≤ M.2 37 k ∧ M.2 42 k ≤ M.2 39 k ∧ M.2 43 k ≤ M.2 40 k ∧ M.2 44 k ≤ M.2 41 k ∧ (M.2 38 k = M.2 37 k → M.2 42 k = M.2 39 k ∧ M.2 43 k = M.2 40 k ∧ M.2 44 k = M.2 41 k) ∧ (M.2 34 k = 2 → M.2 38 k < M.2 37 k) ∧ (M.2 34 k = 3 → M.2 38 k = M.2 37 k ∧ M.2 46 k = billM M k (M.2 39 k) (M.2 40 k) (M.2 41 k))
def ivZ (M : Mo) : Prop := (∀ k : Nat, M.1 30 ≤ (k : Int) → k < 40 → M.2 34 k = 0 ∧ M.2 35 k = 0 ∧ M.2 36 k = 0 ∧ M.2 37 k = 0 ∧ M.2 38 k = 0 ∧ M.2 39 k = 0 ∧ M.2 40 k = 0 ∧ M.2 41 k = 0 ∧ M.2 42 k = 0 ∧ M.2 43 k = 0 ∧ M.2 44 k = 0 ∧ M.2 46 k = 0 ∧ M.2 47 k = 0) ∧ (∀ i : Nat, M.1 17 ≤ (i : Int) → i < 12 → M.2 21 i = 0 ∧ M.2 22 i = 0) ∧ (∀ i : Nat, M.1 6 ≤ (i : Int) → i < 8 → M.2 9 i = 0 ∧ M.2 10 i = 0 ∧ M.2 11 i = 0 ∧ M.2 12 i = -1 ∧ M.2 26 i = 0)
def ivB (M : Mo) (j : Nat) : Prop := okBx M ∧ (∀ u, u < 8 → M.2 26 u ≤ (j : Int)) ∧ (∀ u i : Nat, (u : Int) < M.1 6 → (i : Int) < M.2 26 u → M.1 1 < M.2 28 (1500 * u + i) + 15 ∧ M.2 28 (1500 * u + i) + 15 ≤ M.2 29 (1500 * u + i)) ∧ ∀ u i k : Nat, (u : Int) < M.1 6 → (i : Int) < M.2 26 u → (k : Int) < M.2 26 u → i ≠ k → M.2 29 (1500 * u + i) ≤ M.2 28 (1500 * u + k) ∨ M.2 29 (1500 * u + k) ≤ M.2 28 (1500 * u + i)
def Iv (M : Mo) (j : Nat) : Prop := OkM M ∧ ivS M ∧ ivR M ∧ ivC M ∧ ivE M ∧ ivZ M ∧ ivB M j
theorem ZM_0 {Z : Zs} {M : Mo} {v : Int} (h : ZM Z M) : ZM Z (setS M 0 v) := h
theorem Iv_0 {M : Mo} {v : Int} {j : Nat} (h : Iv M j) : Iv (setS M 0 v) j := h
theorem zmX_0 {Z : Zs} {M : Mo} {v : Int} (h : zmX Z M) : zmX Z (setS M 0 v) := h
theorem capOf_in (m : Nat) : 128 ≤ capOf m ∧ capOf m ≤ 20000 ∧ (m ≤ 20000 → m ≤ capOf m) := by
  unfold capOf
  repeat' split
  all_goals omega
theorem capOf_keep {m : Nat} (h : m < capOf m) : capOf (m + 1) = capOf m := by
  unfold capOf at h ⊢
  repeat' split at h
  all_goals (repeat' split) <;> omega
theorem capOf_grow {m : Nat} (h : ¬ m < capOf m) (h2 : m < 20000) : capOf m = m ∧ capOf (m + 1) = (if 2 * m < 20000 then 2 * m else 20000) := by
  have h3 : m = 128 ∨ m = 256 ∨ m = 512 ∨ m = 1024 ∨ m = 2048 ∨ m = 4096 ∨ m = 8192 ∨ m = 16384 := by
    unfold capOf at h
    repeat' split at h
    all_goals omega
  rcases h3 with rfl | rfl | rfl | rfl | rfl | rfl | rfl | rfl <;> exact ⟨by decide, by decide⟩
theorem rem_grow {m : Nat} (h : ¬ m < capOf m) (h2 : m < 20000) : remC (capOf (m + 1)) + 1 ≤ remC (capOf m) ∧ remS (capOf (m + 1)) + capOf (m + 1) ≤ remS (capOf m) := by
  have h3 : m = 128 ∨ m = 256 ∨ m = 512 ∨ m = 1024 ∨ m = 2048 ∨ m = 4096 ∨ m = 8192 ∨ m = 16384 := by
    unfold capOf at h
    repeat' split at h
    all_goals omega
  rcases h3 with rfl | rfl | rfl | rfl | rfl | rfl | rfl | rfl <;> exact ⟨by decide, by decide⟩
theorem ivB.bk {M : Mo} {j : Nat} (h : ivB M j) : okBk M := by
  refine ⟨h.1.1, fun u hu q hq => ?_⟩
  obtain ⟨i, hi⟩ := List.mem_iff_getElem?.mp hq
  have hl := (List.getElem?_eq_some_iff.mp hi).1
  unfold bkL at hi hl
  rw [blF_len] at hl
  have hi2 : (i : Int) < M.2 26 u := by omega
  rw [blF_get hi2] at hi
  cases hi
  exact (h.1.2 u i hu hi2).2.1
