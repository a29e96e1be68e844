/-! the reference: booking, plugging in, passing -/
section VR2
variable {p : Program} {l : Launch} {e : Env} {R : Room} {s : State} {m : MethodId} {args : Array Value} {below : List Frame} {meth : Method} {c : Code}
variable {D : va_G} {kA : Nat → ClassId} {b t0 nL cells slots : Nat} {Q : State → Prop} {own nm : String} {cc : ByteArray} {X : Mm} {pc pc' tgt : Nat} {lv : List (Option Value)} {st : List Value}
variable {mo : Nat} {ad : Nat → Nat} {X0 : Mm} {M : Mo}
end VR2
/-- what a booking's numbers are -/
def okBx (M : Mo) : Prop := (∀ u, u < 8 → 0 ≤ M.2 26 u ∧ M.2 26 u ≤ 512) ∧ ∀ u i : Nat, (u : Int) < M.1 6 → (i : Int) < M.2 26 u → (0 ≤ M.2 27 (1500 * u + i) ∧ M.2 27 (1500 * u + i) < M.1 17) ∧ (0 ≤ M.2 28 (1500 * u + i) ∧ M.2 28 (1500 * u + i) ≤ 20000) ∧ (0 ≤ M.2 29 (1500 * u + i) ∧ M.2 29 (1500 * u + i) ≤ 20600)
theorem canM_step (M : Mo) (s c : Nat) (f mi : Int) (k : Nat) : canM M s c f mi (k + 1) ↔ canM M s c f mi k ∧ (M.2 29 (1500 * s + k) ≤ f ∨ f + mi ≤ M.2 28 (1500 * s + k)) := by
  refine ⟨fun h => ⟨⟨h.1, fun i hi => h.2 i (Nat.lt_succ_of_lt hi)⟩, h.2 k (Nat.lt_succ_self k)⟩, fun h => ⟨h.1.1, fun i hi => ?_⟩⟩
  rcases Nat.lt_succ_iff_lt_or_eq.mp hi with e | rfl
  · exact h.1.2 i e
  · exact h.2
/-- the tariff goes to the session -/
def cpT (M : Mo) (s n : Nat) : Nat → Mo → Mo
  | 0, X => X
  | j + 1, X => setA (cpT M s n j X) 24 (4 * n + j) (M.2 23 (4 * (M.2 7 s).toNat + j))
theorem cpT_st (M : Mo) (s n : Nat) (X : Mo) (j : Nat) : (cpT M s n j X).1 = X.1 ∧ ∀ q, q ≠ 24 → (cpT M s n j X).2 q = X.2 q := by
  induction j with
  | zero => exact ⟨rfl, fun _ _ => rfl⟩
  | succ j ih =>
    refine ⟨ih.1, fun q hq => ?_⟩
    rw [← ih.2 q hq]
    funext x
    exact if_neg hq
def sesM (M1 : Mo) (n s c k : Nat) : Mo := setA (setA (setA (setA (setA M1 31 n s) 32 n c) 33 n k) 34 n 1) 45 n 1400
def newM (M M1 : Mo) (n s c k : Nat) : Mo := setS (setA (cpT M s n 4 (sesM M1 n s c k)) 12 s (M.1 30)) 30 (M.1 30 + 1)
def goB (M : Mo) (s h : Nat) : Mo := bkM (setS M 0 0) (goC (M.2 26) s) (goA (M.2 26) (M.2 27) s h) (goA (M.2 26) (M.2 28) s h) (goA (M.2 26) (M.2 29) s h)
def bkdM (M : Mo) (s : Nat) (h : Int) : Mo := if h = -1 then setS M 0 0 else goB M s h.toNat
def pluP (M : Mo) (n : Nat) (z c k : Int) (M2 : Mo) (r : Int) : Prop :=
  (¬ ((0 ≤ z ∧ z < M.1 6) ∧ (0 ≤ c ∧ c < M.1 13) ∧ (0 ≤ k ∧ k < M.1 17)) ∧ M2 = stp M 1 ∧ r = 0) ∨
  (((0 ≤ z ∧ z < M.1 6) ∧ (0 ≤ c ∧ c < M.1 13) ∧ (0 ≤ k ∧ k < M.1 17)) ∧ (
    (M.1 30 = 40 ∧ M2 = stp M 2 ∧ r = 0) ∨
    (M.1 30 < 40 ∧ M2 = setS M 0 0 ∧ M.2 9 z.toNat = 1 ∧ r = -1) ∨
    (M.1 30 < 40 ∧ M2 = setS M 0 0 ∧ M.2 9 z.toNat = 0 ∧ M.2 12 z.toNat ≠ -1 ∧ r = -2) ∨
    (M.1 30 < 40 ∧ M2 = setS M 0 0 ∧ M.2 9 z.toNat = 0 ∧ M.2 12 z.toNat = -1 ∧ (M.2 20 k.toNat = 0 ∨ (M.2 10 z.toNat = 1 ∧ M.2 21 k.toNat = 0)) ∧ r = -3) ∨
    (M.1 30 < 40 ∧ M.2 9 z.toNat = 0 ∧ M.2 12 z.toNat = -1 ∧ ¬ (M.2 20 k.toNat = 0 ∨ (M.2 10 z.toNat = 1 ∧ M.2 21 k.toNat = 0)) ∧ ∃ h, hldM M z.toNat h ∧ (
      (M2 = setS M 0 0 ∧ h ≠ -1 ∧ M.2 27 (1500 * z.toNat + h.toNat) ≠ k ∧ r = -4) ∨
      (M2 = setS M 0 0 ∧ ¬ (h ≠ -1 ∧ M.2 27 (1500 * z.toNat + h.toNat) ≠ k) ∧ awyM M n c ∧ r = -5) ∨
      (¬ (h ≠ -1 ∧ M.2 27 (1500 * z.toNat + h.toNat) ≠ k) ∧ ¬ awyM M n c ∧ M2 = newM M (bkdM M z.toNat h) n z.toNat c.toNat k.toNat ∧ r = M.1 30 + 1 - 1)))))
/-- what passing does -/
def pasP (M : Mo) (n : Nat) (z : Int) (M2 : Mo) (r : Int) : Prop :=
  (¬ (1 ≤ z ∧ z ≤ 120) ∧ M2 = stp M 1 ∧ r = 0) ∨ ((1 ≤ z ∧ z ≤ 120) ∧ 20000 < M.1 1 + z ∧ M2 = stp M 2 ∧ r = 0) ∨ ((1 ≤ z ∧ z ≤ 120) ∧ M.1 1 + z ≤ 20000 ∧ passN n z.toNat (setS M 0 0) M2 ∧ r = M2.1 1)
section REF12
variable {l : Launch} {D : va_G} {kA : Nat → ClassId} {b t0 mo : Nat} {ad : Nat → Nat} {M : Mo}

theorem aw1 {z : Int} {P : Prop} (h : (z = 1 ∧ P) ∨ (z = 0 ∧ ¬ P)) (hz : z ≠ 0) : P := by
  rcases h with h | h
  · exact h.2
  · exact absurd h.1 hz
theorem aw0 {z : Int} {P : Prop} (h : (z = 1 ∧ P) ∨ (z = 0 ∧ ¬ P)) (hz : z = 0) : ¬ P := by
  rcases h with h | h
  · omega
  · exact h.2

end REF12
