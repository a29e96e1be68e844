/-! the reference: the other calls -/
def awyM (M : Mo) (n : Nat) (z : Int) : Prop := ∃ k, k < n ∧ M.2 34 k = 1 ∧ M.2 32 k = z
def hldM (M : Mo) (s : Nat) (r : Int) : Prop := (r = -1 ∧ ∀ i : Nat, (i : Int) < M.2 26 s → M.1 1 < M.2 28 (1500 * s + i)) ∨ (0 ≤ r ∧ r < M.2 26 s ∧ M.2 28 (1500 * s + r.toNat) ≤ M.1 1 ∧ ∀ i : Nat, (i : Int) < r → M.1 1 < M.2 28 (1500 * s + i))
def powS (M : Mo) (n : Nat) (z : Int) : Mo × Int := if 0 ≤ z ∧ z < M.1 30 then (setS (bp M (BM M n) (powM M n)) 0 0, powM M n z.toNat) else (stp M 1, 0)
theorem srvTo_S (M : Mo) (v : Int) (n : Nat) (B : Nat → Int) (g : Int) (c : Nat) (s : (Nat → Int) × Int) : srvTo (setS M 0 v) n B g c s = srvTo M n B g c s := by
  induction c with
  | zero => rfl
  | succ c ih =>
    show srvAt (setS M 0 v) n B g c (srvTo (setS M 0 v) n B g c s) = srvAt M n B g c (srvTo M n B g c s)
    rw [ih]
    rfl
theorem powM_S (M : Mo) (v : Int) (n : Nat) : powM (setS M 0 v) n = powM M n := by
  have h1 : s1M (setS M 0 v) n = s1M M n := srvTo_S M v n _ 1 256 _
  have h2 : s2M (setS M 0 v) n = s2M M n := by
    show srvTo (setS M 0 v) n (BM M n) 0 256 (s1M (setS M 0 v) n) = _
    rw [h1, srvTo_S]
    rfl
  have h3 : tbM (setS M 0 v) n = tbM M n := by
    funext k
    unfold tbM
    rw [h2]
    rfl
  unfold powM
  rw [h2, h3]
  rfl
theorem sumF_step (f : Nat → Int) (n : Nat) : sumF f (n + 1) = sumF f n + f n := rfl
/-- hearing all sessions of a socket -/
def hrM (M : Mo) (z : Int) : Nat → Mo
  | 0 => M
  | k + 1 => if M.2 31 k = z then hearM (hrM M z k) k else hrM M z k
def hrN (M : Mo) (z : Int) (k : Nat) : Int := sumF (fun k => if M.2 31 k = z then M.2 37 k - M.2 38 k else 0) k
theorem hearM_st (M : Mo) (k : Nat) : (hearM M k).1 = M.1 ∧ (∀ j, j = 24 ∨ j = 33 ∨ j = 18 ∨ j = 31 ∨ j = 7 ∨ j = 39 ∨ j = 40 ∨ j = 41 ∨ j = 37 → (hearM M k).2 j = M.2 j) ∧ (∀ i, i ≠ k → (hearM M k).2 34 i = M.2 34 i) ∧ ∀ i, i ≠ k → (hearM M k).2 38 i = M.2 38 i := by
  unfold hearM payM oweM heardM
  refine ⟨by split <;> rfl, fun j hj => ?_, fun i hi => ?_, fun i hi => ?_⟩
  · rcases hj with rfl | rfl | rfl | rfl | rfl | rfl | rfl | rfl | rfl <;> split <;> rfl
  · split <;> simp [setA, hi]
  · split <;> simp [setA, hi]
theorem hrM_st (M : Mo) (z : Int) (k : Nat) : (hrM M z k).1 = M.1 ∧ (∀ j, j = 24 ∨ j = 33 ∨ j = 18 ∨ j = 31 ∨ j = 7 ∨ j = 39 ∨ j = 40 ∨ j = 41 ∨ j = 37 → (hrM M z k).2 j = M.2 j) ∧ (∀ i, k ≤ i → (hrM M z k).2 34 i = M.2 34 i) ∧ ∀ i, k ≤ i → (hrM M z k).2 38 i = M.2 38 i := by
  induction k with
  | zero => exact ⟨rfl, fun _ _ => rfl, fun _ _ => rfl, fun _ _ => rfl⟩
  | succ k ih =>
    obtain ⟨h1, h2, h3, h4⟩ := ih
    obtain ⟨g1, g2, g3, g4⟩ := hearM_st (hrM M z k) k
    show (if M.2 31 k = z then hearM (hrM M z k) k else hrM M z k).1 = M.1 ∧ (∀ j, _ → (if M.2 31 k = z then hearM (hrM M z k) k else hrM M z k).2 j = M.2 j) ∧ (∀ i, k + 1 ≤ i → (if M.2 31 k = z then hearM (hrM M z k) k else hrM M z k).2 34 i = M.2 34 i) ∧ ∀ i, k + 1 ≤ i → (if M.2 31 k = z then hearM (hrM M z k) k else hrM M z k).2 38 i = M.2 38 i
    split
    · exact ⟨g1.trans h1, fun j hj => (g2 j hj).trans (h2 j hj), fun i hi => (g3 i (by omega)).trans (h3 i (by omega)), fun i hi => (g4 i (by omega)).trans (h4 i (by omega))⟩
    · exact ⟨h1, h2, fun i hi => h3 i (by omega), fun i hi => h4 i (by omega)⟩
def linS (M : Mo) (n : Nat) (z u : Int) : Mo × Int :=
  if 0 ≤ z ∧ z < M.1 6 then (if u = M.2 10 z.toNat then (if u = 1 then (hrM (setA (setS M 0 0) 10 z.toNat 0) z n, hrN M z n) else ((if M.2 12 z.toNat = -1 then setA (setA (setS M 0 0) 10 z.toNat 1) 11 z.toNat (M.1 1) else setA (setA (setA (setS M 0 0) 10 z.toNat 1) 11 z.toNat (M.1 1)) 45 (M.2 12 z.toNat).toNat (M.2 36 (M.2 12 z.toNat).toNat)), 0)) else (setS M 0 0, 0)) else (stp M 1, 0)
def canM (M : Mo) (s c : Nat) (f mi : Int) (k : Nat) : Prop := M.2 20 c = 1 ∧ ∀ i, i < k → M.2 29 (1500 * s + i) ≤ f ∨ f + mi ≤ M.2 28 (1500 * s + i)
def booM (M : Mo) (s : Nat) (c f mi : Int) : Mo := setA (setA (setA (setA (setS M 0 0) 27 (1500 * s + (M.2 26 s).toNat) c) 28 (1500 * s + (M.2 26 s).toNat) f) 29 (1500 * s + (M.2 26 s).toNat) (f + mi)) 26 s (M.2 26 s + 1)
/-- what booking does -/
def booP (M : Mo) (z c f mi : Int) (M2 : Mo) (r : Int) : Prop :=
  (¬ ((0 ≤ z ∧ z < M.1 6) ∧ (0 ≤ c ∧ c < M.1 17)) ∧ M2 = stp M 1 ∧ r = 0) ∨
  (((0 ≤ z ∧ z < M.1 6) ∧ (0 ≤ c ∧ c < M.1 17)) ∧ ¬ ((M.1 1 ≤ f ∧ f ≤ 20000) ∧ (15 ≤ mi ∧ mi ≤ 600)) ∧ M2 = stp M 2 ∧ r = 0) ∨
  (((0 ≤ z ∧ z < M.1 6) ∧ (0 ≤ c ∧ c < M.1 17)) ∧ ((M.1 1 ≤ f ∧ f ≤ 20000) ∧ (15 ≤ mi ∧ mi ≤ 600)) ∧ ¬ canM M z.toNat c.toNat f mi (M.2 26 z.toNat).toNat ∧ M2 = stp M 3 ∧ r = 0) ∨
  (((0 ≤ z ∧ z < M.1 6) ∧ (0 ≤ c ∧ c < M.1 17)) ∧ ((M.1 1 ≤ f ∧ f ≤ 20000) ∧ (15 ≤ mi ∧ mi ≤ 600)) ∧ canM M z.toNat c.toNat f mi (M.2 26 z.toNat).toNat ∧ M2 = booM M z.toNat c f mi ∧ r = M.2 26 z.toNat + 1)
def passN (n : Nat) : Nat → Mo → Mo → Prop
  | 0, M, M2 => M2 = M
  | k + 1, M, M2 => ∃ M1, passN n k M M1 ∧ pass1 M1 n M2
section REF10
variable {l : Launch} {D : va_G} {kA : Nat → ClassId} {b t0 mo : Nat} {ad : Nat → Nat} {M : Mo}

end REF10
