/-! the class: a new object, step by step, its values known by their equations -/
def FR (Z Z2 : Zs) (c : Nat) (Cn : Nat → Nat) (Ln : Nat → List Nat) : Prop :=
  yC Z2 = Cn ∧ (∀ f i, (f / 64 + 1 = c → i ≠ yC Z c) → yT Z2 f i = yT Z f i) ∧ (∀ f i, (f / 64 + 1 = c → i ≠ yC Z c) → yN Z2 f i = yN Z f i) ∧ yL Z2 = Ln ∧ yR Z2 = yR Z ∧ yK Z2 = yK Z
section FRS
variable {t0 ao mo : Nat} {ad : Nat → Nat} {L : Ly} {X : Mm} {Z Z1 : Zs} {Mr : Mo} {c : Nat} {Cn : Nat → Nat} {Ln : Nat → List Nat}
theorem FR.new (h : CX t0 ao mo ad L X Z Mr) {a : Nat} (h2 : 3 ≤ c) (h3 : c ≤ 11) (ha : gK X a = 0) : ∃ Z2, FR Z Z2 c (u1 (yC Z) c (yC Z c + 1)) (yL Z) ∧ CX t0 ao mo ad (u2 (lA L) c (yC Z c) a, lD L, lC L) (alO X a c) Z2 Mr :=
  ⟨zNew Z c, ⟨rfl, fun _ _ hf => if_neg (fun e => hf e.1 e.2), fun _ _ hf => if_neg (fun e => hf e.1 e.2), rfl, rfl, rfl⟩, h.newO h2 h3 ha⟩
theorem FR.int (r : FR Z Z1 c Cn Ln) (h : CX t0 ao mo ad L X Z1 Mr) {f a : Nat} {v : Int} (hc : f / 64 + 1 = c) (h1 : 64 ≤ f) (h2 : f < 704) (hi : yC Z c < Cn c) (ha : a = lA L c (yC Z c)) : ∃ Z2, FR Z Z2 c Cn Ln ∧ yN Z2 f (yC Z c) = v ∧ (∀ g, g ≠ f → yN Z2 g (yC Z c) = yN Z1 g (yC Z c)) ∧ (∀ g, yT Z2 g (yC Z c) = yT Z1 g (yC Z c)) ∧ CX t0 ao mo ad L (sI X f a v) Z2 Mr := by
  obtain ⟨rC, rT, rN, rL, rR, rK⟩ := r
  refine ⟨zsN Z1 f (yC Z c) v, ⟨rC, rT, fun g i hg => ?_, rL, rR, rK⟩, if_pos ⟨rfl, rfl⟩, fun g hg => if_neg (fun e => hg e.1), fun g => rfl, h.putI hc h1 h2 (by rw [rC]; exact hi) ha⟩
  exact (if_neg (fun e => hg (by rw [e.1]; exact hc) e.2)).trans (rN g i hg)
theorem FR.ptr (r : FR Z Z1 c Cn Ln) (h : CX t0 ao mo ad L X Z1 Mr) {f a : Nat} {p v : Option Nat} (hc : f / 64 + 1 = c) (h1 : 64 ≤ f) (h2 : f < 704) (hi : yC Z c < Cn c) (ha : a = lA L c (yC Z c)) (hv : p = v.map (lA L (tgF f))) (hv2 : ∀ j, v = some j → j < Cn (tgF f)) : ∃ Z2, FR Z Z2 c Cn Ln ∧ yT Z2 f (yC Z c) = v ∧ (∀ g, g ≠ f → yT Z2 g (yC Z c) = yT Z1 g (yC Z c)) ∧ (∀ g, yN Z2 g (yC Z c) = yN Z1 g (yC Z c)) ∧ CX t0 ao mo ad L (sP X f a p) Z2 Mr := by
  obtain ⟨rC, rT, rN, rL, rR, rK⟩ := r
  refine ⟨zsT Z1 f (yC Z c) v, ⟨rC, fun g i hg => ?_, rN, rL, rR, rK⟩, if_pos ⟨rfl, rfl⟩, fun g hg => if_neg (fun e => hg e.1), fun g => rfl, h.putP hc h1 h2 (by rw [rC]; exact hi) ha hv (fun j hj => by rw [rC]; exact hv2 j hj)⟩
  exact (if_neg (fun e => hg (by rw [e.1]; exact hc) e.2)).trans (rT g i hg)
theorem FR.lst (r : FR Z Z1 c Cn Ln) (h : CX t0 ao mo ad L X Z1 Mr) {a : Nat} (ha : gK X a = 0) : ∃ Z2, FR Z Z2 c (u1 Cn 1 (Cn 1 + 1)) (u1 Ln (Cn 1) []) ∧ (∀ g, yN Z2 g (yC Z c) = yN Z1 g (yC Z c)) ∧ (∀ g, yT Z2 g (yC Z c) = yT Z1 g (yC Z c)) ∧ CX t0 ao mo ad (u2 (lA L) 1 (Cn 1) a, u1 (lD L) (Cn 1) t0, u1 (lC L) (Cn 1) 0) (sP (sI (alO X a 1) 0 a 0) 1 a (some t0)) Z2 Mr := by
  obtain ⟨rC, rT, rN, rL, rR, rK⟩ := r
  subst rC rL
  exact ⟨zLst Z1, ⟨rfl, rT, rN, rfl, rR, rK⟩, fun g => rfl, fun g => rfl, h.newL ha⟩
end FRS
