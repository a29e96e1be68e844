/-! the class: a new session's four objects, step by step, their values known by equations -/
def k3 (c : Nat) : Prop := c = 6 ∨ c = 8 ∨ c = 10
def FM (Z Z2 : Zs) (n : Nat) (Cn : Nat → Nat) (Rn : Nat → Nat → Int) (Kn : Nat → Nat) : Prop :=
  yC Z2 = Cn ∧ (∀ f i, (k3 (f / 64 + 1) → i ≠ n) → yT Z2 f i = yT Z f i) ∧ (∀ f i, (k3 (f / 64 + 1) → i ≠ n) → yN Z2 f i = yN Z f i) ∧ yL Z2 = yL Z ∧ yR Z2 = Rn ∧ yK Z2 = Kn
section FMS
variable {t0 ao mo n : Nat} {ad : Nat → Nat} {L : Ly} {X : Mm} {Z Z1 : Zs} {Mr : Mo} {c : Nat} {Cn : Nat → Nat} {Rn : Nat → Nat → Int} {Kn : Nat → Nat}
theorem FM.rf (Z : Zs) (n : Nat) : FM Z Z n (yC Z) (yR Z) (yK Z) := ⟨rfl, fun _ _ _ => rfl, fun _ _ _ => rfl, rfl, rfl, rfl⟩
theorem FM.new (r : FM Z Z1 n Cn Rn Kn) (h : CX t0 ao mo ad L X Z1 Mr) {a : Nat} (hc : k3 c) (hn : Cn c = n) (ha : gK X a = 0) : ∃ Z2, FM Z Z2 n (u1 Cn c (n + 1)) Rn Kn ∧ (∀ g, g / 64 + 1 ≠ c → yN Z2 g n = yN Z1 g n ∧ yT Z2 g n = yT Z1 g n) ∧ CX t0 ao mo ad (u2 (lA L) c n a, lD L, lC L) (alO X a c) Z2 Mr := by
  obtain ⟨rC, rT, rN, rL, rR, rK⟩ := r
  subst rC
  subst hn
  refine ⟨zNew Z1 c, ⟨rfl, fun g i hg => ?_, fun g i hg => ?_, rL, rR, rK⟩, fun g hg => ⟨if_neg (fun e => hg e.1), if_neg (fun e => hg e.1)⟩, h.newO (by unfold k3 at hc; omega) (by unfold k3 at hc; omega) ha⟩
  · exact (if_neg (fun e => hg (by rw [e.1]; exact hc) e.2)).trans (rT g i hg)
  · exact (if_neg (fun e => hg (by rw [e.1]; exact hc) e.2)).trans (rN g i hg)
theorem FM.row (r : FM Z Z1 n Cn Rn Kn) (h : CX t0 ao mo ad L X Z1 Mr) {a m : Nat} (hn : Cn 20 = n) (ha : gK X a = 0) : ∃ Z2, FM Z Z2 n (u1 Cn 20 (n + 1)) (u1 Rn n (fun _ => 0)) (u1 Kn n m) ∧ (∀ g, yN Z2 g = yN Z1 g ∧ yT Z2 g = yT Z1 g) ∧ CX t0 ao mo ad (u2 (lA L) 20 n a, lD L, lC L) (alA X a 20 m) Z2 Mr := by
  obtain ⟨rC, rT, rN, rL, rR, rK⟩ := r
  subst rC rR rK
  subst hn
  exact ⟨zRow Z1 m, ⟨rfl, rT, rN, rL, rfl, rfl⟩, fun g => ⟨rfl, rfl⟩, h.newR ha⟩
theorem FM.int (r : FM Z Z1 n Cn Rn Kn) (h : CX t0 ao mo ad L X Z1 Mr) {f a : Nat} {v : Int} (hk : f / 64 + 1 = c) (hc : k3 c) (h1 : 64 ≤ f) (h2 : f < 704) (hi : n < Cn c) (ha : a = lA L c n) : ∃ Z2, FM Z Z2 n Cn Rn Kn ∧ yN Z2 f n = v ∧ (∀ g, g ≠ f → yN Z2 g n = yN Z1 g n) ∧ (∀ g, yT Z2 g n = yT Z1 g n) ∧ CX t0 ao mo ad L (sI X f a v) Z2 Mr := by
  obtain ⟨rC, rT, rN, rL, rR, rK⟩ := r
  refine ⟨zsN Z1 f n v, ⟨rC, rT, fun g i hg => ?_, rL, rR, rK⟩, if_pos ⟨rfl, rfl⟩, fun g hg => if_neg (fun e => hg e.1), fun g => rfl, h.putI hk h1 h2 (by rw [rC]; exact hi) ha⟩
  exact (if_neg (fun e => hg (by rw [e.1, hk]; exact hc) e.2)).trans (rN g i hg)
theorem FM.ptr (r : FM Z Z1 n Cn Rn Kn) (h : CX t0 ao mo ad L X Z1 Mr) {f a : Nat} {p v : Option Nat} (hk : f / 64 + 1 = c) (hc : k3 c) (h1 : 64 ≤ f) (h2 : f < 704) (hi : n < Cn c) (ha : a = lA L c n) (hv : p = v.map (lA L (tgF f))) (hv2 : ∀ j, v = some j → j < Cn (tgF f)) : ∃ Z2, FM Z Z2 n Cn Rn Kn ∧ yT Z2 f n = v ∧ (∀ g, g ≠ f → yT Z2 g n = yT Z1 g n) ∧ (∀ g, yN Z2 g n = yN Z1 g n) ∧ CX t0 ao mo ad L (sP X f a p) Z2 Mr := by
  obtain ⟨rC, rT, rN, rL, rR, rK⟩ := r
  refine ⟨zsT Z1 f n v, ⟨rC, fun g i hg => ?_, rN, rL, rR, rK⟩, if_pos ⟨rfl, rfl⟩, fun g hg => if_neg (fun e => hg e.1), fun g => rfl, h.putP hk h1 h2 (by rw [rC]; exact hi) ha hv (fun j hj => by rw [rC]; exact hv2 j hj)⟩
  exact (if_neg (fun e => hg (by rw [e.1, hk]; exact hc) e.2)).trans (rT g i hg)
end FMS
