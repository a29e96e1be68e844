/-! the reference: its calls -/
def m0 (M : Mo) : Mo := setS M 0 0
def stp (M : Mo) (k : Int) : Mo := setS (setS M 0 0) 0 k
def socS (M : Mo) (f w : Int) : Mo × Int := if 0 ≤ f ∧ f ≤ 2 then (if 1400 ≤ w ∧ w ≤ 50000 then (if M.1 6 = 8 then (stp M 3, 0) else (setS (setA (setA (setS M 0 0) 7 (M.1 6).toNat f) 8 (M.1 6).toNat w) 6 (M.1 6 + 1), M.1 6 + 1 - 1)) else (stp M 2, 0)) else (stp M 1, 0)
def carS (M : Mo) (c h w : Int) : Mo × Int := if (1 ≤ c ∧ c ≤ 6000000) ∧ (0 ≤ h ∧ h ≤ c) ∧ (1 ≤ w ∧ w ≤ 50000) then (if M.1 13 = 12 then (stp M 2, 0) else (setS (setA (setA (setA (setS M 0 0) 14 (M.1 13).toNat c) 15 (M.1 13).toNat h) 16 (M.1 13).toNat w) 13 (M.1 13 + 1), M.1 13 + 1 - 1)) else (stp M 1, 0)
def cdS (M : Mo) (f r : Int) : Mo × Int := if 0 ≤ f ∧ f ≤ 2 then (if 0 ≤ r ∧ r ≤ 3 then (if M.1 17 = 12 then (stp M 3, 0) else (setS (setA (setA (setA (setS M 0 0) 18 (M.1 17).toNat f) 19 (M.1 17).toNat r) 20 (M.1 17).toNat 1) 17 (M.1 17 + 1), M.1 17 + 1 - 1)) else (stp M 2, 0)) else (stp M 1, 0)
def goodS (M : Mo) (z u : Int) : Mo × Int := if 0 ≤ z ∧ z < M.1 17 then (setA (setS M 0 0) 20 z.toNat u, M.2 20 z.toNat) else (stp M 1, 0)
def fauS (M : Mo) (z u : Int) : Mo × Int := if 0 ≤ z ∧ z < M.1 6 then (setA (setS M 0 0) 9 z.toNat u, M.2 9 z.toNat) else (stp M 1, 0)
def setSS (M : Mo) (w v : Int) : Mo × Int := if (w = 0 ∧ 0 ≤ v ∧ v ≤ 200000) ∨ (w = 1 ∧ 0 ≤ v ∧ v ≤ 100000) ∨ (w = 2 ∧ -50 ≤ v ∧ v ≤ 50) then (setS (setS (setS (setS M 0 0) 3 (if w = 0 then v else M.1 3)) 4 (if w = 1 then v else M.1 4)) 5 (if w = 2 then v else M.1 5), if w = 0 then M.1 3 else if w = 1 then M.1 4 else M.1 5) else (stp M 1, 0)
def tarS (M : Mo) (f s d n i : Int) : Mo := if 0 ≤ f ∧ f ≤ 2 then (if (0 ≤ s ∧ s ≤ 1000) ∧ (0 ≤ d ∧ d ≤ 1000) ∧ (0 ≤ n ∧ n ≤ 1000) ∧ (0 ≤ i ∧ i ≤ 1000) then setA (setA (setA (setA (setS M 0 0) 23 (4 * f.toNat) s) 23 (4 * f.toNat + 1) d) 23 (4 * f.toNat + 2) n) 23 (4 * f.toNat + 3) i else stp M 2) else stp M 1
def ofS (M : Mo) (z w : Int) : Mo × Int := if 0 ≤ z ∧ z < M.1 30 then (if 0 ≤ w ∧ w ≤ 6 then (setS M 0 0, if w = 0 then M.2 36 z.toNat else if w = 1 then M.2 35 z.toNat else if w = 2 then M.2 37 z.toNat else if w = 3 then M.2 38 z.toNat else if w = 4 then M.2 34 z.toNat else if w = 5 then M.2 32 z.toNat else M.2 31 z.toNat) else (stp M 2, 0)) else (stp M 1, 0)
def chaS (M : Mo) (z : Int) : Mo × Int := if 0 ≤ z ∧ z < M.1 13 then (setS M 0 0, M.2 15 z.toNat) else (stp M 1, 0)
def bilS (M : Mo) (z : Int) : Mo × Int := if 0 ≤ z ∧ z < M.1 30 then (setS M 0 0, billM M z.toNat (M.2 42 z.toNat) (M.2 43 z.toNat) (M.2 44 z.toNat)) else (stp M 1, 0)
def bilA (M : Mo) (z : Int) : Mo × Int := if 0 ≤ z ∧ z < M.1 30 then (setS M 0 0, billM M z.toNat (M.2 39 z.toNat) (M.2 40 z.toNat) (M.2 41 z.toNat)) else (stp M 1, 0)
def disS (M : Mo) (z h : Int) : Mo × Int := if 0 ≤ z ∧ z < M.1 30 then (if 1 ≤ h ∧ h ≤ 100 then (if M.2 34 z.toNat = 3 ∧ M.2 47 z.toNat = 0 then (oweM (setA (setA (setS M 0 0) 47 z.toNat 1) 22 (M.2 33 z.toNat).toNat (M.2 22 (M.2 33 z.toNat).toNat - M.2 46 z.toNat * h / 100)) z.toNat (-(95 * (M.2 46 z.toNat * h / 100) / 100)), M.2 46 z.toNat * h / 100) else (stp M 3, 0)) else (stp M 2, 0)) else (stp M 1, 0)
def oweS (M : Mo) (z : Int) : Mo × Int := if 0 ≤ z ∧ z < M.1 17 then (setS M 0 0, M.2 22 z.toNat) else (stp M 1, 0)
/-- what the firm f is owed, less what it owes -/
def acF (M : Mo) (f : Nat) : Int := sumF (fun k => if M.2 18 k = (f : Int) then M.2 22 k else 0) (M.1 17).toNat + sumF (fun k => M.2 25 (3 * k + f) - M.2 25 (3 * f + k)) 3
def accS (M : Mo) (z : Int) : Mo × Int := if 0 ≤ z ∧ z ≤ 2 then (setS M 0 0, acF M z.toNat) else (stp M 1, 0)
def unpS (M : Mo) (z : Int) : Mo × Int := if 0 ≤ z ∧ z < M.1 30 then (if M.2 34 z.toNat = 1 then (if M.2 37 z.toNat - M.2 38 z.toNat = 0 then payM (setA (setA (setS M 0 0) 34 z.toNat 2) 12 (M.2 31 z.toNat).toNat (-1)) z.toNat else setA (setA (setS M 0 0) 34 z.toNat 2) 12 (M.2 31 z.toNat).toNat (-1), M.2 37 z.toNat - M.2 38 z.toNat) else (stp M 2, 0)) else (stp M 1, 0)
theorem pf1 {c : Prop} [Decidable c] {x : Mo} {y : Int} {q : Mo × Int} (h : c) : x = (if c then (x, y) else q).1 := by rw [if_pos h]
theorem pf2 {c : Prop} [Decidable c] {x : Mo} {y : Int} {q : Mo × Int} (h : ¬ c) : x = (if c then q else (x, y)).1 := by rw [if_neg h]
theorem ps1 {c : Prop} [Decidable c] {x : Mo} {y : Int} {q : Mo × Int} (h : c) : some (iv y) = some (iv (if c then (x, y) else q).2) := by rw [if_pos h]
theorem ps2 {c : Prop} [Decidable c] {x : Mo} {y : Int} {q : Mo × Int} (h : ¬ c) : some (iv y) = some (iv (if c then q else (x, y)).2) := by rw [if_neg h]
section REF9
variable {l : Launch} {D : va_G} {kA : Nat → ClassId} {b t0 mo : Nat} {ad : Nat → Nat} {M : Mo}

end REF9
