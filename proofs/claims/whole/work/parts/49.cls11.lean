/-! the class: flows -/
/-- a whole field anew -/
def sIf (X : Mm) (f : Nat) (g : Nat → Int) : Mm := (gK X, fun h x => if h = f then g x else gI X h x, gP X, gN X, gA X, gO X)
theorem sIf_self (X : Mm) (f : Nat) : sIf X f (gI X f) = X := by
  have e : (fun h x => if h = f then gI X f x else gI X h x) = gI X := by
    funext h x
    split
    · rename_i e
      rw [e]
    · rfl
  unfold sIf
  rw [e]
  rfl
theorem sI_sIf (X : Mm) (f : Nat) (g : Nat → Int) (a : Nat) (v : Int) : sI (sIf X f g) f a v = sIf X f (fun x => if x = a then v else g x) := by
  have e : (u2 (gI (sIf X f g)) f a v) = fun h x => if h = f then (if x = a then v else g x) else gI X h x := by
    funext h x
    unfold u2
    by_cases e1 : h = f
    · subst e1
      by_cases e2 : x = a <;> simp [e2, sIf, gI]
    · simp [e1, sIf, gI]
  unfold sI
  rw [e]
  rfl
/-- the running sessions: who takes more, by flows -/
def ruI (X : Mm) (rs : List Nat) (S : Nat → Nat) (U BD : Nat → Int) : Prop := ∀ q ∈ rs, gK X q = 6 ∧ gP X 320 q = some (S q) ∧ gK X (S q) = 7 ∧ gI X 388 (S q) = U q ∧ (U q = 0 ∨ U q = 1) ∧ gI X 332 q = BD q ∧ (0 ≤ BD q ∧ BD q ≤ 50000)
def raS (U BD : Nat → Int) (rise : Int) (q : Nat) (s : Int × (Nat → Int)) : Int × (Nat → Int) := if 0 < s.1 ∧ (U q = 1 ∧ 1400 ≤ s.2 q ∧ s.2 q < BD q) then (s.1 - 1, fun x => if x = q then s.2 q + rise else s.2 x) else s
def raF (U BD : Nat → Int) (rise : Int) (rs : List Nat) : Nat → Int × (Nat → Int) → Int × (Nat → Int)
  | 0, s => s
  | n + 1, s => raS U BD rise (rs.getD n 0) (raF U BD rise rs n s)
section CLS11
variable {l : Launch} {D : va_G} {kA : Nat → ClassId} {b t0 : Nat} {X : Mm}

end CLS11
