/-! the reference: the last calls but pass -/
section REF11
variable {l : Launch} {D : va_G} {kA : Nat → ClassId} {b t0 mo : Nat} {ad : Nat → Nat} {M : Mo}
theorem sE {a b : Int} (h : a = b) : some (iv a) = some (iv b) := by rw [h]

end REF11
