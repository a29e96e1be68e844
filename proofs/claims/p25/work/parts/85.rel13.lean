/-! the reference begins -/
def M0 : Mo := (fun k => if k = 3 then 10000 else if k = 5 then 20 else 0, fun k i => if k = 12 ∧ i < 8 then -1 else 0)
section REL13
variable {l : Launch} {D : va_G} {kA : Nat → ClassId} {b t0 mo : Nat} {X : Mm}
end REL13
