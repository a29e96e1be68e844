/-! the reference: the order of serving, serving -/
/-- bounds and powers put in -/
def bp (M : Mo) (B Pw : Nat → Int) : Mo := setR (setR M 48 B) 49 Pw
theorem bp_self (M : Mo) : bp M (M.2 48) (M.2 49) = M := by
  unfold bp setR
  refine Prod.ext rfl ?_
  funext j x
  by_cases h : j = 49
  · subst h; simp
  · by_cases h2 : j = 48
    · subst h2; simp
    · simp [h, h2]
theorem setA_48 (M : Mo) (B Pw : Nat → Int) (k : Nat) (v : Int) : setA (bp M B Pw) 48 k v = bp M (fun i => if i = k then v else B i) Pw := by
  unfold bp setR setA
  refine Prod.ext rfl ?_
  funext j x
  by_cases h : j = 49
  · subst h; simp
  · by_cases h2 : j = 48
    · subst h2; simp
    · simp [h, h2]
theorem setA_49 (M : Mo) (B Pw : Nat → Int) (k : Nat) (v : Int) : setA (bp M B Pw) 49 k v = bp M B (fun i => if i = k then v else Pw i) := by
  unfold bp setR setA
  refine Prod.ext rfl ?_
  funext j x
  by_cases h : j = 49
  · subst h; simp
  · by_cases h2 : j = 48
    · subst h2; simp
    · simp [h, h2]
/-- f is the first of those below K from c0 on, or -1 -/
def fnd (M : Mo) (c0 : Int) (K : Nat) (f : Int) : Prop := (f = -1 ∧ ∀ j : Nat, j < K → svd M j → kap M j < c0) ∨ (0 ≤ f ∧ f < K ∧ svd M f.toNat ∧ c0 ≤ kap M f.toNat ∧ ∀ j : Nat, j < K → svd M j → c0 ≤ kap M j → kap M f.toNat ≤ kap M j)
theorem fnd_1 {M : Mo} {c0 : Int} {k : Nat} {f : Int} (h : fnd M c0 k f) (h1 : svd M k) (h2 : c0 ≤ kap M k) (h3 : f = -1 ∨ kap M k < kap M f.toNat) : fnd M c0 (k + 1) (k : Int) := by
  right
  have e : (k : Int).toNat = k := by omega
  rw [e]
  refine ⟨by omega, by omega, h1, h2, fun j hj hs hc => ?_⟩
  rcases Nat.lt_succ_iff_lt_or_eq.mp hj with hj | rfl
  · rcases h with ⟨h, g⟩ | ⟨h, -, -, -, g⟩
    · have := g j hj hs
      omega
    · have := g j hj hs hc
      omega
  · exact Int.le_refl _
theorem fnd_0 {M : Mo} {c0 : Int} {k : Nat} {f : Int} (h : fnd M c0 k f) (h1 : ¬ (svd M k ∧ c0 ≤ kap M k ∧ (f = -1 ∨ kap M k < kap M f.toNat))) : fnd M c0 (k + 1) f := by
  rcases h with ⟨h, g⟩ | ⟨h, h2, h3, h4, g⟩
  · left
    refine ⟨h, fun j hj hs => ?_⟩
    rcases Nat.lt_succ_iff_lt_or_eq.mp hj with hj | rfl
    · exact g j hj hs
    · exact Int.not_le.mp fun z => h1 ⟨hs, z, Or.inl h⟩
  · right
    refine ⟨h, by omega, h3, h4, fun j hj hs hc => ?_⟩
    rcases Nat.lt_succ_iff_lt_or_eq.mp hj with hj | rfl
    · exact g j hj hs hc
    · exact Int.not_lt.mp fun z => h1 ⟨hs, hc, Or.inr z⟩
section REF3
variable {l : Launch} {D : va_G} {kA : Nat → ClassId} {b t0 mo : Nat} {ad : Nat → Nat} {M : Mo}

end REF3
