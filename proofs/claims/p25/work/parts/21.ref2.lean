/-! the reference: what a car wants, bills, payments -/
def wantB (M : Mo) (i : Nat) : Int := if 8 * M.2 14 i ≤ 10 * M.2 15 i then M.2 16 i / 2 else M.2 16 i
def wantD (M : Mo) (i : Nat) : Int := if M.1 5 < 0 then wantB M i * (100 + M.1 5) / 100 else wantB M i
def wantM (M : Mo) (i : Nat) : Int := if wantD M i < M.2 14 i - M.2 15 i then wantD M i else M.2 14 i - M.2 15 i
theorem wantB_in {M : Mo} {i : Nat} (h : okCa M i) : 0 ≤ wantB M i ∧ wantB M i ≤ 50000 := by
  unfold okCa at h
  unfold wantB
  split <;> omega
theorem mul_in {a c A B : Int} (h1 : 0 ≤ a) (h2 : a ≤ A) (h3 : 0 ≤ c) (h4 : c ≤ B) : 0 ≤ a * c ∧ a * c ≤ A * B := ⟨Int.mul_nonneg h1 h3, Int.mul_le_mul h2 h4 h3 (by omega)⟩
theorem wantD_in {M : Mo} {i : Nat} (h0 : okSc M) (h : okCa M i) : 0 ≤ wantD M i ∧ wantD M i ≤ 50000 := by
  have h1 := wantB_in h
  unfold okSc at h0
  unfold wantD
  split
  · have h2 := mul_in (a := wantB M i) (c := 100 + M.1 5) (A := 50000) (B := 100) h1.1 h1.2 (by omega) (by omega)
    omega
  · exact h1
theorem wantM_in {M : Mo} {i : Nat} (h0 : okSc M) (h : okCa M i) : 0 ≤ wantM M i ∧ wantM M i ≤ 50000 ∧ wantM M i ≤ M.2 14 i - M.2 15 i := by
  have h1 := wantD_in h0 h
  unfold okCa at h
  unfold wantM
  split <;> omega
/-- a session's bill by energies and idle minutes -/
def billM (M : Mo) (k : Nat) (d n i : Int) : Int := M.2 24 (4 * k) + d * M.2 24 (4 * k + 1) / 60000 + n * M.2 24 (4 * k + 2) / 60000 + (if 10 < i then i - 10 else 0) * M.2 24 (4 * k + 3)
def oweM (M : Mo) (k : Nat) (c : Int) : Mo := setA M 25 (3 * (M.2 18 (M.2 33 k).toNat).toNat + (M.2 7 (M.2 31 k).toNat).toNat) (M.2 25 (3 * (M.2 18 (M.2 33 k).toNat).toNat + (M.2 7 (M.2 31 k).toNat).toNat) + if M.2 18 (M.2 33 k).toNat = M.2 7 (M.2 31 k).toNat then 0 else c)
def payM (M : Mo) (k : Nat) : Mo := oweM (setA (setA (setA M 34 k 3) 46 k (billM M k (M.2 39 k) (M.2 40 k) (M.2 41 k))) 22 (M.2 33 k).toNat (M.2 22 (M.2 33 k).toNat + billM M k (M.2 39 k) (M.2 40 k) (M.2 41 k))) k (95 * billM M k (M.2 39 k) (M.2 40 k) (M.2 41 k) / 100)
def heardM (M : Mo) (k : Nat) : Mo := setA (setA (setA (setA M 38 k (M.2 37 k)) 42 k (M.2 39 k)) 43 k (M.2 40 k)) 44 k (M.2 41 k)
def hearM (M : Mo) (k : Nat) : Mo := if M.2 34 k = 2 then payM (heardM M k) k else heardM M k
/-- what a bill's parts must be -/
def okT (M : Mo) (k : Nat) : Prop := (0 ≤ M.2 24 (4 * k) ∧ M.2 24 (4 * k) ≤ 1000) ∧ (0 ≤ M.2 24 (4 * k + 1) ∧ M.2 24 (4 * k + 1) ≤ 1000) ∧ (0 ≤ M.2 24 (4 * k + 2) ∧ M.2 24 (4 * k + 2) ≤ 1000) ∧ 0 ≤ M.2 24 (4 * k + 3) ∧ M.2 24 (4 * k + 3) ≤ 1000
def okW (M : Mo) (k : Nat) : Prop := (0 ≤ M.2 33 k ∧ M.2 33 k < 12) ∧ (0 ≤ M.2 18 (M.2 33 k).toNat ∧ M.2 18 (M.2 33 k).toNat < 3) ∧ (0 ≤ M.2 31 k ∧ M.2 31 k < 8) ∧ 0 ≤ M.2 7 (M.2 31 k).toNat ∧ M.2 7 (M.2 31 k).toNat < 3
theorem OkM.T {M : Mo} (h : OkM M) {k : Nat} (hk : k < 40) : okT M k := ⟨h.2.2.2.2.2.2 _ (by omega), h.2.2.2.2.2.2 _ (by omega), h.2.2.2.2.2.2 _ (by omega), h.2.2.2.2.2.2 _ (by omega)⟩
theorem OkM.W {M : Mo} (h : OkM M) {k : Nat} (hk : (k : Int) < M.1 30) : okW M k := by
  have h0 := h.1
  have h1 := (h.2.2.2.2.1 k hk).1
  unfold okSc at h0
  unfold okSe at h1
  have h2 := h.2.2.2.1 (M.2 33 k).toNat (by omega)
  have h3 := h.2.1 (M.2 31 k).toNat (by omega)
  unfold okCd at h2
  unfold okSo at h3
  unfold okW
  omega
theorem bill_in {M : Mo} {k : Nat} {d n i : Int} (h : okT M k) (hd : 0 ≤ d ∧ d ≤ 6000000) (hn : 0 ≤ n ∧ n ≤ 6000000) (hi : 0 ≤ i ∧ i ≤ 20000) : 0 ≤ billM M k d n i ∧ billM M k d n i ≤ 20300000 := by
  obtain ⟨t0, t1, t2, t3⟩ := h
  have e1 := mul_in hd.1 hd.2 t1.1 t1.2
  have e2 := mul_in hn.1 hn.2 t2.1 t2.2
  have e3 := mul_in (a := if 10 < i then i - 10 else 0) (A := 20000) (by split <;> omega) (by split <;> omega) t3.1 t3.2
  unfold billM
  omega
section REF2
variable {l : Launch} {D : va_G} {kA : Nat → ClassId} {b t0 mo : Nat} {ad : Nat → Nat} {M : Mo}

end REF2
