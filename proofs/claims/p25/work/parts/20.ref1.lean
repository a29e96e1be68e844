/-! the reference's small methods -/
/-- what holds of the numbers: scalars; sockets; cars; cards; sessions -/
def okSc (M : Mo) : Prop := (0 ≤ M.1 1 ∧ M.1 1 ≤ 20000) ∧ (0 ≤ M.1 3 ∧ M.1 3 ≤ 200000) ∧ (0 ≤ M.1 4 ∧ M.1 4 ≤ 100000) ∧ (-50 ≤ M.1 5 ∧ M.1 5 ≤ 50) ∧ (0 ≤ M.1 6 ∧ M.1 6 ≤ 8) ∧ (0 ≤ M.1 13 ∧ M.1 13 ≤ 12) ∧ (0 ≤ M.1 17 ∧ M.1 17 ≤ 12) ∧ (0 ≤ M.1 30 ∧ M.1 30 ≤ 40) ∧ (0 ≤ M.1 2 ∧ M.1 2 ≤ M.1 1)
def okSo (M : Mo) (i : Nat) : Prop := (0 ≤ M.2 7 i ∧ M.2 7 i < 3) ∧ (1400 ≤ M.2 8 i ∧ M.2 8 i ≤ 50000) ∧ (0 ≤ M.2 9 i ∧ M.2 9 i ≤ 1) ∧ (0 ≤ M.2 10 i ∧ M.2 10 i ≤ 1) ∧ (0 ≤ M.2 11 i ∧ M.2 11 i ≤ M.1 1) ∧ (-1 ≤ M.2 12 i ∧ M.2 12 i < M.1 30) ∧ (0 ≤ M.2 26 i ∧ M.2 26 i ≤ 512)
def okCa (M : Mo) (i : Nat) : Prop := (1 ≤ M.2 14 i ∧ M.2 14 i ≤ 6000000) ∧ (0 ≤ M.2 15 i ∧ M.2 15 i ≤ M.2 14 i) ∧ (1 ≤ M.2 16 i ∧ M.2 16 i ≤ 50000)
def okCd (M : Mo) (i : Nat) : Prop := (0 ≤ M.2 18 i ∧ M.2 18 i < 3) ∧ (0 ≤ M.2 19 i ∧ M.2 19 i ≤ 3) ∧ (0 ≤ M.2 20 i ∧ M.2 20 i ≤ 1) ∧ (0 ≤ M.2 21 i ∧ M.2 21 i ≤ 1)
def okSe (M : Mo) (i : Nat) : Prop := (0 ≤ M.2 31 i ∧ M.2 31 i < M.1 6) ∧ (0 ≤ M.2 32 i ∧ M.2 32 i < M.1 13) ∧ (0 ≤ M.2 33 i ∧ M.2 33 i < M.1 17) ∧ (1 ≤ M.2 34 i ∧ M.2 34 i ≤ 3) ∧ (0 ≤ M.2 35 i ∧ M.2 35 i ≤ 6000000) ∧ (0 ≤ M.2 36 i ∧ M.2 36 i ≤ 50000) ∧ (0 ≤ M.2 38 i ∧ M.2 38 i ≤ M.2 37 i ∧ M.2 37 i ≤ M.1 1) ∧ (0 ≤ M.2 45 i ∧ M.2 45 i ≤ 50000)
def okBi (M : Mo) (i : Nat) : Prop := (0 ≤ M.2 39 i ∧ M.2 39 i ≤ 6000000) ∧ (0 ≤ M.2 40 i ∧ M.2 40 i ≤ 6000000) ∧ (0 ≤ M.2 41 i ∧ M.2 41 i ≤ 20000) ∧ (0 ≤ M.2 42 i ∧ M.2 42 i ≤ 6000000) ∧ (0 ≤ M.2 43 i ∧ M.2 43 i ≤ 6000000) ∧ (0 ≤ M.2 44 i ∧ M.2 44 i ≤ 20000) ∧ (0 ≤ M.2 46 i ∧ M.2 46 i ≤ 21000000) ∧ (0 ≤ M.2 47 i ∧ M.2 47 i ≤ 1)
def okTa (M : Mo) : Prop := (∀ i, i < 12 → 0 ≤ M.2 23 i ∧ M.2 23 i ≤ 1000) ∧ ∀ i, i < 160 → 0 ≤ M.2 24 i ∧ M.2 24 i ≤ 1000
def OkM (M : Mo) : Prop := okSc M ∧ (∀ i : Nat, (i : Int) < M.1 6 → okSo M i) ∧ (∀ i : Nat, (i : Int) < M.1 13 → okCa M i) ∧ (∀ i : Nat, (i : Int) < M.1 17 → okCd M i) ∧ (∀ i : Nat, (i : Int) < M.1 30 → okSe M i ∧ okBi M i) ∧ okTa M
section REF1
variable {l : Launch} {D : va_G} {kA : Nat → ClassId} {b t0 mo : Nat} {ad : Nat → Nat} {M : Mo}

/-- a session that is served by ranks; its place in the order -/
def svd (M : Mo) (k : Nat) : Prop := M.2 34 k = 1 ∧ M.2 10 (M.2 31 k).toNat = 0
def kap (M : Mo) (k : Nat) : Int := 64 * (3 - M.2 19 (M.2 33 k).toNat) + k
def capM (M : Mo) (k : Nat) : Int := if M.1 1 - M.2 11 (M.2 31 k).toNat < 5 then M.2 45 k else 1400
end REF1
