/-! the reference: serving by ranks -/
def srvK (B : Nat → Int) (g : Int) (k : Nat) (s : (Nat → Int) × Int) : (Nat → Int) × Int := if (1400 ≤ B k ↔ g = 1) ∧ (if g = 1 then 1400 else B k) ≤ s.2 then (fun i => if i = k then (if g = 1 then 1400 else B k) else s.1 i, s.2 - (if g = 1 then 1400 else B k)) else s
def srvAt (M : Mo) (n : Nat) (B : Nat → Int) (g : Int) (c : Nat) (s : (Nat → Int) × Int) : (Nat → Int) × Int := if c % 64 < n ∧ (M.2 34 (c % 64) = 1 ∧ M.2 10 (M.2 31 (c % 64)).toNat = 0) ∧ kap M (c % 64) = c then srvK B g (c % 64) s else s
def srvTo (M : Mo) (n : Nat) (B : Nat → Int) (g : Int) : Nat → (Nat → Int) × Int → (Nat → Int) × Int
  | 0, s => s
  | c + 1, s => srvAt M n B g c (srvTo M n B g c s)
theorem kap_in {M : Mo} (hO : OkM M) {k : Nat} (hk : (k : Int) < M.1 30) : 0 ≤ kap M k ∧ kap M k < 256 ∧ (kap M k).toNat % 64 = k := by
  have h0 := hO.1
  unfold okSc at h0
  have h1 := (hO.2.2.2.2.1 k hk).1
  unfold okSe at h1
  have h3 := hO.2.2.2.1 (M.2 33 k).toNat (by omega)
  unfold okCd at h3
  unfold kap
  omega
theorem srv_skip {M : Mo} {n : Nat} {B : Nat → Int} {g : Int} {s : (Nat → Int) × Int} {c : Nat} : ∀ d : Nat, (∀ j : Nat, j < n → svd M j → kap M j < c ∨ (c + d : Nat) ≤ kap M j) → srvTo M n B g (c + d) s = srvTo M n B g c s := by
  intro d
  induction d with
  | zero => exact fun _ => rfl
  | succ d ih =>
    intro h
    show srvAt M n B g (c + d) (srvTo M n B g (c + d) s) = _
    rw [ih (fun j h1 h2 => by rcases h j h1 h2 with z | z <;> omega)]
    unfold srvAt
    rw [if_neg]
    rintro ⟨h1, h2, h3⟩
    rcases h _ h1 h2 with z | z <;> omega
theorem srv_hit {M : Mo} {n : Nat} {B : Nat → Int} {g : Int} {s : (Nat → Int) × Int} {k : Nat} (hO : OkM M) (hn : (n : Int) = M.1 30) (hk : k < n) (hs : svd M k) : srvTo M n B g ((kap M k).toNat + 1) s = srvK B g k (srvTo M n B g (kap M k).toNat s) := by
  obtain ⟨h1, h2, h3⟩ := kap_in hO (k := k) (by omega)
  show srvAt M n B g (kap M k).toNat (srvTo M n B g (kap M k).toNat s) = _
  unfold srvAt
  rw [h3, if_pos ⟨hk, hs, by omega⟩]
theorem srv_le {M : Mo} {n : Nat} {B : Nat → Int} {g : Int} {P : Nat → Int} {left : Int} (hB : ∀ k, k < n → 0 ≤ B k) (h0 : 0 ≤ left) (c : Nat) : 0 ≤ (srvTo M n B g c (P, left)).2 ∧ (srvTo M n B g c (P, left)).2 ≤ left := by
  induction c with
  | zero => exact ⟨h0, Int.le_refl _⟩
  | succ c ih =>
    show 0 ≤ (srvAt M n B g c (srvTo M n B g c (P, left))).2 ∧ (srvAt M n B g c (srvTo M n B g c (P, left))).2 ≤ left
    unfold srvAt
    split
    · rename_i h
      have hb := hB _ h.1
      unfold srvK
      generalize hm : (if g = 1 then 1400 else B (c % 64)) = mm
      have hm0 : 0 ≤ mm := by
        rw [← hm]
        split <;> omega
      split
      · dsimp only
        omega
      · exact ih
    · exact ih
section REF4
variable {l : Launch} {D : va_G} {kA : Nat → ClassId} {b t0 mo : Nat} {ad : Nat → Nat} {M : Mo}

end REF4
