/-! the law begins: the yard, the arrays -/
def L0 (y t0 d c : Nat) (lf fg gg : Nat → Nat) : Ly := (fun k i => if k = 11 then y else if k = 1 then lf i else if k = 5 then fg i else if k = 9 then gg i else 0, fun j => if j = 0 then d else t0, fun j => if j = 0 then c else 0)
def Z0 (X : Mm) (y t0 d c : Nat) (lf fg gg : Nat → Nat) : Zs := (fun k => if k = 11 then 1 else if k = 1 then 6 else if k = 5 then 3 else if k = 9 then 3 else 0, fun f i => gI X f (lA (L0 y t0 d c lf fg gg) (f / 64 + 1) i), fun f i => if f = 256 then some i else if 640 ≤ f ∧ f ≤ 645 then some (f - 640) else none, fun j => if j = 0 then List.range 3 else [], fun _ _ => 0, fun _ => 0)
theorem iv_M0 : Iv M0 0 := by
  have n0 : ∀ i : Nat, ¬ (i : Int) < 0 := fun i h => by omega
  have z : ∀ q i, q ≠ 12 → M0.2 q i = 0 := fun q i hq => if_neg (fun y => hq y.1)
  have z12 : ∀ i, i < 8 → M0.2 12 i = -1 := fun i hi => if_pos ⟨rfl, hi⟩
  refine ⟨⟨?_, fun i hi => absurd hi (n0 i), fun i hi => absurd hi (n0 i), fun i hi => absurd hi (n0 i), fun i hi => absurd hi (n0 i), fun i hi => ?_, fun i hi => ?_⟩, fun i hi => absurd hi (n0 i), fun i hi => absurd hi (n0 i), fun i k hi => absurd hi (n0 i), fun i hi => absurd hi (n0 i), ⟨fun k h1 h2 => ?_, fun i h1 h2 => ?_, fun i h1 h2 => ?_⟩, ⟨⟨fun u hu => ?_, fun u i hu => absurd hu (n0 u)⟩, fun u hu => ?_, fun u i hu => absurd hu (n0 u), fun u i k hu => absurd hu (n0 u)⟩⟩
  · unfold okSc
    show (0 ≤ (0 : Int) ∧ (0 : Int) ≤ 20000) ∧ (0 ≤ (10000 : Int) ∧ (10000 : Int) ≤ 200000) ∧ (0 ≤ (0 : Int) ∧ (0 : Int) ≤ 100000) ∧ (-50 ≤ (20 : Int) ∧ (20 : Int) ≤ 50) ∧ (0 ≤ (0 : Int) ∧ (0 : Int) ≤ 8) ∧ (0 ≤ (0 : Int) ∧ (0 : Int) ≤ 12) ∧ (0 ≤ (0 : Int) ∧ (0 : Int) ≤ 12) ∧ (0 ≤ (0 : Int) ∧ (0 : Int) ≤ 40) ∧ (0 ≤ (0 : Int) ∧ (0 : Int) ≤ 0)
    decide
  · rw [z 23 i (by decide)]
    omega
  · rw [z 24 i (by decide)]
    omega
  · exact ⟨z 34 k (by decide), z 35 k (by decide), z 36 k (by decide), z 37 k (by decide), z 38 k (by decide), z 39 k (by decide), z 40 k (by decide), z 41 k (by decide), z 42 k (by decide), z 43 k (by decide), z 44 k (by decide), z 46 k (by decide), z 47 k (by decide)⟩
  · exact ⟨z 21 i (by decide), z 22 i (by decide)⟩
  · exact ⟨z 9 i (by decide), z 10 i (by decide), z 11 i (by decide), z12 i h2, z 26 i (by decide)⟩
  · rw [z 26 u (by decide)]
    omega
  · rw [z 26 u (by decide)]
    omega
theorem bud_M0 : budC M0 = 320 ∧ budS M0 = 2389760 := ⟨rfl, rfl⟩
section BEG
variable {t0 ao mo y d c : Nat} {ad lf fg gg : Nat → Nat} {X : Mm}
theorem cx_begin {Mr : Mo} (h : YI t0 X y lf fg gg 3 d c) (hR : RR mo ad X Mr) : CX t0 ao mo ad (L0 y t0 d c lf fg gg) X (Z0 X y t0 d c lf fg gg) Mr := by
  obtain ⟨h1, h2, h3, h4, h5, h6, h7, h8, h9⟩ := h
  have lk : ∀ k i, i < yC (Z0 X y t0 d c lf fg gg) k → (k = 11 ∧ i < 1) ∨ (k = 1 ∧ i < 6) ∨ (k = 5 ∧ i < 3) ∨ (k = 9 ∧ i < 3) := fun k i hi => by
    have hi2 : i < (if k = 11 then 1 else if k = 1 then 6 else if k = 5 then 3 else if k = 9 then 3 else 0) := hi
    by_cases e1 : k = 11
    · rw [if_pos e1] at hi2
      omega
    · by_cases e2 : k = 1
      · rw [if_neg e1, if_pos e2] at hi2
        omega
      · by_cases e3 : k = 5
        · rw [if_neg e1, if_neg e2, if_pos e3] at hi2
          omega
        · by_cases e4 : k = 9
          · rw [if_neg e1, if_neg e2, if_neg e3, if_pos e4] at hi2
            omega
          · rw [if_neg e1, if_neg e2, if_neg e3, if_neg e4] at hi2
            omega
  refine ⟨hR, h2, fun k i k1 k2 hi => ?_, fun k i j hi hj e => ?_, fun f i f1 f2 hi => rfl, fun f i f1 f2 hi hp => ?_, fun j hj => ?_, fun i j hi hj hk e => ?_, fun k hk => absurd hk (Nat.not_lt_zero k), rfl⟩
  · rcases lk k i hi with ⟨rfl, hi⟩ | ⟨rfl, hi⟩ | ⟨rfl, hi⟩ | ⟨rfl, hi⟩
    · exact h1
    · show gK X (lf i) = 1
      by_cases e : i = 0
      · subst e
        exact h6.1
      · exact (h7 i (by omega) hi).1
    · exact (h8 i hi).1
    · exact (h8 i hi).2.2.2.1
  · rcases lk k i hi with ⟨rfl, hi⟩ | ⟨rfl, hi⟩ | ⟨rfl, hi⟩ | ⟨rfl, hi⟩
    · have hj2 : j < 1 := hj
      omega
    · exact h5 i j hi hj e
    · exact (h9 i j hi hj).1 e
    · exact (h9 i j hi hj).2 e
  · have hk := lk (f / 64 + 1) i hi
    have hf : f = 256 ∨ (640 ≤ f ∧ f ≤ 645) := by
      unfold isP at hp
      simp only [Bool.or_eq_true, beq_iff_eq] at hp
      omega
    rcases hf with rfl | ⟨f3, f4⟩
    · have hi3 : i < 3 := hi
      exact ⟨(h8 i hi3).2.1, fun j hj => by cases hj; exact hi3⟩
    · obtain ⟨k, rfl⟩ : ∃ k, f = 640 + k := ⟨f - 640, by omega⟩
      have hk6 : k < 6 := by omega
      have e11 : (640 + k) / 64 + 1 = 11 := by omega
      have et : tgF (640 + k) = 1 := by
        unfold tgF
        rw [if_neg (by omega), if_neg (by omega), if_neg (by omega), if_neg (by omega), if_neg (by omega), if_neg (by omega), if_neg (by omega), if_neg (by omega), if_neg (by omega), if_neg (by omega), if_neg (by omega), if_neg (by omega)]
      have ey : yT (Z0 X y t0 d c lf fg gg) (640 + k) i = some k := by
        show (if 640 + k = 256 then some i else if 640 ≤ 640 + k ∧ 640 + k ≤ 645 then some (640 + k - 640) else none) = some k
        rw [if_neg (by omega), if_pos (by omega), show 640 + k - 640 = k by omega]
      rw [ey, et, e11]
      exact ⟨h4 k hk6, fun j hj => by cases hj; exact hk6⟩
  · have hj6 : j < 6 := hj
    by_cases e : j = 0
    · subst e
      exact ⟨h6, fun v hv => List.mem_range.mp hv⟩
    · have e1 : yL (Z0 X y t0 d c lf fg gg) j = [] := if_neg e
      have e2 : lD (L0 y t0 d c lf fg gg) j = t0 := if_neg e
      have e3 : lC (L0 y t0 d c lf fg gg) j = 0 := if_neg e
      rw [e1, e2, e3]
      exact ⟨h7 j (by omega) hj6, fun v hv => by cases hv⟩
  · have hi6 : i < 6 := hi
    have hj6 : j < 6 := hj
    by_cases ei : i = 0
    · by_cases ej : j = 0
      · omega
      · have e2 : lD (L0 y t0 d c lf fg gg) j = t0 := if_neg ej
        rw [e, e2] at hk
        omega
    · have e2 : lD (L0 y t0 d c lf fg gg) i = t0 := if_neg ei
      rw [e2] at hk
      omega
theorem zm_begin (h : YI t0 X y lf fg gg 3 d c) : ZM (Z0 X y t0 d c lf fg gg) M0 := by
  obtain ⟨h1, h2, ⟨i1, i2, i3, i4, i5⟩, h4, h5, h6, h7, h8, h9⟩ := h
  refine ⟨⟨⟨rfl, rfl, rfl, rfl, rfl, rfl, rfl, rfl, rfl, rfl⟩, ⟨rfl, rfl, rfl, rfl, rfl, rfl⟩, ⟨⟨rfl, rfl, rfl, rfl, rfl, rfl⟩, i2, i3, i4⟩, fun i hi => ?_, fun i hi => absurd hi (Nat.not_lt_zero i), fun i hi => absurd hi (Nat.not_lt_zero i), fun i hi => absurd hi (Nat.not_lt_zero i), fun i hi => absurd hi (Nat.not_lt_zero i), fun i hi => absurd hi (Nat.not_lt_zero i)⟩, ⟨i1, i5⟩, fun i hi => absurd hi (Nat.not_lt_zero i), fun i hi => absurd hi (Nat.not_lt_zero i), fun i hi => absurd hi (Nat.not_lt_zero i)⟩
  obtain ⟨a1, a2, a3, a4, a5, a6, a7, a8⟩ := h8 i hi
  have z : ∀ j, M0.2 23 j = 0 := fun j => rfl
  refine ⟨?_, i, rfl, hi, ?_, ?_, ?_, ?_⟩
  · have e : acF M0 i = 0 := by
      have z25 : ∀ j, M0.2 25 j = 0 := fun j => rfl
      show (0 : Int) + (0 + (M0.2 25 (3 * 0 + i) - M0.2 25 (3 * i + 0)) + (M0.2 25 (3 * 1 + i) - M0.2 25 (3 * i + 1)) + (M0.2 25 (3 * 2 + i) - M0.2 25 (3 * i + 2))) = 0
      rw [z25, z25, z25, z25, z25, z25]
      rfl
    rw [e]
    exact a3
  · rw [z]
    exact a5
  · rw [z]
    exact a6
  · rw [z]
    exact a7
  · rw [z]
    exact a8
end BEG
/-- the arrays made so far -/
def AI (X : Mm) (ad : Nat → Nat) (n : Nat) : Prop := (∀ k, k < n → gK X (ad k) = 20 ∧ gN X (ad k) = adN k ∧ ∀ i, gA X (ad k) i = 0) ∧ ∀ j k, j < n → k < n → ad j = ad k → j = k
theorem AI.step {X : Mm} {ad : Nat → Nat} {n q m : Nat} (h : AI X ad n) (hq : gK X q = 0) (hm : adN n = m) : AI (alA X q 20 m) (u1 ad n q) (n + 1) := by
  obtain ⟨h1, h2⟩ := h
  have hne : ∀ k, k < n → ad k ≠ q := fun k hk => ne_of_0 hq (by rw [(h1 k hk).1]; decide)
  refine ⟨fun k hk => ?_, fun j k hj hk e => ?_⟩
  · by_cases e : k = n
    · subst e
      rw [show u1 ad k q k = q from if_pos rfl]
      exact ⟨if_pos rfl, (if_pos rfl).trans hm.symm, fun i => if_pos rfl⟩
    · rw [show u1 ad n q k = ad k from if_neg e]
      obtain ⟨g1, g2, g3⟩ := h1 k (by omega)
      have hn := hne k (by omega)
      exact ⟨(if_neg hn).trans g1, (if_neg hn).trans g2, fun i => (if_neg hn).trans (g3 i)⟩
  · by_cases e1 : j = n
    · by_cases e2 : k = n
      · omega
      · rw [show u1 ad n q j = q from if_pos e1, show u1 ad n q k = ad k from if_neg e2] at e
        exact absurd e.symm (hne k (by omega))
    · by_cases e2 : k = n
      · rw [show u1 ad n q k = q from if_pos e2, show u1 ad n q j = ad j from if_neg e1] at e
        exact absurd e (hne j (by omega))
      · rw [show u1 ad n q j = ad j from if_neg e1, show u1 ad n q k = ad k from if_neg e2] at e
        exact h2 j k (by omega) (by omega) e
def Mr0 : Mo := (fun _ => 0, fun _ _ => 0)
theorem AI.rr {X : Mm} {ad : Nat → Nat} (h : AI X ad 5) : RR 0 ad X Mr0 := by
  obtain ⟨h1, h2⟩ := h
  have hk : ∀ k, adK k ≠ 0 → k < 5 ∧ adK k = 20 := fun k h0 => by
    rcases adK_kind k with z | z
    · exact absurd z h0
    · exact ⟨z.2, z.1⟩
  exact ⟨fun k h0 => ⟨(h1 k (hk k h0).1).1.trans (hk k h0).2.symm, (h1 k (hk k h0).1).2.1⟩, fun j k a b => h2 j k (hk j a).1 (hk k b).1, fun k i h0 => (h1 k (hk k h0).1).2.2 i⟩
/-- the numbers while the yard is laid out -/
def IN (M Mr : Mo) (k6 k13 k17 : Nat) : Prop := (M.1 6 = (k6 : Int) ∧ M.1 13 = (k13 : Int) ∧ M.1 17 = (k17 : Int) ∧ M.1 30 = 0 ∧ M.1 1 = 0 ∧ M.1 2 = 0) ∧ (∀ i, M.2 22 i = 0) ∧ (∀ i, i < 8 → M.2 12 i = -1) ∧ (∀ i, M.2 10 i = 0) ∧ (∀ i, i < k13 → M.2 15 i = Mr.2 0 i) ∧ budC M = 320 ∧ budS M = 2389760
theorem in_0 (Mr : Mo) : IN M0 Mr 0 0 0 := ⟨⟨rfl, rfl, rfl, rfl, rfl, rfl⟩, fun i => rfl, fun i hi => if_pos ⟨rfl, hi⟩, fun i => rfl, fun i hi => absurd hi (Nat.not_lt_zero i), bud_M0.1, bud_M0.2⟩
theorem ts_begin {t0 y : Nat} {ad : Nat → Nat} {X : Mm} {Mr M : Mo} (hS : SX t0 ad y X Mr M) (h : IN M Mr 3 4 4) (h3 : ∀ i, i < 3 → Mr.2 3 i = -1) (h4 : ∀ i, Mr.2 4 i = 0) : TS t0 ad y X Mr M 0 0 0 (20 * ((0 : Nat) : Int)) := by
  obtain ⟨⟨c6, c13, c17, c30, c1, c2⟩, r22, r12, r10, r15, -⟩ := h
  refine ⟨hS, ⟨⟨c6, c13, c17, c30⟩, fun k hk => ?_, ?_, fun k hk => absurd hk (Nat.not_lt_zero k)⟩, Nat.zero_le _, fun j hj => absurd hj (Nat.not_lt_zero j), fun i hi => ⟨?_, ?_⟩, ⟨c1, by decide⟩, Or.inl rfl, fun _ => ⟨fun i _ => r10 i, c2⟩⟩
  · rw [r15 k hk]
    exact (Int.add_zero _).symm
  · show sumF (M.2 22) 4 = 0
    rw [sumF_4, r22, r22, r22, r22]
    rfl
  · rw [h3 i hi, r12 i (by omega)]
  · rw [h4 i, r10 i]
