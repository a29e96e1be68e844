/-! what holds throughout: simple calls keep it -/
theorem iv_good {M : Mo} {jj k : Nat} {u : Int} (h : Iv M jj) (hu : u = 0 ∨ u = 1) : Iv (setA M 20 k u) jj := by
  refine ⟨⟨h.1.1, h.1.2.1, h.1.2.2.1, fun i hi => ?_, h.1.2.2.2.2⟩, h.2⟩
  have o := h.1.2.2.2.1 i hi
  unfold okCd at o ⊢
  refine ⟨o.1, o.2.1, ?_, o.2.2.2⟩
  show 0 ≤ (if i = k then u else M.2 20 i) ∧ (if i = k then u else M.2 20 i) ≤ 1
  split <;> omega
theorem iv_fault {M : Mo} {jj k : Nat} {u : Int} (h : Iv M jj) (hu : u = 0 ∨ u = 1) (hk : (k : Int) < M.1 6) : Iv (setA M 9 k u) jj := by
  refine ⟨⟨h.1.1, fun i hi => ?_, h.1.2.2⟩, h.2.1, h.2.2.1, h.2.2.2.1, h.2.2.2.2.1, ⟨h.2.2.2.2.2.1.1, h.2.2.2.2.2.1.2.1, fun i h1 h2 => ?_⟩, h.2.2.2.2.2.2⟩
  · have o := h.1.2.1 i hi
    unfold okSo at o ⊢
    refine ⟨o.1, o.2.1, ?_, o.2.2.2⟩
    show 0 ≤ (if i = k then u else M.2 9 i) ∧ (if i = k then u else M.2 9 i) ≤ 1
    split <;> omega
  · have z := h.2.2.2.2.2.1.2.2 i h1 h2
    refine ⟨?_, z.2⟩
    exact (if_neg (fun e => by subst e; have : M.1 6 ≤ (i : Int) := h1; omega)).trans z.1
theorem iv_set {M : Mo} {jj : Nat} {u : Int} (h : Iv M jj) : ((0 ≤ u ∧ u ≤ 200000) → Iv (setS M 3 u) jj) ∧ ((0 ≤ u ∧ u ≤ 100000) → Iv (setS M 4 u) jj) ∧ ((-50 ≤ u ∧ u ≤ 50) → Iv (setS M 5 u) jj) := by
  obtain ⟨⟨⟨s1, s2, s3, s4, s5⟩, hO⟩, h2⟩ := h
  exact ⟨fun hu => ⟨⟨⟨s1, hu, s3, s4, s5⟩, hO⟩, h2⟩, fun hu => ⟨⟨⟨s1, s2, hu, s4, s5⟩, hO⟩, h2⟩, fun hu => ⟨⟨⟨s1, s2, s3, hu, s5⟩, hO⟩, h2⟩⟩
theorem iv_tariff {M : Mo} {jj f : Nat} {s d n i : Int} (h : Iv M jj) (hs : 0 ≤ s ∧ s ≤ 1000) (hd : 0 ≤ d ∧ d ≤ 1000) (hn : 0 ≤ n ∧ n ≤ 1000) (hi : 0 ≤ i ∧ i ≤ 1000) : Iv (setA (setA (setA (setA M 23 (4 * f) s) 23 (4 * f + 1) d) 23 (4 * f + 2) n) 23 (4 * f + 3) i) jj := by
  obtain ⟨⟨s1, s2, s3, s4, s5, t1, t2⟩, h2⟩ := h
  refine ⟨⟨s1, s2, s3, s4, s5, fun k hk => ?_, t2⟩, h2⟩
  have := t1 k hk
  simp only [setA, if_true]
  split
  · exact hi
  · split
    · exact hn
    · split
      · exact hd
      · split
        · exact hs
        · exact this
theorem iv_socket {M : Mo} {jj n : Nat} {f w : Int} (h : Iv M jj) (hn : (n : Int) = M.1 6) (h8 : n < 8) (hf : 0 ≤ f ∧ f < 3) (hw : 1400 ≤ w ∧ w ≤ 50000) : Iv (setS (setA (setA M 7 n f) 8 n w) 6 (M.1 6 + 1)) jj := by
  have iz := h.2.2.2.2.2.1.2.2 n (by omega) h8
  obtain ⟨⟨⟨s1, s2, s3, s4, s5, s6, s7, s8, s9⟩, o2, o3, o4, o5, o6⟩, iS, iR, iC, iE, ⟨z1, z2, z3⟩, ⟨⟨b1, b2⟩, b3, b4, b5⟩⟩ := h
  have hlt : ∀ u : Nat, (u : Int) < M.1 6 + 1 → ¬ u = n → (u : Int) < M.1 6 := fun u h1 h2 => by omega
  refine ⟨⟨⟨s1, s2, s3, s4, ?_, s6, s7, s8, s9⟩, fun i hi => ?_, o3, o4, fun k hk => ?_, o6⟩, fun i hi => ?_, iR, iC, iE, ⟨z1, z2, fun i h1 h2 => ?_⟩, ⟨⟨b1, fun u i hu hi => ?_⟩, b3, fun u i hu hi => ?_, fun u i k hu hi hk => ?_⟩⟩
  · show 0 ≤ M.1 6 + 1 ∧ M.1 6 + 1 ≤ 8
    omega
  · unfold okSo
    show (0 ≤ (if i = n then f else M.2 7 i) ∧ (if i = n then f else M.2 7 i) < 3) ∧ (1400 ≤ (if i = n then w else M.2 8 i) ∧ (if i = n then w else M.2 8 i) ≤ 50000) ∧ (0 ≤ M.2 9 i ∧ M.2 9 i ≤ 1) ∧ (0 ≤ M.2 10 i ∧ M.2 10 i ≤ 1) ∧ (0 ≤ M.2 11 i ∧ M.2 11 i ≤ M.1 1) ∧ (-1 ≤ M.2 12 i ∧ M.2 12 i < M.1 30) ∧ (0 ≤ M.2 26 i ∧ M.2 26 i ≤ 512)
    by_cases e : i = n
    · subst e
      rw [if_pos rfl, if_pos rfl]
      omega
    · rw [if_neg e, if_neg e]
      exact o2 i (hlt i hi e)
  · obtain ⟨p1, p2⟩ := o5 k hk
    unfold okSe at p1 ⊢
    refine ⟨⟨⟨p1.1.1, ?_⟩, p1.2⟩, p2⟩
    have := p1.1.2
    show M.2 31 k < M.1 6 + 1
    omega
  · by_cases e : i = n
    · subst e
      exact fun y => absurd iz.2.2.2.1 y
    · exact iS i (hlt i hi e)
  · exact z3 i (by have : M.1 6 + 1 ≤ (i : Int) := h1; omega) h2
  · by_cases e : u = n
    · subst e
      have : (i : Int) < M.2 26 u := hi
      omega
    · exact b2 u i (hlt u hu e) hi
  · by_cases e : u = n
    · subst e
      have : (i : Int) < M.2 26 u := hi
      omega
    · exact b4 u i (hlt u hu e) hi
  · by_cases e : u = n
    · subst e
      have : (i : Int) < M.2 26 u := hi
      omega
    · exact b5 u i k (hlt u hu e) hi hk
theorem iv_car {M : Mo} {jj n : Nat} {c g w : Int} (h : Iv M jj) (hn : (n : Int) = M.1 13) (h8 : n < 12) (hc : 1 ≤ c ∧ c ≤ 6000000) (hg : 0 ≤ g ∧ g ≤ c) (hw : 1 ≤ w ∧ w ≤ 50000) : Iv (setS (setA (setA (setA M 14 n c) 15 n g) 16 n w) 13 (M.1 13 + 1)) jj := by
  obtain ⟨⟨⟨s1, s2, s3, s4, s5, s6, s7, s8, s9⟩, o2, o3, o4, o5, o6⟩, iS, iR, iC, iE, iZ, iB⟩ := h
  refine ⟨⟨⟨s1, s2, s3, s4, s5, ?_, s7, s8, s9⟩, o2, fun i hi => ?_, o4, fun k hk => ?_, o6⟩, iS, iR, iC, fun k hk => ?_, iZ, iB⟩
  · show 0 ≤ M.1 13 + 1 ∧ M.1 13 + 1 ≤ 12
    omega
  · unfold okCa
    show (1 ≤ (if i = n then c else M.2 14 i) ∧ (if i = n then c else M.2 14 i) ≤ 6000000) ∧ (0 ≤ (if i = n then g else M.2 15 i) ∧ (if i = n then g else M.2 15 i) ≤ (if i = n then c else M.2 14 i)) ∧ (1 ≤ (if i = n then w else M.2 16 i) ∧ (if i = n then w else M.2 16 i) ≤ 50000)
    by_cases e : i = n
    · rw [if_pos e, if_pos e, if_pos e]
      exact ⟨hc, hg, hw⟩
    · rw [if_neg e, if_neg e, if_neg e]
      exact o3 i (by have : (i : Int) < M.1 13 + 1 := hi; omega)
  · obtain ⟨p1, p2⟩ := o5 k hk
    unfold okSe at p1 ⊢
    refine ⟨⟨p1.1, ⟨p1.2.1.1, ?_⟩, p1.2.2⟩, p2⟩
    have := p1.2.1.2
    show M.2 32 k < M.1 13 + 1
    omega
  · have e := iE k hk
    have p1 := (o5 k hk).1
    unfold okSe at p1
    refine ⟨?_, e.2⟩
    show M.2 35 k ≤ (if (M.2 32 k).toNat = n then g else M.2 15 (M.2 32 k).toNat)
    rw [if_neg (by omega)]
    exact e.1
theorem iv_card {M : Mo} {jj n : Nat} {f w : Int} (h : Iv M jj) (hn : (n : Int) = M.1 17) (h8 : n < 12) (hf : 0 ≤ f ∧ f < 3) (hw : 0 ≤ w ∧ w ≤ 3) : Iv (setS (setA (setA (setA M 18 n f) 19 n w) 20 n 1) 17 (M.1 17 + 1)) jj := by
  have iz := h.2.2.2.2.2.1.2.1 n (by omega) h8
  obtain ⟨⟨⟨s1, s2, s3, s4, s5, s6, s7, s8, s9⟩, o2, o3, o4, o5, o6⟩, iS, iR, iC, iE, ⟨z1, z2, z3⟩, ⟨⟨b1, b2⟩, b3, b4, b5⟩⟩ := h
  refine ⟨⟨⟨s1, s2, s3, s4, s5, s6, ?_, s8, s9⟩, o2, o3, fun i hi => ?_, fun k hk => ?_, o6⟩, iS, iR, iC, iE, ⟨z1, fun i h1 h2 => ?_, z3⟩, ⟨⟨b1, fun u i hu hi => ?_⟩, b3, b4, b5⟩⟩
  · show 0 ≤ M.1 17 + 1 ∧ M.1 17 + 1 ≤ 12
    omega
  · unfold okCd
    show (0 ≤ (if i = n then f else M.2 18 i) ∧ (if i = n then f else M.2 18 i) < 3) ∧ (0 ≤ (if i = n then w else M.2 19 i) ∧ (if i = n then w else M.2 19 i) ≤ 3) ∧ (0 ≤ (if i = n then 1 else M.2 20 i) ∧ (if i = n then 1 else M.2 20 i) ≤ 1) ∧ (0 ≤ M.2 21 i ∧ M.2 21 i ≤ 1)
    by_cases e : i = n
    · subst e
      rw [if_pos rfl, if_pos rfl, if_pos rfl]
      omega
    · rw [if_neg e, if_neg e, if_neg e]
      exact o4 i (by have : (i : Int) < M.1 17 + 1 := hi; omega)
  · obtain ⟨p1, p2⟩ := o5 k hk
    unfold okSe at p1 ⊢
    refine ⟨⟨p1.1, p1.2.1, ⟨p1.2.2.1.1, ?_⟩, p1.2.2.2⟩, p2⟩
    have := p1.2.2.1.2
    show M.2 33 k < M.1 17 + 1
    omega
  · exact z2 i (by have : M.1 17 + 1 ≤ (i : Int) := h1; omega) h2
  · have := b2 u i hu hi
    refine ⟨⟨this.1.1, ?_⟩, this.2⟩
    have h9 := this.1.2
    show M.2 27 (1500 * u + i) < M.1 17 + 1
    omega
theorem iv_up {M : Mo} {j k : Nat} (h : Iv M j) (hk : j ≤ k) : Iv M k := by
  obtain ⟨h1, h2, h3, h4, h5, h6, b1, b2, b3⟩ := h
  exact ⟨h1, h2, h3, h4, h5, h6, b1, fun u hu => Int.le_trans (b2 u hu) (by omega), b3⟩
