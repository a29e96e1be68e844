/-! what holds throughout: bookings as lists; disputes, leaving, links, bookings, plugging -/
def qP (M : Mo) (q : Int × Int × Int) : Prop := (0 ≤ q.1 ∧ q.1 < M.1 17) ∧ (0 ≤ q.2.1 ∧ q.2.1 ≤ 20000) ∧ (0 ≤ q.2.2 ∧ q.2.2 ≤ 20600) ∧ M.1 1 < q.2.1 + 15 ∧ q.2.1 + 15 ≤ q.2.2
def qD (p q : Int × Int × Int) : Prop := p.2.2 ≤ q.2.1 ∨ q.2.2 ≤ p.2.1
theorem bkL_get {M : Mo} {u i : Nat} {q : Int × Int × Int} : (bkL M u)[i]? = some q ↔ (i : Int) < M.2 26 u ∧ q = (M.2 27 (1500 * u + i), M.2 28 (1500 * u + i), M.2 29 (1500 * u + i)) := by
  constructor
  · intro hy
    have hl := (List.getElem?_eq_some_iff.mp hy).1
    unfold bkL at hy hl
    rw [blF_len] at hl
    have h1 : (i : Int) < M.2 26 u := by omega
    rw [blF_get h1] at hy
    cases hy
    exact ⟨h1, rfl⟩
  · rintro ⟨h1, rfl⟩
    unfold bkL
    exact blF_get h1
theorem ivB_iff {M : Mo} {j : Nat} : ivB M j ↔ (∀ u, u < 8 → (0 ≤ M.2 26 u ∧ M.2 26 u ≤ 512) ∧ M.2 26 u ≤ (j : Int)) ∧ ∀ u : Nat, (u : Int) < M.1 6 → (∀ q ∈ bkL M u, qP M q) ∧ (bkL M u).Pairwise qD := by
  constructor
  · rintro ⟨⟨b1, b2⟩, b3, b4, b5⟩
    refine ⟨fun u hu => ⟨b1 u hu, b3 u hu⟩, fun u hu => ⟨fun q hq => ?_, ?_⟩⟩
    · obtain ⟨i, hi⟩ := List.mem_iff_getElem?.mp hq
      obtain ⟨h1, rfl⟩ := bkL_get.mp hi
      obtain ⟨c1, c2, c3⟩ := b2 u i hu h1
      obtain ⟨c4, c5⟩ := b4 u i hu h1
      exact ⟨c1, c2, c3, c4, c5⟩
    · rw [List.pairwise_iff_getElem]
      intro i k hi hk hik
      have e1 := bkL_get.mp (List.getElem?_eq_getElem hi)
      have e2 := bkL_get.mp (List.getElem?_eq_getElem hk)
      rw [e1.2, e2.2]
      exact b5 u i k hu e1.1 e2.1 (by omega)
  · rintro ⟨h1, h2⟩
    refine ⟨⟨fun u hu => (h1 u hu).1, fun u i hu hi => ?_⟩, fun u hu => (h1 u hu).2, fun u i hu hi => ?_, fun u i k hu hi hk hik => ?_⟩
    · have h := (h2 u hu).1 _ (List.mem_of_getElem? (bkL_get.mpr ⟨hi, rfl⟩))
      exact ⟨h.1, h.2.1, h.2.2.1⟩
    · have h := (h2 u hu).1 _ (List.mem_of_getElem? (bkL_get.mpr ⟨hi, rfl⟩))
      exact h.2.2.2
    · have hp := List.pairwise_iff_getElem.mp (h2 u hu).2
      obtain ⟨li, gi⟩ := List.getElem?_eq_some_iff.mp (bkL_get.mpr ⟨hi, rfl⟩)
      obtain ⟨lk, gk⟩ := List.getElem?_eq_some_iff.mp (bkL_get.mpr ⟨hk, rfl⟩)
      rcases Nat.lt_or_ge i k with e | e
      · have h := hp i k li lk e
        rw [gi, gk] at h
        exact h
      · have h := hp k i lk li (by omega)
        rw [gi, gk] at h
        exact h.symm
theorem ivB_sub {M M2 : Mo} {j k : Nat} (h : ivB M j) (hjk : j ≤ k) (h1 : ∀ u, u < 8 → 0 ≤ M2.2 26 u ∧ M2.2 26 u ≤ M.2 26 u) (h6 : M2.1 6 = M.1 6) (h17 : M2.1 17 = M.1 17) (hs : ∀ u : Nat, (u : Int) < M.1 6 → List.Sublist (bkL M2 u) (bkL M u)) (hn : ∀ u : Nat, (u : Int) < M.1 6 → ∀ q ∈ bkL M2 u, M2.1 1 < q.2.1 + 15) : ivB M2 k := by
  obtain ⟨a, b⟩ := ivB_iff.mp h
  refine ivB_iff.mpr ⟨fun u hu => ?_, fun u hu => ?_⟩
  · have e1 := a u hu
    have e2 := h1 u hu
    omega
  · rw [h6] at hu
    obtain ⟨b1, b2⟩ := b u hu
    refine ⟨fun q hq => ?_, List.Pairwise.sublist (hs u hu) b2⟩
    obtain ⟨c1, c2, c3, c4, c5⟩ := b1 q ((hs u hu).subset hq)
    exact ⟨by rw [h17]; exact c1, c2, c3, hn u hu q hq, c5⟩
theorem iv_25 {M : Mo} {jj a : Nat} {v : Int} (h : Iv M jj) : Iv (setA M 25 a v) jj := h
theorem iv_22 {M : Mo} {jj c : Nat} {v : Int} (h : Iv M jj) (hc : (c : Int) < M.1 17) : Iv (setA M 22 c v) jj := by
  refine ⟨h.1, h.2.1, h.2.2.1, h.2.2.2.1, h.2.2.2.2.1, ⟨h.2.2.2.2.2.1.1, fun i h1 h2 => ?_, h.2.2.2.2.2.1.2.2⟩, h.2.2.2.2.2.2⟩
  have z := h.2.2.2.2.2.1.2.1 i h1 h2
  exact ⟨z.1, (if_neg (fun e => by subst e; have : M.1 17 ≤ (i : Int) := h1; omega)).trans z.2⟩
theorem iv_47 {M : Mo} {jj k : Nat} {u : Int} (h : Iv M jj) (hu : u = 0 ∨ u = 1) (hk : (k : Int) < M.1 30) : Iv (setA M 47 k u) jj := by
  refine ⟨⟨h.1.1, h.1.2.1, h.1.2.2.1, h.1.2.2.2.1, fun q hq => ?_, h.1.2.2.2.2.2⟩, h.2.1, h.2.2.1, h.2.2.2.1, h.2.2.2.2.1, ⟨fun q h1 h2 => ?_, h.2.2.2.2.2.1.2⟩, h.2.2.2.2.2.2⟩
  · obtain ⟨p1, p2⟩ := h.1.2.2.2.2.1 q hq
    refine ⟨p1, ?_⟩
    unfold okBi at p2 ⊢
    refine ⟨p2.1, p2.2.1, p2.2.2.1, p2.2.2.2.1, p2.2.2.2.2.1, p2.2.2.2.2.2.1, p2.2.2.2.2.2.2.1, ?_⟩
    have p3 := p2.2.2.2.2.2.2.2
    show 0 ≤ (if q = k then u else M.2 47 q) ∧ (if q = k then u else M.2 47 q) ≤ 1
    split <;> omega
  · obtain ⟨a1, a2, a3, a4, a5, a6, a7, a8, a9, a10, a11, a12, a13⟩ := h.2.2.2.2.2.1.1 q h1 h2
    exact ⟨a1, a2, a3, a4, a5, a6, a7, a8, a9, a10, a11, a12, (if_neg (fun e => by subst e; have : M.1 30 ≤ (q : Int) := h1; omega)).trans a13⟩
def ivE7 (M : Mo) (k : Nat) : Prop := M.2 35 k ≤ M.2 15 (M.2 32 k).toNat ∧ M.2 39 k + M.2 40 k = M.2 35 k ∧ M.2 41 k ≤ M.2 37 k ∧ M.2 42 k ≤ M.2 39 k ∧ M.2 43 k ≤ M.2 40 k ∧ M.2 44 k ≤ M.2 41 k ∧ (M.2 38 k = M.2 37 k → M.2 42 k = M.2 39 k ∧ M.2 43 k = M.2 40 k ∧ M.2 44 k = M.2 41 k)
def ivE9 (M : Mo) (k : Nat) : Prop := (M.2 34 k = 2 → M.2 38 k < M.2 37 k) ∧ (M.2 34 k = 3 → M.2 38 k = M.2 37 k ∧ M.2 46 k = billM M k (M.2 39 k) (M.2 40 k) (M.2 41 k))
theorem ivE_mk {M : Mo} (h : ∀ k : Nat, (k : Int) < M.1 30 → ivE7 M k ∧ ivE9 M k) : ivE M := fun k hk => by
  obtain ⟨⟨a1, a2, a3, a4, a5, a6, a7⟩, a8, a9⟩ := h k hk
  exact ⟨a1, a2, a3, a4, a5, a6, a7, a8, a9⟩
theorem ivE_of {M : Mo} (h : ivE M) {k : Nat} (hk : (k : Int) < M.1 30) : ivE7 M k ∧ ivE9 M k := by
  obtain ⟨a1, a2, a3, a4, a5, a6, a7, a8, a9⟩ := h k hk
  exact ⟨⟨a1, a2, a3, a4, a5, a6, a7⟩, a8, a9⟩
/-- a session is billed -/
theorem iv_pay {M : Mo} {jj k : Nat} (hO : OkM M) (iS : ivS M) (iR : ivR M) (iC : ivC M) (i7 : ∀ q : Nat, (q : Int) < M.1 30 → ivE7 M q) (i9 : ∀ q : Nat, (q : Int) < M.1 30 → q ≠ k → ivE9 M q) (iZ : ivZ M) (iB : ivB M jj) (hk : (k : Int) < M.1 30) (h2 : M.2 34 k = 2) (h38 : M.2 38 k = M.2 37 k) : Iv (payM M k) jj := by
  have ok := (hO.2.2.2.2.1 k hk).1
  unfold okSe at ok
  refine ⟨ok_pay hO hk, fun i hi hn => ?_, fun q hq h1 => ?_, fun a c ha hc h1 h3 => ?_, ivE_mk (fun q hq => ⟨i7 q hq, ?_⟩), ⟨fun q q1 q2 => ?_, fun i q1 q2 => ?_, iZ.2.2⟩, iB⟩
  · have e := iS i hi hn
    refine ⟨(if_neg (fun y => ?_)).trans e.1, e.2⟩
    have y2 : (M.2 12 i).toNat = k := y
    rw [y2] at e
    omega
  · have h4 : (if q = k then 3 else M.2 34 q) = 1 := h1
    by_cases e : q = k
    · rw [if_pos e] at h4
      omega
    · rw [if_neg e] at h4
      exact iR q hq h4
  · have h4 : (if a = k then 3 else M.2 34 a) = 1 := h1
    have h5 : (if c = k then 3 else M.2 34 c) = 1 := h3
    by_cases e : a = k
    · rw [if_pos e] at h4
      omega
    · by_cases e2 : c = k
      · rw [if_pos e2] at h5
        omega
      · rw [if_neg e] at h4
        rw [if_neg e2] at h5
        exact iC a c ha hc h4 h5
  · by_cases e : q = k
    · subst e
      refine ⟨fun y => ?_, fun _ => ⟨h38, if_pos rfl⟩⟩
      have y2 : (if q = q then 3 else M.2 34 q) = 2 := y
      rw [if_pos rfl] at y2
      omega
    · have h := i9 q hq e
      refine ⟨fun y => h.1 ?_, fun y => ?_⟩
      · have y2 : (if q = k then 3 else M.2 34 q) = 2 := y
        rw [if_neg e] at y2
        exact y2
      · have y2 : (if q = k then 3 else M.2 34 q) = 3 := y
        rw [if_neg e] at y2
        exact ⟨(h.2 y2).1, (if_neg e).trans (h.2 y2).2⟩
  · obtain ⟨a1, a2, a3, a4, a5, a6, a7, a8, a9, a10, a11, a12, a13⟩ := iZ.1 q q1 q2
    have e : ¬ q = k := fun e => by subst e; have : M.1 30 ≤ (q : Int) := q1; omega
    exact ⟨(if_neg e).trans a1, a2, a3, a4, a5, a6, a7, a8, a9, a10, a11, (if_neg e).trans a12, a13⟩
  · have z := iZ.2.1 i q1 q2
    exact ⟨z.1, (if_neg (fun e => by have : M.1 17 ≤ (i : Int) := q1; omega)).trans z.2⟩
/-- a session's values are all heard -/
theorem iv_hear {M : Mo} {jj k : Nat} (h : Iv M jj) (hk : (k : Int) < M.1 30) : Iv (hearM M k) jj := by
  obtain ⟨hO, iS, iR, iC, iE, iZ, iB⟩ := h
  have i7 : ∀ q : Nat, (q : Int) < M.1 30 → ivE7 (heardM M k) q := fun q hq => by
    obtain ⟨⟨a1, a2, a3, a4, a5, a6, a7⟩, -⟩ := ivE_of iE hq
    show M.2 35 q ≤ M.2 15 (M.2 32 q).toNat ∧ M.2 39 q + M.2 40 q = M.2 35 q ∧ M.2 41 q ≤ M.2 37 q ∧ (if q = k then M.2 39 k else M.2 42 q) ≤ M.2 39 q ∧ (if q = k then M.2 40 k else M.2 43 q) ≤ M.2 40 q ∧ (if q = k then M.2 41 k else M.2 44 q) ≤ M.2 41 q ∧ ((if q = k then M.2 37 k else M.2 38 q) = M.2 37 q → (if q = k then M.2 39 k else M.2 42 q) = M.2 39 q ∧ (if q = k then M.2 40 k else M.2 43 q) = M.2 40 q ∧ (if q = k then M.2 41 k else M.2 44 q) = M.2 41 q)
    by_cases e : q = k
    · subst e
      rw [if_pos rfl, if_pos rfl, if_pos rfl]
      exact ⟨a1, a2, a3, Int.le_refl _, Int.le_refl _, Int.le_refl _, fun _ => ⟨rfl, rfl, rfl⟩⟩
    · rw [if_neg e, if_neg e, if_neg e, if_neg e]
      exact ⟨a1, a2, a3, a4, a5, a6, a7⟩
  have i9 : ∀ q : Nat, (q : Int) < M.1 30 → q ≠ k → ivE9 (heardM M k) q := fun q hq e => by
    obtain ⟨-, a8, a9⟩ := ivE_of iE hq
    show (M.2 34 q = 2 → (if q = k then M.2 37 k else M.2 38 q) < M.2 37 q) ∧ (M.2 34 q = 3 → (if q = k then M.2 37 k else M.2 38 q) = M.2 37 q ∧ M.2 46 q = billM M q (M.2 39 q) (M.2 40 q) (M.2 41 q))
    rw [if_neg e]
    exact ⟨a8, a9⟩
  have zz : ivZ (heardM M k) := ⟨fun q q1 q2 => by
    obtain ⟨a1, a2, a3, a4, a5, a6, a7, a8, a9, a10, a11, a12, a13⟩ := iZ.1 q q1 q2
    have e : ¬ q = k := fun e => by subst e; have : M.1 30 ≤ (q : Int) := q1; omega
    exact ⟨a1, a2, a3, a4, (if_neg e).trans a5, a6, a7, a8, (if_neg e).trans a9, (if_neg e).trans a10, (if_neg e).trans a11, a12, a13⟩, iZ.2⟩
  unfold hearM
  by_cases h2 : M.2 34 k = 2
  · rw [if_pos h2]
    exact iv_pay (ok_heard hO) iS iR iC i7 i9 zz iB hk h2 (if_pos rfl)
  · rw [if_neg h2]
    refine ⟨ok_heard hO, iS, iR, iC, ivE_mk (fun q hq => ⟨i7 q hq, ?_⟩), zz, iB⟩
    by_cases e : q = k
    · subst e
      obtain ⟨-, a8, a9⟩ := ivE_of iE hq
      exact ⟨fun y => absurd y h2, fun y => ⟨if_pos rfl, (a9 y).2⟩⟩
    · exact i9 q hq e
theorem iv_hr {M : Mo} {jj : Nat} {z : Int} (h : Iv M jj) : ∀ k : Nat, (k : Int) ≤ M.1 30 → Iv (hrM M z k) jj := by
  intro k
  induction k with
  | zero => exact fun _ => h
  | succ k ih =>
    intro hk
    have h1 := ih (by omega)
    show Iv (if M.2 31 k = z then hearM (hrM M z k) k else hrM M z k) jj
    split
    · exact iv_hear h1 (by rw [(hrM_st M z k).1]; omega)
    · exact h1
/-- leaving -/
theorem iv_unp {M : Mo} {jj k : Nat} (h : Iv M jj) (hk : (k : Int) < M.1 30) (h1 : M.2 34 k = 1) : (M.2 37 k - M.2 38 k = 0 → Iv (payM (setA (setA (setS M 0 0) 34 k 2) 12 (M.2 31 k).toNat (-1)) k) jj) ∧ (¬ M.2 37 k - M.2 38 k = 0 → Iv (setA (setA (setS M 0 0) 34 k 2) 12 (M.2 31 k).toNat (-1)) jj) := by
  obtain ⟨hO, iS, iR, iC, iE, iZ, iB⟩ := h
  have ok := (hO.2.2.2.2.1 k hk).1
  unfold okSe at ok
  have er := iR k hk h1
  have o0 := hO.1
  unfold okSc at o0
  have hO2 : OkM (setA (setA (setS M 0 0) 34 k 2) 12 (M.2 31 k).toNat (-1)) := by
    refine ⟨hO.1, fun i hi => ?_, hO.2.2.1, hO.2.2.2.1, fun q hq => ?_, hO.2.2.2.2.2⟩
    · have o := hO.2.1 i hi
      unfold okSo at o ⊢
      refine ⟨o.1, o.2.1, o.2.2.1, o.2.2.2.1, o.2.2.2.2.1, ?_, o.2.2.2.2.2.2⟩
      have o6 := o.2.2.2.2.2.1
      show -1 ≤ (if i = (M.2 31 k).toNat then -1 else M.2 12 i) ∧ (if i = (M.2 31 k).toNat then -1 else M.2 12 i) < M.1 30
      split <;> omega
    · obtain ⟨p1, p2⟩ := hO.2.2.2.2.1 q hq
      refine ⟨?_, p2⟩
      unfold okSe at p1 ⊢
      refine ⟨p1.1, p1.2.1, p1.2.2.1, ?_, p1.2.2.2.2⟩
      have o6 := p1.2.2.2.1
      show 1 ≤ (if q = k then 2 else M.2 34 q) ∧ (if q = k then 2 else M.2 34 q) ≤ 3
      split <;> omega
  have iS2 : ivS (setA (setA (setS M 0 0) 34 k 2) 12 (M.2 31 k).toNat (-1)) := fun i hi hn => by
    have hn2 : (if i = (M.2 31 k).toNat then -1 else M.2 12 i) ≠ -1 := hn
    show (if (if i = (M.2 31 k).toNat then -1 else M.2 12 i).toNat = k then 2 else M.2 34 (if i = (M.2 31 k).toNat then -1 else M.2 12 i).toNat) = 1 ∧ M.2 31 (if i = (M.2 31 k).toNat then -1 else M.2 12 i).toNat = (i : Int)
    by_cases e : i = (M.2 31 k).toNat
    · rw [if_pos e] at hn2
      exact absurd rfl hn2
    · rw [if_neg e] at hn2 ⊢
      have es := iS i hi hn2
      refine ⟨?_, es.2⟩
      rw [if_neg (fun y => ?_)]
      · exact es.1
      · rw [y] at es
        omega
  have iR2 : ivR (setA (setA (setS M 0 0) 34 k 2) 12 (M.2 31 k).toNat (-1)) := fun q hq h3 => by
    have h4 : (if q = k then 2 else M.2 34 q) = 1 := h3
    show (if (M.2 31 q).toNat = (M.2 31 k).toNat then -1 else M.2 12 (M.2 31 q).toNat) = (q : Int)
    by_cases e : q = k
    · rw [if_pos e] at h4
      omega
    · rw [if_neg e] at h4
      have e2 := iR q hq h4
      rw [if_neg (fun y => ?_)]
      · exact e2
      · rw [y, er] at e2
        omega
  have iC2 : ivC (setA (setA (setS M 0 0) 34 k 2) 12 (M.2 31 k).toNat (-1)) := fun a c ha hc h3 h4 => by
    have h5 : (if a = k then 2 else M.2 34 a) = 1 := h3
    have h6 : (if c = k then 2 else M.2 34 c) = 1 := h4
    by_cases e : a = k
    · rw [if_pos e] at h5
      omega
    · by_cases e2 : c = k
      · rw [if_pos e2] at h6
        omega
      · rw [if_neg e] at h5
        rw [if_neg e2] at h6
        exact iC a c ha hc h5 h6
  have i7 : ∀ q : Nat, (q : Int) < M.1 30 → ivE7 (setA (setA (setS M 0 0) 34 k 2) 12 (M.2 31 k).toNat (-1)) q := fun q hq => (ivE_of iE hq).1
  have i9 : ∀ q : Nat, (q : Int) < M.1 30 → q ≠ k → ivE9 (setA (setA (setS M 0 0) 34 k 2) 12 (M.2 31 k).toNat (-1)) q := fun q hq e => by
    obtain ⟨-, a8, a9⟩ := ivE_of iE hq
    show ((if q = k then 2 else M.2 34 q) = 2 → M.2 38 q < M.2 37 q) ∧ ((if q = k then 2 else M.2 34 q) = 3 → M.2 38 q = M.2 37 q ∧ M.2 46 q = billM M q (M.2 39 q) (M.2 40 q) (M.2 41 q))
    rw [if_neg e]
    exact ⟨a8, a9⟩
  have iZ2 : ivZ (setA (setA (setS M 0 0) 34 k 2) 12 (M.2 31 k).toNat (-1)) := ⟨fun q q1 q2 => by
    obtain ⟨a1, ar⟩ := iZ.1 q q1 q2
    have e : ¬ q = k := fun e => by subst e; have : M.1 30 ≤ (q : Int) := q1; omega
    exact ⟨(if_neg e).trans a1, ar⟩, iZ.2.1, fun i q1 q2 => by
    obtain ⟨a1, a2, a3, a4, a5⟩ := iZ.2.2 i q1 q2
    refine ⟨a1, a2, a3, ?_, a5⟩
    show (if i = (M.2 31 k).toNat then -1 else M.2 12 i) = -1
    split
    · rfl
    · exact a4⟩
  refine ⟨fun y => iv_pay hO2 iS2 iR2 iC2 i7 i9 iZ2 iB hk (if_pos rfl) (by show M.2 38 k = M.2 37 k; omega), fun y => ⟨hO2, iS2, iR2, iC2, ivE_mk (fun q hq => ⟨i7 q hq, ?_⟩), iZ2, iB⟩⟩
  by_cases e : q = k
  · subst e
    refine ⟨fun _ => ?_, fun y3 => ?_⟩
    · show M.2 38 q < M.2 37 q
      omega
    · have y4 : (if q = q then 2 else M.2 34 q) = 3 := y3
      rw [if_pos rfl] at y4
      omega
  · exact i9 q hq e
theorem iv_10 {M : Mo} {jj s : Nat} {u : Int} (h : Iv M jj) (hu : u = 0 ∨ u = 1) (hs : (s : Int) < M.1 6) : Iv (setA M 10 s u) jj := by
  refine ⟨⟨h.1.1, fun i hi => ?_, h.1.2.2⟩, h.2.1, h.2.2.1, h.2.2.2.1, h.2.2.2.2.1, ⟨h.2.2.2.2.2.1.1, h.2.2.2.2.2.1.2.1, fun i h1 h2 => ?_⟩, h.2.2.2.2.2.2⟩
  · have o := h.1.2.1 i hi
    unfold okSo at o ⊢
    refine ⟨o.1, o.2.1, o.2.2.1, ?_, o.2.2.2.2⟩
    have o4 := o.2.2.2.1
    show 0 ≤ (if i = s then u else M.2 10 i) ∧ (if i = s then u else M.2 10 i) ≤ 1
    split <;> omega
  · obtain ⟨a1, a2, a3⟩ := h.2.2.2.2.2.1.2.2 i h1 h2
    exact ⟨a1, (if_neg (fun e => by subst e; have : M.1 6 ≤ (i : Int) := h1; omega)).trans a2, a3⟩
theorem iv_11 {M : Mo} {jj s : Nat} (h : Iv M jj) (hs : (s : Int) < M.1 6) : Iv (setA M 11 s (M.1 1)) jj := by
  have o0 := h.1.1
  unfold okSc at o0
  refine ⟨⟨h.1.1, fun i hi => ?_, h.1.2.2⟩, h.2.1, h.2.2.1, h.2.2.2.1, h.2.2.2.2.1, ⟨h.2.2.2.2.2.1.1, h.2.2.2.2.2.1.2.1, fun i h1 h2 => ?_⟩, h.2.2.2.2.2.2⟩
  · have o := h.1.2.1 i hi
    unfold okSo at o ⊢
    refine ⟨o.1, o.2.1, o.2.2.1, o.2.2.2.1, ?_, o.2.2.2.2.2⟩
    have o4 := o.2.2.2.2.1
    show 0 ≤ (if i = s then M.1 1 else M.2 11 i) ∧ (if i = s then M.1 1 else M.2 11 i) ≤ M.1 1
    split <;> omega
  · obtain ⟨a1, a2, a3, a4⟩ := h.2.2.2.2.2.1.2.2 i h1 h2
    exact ⟨a1, a2, (if_neg (fun e => by subst e; have : M.1 6 ≤ (i : Int) := h1; omega)).trans a3, a4⟩
theorem iv_45 {M : Mo} {jj k : Nat} {v : Int} (h : Iv M jj) (hv : 0 ≤ v ∧ v ≤ 50000) : Iv (setA M 45 k v) jj := by
  refine ⟨⟨h.1.1, h.1.2.1, h.1.2.2.1, h.1.2.2.2.1, fun q hq => ?_, h.1.2.2.2.2.2⟩, h.2⟩
  obtain ⟨p1, p2⟩ := h.1.2.2.2.2.1 q hq
  refine ⟨?_, p2⟩
  unfold okSe at p1 ⊢
  refine ⟨p1.1, p1.2.1, p1.2.2.1, p1.2.2.2.1, p1.2.2.2.2.1, p1.2.2.2.2.2.1, p1.2.2.2.2.2.2.1, ?_⟩
  have p3 := p1.2.2.2.2.2.2.2
  show 0 ≤ (if q = k then v else M.2 45 q) ∧ (if q = k then v else M.2 45 q) ≤ 50000
  split <;> omega
theorem iv_link {M : Mo} {jj n : Nat} {z u : Int} (h : Iv M jj) (hn : (n : Int) = M.1 30) (hu : u = 0 ∨ u = 1) (h0 : (linS M n z u).1.1 0 = 0) : Iv (linS M n z u).1 jj := by
  unfold linS at h0 ⊢
  by_cases c1 : 0 ≤ z ∧ z < M.1 6
  · rw [if_pos c1]
    have hs : ((z.toNat : Nat) : Int) < M.1 6 := by omega
    by_cases c2 : u = M.2 10 z.toNat
    · rw [if_pos c2]
      by_cases c3 : u = 1
      · rw [if_pos c3]
        exact iv_hr (iv_10 (Iv_0 h) (Or.inl rfl) hs) n (by show (n : Int) ≤ M.1 30; omega)
      · rw [if_neg c3]
        have h3 := iv_11 (iv_10 (Iv_0 (v := 0) h) (u := 1) (Or.inr rfl) hs) (s := z.toNat) hs
        by_cases c4 : M.2 12 z.toNat = -1
        · rw [if_pos c4]
          exact h3
        · rw [if_neg c4]
          have o := h.1.2.1 z.toNat hs
          unfold okSo at o
          have p := (h.1.2.2.2.2.1 (M.2 12 z.toNat).toNat (by omega)).1
          unfold okSe at p
          exact iv_45 h3 (by omega)
    · rw [if_neg c2]
      exact Iv_0 h
  · rw [if_neg c1] at h0
    exact absurd (show (1 : Int) = 0 from h0) (by decide)
theorem iv_dis {M : Mo} {jj : Nat} {z g : Int} (h : Iv M jj) (h0 : (disS M z g).1.1 0 = 0) : Iv (disS M z g).1 jj := by
  unfold disS at h0 ⊢
  by_cases c1 : 0 ≤ z ∧ z < M.1 30
  · rw [if_pos c1] at h0 ⊢
    by_cases c2 : 1 ≤ g ∧ g ≤ 100
    · rw [if_pos c2] at h0 ⊢
      by_cases c3 : M.2 34 z.toNat = 3 ∧ M.2 47 z.toNat = 0
      · rw [if_pos c3]
        have p := (h.1.2.2.2.2.1 z.toNat (by omega)).1
        unfold okSe at p
        exact iv_25 (iv_22 (iv_47 (Iv_0 h) (Or.inr rfl) (by show ((z.toNat : Nat) : Int) < M.1 30; omega)) (by show (((M.2 33 z.toNat).toNat : Nat) : Int) < M.1 17; omega))
      · rw [if_neg c3] at h0
        exact absurd (show (3 : Int) = 0 from h0) (by decide)
    · rw [if_neg c2] at h0
      exact absurd (show (2 : Int) = 0 from h0) (by decide)
  · rw [if_neg c1] at h0
    exact absurd (show (1 : Int) = 0 from h0) (by decide)
theorem iv_unplug {M : Mo} {jj : Nat} {z : Int} (h : Iv M jj) (h0 : (unpS M z).1.1 0 = 0) : Iv (unpS M z).1 jj := by
  unfold unpS at h0 ⊢
  by_cases c1 : 0 ≤ z ∧ z < M.1 30
  · rw [if_pos c1] at h0 ⊢
    by_cases c2 : M.2 34 z.toNat = 1
    · rw [if_pos c2]
      have hu := iv_unp h (k := z.toNat) (by omega) c2
      show Iv (if M.2 37 z.toNat - M.2 38 z.toNat = 0 then payM (setA (setA (setS M 0 0) 34 z.toNat 2) 12 (M.2 31 z.toNat).toNat (-1)) z.toNat else setA (setA (setS M 0 0) 34 z.toNat 2) 12 (M.2 31 z.toNat).toNat (-1)) jj
      split
      · rename_i e
        exact hu.1 e
      · rename_i e
        exact hu.2 e
    · rw [if_neg c2] at h0
      exact absurd (show (2 : Int) = 0 from h0) (by decide)
  · rw [if_neg c1] at h0
    exact absurd (show (1 : Int) = 0 from h0) (by decide)
theorem iv_book {M : Mo} {jj s : Nat} {c f mi : Int} (h : Iv M jj) (hs : (s : Int) < M.1 6) (hj : jj < 512) (hc : 0 ≤ c ∧ c < M.1 17) (hf : M.1 1 ≤ f ∧ f ≤ 20000) (hm : 15 ≤ mi ∧ mi ≤ 600) (hcan : ∀ i, i < (M.2 26 s).toNat → M.2 29 (1500 * s + i) ≤ f ∨ f + mi ≤ M.2 28 (1500 * s + i)) : Iv (booM M s c f mi) (jj + 1) := by
  obtain ⟨hO, iS, iR, iC, iE, iZ, iB⟩ := h
  obtain ⟨b1, b2⟩ := ivB_iff.mp iB
  have o0 := hO.1
  unfold okSc at o0
  have hs8 := b1 s (by omega)
  have e26 : ∀ i, (booM M s c f mi).2 26 i = if i = s then M.2 26 s + 1 else M.2 26 i := fun i => rfl
  refine ⟨⟨hO.1, fun i hi => ?_, hO.2.2⟩, iS, iR, iC, iE, ⟨iZ.1, iZ.2.1, fun i h1 h2 => ?_⟩, ivB_iff.mpr ⟨fun u hu => ?_, fun u hu => ?_⟩⟩
  · have o := hO.2.1 i hi
    unfold okSo at o ⊢
    refine ⟨o.1, o.2.1, o.2.2.1, o.2.2.2.1, o.2.2.2.2.1, o.2.2.2.2.2.1, ?_⟩
    have o7 := o.2.2.2.2.2.2
    rw [e26]
    split <;> omega
  · obtain ⟨a1, a2, a3, a4, a5⟩ := iZ.2.2 i h1 h2
    exact ⟨a1, a2, a3, a4, (if_neg (fun e => by subst e; have : M.1 6 ≤ (i : Int) := h1; omega)).trans a5⟩
  · have e1 := b1 u hu
    rw [e26]
    split <;> omega
  · have hu2 : (u : Int) < M.1 6 := hu
    have hu8 := b1 u (by omega)
    obtain ⟨d1, d2⟩ := b2 u hu2
    by_cases e : u = s
    · subst e
      rw [bkL_at (by omega)]
      refine ⟨fun q hq => ?_, List.pairwise_append.mpr ⟨d2, List.pairwise_singleton _ _, fun q hq q2 hq2 => ?_⟩⟩
      · rcases List.mem_append.mp hq with y | y
        · exact d1 q y
        · rw [List.mem_singleton.mp y]
          exact ⟨hc, ⟨by show 0 ≤ f; omega, hf.2⟩, ⟨by show 0 ≤ f + mi; omega, by show f + mi ≤ 20600; omega⟩, by show M.1 1 < f + 15; omega, by show f + 15 ≤ f + mi; omega⟩
      · rw [List.mem_singleton.mp hq2]
        obtain ⟨i, hi⟩ := List.mem_iff_getElem?.mp hq
        obtain ⟨y1, rfl⟩ := bkL_get.mp hi
        exact hcan i (by omega)
    · rw [bkL_far (by omega) (by omega) e]
      exact ⟨d1, d2⟩
