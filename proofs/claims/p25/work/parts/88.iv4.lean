/-! what holds throughout: plugging -/
theorem newM_26 (M : Mo) (n s c k : Nat) (h : Int) : (newM M (bkdM M s h) n s c k).2 26 = (bkdM M s h).2 26 := by
  have t2 := (cpT_st M s n (sesM (bkdM M s h) n s c k) 4).2
  funext i
  exact congrFun (t2 26 (by decide)) i
theorem bkd_26 {M : Mo} {s : Nat} {h : Int} (hh : hldM M s h) : (∀ u, u ≠ s → (bkdM M s h).2 26 u = M.2 26 u) ∧ (0 ≤ M.2 26 s → 0 ≤ (bkdM M s h).2 26 s) ∧ (bkdM M s h).2 26 s ≤ M.2 26 s := by
  unfold bkdM
  by_cases e : h = -1
  · rw [if_pos e]
    exact ⟨fun _ _ => rfl, fun y => y, Int.le_refl _⟩
  · rw [if_neg e]
    have hc : 0 ≤ h ∧ h < M.2 26 s := by
      rcases hh with ⟨h3, -⟩ | ⟨h3, h4, -⟩
      · omega
      · exact ⟨h3, h4⟩
    have g : ∀ u, (goB M s h.toNat).2 26 u = if u = s then M.2 26 s - 1 else M.2 26 u := fun u => rfl
    refine ⟨fun u hu => (g u).trans (if_neg hu), fun _ => ?_, ?_⟩
    · rw [g, if_pos rfl]
      omega
    · rw [g, if_pos rfl]
      omega
theorem bkd_sub {M : Mo} {s : Nat} {h : Int} (hh : hldM M s h) (h5 : ∀ u, u < 8 → M.2 26 u ≤ 512) {u : Nat} (hu : u < 8) (hs : s < 8) : List.Sublist (bkL (bkdM M s h) u) (bkL M u) := by
  by_cases e : u = s
  · subst e
    by_cases e2 : h = -1
    · unfold bkdM
      rw [if_pos e2]
      exact List.Sublist.refl _
    · have hc : 0 ≤ h ∧ h < M.2 26 u := by
        rcases hh with ⟨h3, -⟩ | ⟨h3, h4, -⟩
        · omega
        · exact ⟨h3, h4⟩
      have e3 : bkL (bkdM M u h) u = (bkL M u).eraseIdx h.toNat := by
        unfold bkdM
        rw [if_neg e2]
        exact go_this (c := M.2 26) (a := M.2 27) (f := M.2 28) (t := M.2 29) (p := h.toNat) (by omega)
      rw [e3]
      exact List.eraseIdx_sublist _ _
  · have a := h5 u hu
    have b := h5 s hs
    rw [bkd_far e (by omega) (by omega)]
    exact List.Sublist.refl _
theorem cpT_ta {M X : Mo} {s n : Nat} (hX : ∀ i, i < 160 → 0 ≤ X.2 24 i ∧ X.2 24 i ≤ 1000) : ∀ m, (∀ j, j < m → 0 ≤ M.2 23 (4 * (M.2 7 s).toNat + j) ∧ M.2 23 (4 * (M.2 7 s).toNat + j) ≤ 1000) → ∀ i, i < 160 → 0 ≤ (cpT M s n m X).2 24 i ∧ (cpT M s n m X).2 24 i ≤ 1000 := by
  intro m
  induction m with
  | zero => exact fun _ => hX
  | succ m ih =>
    intro h i hi
    have h1 := ih (fun j hj => h j (by omega)) i hi
    have h2 := h m (by omega)
    show 0 ≤ (if i = 4 * n + m then M.2 23 (4 * (M.2 7 s).toNat + m) else (cpT M s n m X).2 24 i) ∧ (if i = 4 * n + m then M.2 23 (4 * (M.2 7 s).toNat + m) else (cpT M s n m X).2 24 i) ≤ 1000
    split
    · exact h2
    · exact h1
theorem iv_plug {M : Mo} {jj n s c k : Nat} {h : Int} (hI : Iv M jj) (hn : (n : Int) = M.1 30) (h40 : n < 40) (hs : (s : Int) < M.1 6) (hc : (c : Int) < M.1 13) (hk : (k : Int) < M.1 17) (hh : hldM M s h) (h12 : M.2 12 s = -1) (hw : ¬ awyM M n (c : Int)) : Iv (newM M (bkdM M s h) n s c k) jj := by
  obtain ⟨m1, m30, mm, m12, m31, m32, m33, m34, m45, mb⟩ := newM_st M n s c k h
  obtain ⟨m24, m24n⟩ := newM_24 M n s c k h
  have m26 := newM_26 M n s c k h
  obtain ⟨hO, iS, iR, iC, iE, ⟨z1, z2, z3⟩, iB⟩ := hI
  have o0 := hO.1
  unfold okSc at o0
  have oS := hO.2.1 s hs
  unfold okSo at oS
  have oC := hO.2.2.1 c hc
  unfold okCa at oC
  have hta : ∀ i, i < 160 → 0 ≤ (newM M (bkdM M s h) n s c k).2 24 i ∧ (newM M (bkdM M s h) n s c k).2 24 i ≤ 1000 := cpT_ta (X := sesM (bkdM M s h) n s c k) (fun i hi => by
    have e : (sesM (bkdM M s h) n s c k).2 24 i = M.2 24 i := congrFun ((bkd_st M s h).2 24 (by omega)) i
    rw [e]
    exact hO.2.2.2.2.2.2 i hi) 4 (fun j hj => hO.2.2.2.2.2.1 _ (by omega))
  obtain ⟨b26, b26s, b26l⟩ := bkd_26 hh
  obtain ⟨bI, bJ⟩ := ivB_iff.mp iB
  have hsub : ∀ u : Nat, (u : Int) < M.1 6 → List.Sublist (bkL (bkdM M s h) u) (bkL M u) := fun u hu => bkd_sub hh (fun v hv => (bI v hv).1.2) (by omega) (by omega)
  have h26 : ∀ u, u < 8 → 0 ≤ (bkdM M s h).2 26 u ∧ (bkdM M s h).2 26 u ≤ M.2 26 u := fun u hu => by
    have e1 := bI u hu
    by_cases e : u = s
    · subst e
      exact ⟨b26s e1.1.1, b26l⟩
    · rw [b26 u e]
      omega
  generalize newM M (bkdM M s h) n s c k = G at m1 m30 mm m12 m31 m32 m33 m34 m45 mb m24 m24n m26 hta ⊢
  have zn := z1 n (by omega) h40
  refine ⟨⟨?_, fun i hi => ?_, fun i hi => ?_, fun i hi => ?_, fun q hq => ?_, fun i hi => ?_, hta⟩, fun i hi hne => ?_, fun q hq h1 => ?_, fun a d ha hd h1 h2 h3 => ?_, ivE_mk (fun q hq => ?_), ⟨fun q q1 q2 => ?_, fun i q1 q2 => ?_, fun i q1 q2 => ?_⟩, ivB_sub iB (Nat.le_refl _) (fun u hu => ?_) (m1 6 (by decide) (by decide)) (m1 17 (by decide) (by decide)) (fun u hu => ?_) (fun u hu q hq => ?_)⟩
  · unfold okSc
    rw [m1 1 (by decide) (by decide), m1 2 (by decide) (by decide), m1 3 (by decide) (by decide), m1 4 (by decide) (by decide), m1 5 (by decide) (by decide), m1 6 (by decide) (by decide), m1 13 (by decide) (by decide), m1 17 (by decide) (by decide), m30]
    omega
  · rw [m1 6 (by decide) (by decide)] at hi
    have o := hO.2.1 i hi
    have o9 := h26 i (by omega)
    unfold okSo at o ⊢
    rw [mm 7 rfl, mm 8 rfl, mm 9 rfl, mm 10 rfl, mm 11 rfl, m12, m26, m1 1 (by decide) (by decide), m30]
    refine ⟨o.1, o.2.1, o.2.2.1, o.2.2.2.1, o.2.2.2.2.1, ?_, by omega⟩
    have o6 := o.2.2.2.2.2.1
    split <;> omega
  · rw [m1 13 (by decide) (by decide)] at hi
    have o := hO.2.2.1 i hi
    unfold okCa at o ⊢
    rw [mm 14 rfl, mm 15 rfl, mm 16 rfl]
    exact o
  · rw [m1 17 (by decide) (by decide)] at hi
    have o := hO.2.2.2.1 i hi
    unfold okCd at o ⊢
    rw [mm 18 rfl, mm 19 rfl, mm 20 rfl, mm 21 rfl]
    exact o
  · rw [m30] at hq
    unfold okSe okBi
    rw [m31, m32, m33, m34, m45, mm 35 rfl, mm 36 rfl, mm 37 rfl, mm 38 rfl, mm 39 rfl, mm 40 rfl, mm 41 rfl, mm 42 rfl, mm 43 rfl, mm 44 rfl, mm 46 rfl, mm 47 rfl, m1 6 (by decide) (by decide), m1 13 (by decide) (by decide), m1 17 (by decide) (by decide), m1 1 (by decide) (by decide)]
    by_cases e : q = n
    · subst e
      rw [if_pos rfl, if_pos rfl, if_pos rfl, if_pos rfl, if_pos rfl]
      obtain ⟨a1, a2, a3, a4, a5, a6, a7, a8, a9, a10, a11, a12, a13⟩ := zn
      rw [a2, a3, a4, a5, a6, a7, a8, a9, a10, a11, a12, a13]
      omega
    · rw [if_neg e, if_neg e, if_neg e, if_neg e, if_neg e]
      have o := hO.2.2.2.2.1 q (by omega)
      unfold okSe okBi at o
      exact o
  · rw [mm 23 rfl]
    exact hO.2.2.2.2.2.1 i hi
  · rw [m1 6 (by decide) (by decide)] at hi
    rw [m12] at hne ⊢
    by_cases e : i = s
    · rw [if_pos e, m34, m31, if_pos (by show (M.1 30).toNat = n; omega), if_pos (by show (M.1 30).toNat = n; omega)]
      exact ⟨rfl, by omega⟩
    · rw [if_neg e] at hne ⊢
      have es := iS i hi hne
      have o := hO.2.1 i hi
      unfold okSo at o
      rw [m34, m31, if_neg (by show ¬ (M.2 12 i).toNat = n; omega), if_neg (by show ¬ (M.2 12 i).toNat = n; omega)]
      exact es
  · rw [m30] at hq
    rw [m34] at h1
    rw [m31]
    by_cases e : q = n
    · rw [if_pos e, m12, if_pos (by show ((s : Int)).toNat = s; omega)]
      omega
    · rw [if_neg e] at h1 ⊢
      have e2 := iR q (by omega) h1
      rw [m12, if_neg (fun y => ?_)]
      · exact e2
      · rw [y, h12] at e2
        omega
  · rw [m30] at ha hd
    rw [m34] at h1 h2
    rw [m32, m32] at h3
    by_cases ea : a = n
    · by_cases ed : d = n
      · omega
      · rw [if_pos ea, if_neg ed] at h3
        rw [if_neg ed] at h2
        exact absurd ⟨d, by omega, h2, h3.symm⟩ hw
    · by_cases ed : d = n
      · rw [if_neg ea, if_pos ed] at h3
        rw [if_neg ea] at h1
        exact absurd ⟨a, by omega, h1, h3⟩ hw
      · rw [if_neg ea, if_neg ed] at h3
        rw [if_neg ea] at h1
        rw [if_neg ed] at h2
        exact iC a d (by omega) (by omega) h1 h2 h3
  · rw [m30] at hq
    unfold ivE7 ivE9
    rw [m32, m34, mm 35 rfl, mm 15 rfl, mm 37 rfl, mm 38 rfl, mm 39 rfl, mm 40 rfl, mm 41 rfl, mm 42 rfl, mm 43 rfl, mm 44 rfl, mm 46 rfl]
    by_cases e : q = n
    · subst e
      rw [if_pos rfl, if_pos rfl, show ((c : Int)).toNat = c by omega]
      obtain ⟨a1, a2, a3, a4, a5, a6, a7, a8, a9, a10, a11, a12, a13⟩ := zn
      rw [a2, a4, a5, a6, a7, a8, a9, a10, a11, a12]
      exact ⟨⟨by omega, by omega, by omega, by omega, by omega, by omega, fun _ => ⟨rfl, rfl, rfl⟩⟩, fun y => absurd y (by decide), fun y => absurd y (by decide)⟩
    · rw [if_neg e, if_neg e]
      have hq2 : (q : Int) < M.1 30 := by omega
      have eb : billM G q (M.2 39 q) (M.2 40 q) (M.2 41 q) = billM M q (M.2 39 q) (M.2 40 q) (M.2 41 q) := by
        unfold billM
        rw [m24 (4 * q) (by omega), m24 (4 * q + 1) (by omega), m24 (4 * q + 2) (by omega), m24 (4 * q + 3) (by omega)]
      rw [eb]
      exact ivE_of iE hq2
  · rw [m30] at q1
    rw [m34, if_neg (by omega), mm 35 rfl, mm 36 rfl, mm 37 rfl, mm 38 rfl, mm 39 rfl, mm 40 rfl, mm 41 rfl, mm 42 rfl, mm 43 rfl, mm 44 rfl, mm 46 rfl, mm 47 rfl]
    exact z1 q (by omega) q2
  · rw [m1 17 (by decide) (by decide)] at q1
    rw [mm 21 rfl, mm 22 rfl]
    exact z2 i q1 q2
  · rw [m1 6 (by decide) (by decide)] at q1
    have e : ¬ i = s := by omega
    rw [mm 9 rfl, mm 10 rfl, mm 11 rfl, m12, if_neg e, m26, b26 i e]
    exact z3 i q1 q2
  · rw [m26]
    exact h26 u hu
  · rw [mb]
    exact hsub u hu
  · rw [m1 1 (by decide) (by decide)]
    rw [mb] at hq
    exact ((bJ u hu).1 q ((hsub u hu).subset hq)).2.2.2.1
