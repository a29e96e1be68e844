/-! the law: what each call leaves of what holds; what is still to be made -/
def budC (M : Mo) : Nat := phC M (M.1 30).toNat + 8 * (40 - (M.1 30).toNat)
def budS (M : Mo) : Nat := phS M (M.1 30).toNat + 59744 * (40 - (M.1 30).toNat)
theorem bud_eq {M M2 : Mo} (h30 : M2.1 30 = M.1 30) (h37 : ∀ k, M2.2 37 k = M.2 37 k) : budC M2 = budC M ∧ budS M2 = budS M := by
  unfold budC budS
  rw [h30, (ph_eq h37 _).1, (ph_eq h37 _).2]
  exact ⟨rfl, rfl⟩
/-- a call keeps what holds -/
def stK (M M2 : Mo) (j : Nat) : Prop := Iv M2 (j + 1) ∧ budC M2 = budC M ∧ budS M2 = budS M
theorem stK_mk {M M2 : Mo} {j : Nat} (h : Iv M2 j) (h30 : M2.1 30 = M.1 30) (h37 : ∀ k, M2.2 37 k = M.2 37 k) : stK M M2 j := ⟨iv_up h (by omega), bud_eq h30 h37⟩
theorem stK_0 {M : Mo} {j : Nat} (h : Iv M j) : stK M (setS M 0 0) j := stK_mk (Iv_0 h) rfl (fun _ => rfl)
theorem stK_p {M : Mo} {j : Nat} {v : Int} (h : Iv M j) : stK M (stp M v) j := stK_mk (Iv_0 (Iv_0 h)) rfl (fun _ => rfl)
section STK
variable {M : Mo} {j : Nat}
theorem stK_soc {f w : Int} (h : Iv M j) : stK M (socS M f w).1 j := by
  have o0 := h.1.1
  unfold okSc at o0
  unfold socS
  by_cases c1 : 0 ≤ f ∧ f ≤ 2
  · rw [if_pos c1]
    by_cases c2 : 1400 ≤ w ∧ w ≤ 50000
    · rw [if_pos c2]
      by_cases c3 : M.1 6 = 8
      · rw [if_pos c3]
        exact stK_p h
      · rw [if_neg c3]
        exact stK_mk (iv_socket (M := setS M 0 0) (Iv_0 h) (by show (((M.1 6).toNat : Nat) : Int) = M.1 6; omega) (by omega) (by omega) c2) rfl (fun _ => rfl)
    · rw [if_neg c2]
      exact stK_p h
  · rw [if_neg c1]
    exact stK_p h
theorem stK_car {c g w : Int} (h : Iv M j) : stK M (carS M c g w).1 j := by
  have o0 := h.1.1
  unfold okSc at o0
  unfold carS
  by_cases c1 : (1 ≤ c ∧ c ≤ 6000000) ∧ (0 ≤ g ∧ g ≤ c) ∧ (1 ≤ w ∧ w ≤ 50000)
  · rw [if_pos c1]
    by_cases c3 : M.1 13 = 12
    · rw [if_pos c3]
      exact stK_p h
    · rw [if_neg c3]
      exact stK_mk (iv_car (M := setS M 0 0) (Iv_0 h) (by show (((M.1 13).toNat : Nat) : Int) = M.1 13; omega) (by omega) c1.1 c1.2.1 c1.2.2) rfl (fun _ => rfl)
  · rw [if_neg c1]
    exact stK_p h
theorem stK_card {f r : Int} (h : Iv M j) : stK M (cdS M f r).1 j := by
  have o0 := h.1.1
  unfold okSc at o0
  unfold cdS
  by_cases c1 : 0 ≤ f ∧ f ≤ 2
  · rw [if_pos c1]
    by_cases c2 : 0 ≤ r ∧ r ≤ 3
    · rw [if_pos c2]
      by_cases c3 : M.1 17 = 12
      · rw [if_pos c3]
        exact stK_p h
      · rw [if_neg c3]
        exact stK_mk (iv_card (M := setS M 0 0) (Iv_0 h) (by show (((M.1 17).toNat : Nat) : Int) = M.1 17; omega) (by omega) (by omega) c2) rfl (fun _ => rfl)
    · rw [if_neg c2]
      exact stK_p h
  · rw [if_neg c1]
    exact stK_p h
theorem stK_good {z u : Int} (h : Iv M j) (hu : u = 0 ∨ u = 1) : stK M (goodS M z u).1 j := by
  unfold goodS
  split
  · exact stK_mk (iv_good (M := setS M 0 0) (Iv_0 h) hu) rfl (fun _ => rfl)
  · exact stK_p h
theorem stK_fau {z u : Int} (h : Iv M j) (hu : u = 0 ∨ u = 1) : stK M (fauS M z u).1 j := by
  unfold fauS
  by_cases c1 : 0 ≤ z ∧ z < M.1 6
  · rw [if_pos c1]
    exact stK_mk (iv_fault (M := setS M 0 0) (Iv_0 h) hu (by show ((z.toNat : Nat) : Int) < M.1 6; omega)) rfl (fun _ => rfl)
  · rw [if_neg c1]
    exact stK_p h
theorem stK_set {w v : Int} (h : Iv M j) : stK M (setSS M w v).1 j := by
  have o0 := h.1.1
  unfold okSc at o0
  unfold setSS
  by_cases c1 : (w = 0 ∧ 0 ≤ v ∧ v ≤ 200000) ∨ (w = 1 ∧ 0 ≤ v ∧ v ≤ 100000) ∨ (w = 2 ∧ -50 ≤ v ∧ v ≤ 50)
  · rw [if_pos c1]
    have h1 := (iv_set (M := setS M 0 0) (u := if w = 0 then v else M.1 3) (Iv_0 h)).1 (by split <;> omega)
    have h2 := (iv_set (u := if w = 1 then v else M.1 4) h1).2.1 (by split <;> omega)
    have h3 := (iv_set (u := if w = 2 then v else M.1 5) h2).2.2 (by split <;> omega)
    exact stK_mk h3 rfl (fun _ => rfl)
  · rw [if_neg c1]
    exact stK_p h
theorem stK_tar {f s d n i : Int} (h : Iv M j) : stK M (tarS M f s d n i) j := by
  unfold tarS
  by_cases c1 : 0 ≤ f ∧ f ≤ 2
  · rw [if_pos c1]
    by_cases c2 : (0 ≤ s ∧ s ≤ 1000) ∧ (0 ≤ d ∧ d ≤ 1000) ∧ (0 ≤ n ∧ n ≤ 1000) ∧ (0 ≤ i ∧ i ≤ 1000)
    · rw [if_pos c2]
      exact stK_mk (iv_tariff (M := setS M 0 0) (Iv_0 h) c2.1 c2.2.1 c2.2.2.1 c2.2.2.2) rfl (fun _ => rfl)
    · rw [if_neg c2]
      exact stK_p h
  · rw [if_neg c1]
    exact stK_p h
theorem stK_of {z w : Int} (h : Iv M j) : stK M (ofS M z w).1 j := by
  unfold ofS
  by_cases c1 : 0 ≤ z ∧ z < M.1 30
  · rw [if_pos c1]
    by_cases c2 : 0 ≤ w ∧ w ≤ 6
    · rw [if_pos c2]
      exact stK_0 h
    · rw [if_neg c2]
      exact stK_p h
  · rw [if_neg c1]
    exact stK_p h
theorem stK_cha {z : Int} (h : Iv M j) : stK M (chaS M z).1 j := by
  unfold chaS
  split
  · exact stK_0 h
  · exact stK_p h
theorem stK_pow {z : Int} {n : Nat} (h : Iv M j) : stK M (powS M n z).1 j := by
  unfold powS
  split
  · have h2 : Iv (bp M (BM M n) (powM M n)) j := h
    exact stK_mk (Iv_0 h2) rfl (fun _ => rfl)
  · exact stK_p h
theorem stK_bil {z : Int} (h : Iv M j) : stK M (bilS M z).1 j := by
  unfold bilS
  split
  · exact stK_0 h
  · exact stK_p h
theorem stK_bia {z : Int} (h : Iv M j) : stK M (bilA M z).1 j := by
  unfold bilA
  split
  · exact stK_0 h
  · exact stK_p h
theorem stK_owe {z : Int} (h : Iv M j) : stK M (oweS M z).1 j := by
  unfold oweS
  split
  · exact stK_0 h
  · exact stK_p h
theorem stK_acc {z : Int} (h : Iv M j) : stK M (accS M z).1 j := by
  unfold accS
  split
  · exact stK_0 h
  · exact stK_p h
theorem stK_lin {z u : Int} {n : Nat} (h : Iv M j) (hn : (n : Int) = M.1 30) (hu : u = 0 ∨ u = 1) : stK M (linS M n z u).1 j := by
  by_cases c1 : 0 ≤ z ∧ z < M.1 6
  · have h0 : (linS M n z u).1.1 0 = 0 := by
      unfold linS
      rw [if_pos c1]
      by_cases c2 : u = M.2 10 z.toNat
      · rw [if_pos c2]
        by_cases c3 : u = 1
        · rw [if_pos c3]
          show (hrM (setA (setS M 0 0) 10 z.toNat 0) z n).1 0 = 0
          rw [(hrM_st _ z n).1]
          rfl
        · rw [if_neg c3]
          by_cases c4 : M.2 12 z.toNat = -1
          · rw [if_pos c4]
            rfl
          · rw [if_neg c4]
            rfl
      · rw [if_neg c2]
        rfl
    have h1 := iv_link h hn hu h0
    refine stK_mk h1 ?_ ?_
    · unfold linS
      rw [if_pos c1]
      by_cases c2 : u = M.2 10 z.toNat
      · rw [if_pos c2]
        by_cases c3 : u = 1
        · rw [if_pos c3]
          show (hrM (setA (setS M 0 0) 10 z.toNat 0) z n).1 30 = M.1 30
          rw [(hrM_st _ z n).1]
          rfl
        · rw [if_neg c3]
          by_cases c4 : M.2 12 z.toNat = -1
          · rw [if_pos c4]
            rfl
          · rw [if_neg c4]
            rfl
      · rw [if_neg c2]
        rfl
    · intro k
      unfold linS
      rw [if_pos c1]
      by_cases c2 : u = M.2 10 z.toNat
      · rw [if_pos c2]
        by_cases c3 : u = 1
        · rw [if_pos c3]
          show (hrM (setA (setS M 0 0) 10 z.toNat 0) z n).2 37 k = M.2 37 k
          rw [(hrM_st _ z n).2.1 37 (by omega)]
          rfl
        · rw [if_neg c3]
          by_cases c4 : M.2 12 z.toNat = -1
          · rw [if_pos c4]
            rfl
          · rw [if_neg c4]
            rfl
      · rw [if_neg c2]
        rfl
  · unfold linS
    rw [if_neg c1]
    exact stK_p h
theorem stK_dis {z g : Int} (h : Iv M j) : stK M (disS M z g).1 j := by
  by_cases c1 : 0 ≤ z ∧ z < M.1 30
  · by_cases c2 : 1 ≤ g ∧ g ≤ 100
    · by_cases c3 : M.2 34 z.toNat = 3 ∧ M.2 47 z.toNat = 0
      · have h1 := iv_dis (z := z) (g := g) h (by unfold disS; rw [if_pos c1, if_pos c2, if_pos c3]; rfl)
        refine stK_mk h1 ?_ ?_
        · unfold disS
          rw [if_pos c1, if_pos c2, if_pos c3]
          rfl
        · intro k
          unfold disS
          rw [if_pos c1, if_pos c2, if_pos c3]
          rfl
      · unfold disS
        rw [if_pos c1, if_pos c2, if_neg c3]
        exact stK_p h
    · unfold disS
      rw [if_pos c1, if_neg c2]
      exact stK_p h
  · unfold disS
    rw [if_neg c1]
    exact stK_p h
theorem stK_unp {z : Int} (h : Iv M j) : stK M (unpS M z).1 j := by
  by_cases c1 : 0 ≤ z ∧ z < M.1 30
  · by_cases c2 : M.2 34 z.toNat = 1
    · have hu := iv_unp h (k := z.toNat) (by omega) c2
      unfold unpS
      rw [if_pos c1, if_pos c2]
      show stK M (if M.2 37 z.toNat - M.2 38 z.toNat = 0 then payM (setA (setA (setS M 0 0) 34 z.toNat 2) 12 (M.2 31 z.toNat).toNat (-1)) z.toNat else setA (setA (setS M 0 0) 34 z.toNat 2) 12 (M.2 31 z.toNat).toNat (-1)) j
      by_cases c3 : M.2 37 z.toNat - M.2 38 z.toNat = 0
      · rw [if_pos c3]
        exact stK_mk (hu.1 c3) rfl (fun _ => rfl)
      · rw [if_neg c3]
        exact stK_mk (hu.2 c3) rfl (fun _ => rfl)
    · unfold unpS
      rw [if_pos c1, if_neg c2]
      exact stK_p h
  · unfold unpS
    rw [if_neg c1]
    exact stK_p h
theorem stK_boo {M2 : Mo} {z c f mi r : Int} (h : Iv M j) (hj : j < 512) (hP : booP M z c f mi M2 r) : stK M M2 j := by
  rcases hP with ⟨-, rfl, -⟩ | ⟨-, -, rfl, -⟩ | ⟨-, -, -, rfl, -⟩ | ⟨a1, a2, a3, rfl, -⟩
  · exact stK_p h
  · exact stK_p h
  · exact stK_p h
  · exact ⟨iv_book h (by omega) hj a1.2 a2.1 a2.2 a3.2, bud_eq rfl (fun _ => rfl)⟩
theorem stK_plu {M2 : Mo} {n : Nat} {z c k r : Int} (h : Iv M j) (hn : (n : Int) = M.1 30) (hP : pluP M n z c k M2 r) : stK M M2 j := by
  rcases hP with ⟨-, rfl, -⟩ | ⟨a1, h1⟩
  · exact stK_p h
  · rcases h1 with ⟨-, rfl, -⟩ | ⟨-, rfl, -⟩ | ⟨-, rfl, -⟩ | ⟨-, rfl, -⟩ | ⟨a2, a3, a4, a5, hb, hh, h2⟩
    · exact stK_p h
    · exact stK_0 h
    · exact stK_0 h
    · exact stK_0 h
    · rcases h2 with ⟨rfl, -⟩ | ⟨rfl, -⟩ | ⟨a6, a7, rfl, -⟩
      · exact stK_0 h
      · exact stK_0 h
      · have h3 := iv_plug (c := c.toNat) (k := k.toNat) h hn (by omega) (by omega) (by omega) (by omega) hh a4 (by rw [show ((c.toNat : Nat) : Int) = c by omega]; exact a7)
        obtain ⟨-, m30, mm, -⟩ := newM_st M n z.toNat c.toNat k.toNat hb
        have m37 := mm 37 rfl
        have iz := h.2.2.2.2.2.1.1 n (by omega) (by omega)
        refine ⟨iv_up h3 (by omega), ?_, ?_⟩
        · unfold budC
          rw [m30, show (M.1 30 + 1).toNat = n + 1 by omega, show (M.1 30).toNat = n by omega, (ph_eq (fun i => congrFun m37 i) _).1]
          show phC M n + remC (capOf (M.2 37 n).toNat) + 8 * (40 - (n + 1)) = phC M n + 8 * (40 - n)
          rw [iz.2.2.2.1, show remC (capOf (0 : Int).toNat) = 8 from rfl]
          omega
        · unfold budS
          rw [m30, show (M.1 30 + 1).toNat = n + 1 by omega, show (M.1 30).toNat = n by omega, (ph_eq (fun i => congrFun m37 i) _).2]
          show phS M n + remS (capOf (M.2 37 n).toNat) + 59744 * (40 - (n + 1)) = phS M n + 59744 * (40 - n)
          rw [iz.2.2.2.1, show remS (capOf (0 : Int).toNat) = 59744 from rfl]
          omega
/-- passing: what holds, and what it has cost -/
theorem stK_pas {M2 : Mo} {n : Nat} {g r : Int} (h : Iv M j) (hn : (n : Int) = M.1 30) (hP : pasP M n g M2 r) : Iv M2 (j + 1) ∧ (phC M n - phC (pcN M n g.toNat) n) + budC M2 ≤ budC M + (phC M n - phC (pcN M n g.toNat) n) ∧ (M2.1 0 = 0 → (phC M n - phC (pcN M n g.toNat) n) + budC M2 = budC M ∧ (phS M n - phS (pcN M n g.toNat) n) + budS M2 = budS M) ∧ (M2.1 0 ≠ 0 → budC M2 = budC M ∧ budS M2 = budS M) := by
  rcases hP with ⟨-, rfl, -⟩ | ⟨-, -, rfl, -⟩ | ⟨a1, a2, hN, -⟩
  · obtain ⟨b1, b2, b3⟩ := stK_p (v := 1) h
    exact ⟨b1, by omega, fun e => absurd (show (1 : Int) = 0 from e) (by decide), fun _ => ⟨b2, b3⟩⟩
  · obtain ⟨b1, b2, b3⟩ := stK_p (v := 2) h
    exact ⟨b1, by omega, fun e => absurd (show (2 : Int) = 0 from e) (by decide), fun _ => ⟨b2, b3⟩⟩
  · have hJ := passN_J h g.toNat M2 (by omega) hN
    obtain ⟨i1, i2, i3, i4⟩ := PJ_iv h hn hJ
    obtain ⟨-, c, a, f, t, rfl, -⟩ := hJ
    have hle := ph_le (M := M) (M2 := pcN M n g.toNat) (fun k => by
      have := pcN_mono M n 0 g.toNat k
      rw [Nat.zero_add] at this
      exact this) n
    have e : phC (bkM (pcN M n g.toNat) c a f t) n = phC (pcN M n g.toNat) n ∧ phS (bkM (pcN M n g.toNat) c a f t) n = phS (pcN M n g.toNat) n := ph_eq (M := pcN M n g.toNat) (M2 := bkM (pcN M n g.toNat) c a f t) (fun _ => rfl) n
    have key : (phC M n - phC (pcN M n g.toNat) n) + budC (bkM (pcN M n g.toNat) c a f t) = budC M ∧ (phS M n - phS (pcN M n g.toNat) n) + budS (bkM (pcN M n g.toNat) c a f t) = budS M := by
      unfold budC budS
      rw [← i2, ← hn, show ((n : Nat) : Int).toNat = n by omega, e.1, e.2]
      omega
    exact ⟨iv_up i1 (by omega), by omega, fun _ => key, fun y => absurd i4 y⟩
end STK
