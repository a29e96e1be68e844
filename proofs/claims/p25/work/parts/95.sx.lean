/-! the law's view of the yard: the memory X holds the numbers M and the law's arrays Mr -/
def SX (t0 : Nat) (ad : Nat → Nat) (y : Nat) (X : Mm) (Mr M : Mo) : Prop := ∃ (L : Ly) (Z : Zs) (jj : Nat), CX t0 0 0 ad L X Z Mr ∧ ZM Z M ∧ Iv M jj ∧ lA L 11 0 = y
theorem adK_5 : ∀ k, k < 5 → adK k = 20 := by decide +kernel
theorem of_1 {M : Mo} {k : Nat} (hk : (k : Int) < M.1 30) : (ofS M k 1).2 = M.2 35 k := by
  unfold ofS
  rw [if_pos (show 0 ≤ (k : Int) ∧ (k : Int) < M.1 30 by omega), if_pos (show 0 ≤ (1 : Int) ∧ (1 : Int) ≤ 6 by omega)]
  rfl
theorem of_2 {M : Mo} {k : Nat} (hk : (k : Int) < M.1 30) : (ofS M k 2).2 = M.2 37 k := by
  unfold ofS
  rw [if_pos (show 0 ≤ (k : Int) ∧ (k : Int) < M.1 30 by omega), if_pos (show 0 ≤ (2 : Int) ∧ (2 : Int) ≤ 6 by omega)]
  rfl
theorem of_3 {M : Mo} {k : Nat} (hk : (k : Int) < M.1 30) : (ofS M k 3).2 = M.2 38 k := by
  unfold ofS
  rw [if_pos (show 0 ≤ (k : Int) ∧ (k : Int) < M.1 30 by omega), if_pos (show 0 ≤ (3 : Int) ∧ (3 : Int) ≤ 6 by omega)]
  rfl
theorem of_4 {M : Mo} {k : Nat} (hk : (k : Int) < M.1 30) : (ofS M k 4).2 = M.2 34 k := by
  unfold ofS
  rw [if_pos (show 0 ≤ (k : Int) ∧ (k : Int) < M.1 30 by omega), if_pos (show 0 ≤ (4 : Int) ∧ (4 : Int) ≤ 6 by omega)]
  rfl
theorem pcN_bk (M : Mo) (n : Nat) : ∀ k : Nat, ∀ q, q = 26 ∨ q = 27 ∨ q = 28 ∨ q = 29 → (pcN M n k).2 q = M.2 q := by
  intro k
  induction k with
  | zero => exact fun q _ => rfl
  | succ k ih =>
    intro q hq
    refine Eq.trans ?_ (ih q hq)
    have st := (ptM_st (pcN M n k) (powM (pcN M n k) n) (dayM (pcN M n k)) (m1M (pcN M n k) n) n).2
    show (pc1 (pcN M n k) n).2 q = _
    rcases hq with rfl | rfl | rfl | rfl
    · exact (pc1_row _ n 26 (by decide)).trans ((st 26 rfl).trans rfl)
    · exact (pc1_row _ n 27 (by decide)).trans ((st 27 rfl).trans rfl)
    · exact (pc1_row _ n 28 (by decide)).trans ((st 28 rfl).trans rfl)
    · exact (pc1_row _ n 29 (by decide)).trans ((st 29 rfl).trans rfl)
section SXS
variable {l : Launch} {D : va_G} {kA : Nat → ClassId} {b t0 y n : Nat} {ad : Nat → Nat} {X : Mm} {Mr M : Mo}
theorem SX.ky (h : SX t0 ad y X Mr M) : gK X y = 11 := by
  obtain ⟨L, Z, jj, h, hZ, hI, rfl⟩ := h
  exact (yd_C h hZ.1).1
theorem SX.iv (h : SX t0 ad y X Mr M) : ∃ jj, Iv M jj := by
  obtain ⟨L, Z, jj, h, hZ, hI, rfl⟩ := h
  exact ⟨jj, hI⟩
theorem SX.ar (h : SX t0 ad y X Mr M) (k : Nat) (hk : k < 5) : gK X (ad k) = 20 ∧ gN X (ad k) = adN k ∧ ∀ i, gA X (ad k) i = Mr.2 k i := by
  obtain ⟨L, Z, jj, h, hZ, hI, rfl⟩ := h
  obtain ⟨h1, h2, h3⟩ := h.1
  have e := adK_5 k hk
  have e0 : adK k ≠ 0 := by omega
  exact ⟨(h1 k e0).1.trans e, (h1 k e0).2, fun i => h3 k i e0⟩
theorem SX.put (h : SX t0 ad y X Mr M) (k i : Nat) (v : Int) (hk : k < 5) : SX t0 ad y (sA X (ad k) i v) (setA Mr k i v) M := by
  obtain ⟨L, Z, jj, h, hZ, hI, rfl⟩ := h
  have e := adK_5 k hk
  have e0 : adK k ≠ 0 := by omega
  exact ⟨L, Z, jj, h.ref (RR_setA h.1 e0) (fun a _ hn => eqc_sA (fun e => hn ⟨k, e0, e⟩)), hZ, hI, rfl⟩
set_option maxHeartbeats 1000000 in
theorem q_of (hl : l.stackTraces = false) (hs : SX t0 ad y X Mr M) {k : Nat} {w r : Int} (hk : (k : Int) < M.1 30) (hw : 0 ≤ w ∧ w ≤ 6) (hr : (ofS M k w).2 = r) : Ct l D kA b t0 yX9_of cX9_of 4 (some FieldType.int) 7 111 [rv (some y), iv (k : Int), iv w] X 2 12 (fun v Y => v = some (iv r) ∧ SX t0 ad y Y Mr M) (pF) := by
  subst hr
  obtain ⟨L, Z, jj, h, hZ, hI, rfl⟩ := hs
  have o0 := hI.1.1
  unfold okSc at o0
  have e : (ofS M k w).1 = setS M 0 0 := by
    unfold ofS
    rw [if_pos (show 0 ≤ (k : Int) ∧ (k : Int) < M.1 30 by omega), if_pos hw]
  refine Ct.weakx (c_X9_of hl h hZ hI (by omega) (by omega)) (fun v Y hp => ?_) (fun E Y hp => ?_)
  · obtain ⟨-, hv, L2, Z2, h1, h2, h3⟩ := hp
    rw [e] at h2
    exact ⟨hv, L2, Z2, jj, h1, h2, hI, h3⟩
  · obtain ⟨hp, -⟩ := hp
    rw [e] at hp
    have z : (setS M 0 0).1 0 = 0 := rfl
    rcases hp with ⟨-, hp⟩ | ⟨-, hp⟩ <;> omega
set_option maxHeartbeats 1000000 in
theorem q_charge (hl : l.stackTraces = false) (hs : SX t0 ad y X Mr M) {k : Nat} (hk : (k : Int) < M.1 13) : Ct l D kA b t0 yX9_charge cX9_charge 2 (some FieldType.int) 7 111 [rv (some y), iv (k : Int)] X 1 6 (fun v Y => v = some (iv (M.2 15 k)) ∧ SX t0 ad y Y Mr M) (pF) := by
  obtain ⟨L, Z, jj, h, hZ, hI, rfl⟩ := hs
  have o0 := hI.1.1
  unfold okSc at o0
  have e : chaS M k = (setS M 0 0, M.2 15 k) := by
    unfold chaS
    rw [if_pos (show 0 ≤ (k : Int) ∧ (k : Int) < M.1 13 by omega)]
    rfl
  refine Ct.weakx (c_X9_charge hl h hZ hI (q := (k : Int)) (by omega)) (fun v Y hp => ?_) (fun E Y hp => ?_)
  · obtain ⟨-, hv, L2, Z2, h1, h2, h3⟩ := hp
    rw [e] at h2 hv
    exact ⟨hv, L2, Z2, jj, h1, h2, hI, h3⟩
  · obtain ⟨hp, -⟩ := hp
    rw [e] at hp
    have z : (setS M 0 0).1 0 = 0 := rfl
    have hp2 : (setS M 0 0).1 0 = 1 := hp.2
    omega
set_option maxHeartbeats 1000000 in
theorem q_power (hl : l.stackTraces = false) (hs : SX t0 ad y X Mr M) {k : Nat} (hn : (n : Int) = M.1 30) (hk : k < n) : Ct l D kA b t0 yX9_power cX9_power 3 (some FieldType.int) 7 116 [rv (some y), iv (k : Int)] X 1 6 (fun v Y => v = some (iv (powM M n k)) ∧ SX t0 ad y Y Mr M) (pF) := by
  obtain ⟨L, Z, jj, h, hZ, hI, rfl⟩ := hs
  have o0 := hI.1.1
  unfold okSc at o0
  have hn2 : ((yC Z 6 : Nat) : Int) = M.1 30 := hZ.1.1.2.2.2.2.2.1
  have e : powS M n k = (setS (bp M (BM M n) (powM M n)) 0 0, powM M n k) := by
    unfold powS
    rw [if_pos (show 0 ≤ (k : Int) ∧ (k : Int) < M.1 30 by omega)]
    rfl
  refine Ct.weakx (c_X9_power hl h hZ hI (q := (k : Int)) (n := n) (by omega) (by omega)) (fun v Y hp => ?_) (fun E Y hp => ?_)
  · obtain ⟨-, hv, L2, Z2, h1, h2, h3⟩ := hp
    rw [e] at h2 hv
    exact ⟨hv, L2, Z2, jj, h1, h2, hI, h3⟩
  · obtain ⟨hp, -⟩ := hp
    rw [e] at hp
    have z : (setS (bp M (BM M n) (powM M n)) 0 0).1 0 = 0 := rfl
    have hp2 : (setS (bp M (BM M n) (powM M n)) 0 0).1 0 = 1 := hp.2
    omega
set_option maxHeartbeats 1000000 in
theorem q_powerAnew (hl : l.stackTraces = false) (hs : SX t0 ad y X Mr M) {k : Nat} (hn : (n : Int) = M.1 30) (hk : k < n) : Ct l D kA b t0 yX9_powerAnew cX9_powerAnew 3 (some FieldType.int) 7 115 [rv (some y), iv (k : Int)] X 1 6 (fun v Y => v = some (iv (powM M n k)) ∧ SX t0 ad y Y Mr M) (pF) := by
  obtain ⟨L, Z, jj, h, hZ, hI, rfl⟩ := hs
  have o0 := hI.1.1
  unfold okSc at o0
  have hn2 : ((yC Z 6 : Nat) : Int) = M.1 30 := hZ.1.1.2.2.2.2.2.1
  have e : powS M n k = (setS (bp M (BM M n) (powM M n)) 0 0, powM M n k) := by
    unfold powS
    rw [if_pos (show 0 ≤ (k : Int) ∧ (k : Int) < M.1 30 by omega)]
    rfl
  refine Ct.weakx (c_X9_powerAnew hl h hZ hI (q := (k : Int)) (n := n) (by omega) (by omega)) (fun v Y hp => ?_) (fun E Y hp => ?_)
  · obtain ⟨-, hv, L2, Z2, h1, h2, h3⟩ := hp
    rw [e] at h2 hv
    exact ⟨hv, L2, Z2, jj, h1, h2, hI, h3⟩
  · obtain ⟨hp, -⟩ := hp
    rw [e] at hp
    have z : (setS (bp M (BM M n) (powM M n)) 0 0).1 0 = 0 := rfl
    have hp2 : (setS (bp M (BM M n) (powM M n)) 0 0).1 0 = 1 := hp.2
    omega
set_option maxHeartbeats 1000000 in
theorem q_bill (hl : l.stackTraces = false) (hs : SX t0 ad y X Mr M) {k : Nat} (hk : (k : Int) < M.1 30) : Ct l D kA b t0 yX9_bill cX9_bill 2 (some FieldType.int) 7 111 [rv (some y), iv (k : Int)] X 1 6 (fun v Y => v = some (iv (billM M k (M.2 42 k) (M.2 43 k) (M.2 44 k))) ∧ SX t0 ad y Y Mr M) (pF) := by
  obtain ⟨L, Z, jj, h, hZ, hI, rfl⟩ := hs
  have o0 := hI.1.1
  unfold okSc at o0
  have e : bilS M k = (setS M 0 0, billM M k (M.2 42 k) (M.2 43 k) (M.2 44 k)) := by
    unfold bilS
    rw [if_pos (show 0 ≤ (k : Int) ∧ (k : Int) < M.1 30 by omega)]
    rfl
  refine Ct.weakx (c_X9_bill hl h hZ hI (q := (k : Int)) (by omega)) (fun v Y hp => ?_) (fun E Y hp => ?_)
  · obtain ⟨-, hv, L2, Z2, h1, h2, h3⟩ := hp
    rw [e] at h2 hv
    exact ⟨hv, L2, Z2, jj, h1, h2, hI, h3⟩
  · obtain ⟨hp, -⟩ := hp
    rw [e] at hp
    have z : (setS M 0 0).1 0 = 0 := rfl
    have hp2 : (setS M 0 0).1 0 = 1 := hp.2
    omega
set_option maxHeartbeats 1000000 in
theorem q_billAnew (hl : l.stackTraces = false) (hs : SX t0 ad y X Mr M) {k : Nat} (hk : (k : Int) < M.1 30) : Ct l D kA b t0 yX9_billAnew cX9_billAnew 2 (some FieldType.int) 7 111 [rv (some y), iv (k : Int)] X 2 10 (fun v Y => v = some (iv (billM M k (M.2 39 k) (M.2 40 k) (M.2 41 k))) ∧ SX t0 ad y Y Mr M) (pF) := by
  obtain ⟨L, Z, jj, h, hZ, hI, rfl⟩ := hs
  have o0 := hI.1.1
  unfold okSc at o0
  have e : bilA M k = (setS M 0 0, billM M k (M.2 39 k) (M.2 40 k) (M.2 41 k)) := by
    unfold bilA
    rw [if_pos (show 0 ≤ (k : Int) ∧ (k : Int) < M.1 30 by omega)]
    rfl
  refine Ct.weakx (c_X9_billAnew hl h hZ hI (q := (k : Int)) (by omega)) (fun v Y hp => ?_) (fun E Y hp => ?_)
  · obtain ⟨-, hv, L2, Z2, h1, h2, h3⟩ := hp
    rw [e] at h2 hv
    exact ⟨hv, L2, Z2, jj, h1, h2, hI, h3⟩
  · obtain ⟨hp, -⟩ := hp
    rw [e] at hp
    have z : (setS M 0 0).1 0 = 0 := rfl
    have hp2 : (setS M 0 0).1 0 = 1 := hp.2
    omega
set_option maxHeartbeats 1000000 in
theorem q_owes (hl : l.stackTraces = false) (hs : SX t0 ad y X Mr M) {k : Nat} (hk : (k : Int) < M.1 17) : Ct l D kA b t0 yX9_owes cX9_owes 2 (some FieldType.int) 7 111 [rv (some y), iv (k : Int)] X 1 6 (fun v Y => v = some (iv (M.2 22 k)) ∧ SX t0 ad y Y Mr M) (pF) := by
  obtain ⟨L, Z, jj, h, hZ, hI, rfl⟩ := hs
  have o0 := hI.1.1
  unfold okSc at o0
  have e : oweS M k = (setS M 0 0, M.2 22 k) := by
    unfold oweS
    rw [if_pos (show 0 ≤ (k : Int) ∧ (k : Int) < M.1 17 by omega)]
    rfl
  refine Ct.weakx (c_X9_owes hl h hZ hI (q := (k : Int)) (by omega)) (fun v Y hp => ?_) (fun E Y hp => ?_)
  · obtain ⟨-, hv, L2, Z2, h1, h2, h3⟩ := hp
    rw [e] at h2 hv
    exact ⟨hv, L2, Z2, jj, h1, h2, hI, h3⟩
  · obtain ⟨hp, -⟩ := hp
    rw [e] at hp
    have z : (setS M 0 0).1 0 = 0 := rfl
    have hp2 : (setS M 0 0).1 0 = 1 := hp.2
    omega
set_option maxHeartbeats 1000000 in
theorem q_account (hl : l.stackTraces = false) (hs : SX t0 ad y X Mr M) {k : Nat} (hk : k ≤ 2) : Ct l D kA b t0 yX9_account cX9_account 2 (some FieldType.int) 7 111 [rv (some y), iv (k : Int)] X 1 6 (fun v Y => v = some (iv (acF M k)) ∧ SX t0 ad y Y Mr M) (pF) := by
  obtain ⟨L, Z, jj, h, hZ, hI, rfl⟩ := hs
  have e : accS M k = (setS M 0 0, acF M k) := by
    unfold accS
    rw [if_pos (show 0 ≤ (k : Int) ∧ (k : Int) ≤ 2 by omega)]
    rfl
  refine Ct.weakx (c_X9_account hl h hZ hI (q := (k : Int)) (by omega)) (fun v Y hp => ?_) (fun E Y hp => ?_)
  · obtain ⟨-, hv, L2, Z2, h1, h2, h3⟩ := hp
    rw [e] at h2 hv
    exact ⟨hv, L2, Z2, jj, h1, h2, hI, h3⟩
  · obtain ⟨hp, -⟩ := hp
    rw [e] at hp
    have z : (setS M 0 0).1 0 = 0 := rfl
    have hp2 : (setS M 0 0).1 0 = 1 := hp.2
    omega
set_option maxHeartbeats 1000000 in
theorem q_overloads (hl : l.stackTraces = false) (hs : SX t0 ad y X Mr M) : Ct l D kA b t0 yX9_overloads cX9_overloads 1 (some FieldType.int) 0 0 [rv (some y)] X 0 0 (fun v Y => v = some (iv (M.1 2)) ∧ SX t0 ad y Y Mr M) (pF) := by
  obtain ⟨L, Z, jj, h, hZ, hI, rfl⟩ := hs
  refine Ct.weak (c_X9_overloads hl h hZ hI) (fun v Y hp => ?_)
  obtain ⟨-, hv, L2, Z2, h1, h2, h3⟩ := hp
  exact ⟨hv, L2, Z2, jj, h1, h2, hI, h3⟩
end SXS
