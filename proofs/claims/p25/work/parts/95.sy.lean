/-! the law's view of the yard: calls that change it -/
theorem plu_0 {M M2 : Mo} {n : Nat} {z c k r : Int} (ha : ((0 ≤ z ∧ z < M.1 6) ∧ (0 ≤ c ∧ c < M.1 13) ∧ (0 ≤ k ∧ k < M.1 17)) ∧ M.1 30 < 40) (h : pluP M n z c k M2 r) : M2.1 0 = 0 := by
  rcases h with ⟨q, -⟩ | ⟨-, q⟩
  · exact absurd ha.1 q
  · rcases q with ⟨q, -⟩ | ⟨-, rfl, -⟩ | ⟨-, rfl, -⟩ | ⟨-, rfl, -⟩ | ⟨-, -, -, -, hb, -, q⟩
    · omega
    · rfl
    · rfl
    · rfl
    · rcases q with ⟨rfl, -⟩ | ⟨rfl, -⟩ | ⟨-, -, rfl, -⟩
      · rfl
      · rfl
      · exact newM_0 M n _ _ _ hb
section SYS
variable {l : Launch} {D : va_G} {kA : Nat → ClassId} {b t0 y n : Nat} {ad : Nat → Nat} {X : Mm} {Mr M : Mo}
set_option maxHeartbeats 1000000 in
theorem q_fault (hl : l.stackTraces = false) (hs : SX t0 ad y X Mr M) {k : Nat} {u : Int} (hk : (k : Int) < M.1 6) (hu : u = 0 ∨ u = 1) : Ct l D kA b t0 yX9_fault cX9_fault 5 (some FieldType.boolean) 7 111 [rv (some y), iv (k : Int), iv u] X 1 6 (fun v Y => (∃ z, v = some (iv z)) ∧ SX t0 ad y Y Mr (setA M 9 k u)) (pF) := by
  obtain ⟨L, Z, jj, h, hZ, hI, rfl⟩ := hs
  have o0 := hI.1.1
  unfold okSc at o0
  have e : fauS M k u = (setA (setS M 0 0) 9 k u, M.2 9 k) := by
    unfold fauS
    rw [if_pos (show 0 ≤ (k : Int) ∧ (k : Int) < M.1 6 by omega)]
    rfl
  have h9 := stK_fau (z := (k : Int)) hI hu
  rw [e] at h9
  refine Ct.weakx (c_X9_fault hl h hZ hI (q := (k : Int)) (by omega) hu) (fun v Y hp => ?_) (fun E Y hp => ?_)
  · obtain ⟨-, hv, L2, Z2, h1, h2, h3⟩ := hp
    rw [e] at h2
    exact ⟨⟨_, hv⟩, L2, Z2, jj + 1, h1, h2, h9.1, h3⟩
  · obtain ⟨hp, -⟩ := hp
    rw [e] at hp
    have z : (setA (setS M 0 0) 9 k u).1 0 = 0 := rfl
    have hp2 : (setA (setS M 0 0) 9 k u).1 0 = 1 := hp.2
    omega
set_option maxHeartbeats 1000000 in
theorem q_good (hl : l.stackTraces = false) (hs : SX t0 ad y X Mr M) {k : Nat} {u : Int} (hk : (k : Int) < M.1 17) (hu : u = 0 ∨ u = 1) : Ct l D kA b t0 yX9_good cX9_good 5 (some FieldType.boolean) 7 111 [rv (some y), iv (k : Int), iv u] X 1 6 (fun v Y => (∃ z, v = some (iv z)) ∧ SX t0 ad y Y Mr (setA M 20 k u)) (pF) := by
  obtain ⟨L, Z, jj, h, hZ, hI, rfl⟩ := hs
  have o0 := hI.1.1
  unfold okSc at o0
  have e : goodS M k u = (setA (setS M 0 0) 20 k u, M.2 20 k) := by
    unfold goodS
    rw [if_pos (show 0 ≤ (k : Int) ∧ (k : Int) < M.1 17 by omega)]
    rfl
  have h9 := stK_good (z := (k : Int)) hI hu
  rw [e] at h9
  refine Ct.weakx (c_X9_good hl h hZ hI (q := (k : Int)) (by omega) hu) (fun v Y hp => ?_) (fun E Y hp => ?_)
  · obtain ⟨-, hv, L2, Z2, h1, h2, h3⟩ := hp
    rw [e] at h2
    exact ⟨⟨_, hv⟩, L2, Z2, jj + 1, h1, h2, h9.1, h3⟩
  · obtain ⟨hp, -⟩ := hp
    rw [e] at hp
    have z : (setA (setS M 0 0) 20 k u).1 0 = 0 := rfl
    have hp2 : (setA (setS M 0 0) 20 k u).1 0 = 1 := hp.2
    omega
/-- the settings anew -/
def sgM (M : Mo) (a c d : Int) : Mo := setS (setS (setS (setS M 0 0) 3 a) 4 c) 5 d
set_option maxHeartbeats 1000000 in
theorem q_set (hl : l.stackTraces = false) (hs : SX t0 ad y X Mr M) {x u : Int} (hx : (x = 0 ∧ 0 ≤ u ∧ u ≤ 200000) ∨ (x = 2 ∧ -50 ≤ u ∧ u ≤ 50)) : Ct l D kA b t0 yX9_set cX9_set 3 (some FieldType.int) 8 134 [rv (some y), iv x, iv u] X 2 12 (fun v Y => (∃ z, v = some (iv z) ∧ rng z ∧ (x = 2 → -50 ≤ z)) ∧ ∃ a c d, SX t0 ad y Y Mr (sgM M a c d)) (pF) := by
  obtain ⟨L, Z, jj, h, hZ, hI, rfl⟩ := hs
  have o0 := hI.1.1
  unfold okSc at o0
  have e : setSS M x u = (sgM M (if x = 0 then u else M.1 3) (if x = 1 then u else M.1 4) (if x = 2 then u else M.1 5), if x = 0 then M.1 3 else if x = 1 then M.1 4 else M.1 5) := by
    unfold setSS
    rw [if_pos (show (x = 0 ∧ 0 ≤ u ∧ u ≤ 200000) ∨ (x = 1 ∧ 0 ≤ u ∧ u ≤ 100000) ∨ (x = 2 ∧ -50 ≤ u ∧ u ≤ 50) by omega)]
    rfl
  have h9 := stK_set (w := x) (v := u) hI
  rw [e] at h9
  refine Ct.weakx (c_X9_set hl h hZ hI (x := x) (u := u) (by omega) (by omega)) (fun v Y hp => ?_) (fun E Y hp => ?_)
  · obtain ⟨-, hv, L2, Z2, h1, h2, h3⟩ := hp
    rw [e] at h2 hv
    refine ⟨⟨_, hv, ?_, fun e2 => ?_⟩, _, _, _, L2, Z2, jj + 1, h1, h2, h9.1, h3⟩
    · dsimp only
      split
      · omega
      · split <;> omega
    · dsimp only
      subst e2
      rw [if_neg (show ¬ (2 : Int) = 0 by decide), if_neg (show ¬ (2 : Int) = 1 by decide)]
      omega
  · obtain ⟨hp, -⟩ := hp
    rw [e] at hp
    have z : (sgM M (if x = 0 then u else M.1 3) (if x = 1 then u else M.1 4) (if x = 2 then u else M.1 5)).1 0 = 0 := rfl
    have hp2 : (sgM M (if x = 0 then u else M.1 3) (if x = 1 then u else M.1 4) (if x = 2 then u else M.1 5)).1 0 = 1 := hp.2
    omega
set_option maxHeartbeats 1000000 in
theorem q_unplug (hl : l.stackTraces = false) (hs : SX t0 ad y X Mr M) {k : Nat} (hk : (k : Int) < M.1 30) (h0 : (unpS M k).1.1 0 = 0) : Ct l D kA b t0 yX9_unplug cX9_unplug 3 (some FieldType.int) 7 116 [rv (some y), iv (k : Int)] X 2 12 (fun v Y => v = some (iv (unpS M k).2) ∧ SX t0 ad y Y Mr (unpS M k).1) (pF) := by
  obtain ⟨L, Z, jj, h, hZ, hI, rfl⟩ := hs
  have o0 := hI.1.1
  unfold okSc at o0
  refine Ct.weakx (c_X9_unplug hl h hZ hI (q := (k : Int)) (by omega)) (fun v Y hp => ?_) (fun E Y hp => ?_)
  · obtain ⟨-, hv, L2, Z2, h1, h2, h3⟩ := hp
    exact ⟨hv, L2, Z2, jj + 1, h1, h2, (stK_unp hI).1, h3⟩
  · obtain ⟨hp, -⟩ := hp
    rcases hp with ⟨-, hp⟩ | ⟨-, hp⟩ <;> omega
set_option maxHeartbeats 1000000 in
theorem q_link (hl : l.stackTraces = false) (hs : SX t0 ad y X Mr M) {k : Nat} {u : Int} (hn : (n : Int) = M.1 30) (hk : k < 8) (hu : u = 0 ∨ u = 1) (h0 : (linS M n k u).1.1 0 = 0) : Ct l D kA b t0 yX9_link cX9_link 4 (some FieldType.int) 7 114 [rv (some y), iv (k : Int), iv u] X 2 12 (fun v Y => v = some (iv (linS M n k u).2) ∧ SX t0 ad y Y Mr (linS M n k u).1) (pF) := by
  obtain ⟨L, Z, jj, h, hZ, hI, rfl⟩ := hs
  have hn2 : ((yC Z 6 : Nat) : Int) = M.1 30 := hZ.1.1.2.2.2.2.2.1
  refine Ct.weakx (c_X9_link hl h hZ hI (q := (k : Int)) (n := n) (by omega) hu (by omega)) (fun v Y hp => ?_) (fun E Y hp => ?_)
  · obtain ⟨-, hv, L2, Z2, h1, h2, h3⟩ := hp
    exact ⟨hv, L2, Z2, jj + 1, h1, h2, (stK_lin hI hn hu).1, h3⟩
  · obtain ⟨⟨-, hp⟩, -⟩ := hp
    omega
set_option maxHeartbeats 1000000 in
theorem q_plug (hl : l.stackTraces = false) (hs : SX t0 ad y X Mr M) {z c k : Nat} (hn : (n : Int) = M.1 30) (hz : (z : Int) < M.1 6) (hc : (c : Int) < M.1 13) (hk : (k : Int) < M.1 17) (h40 : n < 40) : Ct l D kA b t0 yX9_plug cX9_plug 8 (some FieldType.int) 8 200 [rv (some y), iv (z : Int), iv (c : Int), iv (k : Int)] X 24 4400 (fun v Y => ∃ M2 r, v = some (iv r) ∧ pluP M n z c k M2 r ∧ SX t0 ad y Y Mr M2 ∧ budC M2 = budC M ∧ budS M2 = budS M) (pF) := by
  obtain ⟨L, Z, jj, h, hZ, hI, rfl⟩ := hs
  have o0 := hI.1.1
  unfold okSc at o0
  have hn2 : ((yC Z 6 : Nat) : Int) = M.1 30 := hZ.1.1.2.2.2.2.2.1
  obtain rfl : n = yC Z 6 := by omega
  refine Ct.weakx (c_X9_plug hl h hZ hI (s := (z : Int)) (c := (c : Int)) (k := (k : Int)) (by omega) (by omega) (by omega)) (fun v Y hp => ?_) (fun E Y hp => ?_)
  · obtain ⟨M2, r, hP, -, hv, L2, Z2, h1, h2, h3⟩ := hp
    have h9 := stK_plu hI hn hP
    exact ⟨M2, r, hv, hP, ⟨L2, Z2, jj + 1, h1, h2, h9.1, h3⟩, h9.2.1, h9.2.2⟩
  · obtain ⟨M2, r, hP, hp, -⟩ := hp
    have h9 := plu_0 (by omega) hP
    rcases hp with ⟨-, hp⟩ | ⟨-, hp⟩ <;> omega
set_option maxHeartbeats 1000000 in
theorem q_pass (hl : l.stackTraces = false) (hs : SX t0 ad y X Mr M) {g : Nat} (hn : (n : Int) = M.1 30) (hg : 1 ≤ g ∧ g ≤ 20) (hle : M.1 1 + (g : Int) ≤ 20000) : Ct l D kA b t0 yX9_pass cX9_pass 3 (some FieldType.int) 7 139 [rv (some y), iv (g : Int)] X (2 + (phC M n - phC (pcN M n g) n)) (12 + (phS M n - phS (pcN M n g) n)) (fun v Y => v = some (iv (M.1 1 + (g : Int))) ∧ SX t0 ad y Y Mr (pcN M n g)) (pF) := by
  obtain ⟨L, Z, jj, h, hZ, hI, rfl⟩ := hs
  have o0 := hI.1.1
  unfold okSc at o0
  have hn2 : ((yC Z 6 : Nat) : Int) = M.1 30 := hZ.1.1.2.2.2.2.2.1
  have c7 := hZ.1.1.2.2.1
  have hct := c_X9_pass (l := l) (D := D) (kA := kA) (b := b) hl h hZ hI (g := (g : Int)) (n := n) (by omega) (by omega)
  rw [Int.toNat_natCast] at hct
  refine Ct.weakx hct (fun v Y hp => ?_) (fun E Y hp => ?_)
  · obtain ⟨-, hv, L2, Z2, h1, h2, h3, h4, h5, h6, h7, h8, h9, h10⟩ := hp
    have hJ : PJ M n g (pcN M n g) := by
      refine ⟨hle, M.2 26, M.2 27, M.2 28, M.2 29, ?_, fun u hu => ⟨⟨(hI.2.2.2.2.2.2.1.1 u hu).1, Int.le_refl _⟩, fun h6 => ?_, fun _ => rfl⟩⟩
      · have e := bkM_self (pcN M n g)
        rw [pcN_bk M n g 26 (by omega), pcN_bk M n g 27 (by omega), pcN_bk M n g 28 (by omega), pcN_bk M n g 29 (by omega)] at e
        exact e.symm
      · have e : bkL M u = [] := by
          rw [← hZ.2.2.2.2 u (by omega), h.nob (by have := hZ.1.1.2.2.2.2.2.2.2.2.2; omega)]
          rfl
        show bkL M u = _
        rw [e]
        rfl
    obtain ⟨i1, -, -, -⟩ := PJ_iv hI hn hJ
    exact ⟨hv, L2, Z2, jj, h1, zm_pass hZ hI hJ h2 h3 h4 h6 h7 h8 h9 h10, i1, h5⟩
  · obtain ⟨hp, -⟩ := hp
    rcases hp with ⟨-, hp⟩ | ⟨-, -, hp⟩ <;> omega
set_option maxHeartbeats 1000000 in
theorem q_car (hl : l.stackTraces = false) (hs : SX t0 ad y X Mr M) {c h9 w : Int} (hc : 1 ≤ c ∧ c ≤ 6000000) (hh : 0 ≤ h9 ∧ h9 ≤ c) (hw : 1 ≤ w ∧ w ≤ 50000) (h12 : M.1 13 < 12) : Ct l D kA b t0 yX9_car cX9_car 5 (some FieldType.int) 7 179 [rv (some y), iv c, iv h9, iv w] X 8 2100 (fun v Y => v = some (iv (M.1 13)) ∧ SX t0 ad y Y Mr (setS (setA (setA (setA (setS M 0 0) 14 (M.1 13).toNat c) 15 (M.1 13).toNat h9) 16 (M.1 13).toNat w) 13 (M.1 13 + 1))) (pF) := by
  obtain ⟨L, Z, jj, h, hZ, hI, rfl⟩ := hs
  have o0 := hI.1.1
  unfold okSc at o0
  have e : carS M c h9 w = (setS (setA (setA (setA (setS M 0 0) 14 (M.1 13).toNat c) 15 (M.1 13).toNat h9) 16 (M.1 13).toNat w) 13 (M.1 13 + 1), M.1 13 + 1 - 1) := by
    unfold carS
    rw [if_pos (show (1 ≤ c ∧ c ≤ 6000000) ∧ (0 ≤ h9 ∧ h9 ≤ c) ∧ (1 ≤ w ∧ w ≤ 50000) from ⟨hc, hh, hw⟩), if_neg (show ¬ M.1 13 = 12 by omega)]
  have h8 := stK_car (c := c) (g := h9) (w := w) hI
  rw [e] at h8
  refine Ct.weakx (c_X9_car hl h hZ hI (c := c) (hh := h9) (g := w) (by omega) (by omega) (by omega)) (fun v Y hp => ?_) (fun E Y hp => ?_)
  · obtain ⟨-, hv, L2, Z2, h1, h2, h3⟩ := hp
    rw [e] at h2 hv
    exact ⟨by rw [hv]; exact congrArg (fun q => some (iv q)) (show M.1 13 + 1 - 1 = M.1 13 by omega), L2, Z2, jj + 1, h1, h2, h8.1, h3⟩
  · obtain ⟨hp, -⟩ := hp
    rw [e] at hp
    have z : (setS (setA (setA (setA (setS M 0 0) 14 (M.1 13).toNat c) 15 (M.1 13).toNat h9) 16 (M.1 13).toNat w) 13 (M.1 13 + 1)).1 0 = 0 := rfl
    rcases hp with ⟨-, hp⟩ | ⟨-, hp⟩
    · have hp2 : (setS (setA (setA (setA (setS M 0 0) 14 (M.1 13).toNat c) 15 (M.1 13).toNat h9) 16 (M.1 13).toNat w) 13 (M.1 13 + 1)).1 0 = 1 := hp
      omega
    · have hp2 : (setS (setA (setA (setA (setS M 0 0) 14 (M.1 13).toNat c) 15 (M.1 13).toNat h9) 16 (M.1 13).toNat w) 13 (M.1 13 + 1)).1 0 = 2 := hp
      omega
set_option maxHeartbeats 1000000 in
theorem q_card (hl : l.stackTraces = false) (hs : SX t0 ad y X Mr M) {f w : Int} (hf : 0 ≤ f ∧ f ≤ 2) (hw : 0 ≤ w ∧ w ≤ 3) (h12 : M.1 17 < 12) : Ct l D kA b t0 yX9_card cX9_card 4 (some FieldType.int) 7 179 [rv (some y), iv f, iv w] X 8 2100 (fun v Y => v = some (iv (M.1 17)) ∧ SX t0 ad y Y Mr (setS (setA (setA (setA (setS M 0 0) 18 (M.1 17).toNat f) 19 (M.1 17).toNat w) 20 (M.1 17).toNat 1) 17 (M.1 17 + 1))) (pF) := by
  obtain ⟨L, Z, jj, h, hZ, hI, rfl⟩ := hs
  have o0 := hI.1.1
  unfold okSc at o0
  have e : cdS M f w = (setS (setA (setA (setA (setS M 0 0) 18 (M.1 17).toNat f) 19 (M.1 17).toNat w) 20 (M.1 17).toNat 1) 17 (M.1 17 + 1), M.1 17 + 1 - 1) := by
    unfold cdS
    rw [if_pos hf, if_pos hw, if_neg (show ¬ M.1 17 = 12 by omega)]
  have h8 := stK_card (f := f) (r := w) hI
  rw [e] at h8
  refine Ct.weakx (c_X9_card hl h hZ hI (f := f) (r := w) (by omega) (by omega)) (fun v Y hp => ?_) (fun E Y hp => ?_)
  · obtain ⟨-, hv, L2, Z2, h1, h2, h3⟩ := hp
    rw [e] at h2 hv
    exact ⟨by rw [hv]; exact congrArg (fun q => some (iv q)) (show M.1 17 + 1 - 1 = M.1 17 by omega), L2, Z2, jj + 1, h1, h2, h8.1, h3⟩
  · obtain ⟨hp, -⟩ := hp
    rw [e] at hp
    have z : (setS (setA (setA (setA (setS M 0 0) 18 (M.1 17).toNat f) 19 (M.1 17).toNat w) 20 (M.1 17).toNat 1) 17 (M.1 17 + 1)).1 0 = 0 := rfl
    rcases hp with ⟨-, hp⟩ | ⟨-, hp⟩ | ⟨-, hp⟩
    · have hp2 := z.symm.trans hp
      omega
    · have hp2 := z.symm.trans hp
      omega
    · have hp2 := z.symm.trans hp
      omega
set_option maxHeartbeats 1000000 in
theorem q_socket (hl : l.stackTraces = false) (hs : SX t0 ad y X Mr M) {f w : Int} (hf : 0 ≤ f ∧ f ≤ 2) (hw : 1400 ≤ w ∧ w ≤ 50000) (h8 : M.1 6 < 8) : Ct l D kA b t0 yX9_socket cX9_socket 5 (some FieldType.int) 7 179 [rv (some y), iv f, iv w] X 8 2100 (fun v Y => v = some (iv (M.1 6)) ∧ SX t0 ad y Y Mr (setS (setA (setA (setS M 0 0) 7 (M.1 6).toNat f) 8 (M.1 6).toNat w) 6 (M.1 6 + 1))) (pF) := by
  obtain ⟨L, Z, jj, h, hZ, hI, rfl⟩ := hs
  have o0 := hI.1.1
  unfold okSc at o0
  have e : socS M f w = (setS (setA (setA (setS M 0 0) 7 (M.1 6).toNat f) 8 (M.1 6).toNat w) 6 (M.1 6 + 1), M.1 6 + 1 - 1) := by
    unfold socS
    rw [if_pos hf, if_pos hw, if_neg (show ¬ M.1 6 = 8 by omega)]
  have h9 := stK_soc (f := f) (w := w) hI
  rw [e] at h9
  refine Ct.weakx (c_X9_socket hl h hZ hI (f := f) (g := w) (by omega) (by omega)) (fun v Y hp => ?_) (fun E Y hp => ?_)
  · obtain ⟨-, hv, L2, Z2, h1, h2, h3⟩ := hp
    rw [e] at h2 hv
    exact ⟨by rw [hv]; exact congrArg (fun q => some (iv q)) (show M.1 6 + 1 - 1 = M.1 6 by omega), L2, Z2, jj + 1, h1, h2, h9.1, h3⟩
  · obtain ⟨hp, -⟩ := hp
    rw [e] at hp
    have z : (setS (setA (setA (setS M 0 0) 7 (M.1 6).toNat f) 8 (M.1 6).toNat w) 6 (M.1 6 + 1)).1 0 = 0 := rfl
    rcases hp with ⟨-, hp⟩ | ⟨-, hp⟩ | ⟨-, hp⟩
    · have hp2 := z.symm.trans hp
      omega
    · have hp2 := z.symm.trans hp
      omega
    · have hp2 := z.symm.trans hp
      omega
set_option maxHeartbeats 1000000 in
theorem q_tariff (hl : l.stackTraces = false) (hs : SX t0 ad y X Mr M) {f : Nat} {s d g i : Int} (hf : f ≤ 2) (h1 : 0 ≤ s ∧ s ≤ 1000) (h2 : 0 ≤ d ∧ d ≤ 1000) (h3 : 0 ≤ g ∧ g ≤ 1000) (h4 : 0 ≤ i ∧ i ≤ 1000) : Ct l D kA b t0 yX9_tariff cX9_tariff 7 none 7 112 [rv (some y), iv (f : Int), iv s, iv d, iv g, iv i] X 8 40 (fun v Y => v = none ∧ SX t0 ad y Y Mr (setA (setA (setA (setA (setS M 0 0) 23 (4 * f) s) 23 (4 * f + 1) d) 23 (4 * f + 2) g) 23 (4 * f + 3) i)) (pF) := by
  obtain ⟨L, Z, jj, h, hZ, hI, rfl⟩ := hs
  have e : tarS M f s d g i = setA (setA (setA (setA (setS M 0 0) 23 (4 * f) s) 23 (4 * f + 1) d) 23 (4 * f + 2) g) 23 (4 * f + 3) i := by
    unfold tarS
    rw [if_pos (show 0 ≤ (f : Int) ∧ (f : Int) ≤ 2 by omega), if_pos (show (0 ≤ s ∧ s ≤ 1000) ∧ (0 ≤ d ∧ d ≤ 1000) ∧ (0 ≤ g ∧ g ≤ 1000) ∧ (0 ≤ i ∧ i ≤ 1000) from ⟨h1, h2, h3, h4⟩)]
    rfl
  have h9 := stK_tar (f := (f : Int)) (s := s) (d := d) (n := g) (i := i) hI
  rw [e] at h9
  refine Ct.weakx (c_X9_tariff hl h hZ hI (f := (f : Int)) (s := s) (d := d) (n := g) (i := i) (by omega) (by omega) (by omega) (by omega) (by omega)) (fun v Y hp => ?_) (fun E Y hp => ?_)
  · obtain ⟨-, hv, L2, Z2, g1, g2, g3⟩ := hp
    rw [e] at g2
    exact ⟨hv, L2, Z2, jj + 1, g1, g2, h9.1, g3⟩
  · obtain ⟨hp, -⟩ := hp
    rw [e] at hp
    have z : (setA (setA (setA (setA (setS M 0 0) 23 (4 * f) s) 23 (4 * f + 1) d) 23 (4 * f + 2) g) 23 (4 * f + 3) i).1 0 = 0 := rfl
    rcases hp with ⟨-, hp⟩ | ⟨-, hp⟩
    · have hp2 := z.symm.trans hp
      omega
    · have hp2 := z.symm.trans hp
      omega
end SYS
