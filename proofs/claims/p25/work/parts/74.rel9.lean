/-! the class: passing -/
/-- minutes one by one, bookings aside -/
def pcN (M : Mo) (n : Nat) : Nat → Mo
  | 0 => setS M 0 0
  | k + 1 => pc1 (pcN M n k) n
theorem pc1_t (M : Mo) (n : Nat) : (∀ j, j ≠ 1 → j ≠ 2 → (pc1 M n).1 j = M.1 j) ∧ (pc1 M n).1 1 = M.1 1 + 1 ∧ ∀ k, M.2 37 k ≤ (pc1 M n).2 37 k := by
  have st := ptM_st M (powM M n) (dayM M) (m1M M n) n
  have e : (pc1 M n).1 = (setS (ptM M (powM M n) (dayM M) n (m1M M n)) 1 (M.1 1 + 1)).1 := by
    unfold pc1 lisM
    split <;> rfl
  refine ⟨fun j h1 h2 => ?_, ?_, fun k => ?_⟩
  · rw [e]
    refine (if_neg h1).trans ?_
    rw [st.1]
    exact if_neg h2
  · rw [e]
    rfl
  · have e2 : (pc1 M n).2 37 k = (ptM M (powM M n) (dayM M) n (m1M M n)).2 37 k := by
      unfold pc1 lisM
      split <;> rfl
    rw [e2, ptM_37]
    have e3 : (m1M M n).2 37 k = M.2 37 k := rfl
    rw [e3]
    split <;> omega
theorem pcN_t (M : Mo) (n : Nat) : ∀ k : Nat, (∀ j, j ≠ 0 → j ≠ 1 → j ≠ 2 → (pcN M n k).1 j = M.1 j) ∧ (pcN M n k).1 0 = 0 ∧ (pcN M n k).1 1 = M.1 1 + k := by
  intro k
  induction k with
  | zero => exact ⟨fun j h0 _ _ => if_neg h0, rfl, by show M.1 1 = M.1 1 + ((0 : Nat) : Int); omega⟩
  | succ k ih =>
    obtain ⟨h1, h2, h3⟩ := ih
    obtain ⟨p1, p2, -⟩ := pc1_t (pcN M n k) n
    refine ⟨fun j j0 j1 j2 => (p1 j j1 j2).trans (h1 j j0 j1 j2), (p1 0 (by decide) (by decide)).trans h2, p2.trans ?_⟩
    rw [h3]
    omega
theorem pcN_mono (M : Mo) (n i : Nat) : ∀ d k, (pcN M n i).2 37 k ≤ (pcN M n (i + d)).2 37 k := by
  intro d
  induction d with
  | zero => exact fun k => Int.le_refl _
  | succ d ih => exact fun k => Int.le_trans (ih k) ((pc1_t (pcN M n (i + d)) n).2.2 k)
theorem pcN_J {M : Mo} {n : Nat} (h : Jv M) (hn : (n : Int) = M.1 30) : ∀ k : Nat, M.1 1 + (k : Int) ≤ 20000 → Jv (pcN M n k) := by
  intro k
  induction k with
  | zero => exact fun _ => h
  | succ k ih =>
    intro hk
    obtain ⟨p1, p2, p3⟩ := pcN_t M n k
    exact jv_pc1 (ih (by omega)) (by rw [p1 30 (by decide) (by decide) (by decide)]; exact hn) (by rw [p3]; omega)
/-- what passing leaves -/
def paQ (t0 ao mo : Nat) (ad : Nat → Nat) (L : Ly) (Z : Zs) (Mr M2 : Mo) (Y : Mm) : Prop := ∃ L2 Z2, CX t0 ao mo ad L2 Y Z2 Mr ∧ zmX Z2 M2 ∧ zmT Z2 M2 ∧ zmW Z2 M2 ∧ lA L2 11 0 = lA L 11 0 ∧ yC Z2 = yC Z ∧ yT Z2 = yT Z ∧ yN Z2 65 = yN Z 65 ∧ yN Z2 66 = yN Z 66 ∧ ∀ u, u < yC Z 7 → yL Z2 (6 + u) = (yL Z (6 + u)).filter (fun q => !decide (yN Z 65 q + 15 ≤ M2.1 1))
section REL9
variable {l : Launch} {D : va_G} {kA : Nat → ClassId} {b t0 ao mo jj : Nat} {ad : Nat → Nat} {L : Ly} {X Y : Mm} {Z : Zs} {Mr M : Mo} {n : Nat}
set_option maxHeartbeats 2000000 in
set_option maxRecDepth 20000 in
theorem c_X9_pass (hl : l.stackTraces = false) (h : CX t0 ao mo ad L X Z Mr) (hZ : ZM Z M) (hI : Iv M jj) {g : Int} (hg : rng g) (hn : n = yC Z 6) : Ct l D kA b t0 yX9_pass cX9_pass 3 (some FieldType.int) 7 139 [rv (some (lA L 11 0)), iv g] X (2 + (phC M n - phC (pcN M n g.toNat) n)) (12 + (phS M n - phS (pcN M n g.toNat) n)) (fun v Y => ((1 ≤ g ∧ g ≤ 120) ∧ M.1 1 + g ≤ 20000) ∧ v = some (iv (M.1 1 + g)) ∧ paQ t0 ao mo ad L Z Mr (pcN M n g.toNat) Y) (fun E Y => ((E = "java/lang/IllegalArgumentException" ∧ ¬ (1 ≤ g ∧ g ≤ 120)) ∨ (E = "java/lang/IllegalStateException" ∧ (1 ≤ g ∧ g ≤ 120) ∧ 20000 < M.1 1 + g)) ∧ Y = X) := by
  refine Ct_mk hl (by decide) (Nat.le_of_ble_eq_true rfl) rfl ?_
  intro p9 e9 s9 m9 args9 below9 meth9 c9 C hr hx0
  obtain ⟨⟨zC, zL, zY, zF, zS, zA, zD, zE, zV⟩, zT, zW, zB⟩ := id hZ
  obtain ⟨hKy, ⟨ha0, ha1, ha2, ha3, ha4, ha5⟩, hlm, hsn, hdg⟩ := yd_C h hZ.1
  have o0 := hI.1.1
  unfold okSc at o0
  have c7 := zC.2.2.1
  have c3 := zC.2.2.2.1
  have c4 := zC.2.2.2.2.1
  have c6 := zC.2.2.2.2.2.1
  have hn9 : (n : Int) = M.1 30 := by omega
  have hJ : Jv M := ⟨hI.1, hI.2.1, hI.2.2.1, hI.2.2.2.1, hI.2.2.2.2.1, hI.2.2.2.2.2.1⟩
  refine V_iload_n C dX9_pass_0 rfl ?_
  refine V_iconst C dX9_pass_1 ?_
  refine V_bipush C dX9_pass_2 (by decide) ?_
  refine V_callS C (As := [_, _, _]) (c_X9_needWithin hl (z := g) (lo := 1) (hi := 120) hg (by decide) (by decide)) kX9_59 rfl rfl (Nat.le_of_ble_eq_true rfl) ⟨Nat.le_of_ble_eq_true rfl, Nat.le_of_ble_eq_true rfl⟩ ⟨(by first | exact Nat.le_of_ble_eq_true rfl | (dsimp only; omega)), (by first | exact Nat.le_of_ble_eq_true rfl | (dsimp only; omega))⟩ dX9_pass_4 (fun E Y hp => ?_) (fun v4 Y hp => ?_)
  · obtain ⟨rfl, rfl, hn5⟩ := hp
    exact VX_out C hx0 (by show _ ≤ 2 + (phC M n - phC (pcN M n g.toNat) n); omega) (by show _ ≤ 12 + (phS M n - phS (pcN M n g.toNat) n); omega) ⟨Or.inl ⟨rfl, hn5⟩, rfl⟩
  obtain ⟨rfl, hYX, hw4⟩ := hp
  have hXY := hYX.symm
  subst hXY
  refine V_aload_n C dX9_pass_7 rfl ?_
  refine V_getIx C cl10 fX9_31 (x := M.1 1) hKy (h.gi (f := 646) (c := 11) (i := 0) (by decide) (by rw [zC.1]; omega) zT.1) dX9_pass_8 ?_
  refine V_iload_n C dX9_pass_11 rfl ?_
  refine V_iadd C dX9_pass_12 ?_
  refine V_sipush C dX9_pass_13 (by decide) ?_
  refine V_icmp_le C dX9_pass_16 (by omega) (by decide) (fun h16 => ?_) (fun h16 => ?_)
  · refine V_iconst C dX9_pass_29 ?_
    refine V_istore_n C dX9_pass_30 (by decide) rfl ?_
    obtain ⟨m, hm⟩ : ∃ m : Nat, g = (m : Int) := ⟨g.toNat, by omega⟩
    subst hm
    have etm : ((m : Nat) : Int).toNat = m := by omega
    refine V_while C (St := Nat × Mm × Ly × Zs) (f := fun z => z.2.1) (g := fun z => [some (rv (some (lA L 11 0))), some (iv (m : Int)), some (iv (z.1 : Int))]) (cs := fun z => 1 + (phC M n - phC (pcN M n z.1) n)) (ss := fun z => 6 + (phS M n - phS (pcN M n z.1) n)) (μ := fun z => m + 1 - z.1) (I := fun z => z.1 ≤ m ∧ CX t0 ao mo ad z.2.2.1 z.2.1 z.2.2.2 Mr ∧ zmX z.2.2.2 (pcN M n z.1) ∧ zmT z.2.2.2 (pcN M n z.1) ∧ zmW z.2.2.2 (pcN M n z.1) ∧ kpL L z.2.2.1 ∧ yC z.2.2.2 = yC Z ∧ yT z.2.2.2 = yT Z ∧ yL z.2.2.2 = yL Z ∧ yN z.2.2.2 65 = yN Z 65 ∧ yN z.2.2.2 66 = yN Z 66) (x0 := (0, X, L, Z)) rfl rfl (by show 1 + (phC M n - phC (setS M 0 0) n) = _; rw [(ph_eq (M := M) (M2 := setS M 0 0) (fun _ => rfl) n).1]; omega) (by show 6 + (phS M n - phS (setS M 0 0) n) = _; rw [(ph_eq (M := M) (M2 := setS M 0 0) (fun _ => rfl) n).2]; omega) ⟨Nat.zero_le _, h, zmX_0 (v := 0) hZ.1, zT, zW, kpL.rf L, rfl, rfl, rfl, rfl, rfl⟩ ?_
    rintro ⟨i, Xi, Li, Zi⟩ ⟨hi, hCi, zi, zTi, zWi, kLi, k1, k2, k3, k4, k5⟩ ih
    dsimp only at hi hCi zi zTi zWi kLi k1 k2 k3 k4 k5 ih ⊢
    obtain ⟨p1, p2, p3⟩ := pcN_t M n i
    have hy := (yd_C hCi zi).1
    rw [kLi.1 11 (by decide)] at hy
    have hi0 := ph_le (M := M) (M2 := pcN M n i) (fun k => by have h9 := pcN_mono M n 0 i k; rw [Nat.zero_add] at h9; exact h9) n
    have him := ph_le (M := pcN M n i) (M2 := pcN M n m) (fun k => by have h9 := pcN_mono M n i (m - i) k; rw [show i + (m - i) = m by omega] at h9; exact h9) n
    have hJi := pcN_J hJ hn9 i (by omega)
    refine V_iload_n C dX9_pass_31 rfl ?_
    refine V_iload_n C dX9_pass_32 rfl ?_
    refine V_icmp_ge C dX9_pass_33 (by omega) (by omega) (fun h33 => ?_) (fun h33 => ?_)
    · obtain rfl : i = m := by omega
      have hbk : ∀ u, u < yC Zi 7 → ∀ q ∈ yL Zi (6 + u), 0 ≤ yN Zi 65 q ∧ yN Zi 65 q ≤ 20000 := fun u hu q hq => by
        rw [k1] at hu
        rw [k3] at hq
        have hm9 : bkZ Z q ∈ bkL M u := by rw [← zB.2 u hu]; exact List.mem_map.mpr ⟨q, hq, rfl⟩
        have h9 := hI.2.2.2.2.2.2.bk.2 u (by omega) _ hm9
        rw [k4]
        exact h9
      have hdr := c_X9_dropLateBookings (l := l) (D := D) (kA := kA) (b := b) hl hCi zi hJi.1 (now := M.1 1 + (i : Int)) (zTi.1.trans p3) (by omega) hbk
      rw [kLi.1 11 (by decide)] at hdr
      refine V_aload_n C dX9_pass_46 rfl ?_
      refine V_callV C (As := []) (hdr) kX9_217 hy rfl rfl (Nat.le_of_ble_eq_true rfl) ⟨Nat.le_of_ble_eq_true rfl, Nat.le_of_ble_eq_true rfl⟩ ⟨(by show 1 + (phC M n - phC (pcN M n i) n) + 0 ≤ 2 + (phC M n - phC (pcN M n ((i : Nat) : Int).toNat) n); rw [etm]; omega), (by show 6 + (phS M n - phS (pcN M n i) n) + 0 ≤ 12 + (phS M n - phS (pcN M n ((i : Nat) : Int).toNat) n); rw [etm]; omega)⟩ dX9_pass_47 (fun _ _ h => h.elim) (fun v47 Y47 hp => ?_)
      obtain ⟨rfl, hC4⟩ := hp
      have hyd := (yd_C hC4 (zDr_X zi)).1
      rw [kLi.1 11 (by decide)] at hyd
      have hn4 : gI Y47 646 (lA L 11 0) = M.1 1 + (i : Int) := by rw [← kLi.1 11 (by decide)]; exact hC4.gi (f := 646) (c := 11) (i := 0) (by decide) (show 0 < yC Zi 11 by rw [zi.1.1]; omega) (zTi.1.trans p3)
      refine V_aload_n C dX9_pass_50 rfl ?_
      refine V_getIx C cl10 fX9_31 (x := (M.1 1 + (i : Int))) hyd hn4 dX9_pass_51 ?_
      exact V_iret C (by show 1 + (phC M n - phC (pcN M n i) n) + 0 ≤ 2 + (phC M n - phC (pcN M n ((i : Nat) : Int).toNat) n); rw [etm]; omega) (by show 6 + (phS M n - phS (pcN M n i) n) + 0 ≤ 12 + (phS M n - phS (pcN M n ((i : Nat) : Int).toNat) n); rw [etm]; omega) ⟨⟨by omega, by omega⟩, rfl, by rw [etm]; exact ⟨Li, _, hC4, zDr_X zi, zTi, zWi, congrFun (kLi.1 11 (by decide)) 0, k1, k2, k4, k5, fun u hu => by rw [p3, ← k3, ← k4]; exact if_pos ⟨by omega, by rw [k1]; omega⟩⟩⟩ hr dX9_pass_54
    · have hi1 := ph_le (M := pcN M n i) (M2 := pc1 (pcN M n i) n) (fun k => (pc1_t (pcN M n i) n).2.2 k) n
      have hi2 := ph_le (M := pc1 (pcN M n i) n) (M2 := pcN M n m) (fun k => by have h9 := pcN_mono M n (i + 1) (m - (i + 1)) k; rw [show i + 1 + (m - (i + 1)) = m by omega] at h9; exact h9) n
      have hpm := c_X9_passMinute (l := l) (D := D) (kA := kA) (b := b) hl hCi zi zTi zWi hJi.1 hJi.2.2.1 hJi.2.2.2.1 hJi.2.2.2.2.1 (by rw [p3]; omega) (show n = yC Zi 6 by rw [k1]; exact hn)
      rw [kLi.1 11 (by decide)] at hpm
      refine V_aload_n C dX9_pass_36 rfl ?_
      refine V_callV C (As := []) (hpm) kX9_214 hy rfl rfl (Nat.le_of_ble_eq_true rfl) ⟨Nat.le_of_ble_eq_true rfl, Nat.le_of_ble_eq_true rfl⟩ ⟨(by show 1 + (phC M n - phC (pcN M n i) n) + (phC (pcN M n i) n - phC (pc1 (pcN M n i) n) n) ≤ 2 + (phC M n - phC (pcN M n ((m : Nat) : Int).toNat) n); rw [etm]; omega), (by show 6 + (phS M n - phS (pcN M n i) n) + (phS (pcN M n i) n - phS (pc1 (pcN M n i) n) n) ≤ 12 + (phS M n - phS (pcN M n ((m : Nat) : Int).toNat) n); rw [etm]; omega)⟩ dX9_pass_37 (fun _ _ h => h.elim) (fun v37 Y37 hp => ?_)
      obtain ⟨rfl, L3, Z3, hC3, zX3, zT3, zW3, kL3, k31, k32, k33, k34, k35⟩ := hp
      refine V_iinc C dX9_pass_40 (by decide) rfl rfl ?_
      refine V_goto C dX9_pass_43 ?_
      have h8 := ih (i + 1, Y37, L3, Z3) ⟨by show i + 1 ≤ m; omega, hC3, zX3, zT3, zW3, kLi.tr kL3, k31.trans k1, k32.trans k2, k33.trans k3, k34.trans k4, k35.trans k5⟩ (by show m + 1 - (i + 1) < m + 1 - i; omega)
      dsimp only at h8
      exact V_widen (by show _ ≤ 1 + (phC M n - phC (pc1 (pcN M n i) n) n); omega) (by show _ ≤ 6 + (phS M n - phS (pc1 (pcN M n i) n) n); omega) h8
  · exact V_throw C tX9_212 hx0 dX9_pass_19.1 dX9_pass_22.1 dX9_pass_23.1 dX9_pass_25.1 dX9_pass_28.1 (Nat.le_of_ble_eq_true rfl) (Nat.le_of_ble_eq_true rfl) (by first | exact Nat.le_of_ble_eq_true rfl | (dsimp only; omega)) (by first | exact Nat.le_of_ble_eq_true rfl | (dsimp only; omega)) (by omega) (by omega) ⟨Or.inr ⟨rfl, hw4, by omega⟩, rfl⟩
end REL9
