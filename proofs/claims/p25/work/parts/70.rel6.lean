/-! the class: unplugging, disputes -/
theorem u1_self {α : Type} (g : Nat → α) (a : Nat) : u1 g a (g a) = g := by
  funext x
  unfold u1
  split
  · rename_i e
    rw [e]
  · rfl
/-- times, a value a minute, bookings: left as they are -/
theorem zm_rest {Z Z2 : Zs} {M M2 : Mo} (hZ : ZM Z M) (h1 : yC Z2 = yC Z) (h2 : yN Z2 646 = yN Z 646) (h3 : yN Z2 650 = yN Z 650) (h4 : yN Z2 576 = yN Z 576) (h5 : yN Z2 65 = yN Z 65) (h6 : yN Z2 66 = yN Z 66) (h7 : yT Z2 64 = yT Z 64) (h8 : ∀ u, yL Z2 (6 + u) = yL Z (6 + u)) (m1 : M2.1 1 = M.1 1) (m2 : M2.1 2 = M.1 2) (m3 : M2.2 37 = M.2 37) (m4 : ∀ k, M2.2 34 k = 1 → M.2 34 k = 1) (m5 : ∀ u, bkL M2 u = bkL M u) : zmT Z2 M2 ∧ zmW Z2 M2 ∧ zmB Z2 M2 := by
  obtain ⟨-, zT, zW, zB⟩ := hZ
  refine ⟨⟨by rw [h2, m1]; exact zT.1, by rw [h3, m2]; exact zT.2⟩, fun k hk => ?_, zmB_congr zB (by rw [h1]) (by rw [h1]) h7 h5 h6 h8 m5⟩
  rw [h1] at hk
  rw [h4, m1, m3]
  exact ⟨(zW k hk).1, fun y => (zW k hk).2 (m4 k y)⟩
theorem zm_unplug {Z Z2 : Zs} {M : Mo} {k : Nat} (z : zmX Z M) (hO : OkM M) (hCc : ivC M) (hk : k < yC Z 6) (h1 : M.2 34 k = 1) (hC : yC Z2 = yC Z) (hT : ∀ f i, f ≠ 390 ∨ i ≠ (M.2 31 k).toNat → yT Z2 f i = yT Z f i) (hN : ∀ f i, (f ≠ 329 ∨ i ≠ k) → (f ≠ 132 ∨ i ≠ (M.2 32 k).toNat) → yN Z2 f i = yN Z f i) (n329 : yN Z2 329 k = 1) (n132 : yN Z2 132 (M.2 32 k).toNat = 0) (t390 : yT Z2 390 (M.2 31 k).toNat = none) (hL : yL Z2 = u1 (yL Z) 5 (((List.range (yC Z 6)).filter (rnM M)).filter (fun j => !(j == k)))) (hR : yR Z2 = yR Z) (hK : yK Z2 = yK Z) : zmX Z2 (setA (setA M 34 k 2) 12 (M.2 31 k).toNat (-1)) := by
  obtain ⟨zC, zL, zY, zF, zS, zA, zD, zE, zV⟩ := z
  have fN : ∀ f, (f ≠ 329 ∧ f ≠ 132) → yN Z2 f = yN Z f := fun f hf => funext fun i => hN f i (Or.inl hf.1) (Or.inl hf.2)
  have fT : ∀ f, f ≠ 390 → yT Z2 f = yT Z f := fun f hf => funext fun i => hT f i (Or.inl hf)
  have m34 : ∀ j, (setA (setA M 34 k 2) 12 (M.2 31 k).toNat (-1)).2 34 j = if j = k then 2 else M.2 34 j := fun _ => rfl
  have h34 : ∀ j, (setA (setA M 34 k 2) 12 (M.2 31 k).toNat (-1)).2 34 j = 1 ↔ (j ≠ k ∧ M.2 34 j = 1) := fun j => by
    rw [m34]
    by_cases e : j = k
    · rw [if_pos e]
      exact ⟨fun y => absurd y (by decide), fun y => absurd e y.1⟩
    · rw [if_neg e]
      exact ⟨fun y => ⟨e, y⟩, fun y => y.2⟩
  have k9 : ∀ j : Nat, j < yC Z 6 → (j : Int) < M.1 30 := fun j hj => by have := zC.2.2.2.2.2.1; omega
  have qzmC : zmC Z2 (setA (setA M 34 k 2) 12 (M.2 31 k).toNat (-1)) := by unfold zmC; rw [hC]; exact zC
  have qzmY : zmY Z2 (setA (setA M 34 k 2) 12 (M.2 31 k).toNat (-1)) := by unfold zmY; rw [fT 640 (by decide), fT 641 (by decide), fT 642 (by decide), fT 643 (by decide), fT 644 (by decide), fT 645 (by decide), fN 647 (by decide), fN 648 (by decide), fN 649 (by decide)]; exact zY
  have qzmF : zmF Z2 (setA (setA M 34 k 2) 12 (M.2 31 k).toNat (-1)) := by unfold zmF trfI; rw [hC, fT 256 (by decide), fN 257 (by decide), fN 512 (by decide), fN 513 (by decide), fN 514 (by decide), fN 515 (by decide)]; exact zF
  have qzmD : zmD Z2 (setA (setA M 34 k 2) 12 (M.2 31 k).toNat (-1)) := by unfold zmD; rw [hC, fT 192 (by decide), fN 193 (by decide), fN 194 (by decide), fN 195 (by decide), fN 196 (by decide)]; exact zD
  have qzmV : zmV Z2 (setA (setA M 34 k 2) 12 (M.2 31 k).toNat (-1)) := by unfold zmV tlZ; rw [hC, fT 577 (by decide), fT 580 (by decide), fN 578 (by decide), fN 579 (by decide), fN 576 (by decide), fN 448 (by decide), fN 449 (by decide), fN 450 (by decide), fN 451 (by decide), hR, hK]; exact zV
  refine ⟨qzmC, ?_, qzmY, qzmF, fun i hi => ?_, fun i hi => ?_, qzmD, fun j hj => ?_, qzmV⟩
  · obtain ⟨l1, l2, l3, l4, l5, l6⟩ := zL
    unfold zmL
    rw [hC, hL]
    refine ⟨l1, l2, l3, l4, l5, ?_⟩
    show (if 5 = 5 then ((List.range (yC Z 6)).filter (rnM M)).filter (fun j => !(j == k)) else yL Z 5) = _
    rw [if_pos rfl, List.filter_filter]
    refine List.filter_congr (fun j _ => ?_)
    have e : rnM (setA (setA M 34 k 2) 12 (M.2 31 k).toNat (-1)) j = decide (j ≠ k ∧ M.2 34 j = 1) := decide_eq_decide.mpr (h34 j)
    rw [e]
    unfold rnM
    by_cases e1 : j = k <;> by_cases e2 : M.2 34 j = 1 <;> simp [e1, e2]
  · rw [hC] at hi
    obtain ⟨a1, a2, a3, a4, a5, a6, a7, a8⟩ := zS i hi
    rw [fN 384 (by decide), fN 386 (by decide), fN 387 (by decide), fN 388 (by decide), fN 389 (by decide), fT 385 (by decide), fT 391 (by decide)]
    refine ⟨a1, a2, a3, a4, a5, a6, ?_, a8⟩
    show yT Z2 390 i = (if (if i = (M.2 31 k).toNat then -1 else M.2 12 i) = -1 then none else some (if i = (M.2 31 k).toNat then (-1 : Int) else M.2 12 i).toNat)
    by_cases e : i = (M.2 31 k).toNat
    · rw [if_pos e, if_pos rfl, e]
      exact t390
    · rw [if_neg e, hT 390 i (Or.inr e)]
      exact a7
  · rw [hC] at hi
    obtain ⟨a1, a2, a3, a4, a5, a6⟩ := zA i hi
    rw [fN 128 (by decide), fN 129 (by decide), fN 130 (by decide), fN 131 (by decide), hC]
    by_cases e : i = (M.2 32 k).toNat
    · refine ⟨a1, a2, a3, a4, Or.inl (by rw [e]; exact n132), fun y => ?_, fun y => ?_⟩
      · rw [e, n132] at y
        exact absurd y (by decide)
      · obtain ⟨j, j1, j2, j3⟩ := y
        have j4 := (h34 j).mp j2
        have o := (hO.2.2.2.2.1 k (k9 k hk)).1
        unfold okSe at o
        have j3 : M.2 32 j = (i : Int) := j3
        exact absurd (hCc j k (k9 j j1) (k9 k hk) j4.2 h1 (by omega)) j4.1
    · rw [hN 132 i (Or.inl (by decide)) (Or.inr e)]
      refine ⟨a1, a2, a3, a4, a5, a6.trans ⟨?_, ?_⟩⟩
      · rintro ⟨j, j1, j2, j3⟩
        refine ⟨j, j1, (h34 j).mpr ⟨fun ej => e ?_, j2⟩, j3⟩
        rw [ej] at j3
        omega
      · rintro ⟨j, j1, j2, j3⟩
        exact ⟨j, j1, ((h34 j).mp j2).2, j3⟩
  · rw [hC] at hj
    obtain ⟨a1, a2, a3, a4, a5, a6, a7, a8, a9, a10⟩ := zE j hj
    unfold trfI
    rw [fT 320 (by decide), fT 321 (by decide), fT 322 (by decide), fT 324 (by decide), fT 323 (by decide), hC, fN 512 (by decide), fN 513 (by decide), fN 514 (by decide), fN 515 (by decide), fN 325 (by decide), fN 326 (by decide), fN 330 (by decide), fN 331 (by decide), fN 328 (by decide), fN 327 (by decide), m34]
    by_cases e : j = k
    · subst e
      rw [n329, if_pos rfl, if_neg (by decide), if_neg (by decide)]
      rw [h1, if_neg (by decide)] at a6
      exact ⟨a1, a2, a3, a4, rfl, a6, a7, a8, a9, fun y => absurd y (by decide)⟩
    · rw [hN 329 j (Or.inr e) (Or.inl (by decide)), if_neg e]
      exact ⟨a1, a2, a3, a4, a5, a6, a7, a8, a9, a10⟩
theorem ok_unplug {M : Mo} {k s : Nat} (hO : OkM M) : OkM (setA (setA M 34 k 2) 12 s (-1)) := by
  refine ⟨hO.1, fun i hi => ?_, hO.2.2.1, hO.2.2.2.1, fun j hj => ⟨?_, (hO.2.2.2.2.1 j hj).2⟩, hO.2.2.2.2.2⟩
  · have o := hO.2.1 i hi
    unfold okSo at o ⊢
    refine ⟨o.1, o.2.1, o.2.2.1, o.2.2.2.1, o.2.2.2.2.1, ?_, o.2.2.2.2.2.2⟩
    have s0 := hO.1
    unfold okSc at s0
    show -1 ≤ (if i = s then -1 else M.2 12 i) ∧ (if i = s then -1 else M.2 12 i) < M.1 30
    split <;> omega
  · have o := (hO.2.2.2.2.1 j hj).1
    unfold okSe at o ⊢
    refine ⟨o.1, o.2.1, o.2.2.1, ?_, o.2.2.2.2⟩
    show 1 ≤ (if j = k then 2 else M.2 34 j) ∧ (if j = k then 2 else M.2 34 j) ≤ 3
    split <;> omega
theorem zm_disp {Z : Zs} {M : Mo} {k : Nat} (z : zmX Z M) : zmX (zsN Z 331 k 1) (setA M 47 k 1) := by
  obtain ⟨zC, zL, zY, zF, zS, zA, zD, zE, zV⟩ := z
  refine ⟨zC, zL, zY, zF, zS, zA, zD, fun j hj => ?_, zV⟩
  obtain ⟨a1, a2, a3, a4, a5, a6, a7, a8⟩ := zE j hj
  refine ⟨a1, a2, a3, a4, a5, a6, ?_, a8⟩
  show (if 331 = 331 ∧ j = k then 1 else yN Z 331 j) = if j = k then 1 else M.2 47 j
  by_cases e : j = k
  · rw [if_pos ⟨rfl, e⟩, if_pos e]
  · rw [if_neg (fun y => e y.2), if_neg e]
    exact a7
theorem tdiv_part {x h : Int} (h1 : 0 ≤ x) (h2 : 0 ≤ h) : (x * h).tdiv 100 = x * h / 100 := Int.tdiv_eq_ediv_of_nonneg (Int.mul_nonneg h1 h2)
section REL6
variable {l : Launch} {D : va_G} {kA : Nat → ClassId} {b t0 ao mo jj : Nat} {ad : Nat → Nat} {L : Ly} {X Y : Mm} {Z : Zs} {Mr M : Mo} {n : Nat}
theorem r_leave (hl : l.stackTraces = false) (h : CX t0 ao mo ad L X Z Mr) {k : Nat} {xs : List Nat} (hx : yL Z 5 = xs) (hk : k < yC Z 6) (h0 : 0 < yC Z 11) (hy : yT Z 645 0 = some 5) (h1 : 5 < yC Z 1) : Ct l D kA b t0 yX9_leaveRunning cX9_leaveRunning 3 none 3 94 [rv (some (lA L 11 0)), rv (some (lA L 6 k))] X 0 0 (fun v Y => v = none ∧ CX t0 ao mo ad L Y (zsL Z 5 (xs.filter (fun j => !(j == k)))) Mr) pF := by
  subst hx
  have hli := h.li (j := 5) (c := 6) h1 rfl rfl
  have hdk := h.dk h1
  have hm := (h.2.2.2.2.2.2.1 5 h1).2
  have hk1 := h.gk (c := 1) (by decide) h1
  refine Ct.weak (c_X9_leaveRunning hl (x := lA L 6 k) (h.gk (by decide) h0) (h.gp (f := 645) (g := 1) (by decide) h0 hy).1 hli (fun e => by rw [e] at hdk; omega)) ?_
  rintro v Y ⟨rfl, hL, hK, hF⟩
  refine ⟨rfl, ?_⟩
  have e : ((yL Z 5).map (lA L 6)).filter (fun v => !(v == lA L 6 k)) = ((yL Z 5).filter (fun j => !(j == k))).map (lA L 6) := by
    rw [List.filter_map]
    refine congrArg (List.map (lA L 6)) (List.filter_congr (fun j hj => ?_))
    show (!(lA L 6 j == lA L 6 k)) = !(j == k)
    by_cases e : j = k
    · subst e
      have e1 : (lA L 6 j == lA L 6 j) = true := by simp
      have e2 : (j == j) = true := by simp
      rw [e1, e2]
    · have h9 : lA L 6 j ≠ lA L 6 k := fun y => e (h.inj (c := 6) (hm j hj) hk y)
      have e1 : (lA L 6 j == lA L 6 k) = false := by simp [h9]
      have e2 : (j == k) = false := by simp [e]
      rw [e1, e2]
  rw [e] at hL
  have hc := h.lst (j := 5) h1 (Y := Y) (xs := (yL Z 5).filter (fun j => !(j == k))) hL (fun u hu => hm u (List.mem_filter.mp hu).1) hF (fun h24 => by
    have e1 : gK Y (lD L 5) = 24 := by rw [hK]; exact h24
    refine ⟨e1, ?_⟩
    rcases hL.2.2.2.2.1 with y | y
    · omega
    · rw [hL.2.2.2.1]
      exact y.2.2) (Or.inl rfl)
  rw [u1_self, u1_self] at hc
  exact hc
set_option maxHeartbeats 2000000 in
set_option maxRecDepth 20000 in
theorem c_X9_unplug (hl : l.stackTraces = false) (h : CX t0 ao mo ad L X Z Mr) (hZ : ZM Z M) (hI : Iv M jj) {q : Int} (hq : rng q) : Ct l D kA b t0 yX9_unplug cX9_unplug 3 (some FieldType.int) 7 116 [rv (some (lA L 11 0)), iv q] X 2 12 (fun v Y => ((unpS M q).1).1 0 = 0 ∧ v = some (iv ((unpS M q).2)) ∧ clR t0 ao mo ad L Mr ((unpS M q).1) Y) (fun E Y => ((E = "java/lang/IndexOutOfBoundsException" ∧ ((unpS M q).1).1 0 = 1) ∨ (E = "java/lang/IllegalStateException" ∧ ((unpS M q).1).1 0 = 2)) ∧ clR t0 ao mo ad L Mr ((unpS M q).1) Y) := by
  refine Ct_mk hl (by decide) (Nat.le_of_ble_eq_true rfl) rfl ?_
  intro p9 e9 s9 m9 args9 below9 meth9 c9 C hr hx0
  obtain ⟨⟨zC, zL, zY, zF, zS, zA, zD, zE, zV⟩, zT, zW, zB⟩ := id hZ
  obtain ⟨hKy, ⟨ha0, ha1, ha2, ha3, ha4, ha5⟩, hlm, hsn, hdg⟩ := yd_C h hZ.1
  have o0 := hI.1.1
  unfold okSc at o0
  have c7 := zC.2.2.1
  have c3 := zC.2.2.2.1
  have c4 := zC.2.2.2.2.1
  have c6 := zC.2.2.2.2.2.1
  refine V_aload_n C dX9_unplug_0 rfl ?_
  refine V_iload_n C dX9_unplug_1 rfl ?_
  refine V_callV C (As := [_]) (r_sessionAt hl h hZ.1 hq) kX9_170 hKy rfl rfl (Nat.le_of_ble_eq_true rfl) ⟨Nat.le_of_ble_eq_true rfl, Nat.le_of_ble_eq_true rfl⟩ ⟨(by first | exact Nat.le_of_ble_eq_true rfl | (dsimp only; omega)), (by first | exact Nat.le_of_ble_eq_true rfl | (dsimp only; omega))⟩ dX9_unplug_2 (fun E Y hp => ?_) (fun v2 Y hp => ?_)
  · obtain ⟨rfl, rfl, hn⟩ := hp
    exact VX_out C hx0 (by omega) (by omega) (by rw [show unpS M q = _ from if_neg (by omega)]; exact ⟨Or.inl ⟨rfl, rfl⟩, L, Z, h, hZ, rfl⟩)
  obtain ⟨rfl, hYX, hw2, hi2⟩ := hp
  have hXY := hYX.symm
  subst hXY
  obtain ⟨sC, i1, i2, i3, i4⟩ := se_C h hZ.1 hi2
  have zek := zE _ hi2
  have zvk := zV _ hi2
  have o6 := (hI.1.2.2.2.2.1 q.toNat (by omega)).1
  unfold okSe at o6
  refine V_astore_n C dX9_unplug_5 (by decide) rfl ?_
  refine V_aload_n C dX9_unplug_6 rfl ?_
  refine V_getIx C cl5 fX9_174 (x := (if M.2 34 q.toNat = 1 then (0 : Int) else 1)) sC.1 (h.gi (f := 329) (c := 6) (by decide) hi2 zek.2.2.2.2.1) dX9_unplug_7 ?_
  refine V_if_eq C dX9_unplug_10 (by split <;> decide) (fun h10 => ?_) (fun h10 => ?_)
  · refine V_aload_n C dX9_unplug_23 rfl ?_
    refine V_iconst C dX9_unplug_24 ?_
    refine V_putZ C cl5 fX9_174 (Or.inl rfl) rfl (by first | decide | omega | (split <;> omega)) sC.1 dX9_unplug_25 ?_
    refine V_aload_n C dX9_unplug_28 rfl ?_
    refine V_getP C cl5 fX9_179 (r := some ((lA L 3 (M.2 32 q.toNat).toNat))) sC.1 sC.2.2.1.1 dX9_unplug_29 ?_
    refine V_iconst C dX9_unplug_32 ?_
    refine V_putZ C cl2 fX9_183 (Or.inl rfl) rfl (by first | decide | omega | (split <;> omega)) sC.2.2.1.2 dX9_unplug_33 ?_
    refine V_aload_n C dX9_unplug_36 rfl ?_
    refine V_getP C cl5 fX9_186 (r := some ((lA L 7 (M.2 31 q.toNat).toNat))) sC.1 sC.2.1.1 dX9_unplug_37 ?_
    refine V_null C dX9_unplug_40 ?_
    refine V_putP C cl6 fX9_190 (Or.inl rfl) (Or.inl ⟨_, rfl⟩) sC.2.1.2 dX9_unplug_41 ?_
    have how1 : M.2 34 q.toNat = 1 := Classical.byContradiction fun y => by rw [if_neg y] at h10; omega
    have c1 := ((h.putI (f := 329) (c := 6) (i := q.toNat) (v := 1) rfl (by decide) (by decide) hi2 rfl).putI (f := 132) (c := 3) (i := (M.2 32 q.toNat).toNat) (v := 0) rfl (by decide) (by decide) i2 rfl).putP (f := 390) (c := 7) (i := (M.2 31 q.toNat).toNat) (r := none) (v := none) rfl (by decide) (by decide) i1 rfl rfl (fun j hj => by cases hj)
    have hlv := r_leave (l := l) (D := D) (kA := kA) (b := b) hl c1 (k := q.toNat) (xs := (List.range (yC Z 6)).filter (rnM M)) zL.2.2.2.2.2 hi2 (show 0 < yC Z 11 by rw [zC.1]; omega) (show yT Z 645 0 = some 5 from zY.1.2.2.2.2.2) (by have := zC.2.2.2.2.2.2.2.2.2; show 5 < yC Z 1; omega)
    refine V_aload_n C dX9_unplug_44 rfl ?_
    refine V_aload_n C dX9_unplug_45 rfl ?_
    refine V_callV C (As := [_]) (hlv) kX9_194 hKy rfl rfl (Nat.le_of_ble_eq_true rfl) ⟨Nat.le_of_ble_eq_true rfl, Nat.le_of_ble_eq_true rfl⟩ ⟨(by first | exact Nat.le_of_ble_eq_true rfl | (dsimp only; omega)), (by first | exact Nat.le_of_ble_eq_true rfl | (dsimp only; omega))⟩ dX9_unplug_46 (fun _ _ h => h.elim) (fun v46 Y46 hp => ?_)
    obtain ⟨rfl, hc2⟩ := hp
    have hz2 := zm_unplug (Z2 := zsL (zsT (zsN (zsN Z 329 q.toNat 1) 132 (M.2 32 q.toNat).toNat 0) 390 (M.2 31 q.toNat).toNat none) 5 (((List.range (yC Z 6)).filter (rnM M)).filter (fun j => !(j == q.toNat)))) (zmX_0 (v := 0) hZ.1) (M := setS M 0 0) (k := q.toNat) hI.1 hI.2.2.2.1 hi2 how1 rfl (fun f i hf => if_neg (fun e => by rcases hf with y | y; exact y e.1; exact y e.2)) (fun f i h1 h2 => (if_neg (fun e => by rcases h2 with y | y; exact y e.1; exact y e.2)).trans (if_neg (fun e => by rcases h1 with y | y; exact y e.1; exact y e.2))) (if_pos ⟨rfl, rfl⟩) (if_pos ⟨rfl, rfl⟩) (if_pos ⟨rfl, rfl⟩) rfl rfl rfl
    have hst := r_settle (l := l) (D := D) (kA := kA) (b := b) hl hc2 hz2 (ok_unplug (M := setS M 0 0) hI.1) (k := q.toNat) hi2 (hI.2.2.2.2.1 q.toNat (by omega)).2.2.2.2.2.2.1
    refine V_aload_n C dX9_unplug_49 rfl ?_
    refine V_callS C (As := [_]) (hst) kX9_197 rfl rfl (Nat.le_of_ble_eq_true rfl) ⟨Nat.le_of_ble_eq_true rfl, Nat.le_of_ble_eq_true rfl⟩ ⟨(by first | exact Nat.le_of_ble_eq_true rfl | (dsimp only; omega)), (by first | exact Nat.le_of_ble_eq_true rfl | (dsimp only; omega))⟩ dX9_unplug_50 (fun _ _ h => h.elim) (fun v50 Y50 hp => ?_)
    obtain ⟨rfl, Z3, hc3, hz3, hk3⟩ := hp
    have hK6 := hc3.gk (c := 6) (i := q.toNat) (by decide) (by rw [hk3.1]; exact hi2)
    have i43 : q.toNat < yC Z3 10 := by rw [hk3.1]; exact i4
    have hK10 := hc3.gk (c := 10) (i := q.toNat) (by decide) i43
    have hp324 := (hc3.gp (f := 324) (g := 10) (c := 6) (i := q.toNat) (j := q.toNat) (by decide) (by rw [hk3.1]; exact hi2) (by rw [hk3.2.1]; exact zek.1.2.2.2)).1
    have hg578 := hc3.gi (f := 578) (c := 10) (i := q.toNat) (v := M.2 37 q.toNat) (by decide) i43 (by rw [hk3.2.2.2.2.2 578 (by decide) (by decide) (by decide)]; exact zvk.2.2.1)
    have hg579 := hc3.gi (f := 579) (c := 10) (i := q.toNat) (v := M.2 38 q.toNat) (by decide) i43 (by rw [hk3.2.2.2.2.2 579 (by decide) (by decide) (by decide)]; exact zvk.2.2.2.1)
    have hus : unpS M q = (if M.2 37 q.toNat - M.2 38 q.toNat = 0 then payM (setA (setA (setS M 0 0) 34 q.toNat 2) 12 (M.2 31 q.toNat).toNat (-1)) q.toNat else (setA (setA (setS M 0 0) 34 q.toNat 2) 12 (M.2 31 q.toNat).toNat (-1)), M.2 37 q.toNat - M.2 38 q.toNat) := (if_pos (show 0 ≤ q ∧ q < M.1 30 by omega)).trans (if_pos how1)
    have hcd : ((setA (setA (setS M 0 0) 34 q.toNat 2) 12 (M.2 31 q.toNat).toNat (-1)).2 34 q.toNat = 2 ∧ (setA (setA (setS M 0 0) 34 q.toNat 2) 12 (M.2 31 q.toNat).toNat (-1)).2 37 q.toNat ≤ (setA (setA (setS M 0 0) 34 q.toNat 2) 12 (M.2 31 q.toNat).toNat (-1)).2 38 q.toNat) ↔ M.2 37 q.toNat - M.2 38 q.toNat = 0 := by
      have : M.2 38 q.toNat ≤ M.2 37 q.toNat := o6.2.2.2.2.2.2.1.2.1
      constructor
      · rintro ⟨-, y⟩
        have y : M.2 37 q.toNat ≤ M.2 38 q.toNat := y
        omega
      · intro y
        exact ⟨if_pos rfl, show M.2 37 q.toNat ≤ M.2 38 q.toNat by omega⟩
    have hz4 : zmX Z3 (if M.2 37 q.toNat - M.2 38 q.toNat = 0 then payM (setA (setA (setS M 0 0) 34 q.toNat 2) 12 (M.2 31 q.toNat).toNat (-1)) q.toNat else (setA (setA (setS M 0 0) 34 q.toNat 2) 12 (M.2 31 q.toNat).toNat (-1))) := by
      have y3 : zmX Z3 (if (setA (setA (setS M 0 0) 34 q.toNat 2) 12 (M.2 31 q.toNat).toNat (-1)).2 34 q.toNat = 2 ∧ (setA (setA (setS M 0 0) 34 q.toNat 2) 12 (M.2 31 q.toNat).toNat (-1)).2 37 q.toNat ≤ (setA (setA (setS M 0 0) 34 q.toNat 2) 12 (M.2 31 q.toNat).toNat (-1)).2 38 q.toNat then payM (setA (setA (setS M 0 0) 34 q.toNat 2) 12 (M.2 31 q.toNat).toNat (-1)) q.toNat else (setA (setA (setS M 0 0) 34 q.toNat 2) 12 (M.2 31 q.toNat).toNat (-1))) := hz3
      by_cases e0 : M.2 37 q.toNat - M.2 38 q.toNat = 0
      · rw [if_pos (hcd.mpr e0)] at y3; rw [if_pos e0]; exact y3
      · rw [if_neg (fun y => e0 (hcd.mp y))] at y3; rw [if_neg e0]; exact y3
    have hrs : zmT Z3 (unpS M q).1 ∧ zmW Z3 (unpS M q).1 ∧ zmB Z3 (unpS M q).1 := by
      have hm34 : ∀ k, (unpS M q).1.2 34 k = 1 → M.2 34 k = 1 := fun k => by rw [hus]; dsimp only; split <;> (intro y; by_cases e : k = q.toNat; (rw [e]; exact how1); (first | (have y : (if k = q.toNat then 3 else if k = q.toNat then 2 else M.2 34 k) = 1 := y; rw [if_neg e, if_neg e] at y; exact y) | (have y : (if k = q.toNat then 2 else M.2 34 k) = 1 := y; rw [if_neg e] at y; exact y)))
      refine zm_rest hZ hk3.1 ?_ ?_ ?_ ?_ ?_ ?_ ?_ ?_ ?_ ?_ hm34 ?_
      · exact (hk3.2.2.2.2.2 646 (by decide) (by decide) (by decide)).trans (funext fun x => rfl)
      · exact (hk3.2.2.2.2.2 650 (by decide) (by decide) (by decide)).trans (funext fun x => rfl)
      · exact (hk3.2.2.2.2.2 576 (by decide) (by decide) (by decide)).trans (funext fun x => rfl)
      · exact (hk3.2.2.2.2.2 65 (by decide) (by decide) (by decide)).trans (funext fun x => rfl)
      · exact (hk3.2.2.2.2.2 66 (by decide) (by decide) (by decide)).trans (funext fun x => rfl)
      · rw [hk3.2.1]; exact funext fun x => rfl
      · intro u; rw [hk3.2.2.1]; exact if_neg (by omega)
      · rw [hus]; dsimp only; split <;> rfl
      · rw [hus]; dsimp only; split <;> rfl
      · rw [hus]; dsimp only; split <;> rfl
      · intro u; rw [hus]; dsimp only; split <;> rfl
    refine V_aload_n C dX9_unplug_53 rfl ?_
    refine V_getP C cl5 fX9_200 (r := some ((lA L 10 q.toNat))) hK6 hp324 dX9_unplug_54 ?_
    refine V_getIx C cl9 fX9_204 (x := M.2 37 q.toNat) hK10 hg578 dX9_unplug_57 ?_
    refine V_aload_n C dX9_unplug_60 rfl ?_
    refine V_getP C cl5 fX9_200 (r := some ((lA L 10 q.toNat))) hK6 hp324 dX9_unplug_61 ?_
    refine V_getIx C cl9 fX9_209 (x := M.2 38 q.toNat) hK10 hg579 dX9_unplug_64 ?_
    refine V_isub C dX9_unplug_67 ?_
    exact V_iret C (by omega) (by omega) (by rw [hus] at hrs ⊢; exact ⟨by dsimp only; split <;> rfl, rfl, L, Z3, hc3, ⟨hz4, hrs⟩, rfl⟩) hr dX9_unplug_68
  · exact V_throw C tX9_177 hx0 dX9_unplug_13.1 dX9_unplug_16.1 dX9_unplug_17.1 dX9_unplug_19.1 dX9_unplug_22.1 (Nat.le_of_ble_eq_true rfl) (Nat.le_of_ble_eq_true rfl) (by first | exact Nat.le_of_ble_eq_true rfl | (dsimp only; omega)) (by first | exact Nat.le_of_ble_eq_true rfl | (dsimp only; omega)) (by omega) (by omega) (by rw [show unpS M q = (stp M 2, 0) from (if_pos (show 0 ≤ q ∧ q < M.1 30 by omega)).trans (if_neg (fun y => h10 (if_pos y)))]; exact ⟨Or.inr ⟨rfl, rfl⟩, L, Z, h, hZ, rfl⟩)
end REL6
