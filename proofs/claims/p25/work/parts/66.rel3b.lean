/-! the class: calls that make, walked -/
section REL3
variable {l : Launch} {D : va_G} {kA : Nat → ClassId} {b t0 ao mo jj : Nat} {ad : Nat → Nat} {L : Ly} {X Y : Mm} {Z : Zs} {Mr M : Mo} {n : Nat}
set_option maxHeartbeats 2000000 in
set_option maxRecDepth 20000 in
theorem c_X9_tariff (hl : l.stackTraces = false) (h : CX t0 ao mo ad L X Z Mr) (hZ : ZM Z M) (hI : Iv M jj) {f s d n i : Int} (hf : rng f) (hs : rng s) (hd : rng d) (hn : rng n) (hi : rng i) : Ct l D kA b t0 yX9_tariff cX9_tariff 7 none 7 112 [rv (some (lA L 11 0)), iv f, iv s, iv d, iv n, iv i] X 8 40 (fun v Y => (tarS M f s d n i).1 0 = 0 ∧ v = none ∧ clR t0 ao mo ad L Mr (tarS M f s d n i) Y) (fun E Y => ((E = "java/lang/IndexOutOfBoundsException" ∧ (tarS M f s d n i).1 0 = 1) ∨ (E = "java/lang/IllegalArgumentException" ∧ (tarS M f s d n i).1 0 = 2)) ∧ clR t0 ao mo ad L Mr (tarS M f s d n i) Y) := by
  refine Ct_mk hl (by decide) (Nat.le_of_ble_eq_true rfl) rfl ?_
  intro p9 e9 s9 m9 args9 below9 meth9 c9 C hr hx0
  obtain ⟨⟨zC, zL, zY, zF, zS, zA, zD, zE, zV⟩, zT, zW, zB⟩ := id hZ
  obtain ⟨hKy, ⟨ha0, ha1, ha2, ha3, ha4, ha5⟩, hlm, hsn, hdg⟩ := yd_C h hZ.1
  have o0 := hI.1.1
  unfold okSc at o0
  have c7 := zC.2.2.1
  have c3 := zC.2.2.2.1
  have c4 := zC.2.2.2.2.1
  have c6 := zC.2.2.2.2.2.1
  refine V_aload_n C dX9_tariff_0 rfl ?_
  refine V_iload_n C dX9_tariff_1 rfl ?_
  refine V_callV C (As := [_]) (r_firmAt hl h hZ.1 hf) kX9_54 hKy rfl rfl (Nat.le_of_ble_eq_true rfl) ⟨Nat.le_of_ble_eq_true rfl, Nat.le_of_ble_eq_true rfl⟩ ⟨(by first | exact Nat.le_of_ble_eq_true rfl | (dsimp only; omega)), (by first | exact Nat.le_of_ble_eq_true rfl | (dsimp only; omega))⟩ dX9_tariff_2 (fun E Y hp => ?_) (fun v2 Y hp => ?_)
  · obtain ⟨rfl, rfl, hn⟩ := hp
    exact VX_out C hx0 (by omega) (by omega) (by rw [show tarS M f s d n i = stp M 1 from if_neg (by omega)]; exact ⟨Or.inl ⟨rfl, rfl⟩, L, Z, h, hZ, rfl⟩)
  obtain ⟨rfl, hYX, hw2, hi2⟩ := hp
  have hXY := hYX.symm
  subst hXY
  refine V_astore C dX9_tariff_5 (by decide) rfl ?_
  refine V_iload_n C dX9_tariff_7 rfl ?_
  refine V_iconst C dX9_tariff_8 ?_
  refine V_sipush C dX9_tariff_9 (by decide) ?_
  refine V_callS C (As := [_, _, _]) (c_X9_needWithin hl (z := s) (lo := 0) (hi := 1000) (by omega) (by decide) (by decide)) kX9_59 rfl rfl (Nat.le_of_ble_eq_true rfl) ⟨Nat.le_of_ble_eq_true rfl, Nat.le_of_ble_eq_true rfl⟩ ⟨(by first | exact Nat.le_of_ble_eq_true rfl | (dsimp only; omega)), (by first | exact Nat.le_of_ble_eq_true rfl | (dsimp only; omega))⟩ dX9_tariff_12 (fun E Y hp => ?_) (fun v12 Y hp => ?_)
  · obtain ⟨rfl, rfl, hn⟩ := hp
    exact VX_out C hx0 (by omega) (by omega) (by rw [show tarS M f s d n i = stp M 2 from (if_pos (by omega)).trans (if_neg (by omega))]; exact ⟨Or.inr (⟨rfl, rfl⟩), L, Z, h, hZ, rfl⟩)
  obtain ⟨rfl, hYX, hw12⟩ := hp
  have hXY := hYX.symm
  subst hXY
  refine V_iload_n C dX9_tariff_15 rfl ?_
  refine V_iconst C dX9_tariff_16 ?_
  refine V_sipush C dX9_tariff_17 (by decide) ?_
  refine V_callS C (As := [_, _, _]) (c_X9_needWithin hl (z := d) (lo := 0) (hi := 1000) (by omega) (by decide) (by decide)) kX9_59 rfl rfl (Nat.le_of_ble_eq_true rfl) ⟨Nat.le_of_ble_eq_true rfl, Nat.le_of_ble_eq_true rfl⟩ ⟨(by first | exact Nat.le_of_ble_eq_true rfl | (dsimp only; omega)), (by first | exact Nat.le_of_ble_eq_true rfl | (dsimp only; omega))⟩ dX9_tariff_20 (fun E Y hp => ?_) (fun v20 Y hp => ?_)
  · obtain ⟨rfl, rfl, hn⟩ := hp
    exact VX_out C hx0 (by omega) (by omega) (by rw [show tarS M f s d n i = stp M 2 from (if_pos (by omega)).trans (if_neg (by omega))]; exact ⟨Or.inr (⟨rfl, rfl⟩), L, Z, h, hZ, rfl⟩)
  obtain ⟨rfl, hYX, hw20⟩ := hp
  have hXY := hYX.symm
  subst hXY
  refine V_iload C dX9_tariff_23 rfl ?_
  refine V_iconst C dX9_tariff_25 ?_
  refine V_sipush C dX9_tariff_26 (by decide) ?_
  refine V_callS C (As := [_, _, _]) (c_X9_needWithin hl (z := n) (lo := 0) (hi := 1000) (by omega) (by decide) (by decide)) kX9_59 rfl rfl (Nat.le_of_ble_eq_true rfl) ⟨Nat.le_of_ble_eq_true rfl, Nat.le_of_ble_eq_true rfl⟩ ⟨(by first | exact Nat.le_of_ble_eq_true rfl | (dsimp only; omega)), (by first | exact Nat.le_of_ble_eq_true rfl | (dsimp only; omega))⟩ dX9_tariff_29 (fun E Y hp => ?_) (fun v29 Y hp => ?_)
  · obtain ⟨rfl, rfl, hn⟩ := hp
    exact VX_out C hx0 (by omega) (by omega) (by rw [show tarS M f s d n i = stp M 2 from (if_pos (by omega)).trans (if_neg (by omega))]; exact ⟨Or.inr (⟨rfl, rfl⟩), L, Z, h, hZ, rfl⟩)
  obtain ⟨rfl, hYX, hw29⟩ := hp
  have hXY := hYX.symm
  subst hXY
  refine V_iload C dX9_tariff_32 rfl ?_
  refine V_iconst C dX9_tariff_34 ?_
  refine V_sipush C dX9_tariff_35 (by decide) ?_
  refine V_callS C (As := [_, _, _]) (c_X9_needWithin hl (z := i) (lo := 0) (hi := 1000) (by omega) (by decide) (by decide)) kX9_59 rfl rfl (Nat.le_of_ble_eq_true rfl) ⟨Nat.le_of_ble_eq_true rfl, Nat.le_of_ble_eq_true rfl⟩ ⟨(by first | exact Nat.le_of_ble_eq_true rfl | (dsimp only; omega)), (by first | exact Nat.le_of_ble_eq_true rfl | (dsimp only; omega))⟩ dX9_tariff_38 (fun E Y hp => ?_) (fun v38 Y hp => ?_)
  · obtain ⟨rfl, rfl, hn⟩ := hp
    exact VX_out C hx0 (by omega) (by omega) (by rw [show tarS M f s d n i = stp M 2 from (if_pos (by omega)).trans (if_neg (by omega))]; exact ⟨Or.inr (⟨rfl, rfl⟩), L, Z, h, hZ, rfl⟩)
  obtain ⟨rfl, hYX, hw38⟩ := hp
  have hXY := hYX.symm
  subst hXY
  refine V_aload C dX9_tariff_41 rfl ?_
  refine V_new C cl8 nX9_127 rfl (by first | exact Nat.le_of_ble_eq_true rfl | (dsimp only; omega)) (by first | exact Nat.le_of_ble_eq_true rfl | (dsimp only; omega)) dX9_tariff_43 (fun q hq hbq => ?_)
  refine V_dup C dX9_tariff_46 rfl ?_
  refine V_iload_n C dX9_tariff_47 rfl ?_
  refine V_iload_n C dX9_tariff_48 rfl ?_
  refine V_iload C dX9_tariff_49 rfl ?_
  refine V_iload C dX9_tariff_51 rfl ?_
  refine V_callI0 C (As := [_, _, _, _]) (c_X7_init hl (X := alO X q 9) (a := q) (if_pos rfl)) kX9_129 rfl rfl (Nat.le_of_ble_eq_true rfl) ⟨Nat.le_of_ble_eq_true rfl, Nat.le_of_ble_eq_true rfl⟩ ⟨Nat.le_of_ble_eq_true rfl, Nat.le_of_ble_eq_true rfl⟩ dX9_tariff_53 ?_
  have hi9 : yC Z 9 < u1 (yC Z) 9 (yC Z 9 + 1) 9 := by rw [show u1 (yC Z) 9 (yC Z 9 + 1) 9 = yC Z 9 + 1 from if_pos rfl]; omega
  have lqq : u2 (lA L) 9 (yC Z 9) q 9 (yC Z 9) = q := if_pos ⟨rfl, rfl⟩
  obtain ⟨Z0, xr0, cc0⟩ := FR.new h (c := 9) (by decide) (by decide) hq
  obtain ⟨Z1, xr1, xv1, xm1, xo1, cc1⟩ := FR.int xr0 cc0 (f := 512) (a := q) (v := s) rfl (by decide) (by decide) hi9 lqq.symm
  obtain ⟨Z2, xr2, xv2, xm2, xo2, cc2⟩ := FR.int xr1 cc1 (f := 513) (a := q) (v := d) rfl (by decide) (by decide) hi9 lqq.symm
  obtain ⟨Z3, xr3, xv3, xm3, xo3, cc3⟩ := FR.int xr2 cc2 (f := 514) (a := q) (v := n) rfl (by decide) (by decide) hi9 lqq.symm
  obtain ⟨Z4, xr4, xv4, xm4, xo4, cc4⟩ := FR.int xr3 cc3 (f := 515) (a := q) (v := i) rfl (by decide) (by decide) hi9 lqq.symm
  have cc9 := cc4.putP (f := 256) (c := 5) (i := f.toNat) (a := lA L 5 f.toNat) (r := some q) (v := some (yC Z 9)) rfl (by decide) (by decide) (by rw [xr4.1]; exact hi2) rfl (by show some q = some (u2 (lA L) 9 (yC Z 9) q 9 (yC Z 9)); rw [lqq]) (fun j hj => by cases hj; rw [xr4.1]; exact hi9)
  have hKf : gK (sI (sI (sI (sI (alO X q 9) 512 q s) 513 q d) 514 q n) 515 q i) (lA L 5 f.toNat) = 5 := cc4.gk (c := 5) (by decide) (by rw [xr4.1]; exact hi2)
  refine V_putP C cl4 fX9_130 (Or.inl rfl) (Or.inl ⟨_, rfl⟩) hKf dX9_tariff_56 ?_
  exact V_vret C (by omega) (by omega) (by rw [show tarS M f s d n i = setA (setA (setA (setA (setS M 0 0) 23 (4 * f.toNat) s) 23 (4 * f.toNat + 1) d) 23 (4 * f.toNat + 2) n) 23 (4 * f.toNat + 3) i from (if_pos (by omega)).trans (if_pos (by omega))]; exact ⟨rfl, rfl, _, _, cc9, zm_tariff (Z2 := zsT Z4 256 f.toNat (some (yC Z 9))) (ZM_0 (v := 0) hZ) (f := f.toNat) (by omega) s d n i xr4.1 (fun g k h1 h2 => (if_neg (fun e => by rcases h1 with h1 | h1; exact h1 e.1; exact h1 e.2)).trans (xr4.2.1 g k (fun e => absurd e h2))) xr4.2.2.1 (if_pos ⟨rfl, rfl⟩) ((xm4 512 (by decide)).trans ((xm3 512 (by decide)).trans ((xm2 512 (by decide)).trans (xv1)))) ((xm4 513 (by decide)).trans ((xm3 513 (by decide)).trans (xv2))) ((xm4 514 (by decide)).trans (xv3)) (xv4) xr4.2.2.2.1 xr4.2.2.2.2.1 xr4.2.2.2.2.2, rfl⟩) hr dX9_tariff_59
set_option maxHeartbeats 2000000 in
set_option maxRecDepth 20000 in
theorem c_X9_car (hl : l.stackTraces = false) (h : CX t0 ao mo ad L X Z Mr) (hZ : ZM Z M) (hI : Iv M jj) {c hh g : Int} (hc : rng c) (hh9 : rng hh) (hg : rng g) : Ct l D kA b t0 yX9_car cX9_car 5 (some FieldType.int) 7 179 [rv (some (lA L 11 0)), iv c, iv hh, iv g] X 8 2100 (fun v Y => ((carS M c hh g).1).1 0 = 0 ∧ v = some (iv ((carS M c hh g).2)) ∧ clR t0 ao mo ad L Mr ((carS M c hh g).1) Y) (fun E Y => ((E = "java/lang/IllegalArgumentException" ∧ ((carS M c hh g).1).1 0 = 1) ∨ (E = "java/lang/IllegalStateException" ∧ ((carS M c hh g).1).1 0 = 2)) ∧ clR t0 ao mo ad L Mr ((carS M c hh g).1) Y) := by
  refine Ct_mk hl (by decide) (Nat.le_of_ble_eq_true rfl) rfl ?_
  intro p9 e9 s9 m9 args9 below9 meth9 c9 C hr hx0
  obtain ⟨⟨zC, zL, zY, zF, zS, zA, zD, zE, zV⟩, zT, zW, zB⟩ := id hZ
  obtain ⟨hKy, ⟨ha0, ha1, ha2, ha3, ha4, ha5⟩, hlm, hsn, hdg⟩ := yd_C h hZ.1
  have o0 := hI.1.1
  unfold okSc at o0
  have c7 := zC.2.2.1
  have c3 := zC.2.2.2.1
  have c4 := zC.2.2.2.2.1
  have c6 := zC.2.2.2.2.2.1
  refine V_iload_n C dX9_car_0 rfl ?_
  refine V_iconst C dX9_car_1 ?_
  refine V_ldc C dX9_car_2 qX9_79 ?_
  refine V_callS C (As := [_, _, _]) (c_X9_needWithin hl (z := c) (lo := 1) (hi := 6000000) (by omega) (by decide) (by decide)) kX9_59 rfl rfl (Nat.le_of_ble_eq_true rfl) ⟨Nat.le_of_ble_eq_true rfl, Nat.le_of_ble_eq_true rfl⟩ ⟨(by first | exact Nat.le_of_ble_eq_true rfl | (dsimp only; omega)), (by first | exact Nat.le_of_ble_eq_true rfl | (dsimp only; omega))⟩ dX9_car_4 (fun E Y hp => ?_) (fun v4 Y hp => ?_)
  · obtain ⟨rfl, rfl, hn⟩ := hp
    exact VX_out C hx0 (by omega) (by omega) (by rw [show carS M c hh g = (stp M 1, 0) from if_neg (by omega)]; exact ⟨Or.inl ⟨rfl, rfl⟩, L, Z, h, hZ, rfl⟩)
  obtain ⟨rfl, hYX, hw4⟩ := hp
  have hXY := hYX.symm
  subst hXY
  refine V_iload_n C dX9_car_7 rfl ?_
  refine V_iconst C dX9_car_8 ?_
  refine V_iload_n C dX9_car_9 rfl ?_
  refine V_callS C (As := [_, _, _]) (c_X9_needWithin hl (z := hh) (lo := 0) (hi := c) (by omega) (by decide) (by omega)) kX9_59 rfl rfl (Nat.le_of_ble_eq_true rfl) ⟨Nat.le_of_ble_eq_true rfl, Nat.le_of_ble_eq_true rfl⟩ ⟨(by first | exact Nat.le_of_ble_eq_true rfl | (dsimp only; omega)), (by first | exact Nat.le_of_ble_eq_true rfl | (dsimp only; omega))⟩ dX9_car_10 (fun E Y hp => ?_) (fun v10 Y hp => ?_)
  · obtain ⟨rfl, rfl, hn⟩ := hp
    exact VX_out C hx0 (by omega) (by omega) (by rw [show carS M c hh g = (stp M 1, 0) from if_neg (by omega)]; exact ⟨Or.inl ⟨rfl, rfl⟩, L, Z, h, hZ, rfl⟩)
  obtain ⟨rfl, hYX, hw10⟩ := hp
  have hXY := hYX.symm
  subst hXY
  refine V_iload_n C dX9_car_13 rfl ?_
  refine V_iconst C dX9_car_14 ?_
  refine V_ldc C dX9_car_15 qX9_58 ?_
  refine V_callS C (As := [_, _, _]) (c_X9_needWithin hl (z := g) (lo := 1) (hi := 50000) (by omega) (by decide) (by decide)) kX9_59 rfl rfl (Nat.le_of_ble_eq_true rfl) ⟨Nat.le_of_ble_eq_true rfl, Nat.le_of_ble_eq_true rfl⟩ ⟨(by first | exact Nat.le_of_ble_eq_true rfl | (dsimp only; omega)), (by first | exact Nat.le_of_ble_eq_true rfl | (dsimp only; omega))⟩ dX9_car_17 (fun E Y hp => ?_) (fun v17 Y hp => ?_)
  · obtain ⟨rfl, rfl, hn⟩ := hp
    exact VX_out C hx0 (by omega) (by omega) (by rw [show carS M c hh g = (stp M 1, 0) from if_neg (by omega)]; exact ⟨Or.inl ⟨rfl, rfl⟩, L, Z, h, hZ, rfl⟩)
  obtain ⟨rfl, hYX, hw17⟩ := hp
  have hXY := hYX.symm
  subst hXY
  have hli := h.li (j := 2) (c := 3) (xs := List.range (yC Z 3)) (by have := zC.2.2.2.2.2.2.2.2.2; omega) rfl zL.2.2.1
  have hlen : (((List.range (yC Z 3)).map (lA L 3)).length : Int) = (yC Z 3 : Int) := by rw [List.length_map, List.length_range]
  refine V_aload_n C dX9_car_20 rfl ?_
  refine V_getP C cl10 fX9_19 (r := some ((lA L 1 2))) hKy ha2 dX9_car_21 ?_
  refine V_callV1 C (As := []) (L_sizeN hl hli (by rw [List.length_map, List.length_range])) kX9_63 hli.1 rfl rfl (Nat.le_of_ble_eq_true rfl) ⟨Nat.le_of_ble_eq_true rfl, Nat.le_of_ble_eq_true rfl⟩ ⟨Nat.le_of_ble_eq_true rfl, Nat.le_of_ble_eq_true rfl⟩ dX9_car_24 ?_
  refine V_bipush C dX9_car_27 (by decide) ?_
  refine V_callS C (As := [_, _]) (c_X9_needRoom hl (z := (yC Z 3 : Int)) (hi := 12) (by omega) (by decide)) kX9_67 rfl rfl (Nat.le_of_ble_eq_true rfl) ⟨Nat.le_of_ble_eq_true rfl, Nat.le_of_ble_eq_true rfl⟩ ⟨(by first | exact Nat.le_of_ble_eq_true rfl | (dsimp only; omega)), (by first | exact Nat.le_of_ble_eq_true rfl | (dsimp only; omega))⟩ dX9_car_29 (fun E Y hp => ?_) (fun v29 Y hp => ?_)
  · obtain ⟨rfl, rfl, hn⟩ := hp
    exact VX_out C hx0 (by omega) (by omega) (by rw [show carS M c hh g = (stp M 2, 0) from (if_pos (by omega)).trans (if_pos (by omega))]; exact ⟨Or.inr (⟨rfl, rfl⟩), L, Z, h, hZ, rfl⟩)
  obtain ⟨rfl, hYX, hw29⟩ := hp
  have hXY := hYX.symm
  subst hXY
  refine V_new C cl2 nX9_80 rfl (by first | exact Nat.le_of_ble_eq_true rfl | (dsimp only; omega)) (by first | exact Nat.le_of_ble_eq_true rfl | (dsimp only; omega)) dX9_car_32 (fun q hq hbq => ?_)
  have hyq : lA L 11 0 ≠ q := ne_of_0 hq (by omega)
  have hKy1 : gK (alO X q 3) (lA L 11 0) = 11 := (if_neg hyq).trans hKy
  have hp1 : gP (alO X q 3) 642 (lA L 11 0) = some (lA L 1 2) := (if_neg hyq).trans ha2
  have hi9 : yC Z 3 < u1 (yC Z) 3 (yC Z 3 + 1) 3 := by rw [show u1 (yC Z) 3 (yC Z 3 + 1) 3 = yC Z 3 + 1 from if_pos rfl]; omega
  obtain ⟨Z0, xr0, cc0⟩ := FR.new h (c := 3) (by decide) (by decide) hq
  have hli1 : LI t0 (alO X q 3) (lA L 1 2) ((List.range (yC Z 3)).map (u2 (lA L) 3 (yC Z 3) q 3)) (lD L 2) (lC L 2) := cc0.li (j := 2) (c := 3) (xs := List.range (yC Z 3)) (by have := zC.2.2.2.2.2.2.2.2.2; rw [xr0.1]; show 2 < yC Z 1; omega) rfl (by rw [xr0.2.2.2.1]; exact zL.2.2.1)
  refine V_dup C dX9_car_35 rfl ?_
  refine V_aload_n C dX9_car_36 rfl ?_
  refine V_getP C cl10 fX9_19 (r := some ((lA L 1 2))) hKy1 hp1 dX9_car_37 ?_
  refine V_callV1 C (As := []) (L_sizeN hl hli1 (n := (yC Z 3)) (by rw [List.length_map, List.length_range])) kX9_63 hli1.1 rfl rfl (Nat.le_of_ble_eq_true rfl) ⟨Nat.le_of_ble_eq_true rfl, Nat.le_of_ble_eq_true rfl⟩ ⟨Nat.le_of_ble_eq_true rfl, Nat.le_of_ble_eq_true rfl⟩ dX9_car_40 ?_
  refine V_iload_n C dX9_car_43 rfl ?_
  refine V_iload_n C dX9_car_44 rfl ?_
  refine V_iload_n C dX9_car_45 rfl ?_
  refine V_callI0 C (As := [_, _, _, _]) (c_X1_init hl (X := alO X q 3) (a := q) (if_pos rfl)) kX9_82 rfl rfl (Nat.le_of_ble_eq_true rfl) ⟨Nat.le_of_ble_eq_true rfl, Nat.le_of_ble_eq_true rfl⟩ ⟨(by first | exact Nat.le_of_ble_eq_true rfl | (dsimp only; omega)), (by first | exact Nat.le_of_ble_eq_true rfl | (dsimp only; omega))⟩ dX9_car_46 ?_
  have lqq : u2 (lA L) 3 (yC Z 3) q 3 (yC Z 3) = q := if_pos ⟨rfl, rfl⟩
  obtain ⟨Z1, xr1, xv1, xm1, xo1, cc1⟩ := FR.int xr0 cc0 (f := 132) (a := q) (v := 0) rfl (by decide) (by decide) hi9 lqq.symm
  obtain ⟨Z2, xr2, xv2, xm2, xo2, cc2⟩ := FR.int xr1 cc1 (f := 128) (a := q) (v := (yC Z 3 : Int)) rfl (by decide) (by decide) hi9 lqq.symm
  obtain ⟨Z3, xr3, xv3, xm3, xo3, cc3⟩ := FR.int xr2 cc2 (f := 129) (a := q) (v := c) rfl (by decide) (by decide) hi9 lqq.symm
  obtain ⟨Z4, xr4, xv4, xm4, xo4, cc4⟩ := FR.int xr3 cc3 (f := 131) (a := q) (v := hh) rfl (by decide) (by decide) hi9 lqq.symm
  obtain ⟨Z5, xr5, xv5, xm5, xo5, cc5⟩ := FR.int xr4 cc4 (f := 130) (a := q) (v := g) rfl (by decide) (by decide) hi9 lqq.symm
  have jj9 : 2 < yC Z5 1 := by have := zC.2.2.2.2.2.2.2.2.2; rw [xr5.1]; show 2 < yC Z 1; omega
  have y09 : 0 < yC Z5 11 := by rw [xr5.1]; show 0 < yC Z 11; rw [zC.1]; omega
  have ii9 : yC Z 3 < yC Z5 3 := by rw [xr5.1]; exact hi9
  obtain ⟨hgr, hct⟩ := r_add (l := l) (D := D) (kA := kA) (b := b) hl cc5 (j := 2) (c := 3) (i := (yC Z 3)) (xs := List.range (yC Z 3)) jj9 rfl (by rw [xr5.2.2.2.1]; exact zL.2.2.1) ii9 (by rw [List.length_range]; omega) (a := lA L 1 2) (v := q) rfl lqq.symm
  have hKy2 := cc5.gk (c := 11) (i := 0) (by decide) y09
  have a11 : u2 (lA L) 3 (yC Z 3) q 1 2 = lA L 1 2 := rfl
  have yt9 : yT Z5 642 0 = some 2 := (xr5.2.1 642 0 (fun e => absurd e (by decide))).trans zY.1.2.2.1
  have hp2 := (cc5.gp (f := 642) (g := 1) (c := 11) (i := 0) (j := 2) (by decide) y09 yt9).1.trans (congrArg some a11)
  have hL2 := (congrArg (gK _) a11).symm.trans (cc5.gk (c := 1) (i := 2) (by decide) jj9)
  refine V_astore C dX9_car_49 (by decide) rfl ?_
  refine V_aload_n C dX9_car_51 rfl ?_
  refine V_getP C cl10 fX9_19 (r := some ((lA L 1 2))) hKy2 hp2 dX9_car_52 ?_
  refine V_aload C dX9_car_55 rfl ?_
  refine V_callV C (As := [_]) (hct) kX9_50 hL2 rfl rfl (Nat.le_of_ble_eq_true rfl) ⟨Nat.le_of_ble_eq_true rfl, Nat.le_of_ble_eq_true rfl⟩ ⟨(by first | exact Nat.le_of_ble_eq_true rfl | (dsimp only; omega)), (by show _ ≤ 2100; omega)⟩ dX9_car_57 (fun _ _ h => h.elim) (fun v57 Y57 hp => ?_)
  obtain ⟨rfl, L9, hL9, cc10⟩ := hp
  have hzm := zm_car (Z2 := zsL Z5 2 (List.range (yC Z 3) ++ [yC Z 3])) (ZM_0 (v := 0) hZ) (Iv_0 (v := 0) hI) c hh g xr5.1 xr5.2.1 xr5.2.2.1 ((xm5 132 (by decide)).trans ((xm4 132 (by decide)).trans ((xm3 132 (by decide)).trans ((xm2 132 (by decide)).trans (xv1))))) ((xm5 128 (by decide)).trans ((xm4 128 (by decide)).trans ((xm3 128 (by decide)).trans (xv2)))) ((xm5 129 (by decide)).trans ((xm4 129 (by decide)).trans (xv3))) ((xm5 131 (by decide)).trans (xv4)) (xv5) (congrArg (fun x => u1 x 2 (List.range (yC Z 3) ++ [(yC Z 3)])) xr5.2.2.2.1) xr5.2.2.2.2.1 xr5.2.2.2.2.2
  have hKq9 : gK Y57 q = 3 := by
    have t := cc10.gk (c := 3) (i := (yC Z 3)) (by decide) ii9
    rw [hL9] at t
    exact (congrArg (gK Y57) lqq).symm.trans t
  have hKy3 : gK Y57 (lA L 11 0) = 11 := by
    have t := cc10.gk (c := 11) (i := 0) (by decide) y09
    rw [hL9] at t
    exact t
  have hq8 := cc10.gi (f := 128) (c := 3) (i := yC Z 3) (v := (yC Z 3 : Int)) (by decide) ii9 ((xm5 128 (by decide)).trans ((xm4 128 (by decide)).trans ((xm3 128 (by decide)).trans (xv2))))
  have hq128 : gI Y57 128 q = (yC Z 3 : Int) := by rw [hL9] at hq8; exact (congrArg (gI Y57 128) lqq).symm.trans hq8
  refine V_pop C dX9_car_60 rfl ?_
  refine V_aload C dX9_car_61 rfl ?_
  refine V_getIx C cl2 fX9_85 (x := (yC Z 3 : Int)) hKq9 hq128 dX9_car_63 ?_
  exact V_iret C (by first | exact Nat.le_of_ble_eq_true rfl | omega) (by show _ ≤ 2100; omega) (by rw [show carS M c hh g = (setS (setA (setA (setA (setS M 0 0) 14 (M.1 13).toNat c) 15 (M.1 13).toNat hh) 16 (M.1 13).toNat g) 13 (M.1 13 + 1), M.1 13 + 1 - 1) from (if_pos (by omega)).trans (if_neg (by omega))]; rw [show (M.1 13).toNat = (yC Z 3) by omega]; exact ⟨rfl, by exact congrArg (fun v => some (iv v)) (by omega), L9, _, cc10, hzm, by rw [hL9]; rfl⟩) hr dX9_car_66
set_option maxHeartbeats 2000000 in
set_option maxRecDepth 20000 in
theorem c_X9_card (hl : l.stackTraces = false) (h : CX t0 ao mo ad L X Z Mr) (hZ : ZM Z M) (hI : Iv M jj) {f r : Int} (hf : rng f) (hr9 : rng r) : Ct l D kA b t0 yX9_card cX9_card 4 (some FieldType.int) 7 179 [rv (some (lA L 11 0)), iv f, iv r] X 8 2100 (fun v Y => ((cdS M f r).1).1 0 = 0 ∧ v = some (iv ((cdS M f r).2)) ∧ clR t0 ao mo ad L Mr ((cdS M f r).1) Y) (fun E Y => ((E = "java/lang/IndexOutOfBoundsException" ∧ ((cdS M f r).1).1 0 = 1) ∨ (E = "java/lang/IllegalArgumentException" ∧ ((cdS M f r).1).1 0 = 2) ∨ (E = "java/lang/IllegalStateException" ∧ ((cdS M f r).1).1 0 = 3)) ∧ clR t0 ao mo ad L Mr ((cdS M f r).1) Y) := by
  refine Ct_mk hl (by decide) (Nat.le_of_ble_eq_true rfl) rfl ?_
  intro p9 e9 s9 m9 args9 below9 meth9 c9 C hr hx0
  obtain ⟨⟨zC, zL, zY, zF, zS, zA, zD, zE, zV⟩, zT, zW, zB⟩ := id hZ
  obtain ⟨hKy, ⟨ha0, ha1, ha2, ha3, ha4, ha5⟩, hlm, hsn, hdg⟩ := yd_C h hZ.1
  have o0 := hI.1.1
  unfold okSc at o0
  have c7 := zC.2.2.1
  have c3 := zC.2.2.2.1
  have c4 := zC.2.2.2.2.1
  have c6 := zC.2.2.2.2.2.1
  refine V_aload_n C dX9_card_0 rfl ?_
  refine V_iload_n C dX9_card_1 rfl ?_
  refine V_callV C (As := [_]) (r_firmAt hl h hZ.1 hf) kX9_54 hKy rfl rfl (Nat.le_of_ble_eq_true rfl) ⟨Nat.le_of_ble_eq_true rfl, Nat.le_of_ble_eq_true rfl⟩ ⟨(by first | exact Nat.le_of_ble_eq_true rfl | (dsimp only; omega)), (by first | exact Nat.le_of_ble_eq_true rfl | (dsimp only; omega))⟩ dX9_card_2 (fun E Y hp => ?_) (fun v2 Y hp => ?_)
  · obtain ⟨rfl, rfl, hn⟩ := hp
    exact VX_out C hx0 (by omega) (by omega) (by rw [show cdS M f r = (stp M 1, 0) from if_neg (by omega)]; exact ⟨Or.inl ⟨rfl, rfl⟩, L, Z, h, hZ, rfl⟩)
  obtain ⟨rfl, hYX, hw2, hi2⟩ := hp
  have hXY := hYX.symm
  subst hXY
  refine V_astore_n C dX9_card_5 (by decide) rfl ?_
  refine V_iload_n C dX9_card_6 rfl ?_
  refine V_iconst C dX9_card_7 ?_
  refine V_iconst C dX9_card_8 ?_
  refine V_callS C (As := [_, _, _]) (c_X9_needWithin hl (z := r) (lo := 0) (hi := 3) (by omega) (by decide) (by decide)) kX9_59 rfl rfl (Nat.le_of_ble_eq_true rfl) ⟨Nat.le_of_ble_eq_true rfl, Nat.le_of_ble_eq_true rfl⟩ ⟨(by first | exact Nat.le_of_ble_eq_true rfl | (dsimp only; omega)), (by first | exact Nat.le_of_ble_eq_true rfl | (dsimp only; omega))⟩ dX9_card_9 (fun E Y hp => ?_) (fun v9 Y hp => ?_)
  · obtain ⟨rfl, rfl, hn⟩ := hp
    exact VX_out C hx0 (by omega) (by omega) (by rw [show cdS M f r = (stp M 2, 0) from (if_pos (by omega)).trans (if_neg (by omega))]; exact ⟨Or.inr (Or.inl ⟨rfl, rfl⟩), L, Z, h, hZ, rfl⟩)
  obtain ⟨rfl, hYX, hw9⟩ := hp
  have hXY := hYX.symm
  subst hXY
  have hli := h.li (j := 3) (c := 4) (xs := List.range (yC Z 4)) (by have := zC.2.2.2.2.2.2.2.2.2; omega) rfl zL.2.2.2.1
  have hlen : (((List.range (yC Z 4)).map (lA L 4)).length : Int) = (yC Z 4 : Int) := by rw [List.length_map, List.length_range]
  refine V_aload_n C dX9_card_12 rfl ?_
  refine V_getP C cl10 fX9_22 (r := some ((lA L 1 3))) hKy ha3 dX9_card_13 ?_
  refine V_callV1 C (As := []) (L_sizeN hl hli (by rw [List.length_map, List.length_range])) kX9_63 hli.1 rfl rfl (Nat.le_of_ble_eq_true rfl) ⟨Nat.le_of_ble_eq_true rfl, Nat.le_of_ble_eq_true rfl⟩ ⟨Nat.le_of_ble_eq_true rfl, Nat.le_of_ble_eq_true rfl⟩ dX9_card_16 ?_
  refine V_bipush C dX9_card_19 (by decide) ?_
  refine V_callS C (As := [_, _]) (c_X9_needRoom hl (z := (yC Z 4 : Int)) (hi := 12) (by omega) (by decide)) kX9_67 rfl rfl (Nat.le_of_ble_eq_true rfl) ⟨Nat.le_of_ble_eq_true rfl, Nat.le_of_ble_eq_true rfl⟩ ⟨(by first | exact Nat.le_of_ble_eq_true rfl | (dsimp only; omega)), (by first | exact Nat.le_of_ble_eq_true rfl | (dsimp only; omega))⟩ dX9_card_21 (fun E Y hp => ?_) (fun v21 Y hp => ?_)
  · obtain ⟨rfl, rfl, hn⟩ := hp
    exact VX_out C hx0 (by omega) (by omega) (by rw [show cdS M f r = (stp M 3, 0) from (if_pos (by omega)).trans ((if_pos (by omega)).trans (if_pos (by omega)))]; exact ⟨Or.inr (Or.inr (⟨rfl, rfl⟩)), L, Z, h, hZ, rfl⟩)
  obtain ⟨rfl, hYX, hw21⟩ := hp
  have hXY := hYX.symm
  subst hXY
  refine V_aload_n C dX9_card_24 rfl ?_
  refine V_getP C cl10 fX9_22 (r := some ((lA L 1 3))) hKy ha3 dX9_card_25 ?_
  refine V_new C cl3 nX9_86 rfl (by first | exact Nat.le_of_ble_eq_true rfl | (dsimp only; omega)) (by first | exact Nat.le_of_ble_eq_true rfl | (dsimp only; omega)) dX9_card_28 (fun q hq hbq => ?_)
  have hyq : lA L 11 0 ≠ q := ne_of_0 hq (by omega)
  have hKy1 : gK (alO X q 4) (lA L 11 0) = 11 := (if_neg hyq).trans hKy
  have hp1 : gP (alO X q 4) 643 (lA L 11 0) = some (lA L 1 3) := (if_neg hyq).trans ha3
  have hi9 : yC Z 4 < u1 (yC Z) 4 (yC Z 4 + 1) 4 := by rw [show u1 (yC Z) 4 (yC Z 4 + 1) 4 = yC Z 4 + 1 from if_pos rfl]; omega
  obtain ⟨Z0, xr0, cc0⟩ := FR.new h (c := 4) (by decide) (by decide) hq
  have hli1 : LI t0 (alO X q 4) (lA L 1 3) ((List.range (yC Z 4)).map (u2 (lA L) 4 (yC Z 4) q 4)) (lD L 3) (lC L 3) := cc0.li (j := 3) (c := 4) (xs := List.range (yC Z 4)) (by have := zC.2.2.2.2.2.2.2.2.2; rw [xr0.1]; show 3 < yC Z 1; omega) rfl (by rw [xr0.2.2.2.1]; exact zL.2.2.2.1)
  refine V_dup C dX9_card_31 rfl ?_
  refine V_aload_n C dX9_card_32 rfl ?_
  refine V_iload_n C dX9_card_33 rfl ?_
  refine V_callI0 C (As := [_, _]) (c_X2_init hl (X := alO X q 4) (a := q) (f := lA L 5 f.toNat) (rk := r) (if_pos rfl)) kX9_88 rfl rfl (Nat.le_of_ble_eq_true rfl) ⟨Nat.le_of_ble_eq_true rfl, Nat.le_of_ble_eq_true rfl⟩ ⟨(by first | exact Nat.le_of_ble_eq_true rfl | (dsimp only; omega)), (by first | exact Nat.le_of_ble_eq_true rfl | (dsimp only; omega))⟩ dX9_card_34 ?_
  have lqq : u2 (lA L) 4 (yC Z 4) q 4 (yC Z 4) = q := if_pos ⟨rfl, rfl⟩
  obtain ⟨Z1, xr1, xv1, xm1, xo1, cc1⟩ := FR.int xr0 cc0 (f := 194) (a := q) (v := 1) rfl (by decide) (by decide) hi9 lqq.symm
  obtain ⟨Z2, xr2, xv2, xm2, xo2, cc2⟩ := FR.int xr1 cc1 (f := 195) (a := q) (v := 0) rfl (by decide) (by decide) hi9 lqq.symm
  obtain ⟨Z3, xr3, xv3, xm3, xo3, cc3⟩ := FR.int xr2 cc2 (f := 196) (a := q) (v := 0) rfl (by decide) (by decide) hi9 lqq.symm
  obtain ⟨Z4, xr4, xv4, xm4, xo4, cc4⟩ := FR.ptr xr3 cc3 (f := 192) (a := q) (p := some (lA L 5 f.toNat)) (v := some f.toNat) rfl (by decide) (by decide) hi9 lqq.symm rfl (fun j hj => by cases hj; exact hi2)
  obtain ⟨Z5, xr5, xv5, xm5, xo5, cc5⟩ := FR.int xr4 cc4 (f := 193) (a := q) (v := r) rfl (by decide) (by decide) hi9 lqq.symm
  have jj9 : 3 < yC Z5 1 := by have := zC.2.2.2.2.2.2.2.2.2; rw [xr5.1]; show 3 < yC Z 1; omega
  have y09 : 0 < yC Z5 11 := by rw [xr5.1]; show 0 < yC Z 11; rw [zC.1]; omega
  have ii9 : yC Z 4 < yC Z5 4 := by rw [xr5.1]; exact hi9
  obtain ⟨hgr, hct⟩ := r_add (l := l) (D := D) (kA := kA) (b := b) hl cc5 (j := 3) (c := 4) (i := (yC Z 4)) (xs := List.range (yC Z 4)) jj9 rfl (by rw [xr5.2.2.2.1]; exact zL.2.2.2.1) ii9 (by rw [List.length_range]; omega) (a := lA L 1 3) (v := q) rfl lqq.symm
  have hKy2 := cc5.gk (c := 11) (i := 0) (by decide) y09
  have a11 : u2 (lA L) 4 (yC Z 4) q 1 3 = lA L 1 3 := rfl
  have yt9 : yT Z5 643 0 = some 3 := (xr5.2.1 643 0 (fun e => absurd e (by decide))).trans zY.1.2.2.2.1
  have hp2 := (cc5.gp (f := 643) (g := 1) (c := 11) (i := 0) (j := 3) (by decide) y09 yt9).1.trans (congrArg some a11)
  have hL2 := (congrArg (gK _) a11).symm.trans (cc5.gk (c := 1) (i := 3) (by decide) jj9)
  refine V_callV C (As := [_]) (hct) kX9_50 hL2 rfl rfl (Nat.le_of_ble_eq_true rfl) ⟨Nat.le_of_ble_eq_true rfl, Nat.le_of_ble_eq_true rfl⟩ ⟨(by first | exact Nat.le_of_ble_eq_true rfl | (dsimp only; omega)), (by show _ ≤ 2100; omega)⟩ dX9_card_37 (fun _ _ h => h.elim) (fun v37 Y37 hp => ?_)
  obtain ⟨rfl, L9, hL9, cc10⟩ := hp
  have hzm := zm_card (Z2 := zsL Z5 3 (List.range (yC Z 4) ++ [yC Z 4])) (ZM_0 (v := 0) hZ) (Iv_0 (v := 0) hI) (by omega) f r xr5.1 xr5.2.1 xr5.2.2.1 ((xo5 192).trans (xv4)) (xv5) ((xm5 194 (by decide)).trans ((xo4 194).trans ((xm3 194 (by decide)).trans ((xm2 194 (by decide)).trans (xv1))))) ((xm5 195 (by decide)).trans ((xo4 195).trans ((xm3 195 (by decide)).trans (xv2)))) ((xm5 196 (by decide)).trans ((xo4 196).trans (xv3))) (congrArg (fun x => u1 x 3 (List.range (yC Z 4) ++ [(yC Z 4)])) xr5.2.2.2.1) xr5.2.2.2.2.1 xr5.2.2.2.2.2
  have hKq9 : gK Y37 q = 4 := by
    have t := cc10.gk (c := 4) (i := (yC Z 4)) (by decide) ii9
    rw [hL9] at t
    exact (congrArg (gK Y37) lqq).symm.trans t
  have hKy3 : gK Y37 (lA L 11 0) = 11 := by
    have t := cc10.gk (c := 11) (i := 0) (by decide) y09
    rw [hL9] at t
    exact t
  have hli8 := cc10.li (j := 3) (c := 4) (xs := List.range (yC Z 4) ++ [yC Z 4]) jj9 rfl (show u1 (yL Z5) 3 (List.range (yC Z 4) ++ [yC Z 4]) 3 = _ from if_pos rfl)
  rw [hL9] at hli8
  have hli9 : LI t0 Y37 (lA L 1 3) ((List.range (yC Z 4) ++ [yC Z 4]).map (u2 (lA L) 4 (yC Z 4) q 4)) (lD L9 3) (lC L9 3) := hli8
  have hp3 : gP Y37 643 (lA L 11 0) = some (lA L 1 3) := by have t := (cc10.gp (f := 643) (g := 1) (c := 11) (i := 0) (j := 3) (by decide) y09 yt9).1; rw [hL9] at t; exact t
  refine V_pop C dX9_card_40 rfl ?_
  refine V_aload_n C dX9_card_41 rfl ?_
  refine V_getP C cl10 fX9_22 (r := some ((lA L 1 3))) hKy3 hp3 dX9_card_42 ?_
  refine V_callV1 C (As := []) (L_sizeN hl hli9 (n := yC Z 4 + 1) (by rw [List.length_map, List.length_append, List.length_range, List.length_singleton])) kX9_63 hli9.1 rfl rfl (Nat.le_of_ble_eq_true rfl) ⟨Nat.le_of_ble_eq_true rfl, Nat.le_of_ble_eq_true rfl⟩ ⟨(by first | exact Nat.le_of_ble_eq_true rfl | (dsimp only; omega)), (by show _ ≤ 2100; omega)⟩ dX9_card_45 ?_
  refine V_iconst C dX9_card_48 ?_
  refine V_isub C dX9_card_49 ?_
  exact V_iret C (by first | exact Nat.le_of_ble_eq_true rfl | omega) (by show _ ≤ 2100; omega) (by rw [show cdS M f r = (setS (setA (setA (setA (setS M 0 0) 18 (M.1 17).toNat f) 19 (M.1 17).toNat r) 20 (M.1 17).toNat 1) 17 (M.1 17 + 1), M.1 17 + 1 - 1) from (if_pos (by omega)).trans ((if_pos (by omega)).trans (if_neg (by omega)))]; rw [show (M.1 17).toNat = (yC Z 4) by omega]; exact ⟨rfl, by exact congrArg (fun v => some (iv v)) (by omega), L9, _, cc10, hzm, by rw [hL9]; rfl⟩) hr dX9_card_50
set_option maxHeartbeats 2000000 in
set_option maxRecDepth 20000 in
theorem c_X9_socket (hl : l.stackTraces = false) (h : CX t0 ao mo ad L X Z Mr) (hZ : ZM Z M) (hI : Iv M jj) {f g : Int} (hf : rng f) (hg : rng g) : Ct l D kA b t0 yX9_socket cX9_socket 5 (some FieldType.int) 7 179 [rv (some (lA L 11 0)), iv f, iv g] X 8 2100 (fun v Y => ((socS M f g).1).1 0 = 0 ∧ v = some (iv ((socS M f g).2)) ∧ clR t0 ao mo ad L Mr ((socS M f g).1) Y) (fun E Y => ((E = "java/lang/IndexOutOfBoundsException" ∧ ((socS M f g).1).1 0 = 1) ∨ (E = "java/lang/IllegalArgumentException" ∧ ((socS M f g).1).1 0 = 2) ∨ (E = "java/lang/IllegalStateException" ∧ ((socS M f g).1).1 0 = 3)) ∧ clR t0 ao mo ad L Mr ((socS M f g).1) Y) := by
  refine Ct_mk hl (by decide) (Nat.le_of_ble_eq_true rfl) rfl ?_
  intro p9 e9 s9 m9 args9 below9 meth9 c9 C hr hx0
  obtain ⟨⟨zC, zL, zY, zF, zS, zA, zD, zE, zV⟩, zT, zW, zB⟩ := id hZ
  obtain ⟨hKy, ⟨ha0, ha1, ha2, ha3, ha4, ha5⟩, hlm, hsn, hdg⟩ := yd_C h hZ.1
  have o0 := hI.1.1
  unfold okSc at o0
  have c7 := zC.2.2.1
  have c3 := zC.2.2.2.1
  have c4 := zC.2.2.2.2.1
  have c6 := zC.2.2.2.2.2.1
  refine V_aload_n C dX9_socket_0 rfl ?_
  refine V_iload_n C dX9_socket_1 rfl ?_
  refine V_callV C (As := [_]) (r_firmAt hl h hZ.1 hf) kX9_54 hKy rfl rfl (Nat.le_of_ble_eq_true rfl) ⟨Nat.le_of_ble_eq_true rfl, Nat.le_of_ble_eq_true rfl⟩ ⟨(by first | exact Nat.le_of_ble_eq_true rfl | (dsimp only; omega)), (by first | exact Nat.le_of_ble_eq_true rfl | (dsimp only; omega))⟩ dX9_socket_2 (fun E Y hp => ?_) (fun v2 Y hp => ?_)
  · obtain ⟨rfl, rfl, hn⟩ := hp
    exact VX_out C hx0 (by omega) (by omega) (by rw [show socS M f g = (stp M 1, 0) from if_neg (by omega)]; exact ⟨Or.inl ⟨rfl, rfl⟩, L, Z, h, hZ, rfl⟩)
  obtain ⟨rfl, hYX, hw2, hi2⟩ := hp
  have hXY := hYX.symm
  subst hXY
  refine V_astore_n C dX9_socket_5 (by decide) rfl ?_
  refine V_iload_n C dX9_socket_6 rfl ?_
  refine V_sipush C dX9_socket_7 (by decide) ?_
  refine V_ldc C dX9_socket_10 qX9_58 ?_
  refine V_callS C (As := [_, _, _]) (c_X9_needWithin hl (z := g) (lo := 1400) (hi := 50000) (by omega) (by decide) (by decide)) kX9_59 rfl rfl (Nat.le_of_ble_eq_true rfl) ⟨Nat.le_of_ble_eq_true rfl, Nat.le_of_ble_eq_true rfl⟩ ⟨(by first | exact Nat.le_of_ble_eq_true rfl | (dsimp only; omega)), (by first | exact Nat.le_of_ble_eq_true rfl | (dsimp only; omega))⟩ dX9_socket_12 (fun E Y hp => ?_) (fun v12 Y hp => ?_)
  · obtain ⟨rfl, rfl, hn⟩ := hp
    exact VX_out C hx0 (by omega) (by omega) (by rw [show socS M f g = (stp M 2, 0) from (if_pos (by omega)).trans (if_neg (by omega))]; exact ⟨Or.inr (Or.inl ⟨rfl, rfl⟩), L, Z, h, hZ, rfl⟩)
  obtain ⟨rfl, hYX, hw12⟩ := hp
  have hXY := hYX.symm
  subst hXY
  have hli := h.li (j := 1) (c := 7) (xs := List.range (yC Z 7)) (by have := zC.2.2.2.2.2.2.2.2.2; omega) rfl zL.2.1
  have hlen : (((List.range (yC Z 7)).map (lA L 7)).length : Int) = (yC Z 7 : Int) := by rw [List.length_map, List.length_range]
  refine V_aload_n C dX9_socket_15 rfl ?_
  refine V_getP C cl10 fX9_16 (r := some ((lA L 1 1))) hKy ha1 dX9_socket_16 ?_
  refine V_callV1 C (As := []) (L_sizeN hl hli (by rw [List.length_map, List.length_range])) kX9_63 hli.1 rfl rfl (Nat.le_of_ble_eq_true rfl) ⟨Nat.le_of_ble_eq_true rfl, Nat.le_of_ble_eq_true rfl⟩ ⟨Nat.le_of_ble_eq_true rfl, Nat.le_of_ble_eq_true rfl⟩ dX9_socket_19 ?_
  refine V_bipush C dX9_socket_22 (by decide) ?_
  refine V_callS C (As := [_, _]) (c_X9_needRoom hl (z := (yC Z 7 : Int)) (hi := 8) (by omega) (by decide)) kX9_67 rfl rfl (Nat.le_of_ble_eq_true rfl) ⟨Nat.le_of_ble_eq_true rfl, Nat.le_of_ble_eq_true rfl⟩ ⟨(by first | exact Nat.le_of_ble_eq_true rfl | (dsimp only; omega)), (by first | exact Nat.le_of_ble_eq_true rfl | (dsimp only; omega))⟩ dX9_socket_24 (fun E Y hp => ?_) (fun v24 Y hp => ?_)
  · obtain ⟨rfl, rfl, hn⟩ := hp
    exact VX_out C hx0 (by omega) (by omega) (by rw [show socS M f g = (stp M 3, 0) from (if_pos (by omega)).trans ((if_pos (by omega)).trans (if_pos (by omega)))]; exact ⟨Or.inr (Or.inr (⟨rfl, rfl⟩)), L, Z, h, hZ, rfl⟩)
  obtain ⟨rfl, hYX, hw24⟩ := hp
  have hXY := hYX.symm
  subst hXY
  refine V_new C cl6 nX9_71 rfl (by first | exact Nat.le_of_ble_eq_true rfl | (dsimp only; omega)) (by first | exact Nat.le_of_ble_eq_true rfl | (dsimp only; omega)) dX9_socket_27 (fun q hq hbq => ?_)
  have hyq : lA L 11 0 ≠ q := ne_of_0 hq (by omega)
  have hKy1 : gK (alO X q 7) (lA L 11 0) = 11 := (if_neg hyq).trans hKy
  have hp1 : gP (alO X q 7) 641 (lA L 11 0) = some (lA L 1 1) := (if_neg hyq).trans ha1
  have hi9 : yC Z 7 < u1 (yC Z) 7 (yC Z 7 + 1) 7 := by rw [show u1 (yC Z) 7 (yC Z 7 + 1) 7 = yC Z 7 + 1 from if_pos rfl]; omega
  obtain ⟨Z0, xr0, cc0⟩ := FR.new h (c := 7) (by decide) (by decide) hq
  have hli1 : LI t0 (alO X q 7) (lA L 1 1) ((List.range (yC Z 7)).map (u2 (lA L) 7 (yC Z 7) q 7)) (lD L 1) (lC L 1) := cc0.li (j := 1) (c := 7) (xs := List.range (yC Z 7)) (by have := zC.2.2.2.2.2.2.2.2.2; rw [xr0.1]; show 1 < yC Z 1; omega) rfl (by rw [xr0.2.2.2.1]; exact zL.2.1)
  refine V_dup C dX9_socket_30 rfl ?_
  refine V_aload_n C dX9_socket_31 rfl ?_
  refine V_getP C cl10 fX9_16 (r := some ((lA L 1 1))) hKy1 hp1 dX9_socket_32 ?_
  refine V_callV1 C (As := []) (L_sizeN hl hli1 (n := (yC Z 7)) (by rw [List.length_map, List.length_range])) kX9_63 hli1.1 rfl rfl (Nat.le_of_ble_eq_true rfl) ⟨Nat.le_of_ble_eq_true rfl, Nat.le_of_ble_eq_true rfl⟩ ⟨Nat.le_of_ble_eq_true rfl, Nat.le_of_ble_eq_true rfl⟩ dX9_socket_35 ?_
  refine V_aload_n C dX9_socket_38 rfl ?_
  refine V_iload_n C dX9_socket_39 rfl ?_
  refine V_callI C (As := [_, _, _]) (c_X5_init hl (X := alO X q 7) (a := q) (f := lA L 5 f.toNat) (n := (yC Z 7 : Int)) (mo := g) (if_pos rfl)) kX9_73 rfl rfl (Nat.le_of_ble_eq_true rfl) ⟨Nat.le_of_ble_eq_true rfl, Nat.le_of_ble_eq_true rfl⟩ ⟨(by first | exact Nat.le_of_ble_eq_true rfl | (dsimp only; omega)), (by first | exact Nat.le_of_ble_eq_true rfl | (dsimp only; omega))⟩ dX9_socket_40 (fun _ _ h => h.elim) (fun v9 Y9 hp => ?_)
  obtain ⟨rfl, q2, hq2, hbq2, rfl⟩ := hp
  have lqq : u2 (u2 (lA L) 7 (yC Z 7) q) 1 (yC Z 1) q2 7 (yC Z 7) = q := (if_neg (fun y => by have := y.1; omega)).trans (if_pos ⟨rfl, rfl⟩)
  have lq1 : u2 (lA L) 7 (yC Z 7) q 7 (yC Z 7) = q := if_pos ⟨rfl, rfl⟩
  obtain ⟨Z1, xr1, xv1, xm1, xo1, cc1⟩ := FR.int xr0 cc0 (f := 387) (a := q) (v := 0) rfl (by decide) (by decide) hi9 lq1.symm
  obtain ⟨Z2, xr2, xv2, xm2, xo2, cc2⟩ := FR.int xr1 cc1 (f := 388) (a := q) (v := 1) rfl (by decide) (by decide) hi9 lq1.symm
  obtain ⟨Z3, xr3, xv3, xm3, xo3, cc3⟩ := FR.int xr2 cc2 (f := 389) (a := q) (v := 0) rfl (by decide) (by decide) hi9 lq1.symm
  obtain ⟨Z4, xr4, xv4, xm4, xo4, cc4⟩ := FR.ptr xr3 cc3 (f := 390) (a := q) (p := none) (v := none) rfl (by decide) (by decide) hi9 lq1.symm rfl (fun j hj => by cases hj)
  obtain ⟨Z5, xr5, xo5, xp5, cc5⟩ := FR.lst xr4 cc4 (a := q2) hq2
  obtain ⟨Z6, xr6, xv6, xm6, xo6, cc6⟩ := FR.ptr xr5 cc5 (f := 391) (a := q) (p := some q2) (v := some (yC Z 1)) rfl (by decide) (by decide) hi9 lqq.symm (by show some q2 = some (u2 (u2 (lA L) 7 (yC Z 7) q) 1 (yC Z 1) q2 1 (yC Z 1)); rw [show u2 (u2 (lA L) 7 (yC Z 7) q) 1 (yC Z 1) q2 1 (yC Z 1) = q2 from if_pos ⟨rfl, rfl⟩]) (fun j hj => by cases hj; show yC Z 1 < yC Z 1 + 1; omega)
  obtain ⟨Z7, xr7, xv7, xm7, xo7, cc7⟩ := FR.int xr6 cc6 (f := 384) (a := q) (v := (yC Z 7 : Int)) rfl (by decide) (by decide) hi9 lqq.symm
  obtain ⟨Z8, xr8, xv8, xm8, xo8, cc8⟩ := FR.ptr xr7 cc7 (f := 385) (a := q) (p := some (lA L 5 f.toNat)) (v := some f.toNat) rfl (by decide) (by decide) hi9 lqq.symm rfl (fun j hj => by cases hj; exact hi2)
  obtain ⟨Z9, xr9, xv9, xm9, xo9, cc9⟩ := FR.int xr8 cc8 (f := 386) (a := q) (v := g) rfl (by decide) (by decide) hi9 lqq.symm
  have jj9 : 1 < yC Z9 1 := by have := zC.2.2.2.2.2.2.2.2.2; rw [xr9.1]; show 1 < yC Z 1 + 1; omega
  have y09 : 0 < yC Z9 11 := by rw [xr9.1]; show 0 < yC Z 11; rw [zC.1]; omega
  have ii9 : yC Z 7 < yC Z9 7 := by rw [xr9.1]; exact hi9
  obtain ⟨hgr, hct⟩ := r_add (l := l) (D := D) (kA := kA) (b := b) hl cc9 (j := 1) (c := 7) (i := (yC Z 7)) (xs := List.range (yC Z 7)) jj9 rfl (by rw [xr9.2.2.2.1]; show (if 1 = yC Z 1 then [] else yL Z 1) = _; rw [if_neg (by have := zC.2.2.2.2.2.2.2.2.2; omega)]; exact zL.2.1) ii9 (by rw [List.length_range]; omega) (a := lA L 1 1) (v := q) (show lA L 1 1 = u2 (u2 (lA L) 7 (yC Z 7) q) 1 (yC Z 1) q2 1 1 from ((if_neg (fun y => by have := y.2; have := zC.2.2.2.2.2.2.2.2.2; omega)).trans (if_neg (fun y => by have := y.1; omega))).symm) lqq.symm
  have hKy2 := cc9.gk (c := 11) (i := 0) (by decide) y09
  have a11 : u2 (u2 (lA L) 7 (yC Z 7) q) 1 (yC Z 1) q2 1 1 = lA L 1 1 := (if_neg (fun y => by have := y.2; have := zC.2.2.2.2.2.2.2.2.2; omega)).trans (if_neg (fun y => by have := y.1; omega))
  have yt9 : yT Z9 641 0 = some 1 := (xr9.2.1 641 0 (fun e => absurd e (by decide))).trans zY.1.2.1
  have hp2 := (cc9.gp (f := 641) (g := 1) (c := 11) (i := 0) (j := 1) (by decide) y09 yt9).1.trans (congrArg some a11)
  have hL2 := (congrArg (gK _) a11).symm.trans (cc9.gk (c := 1) (i := 1) (by decide) jj9)
  refine V_astore C dX9_socket_43 (by decide) rfl ?_
  refine V_aload_n C dX9_socket_45 rfl ?_
  refine V_getP C cl10 fX9_16 (r := some ((lA L 1 1))) hKy2 hp2 dX9_socket_46 ?_
  refine V_aload C dX9_socket_49 rfl ?_
  refine V_callV C (As := [_]) (hct) kX9_50 hL2 rfl rfl (Nat.le_of_ble_eq_true rfl) ⟨Nat.le_of_ble_eq_true rfl, Nat.le_of_ble_eq_true rfl⟩ ⟨(by first | exact Nat.le_of_ble_eq_true rfl | (dsimp only; omega)), (by show _ ≤ 2100; omega)⟩ dX9_socket_51 (fun _ _ h => h.elim) (fun v51 Y51 hp => ?_)
  obtain ⟨rfl, L9, hL9, cc10⟩ := hp
  have hzm := zm_socket (Z2 := zsL Z9 1 (List.range (yC Z 7) ++ [yC Z 7])) (ZM_0 (v := 0) hZ) (Iv_0 (v := 0) hI) (by omega) f g xr9.1 xr9.2.1 xr9.2.2.1 ((xm9 384 (by decide)).trans ((xo8 384).trans (xv7))) ((xo9 385).trans (xv8)) (xv9) ((xm9 387 (by decide)).trans ((xo8 387).trans ((xm7 387 (by decide)).trans ((xo6 387).trans ((xo5 387).trans ((xo4 387).trans ((xm3 387 (by decide)).trans ((xm2 387 (by decide)).trans (xv1))))))))) ((xm9 388 (by decide)).trans ((xo8 388).trans ((xm7 388 (by decide)).trans ((xo6 388).trans ((xo5 388).trans ((xo4 388).trans ((xm3 388 (by decide)).trans (xv2)))))))) ((xm9 389 (by decide)).trans ((xo8 389).trans ((xm7 389 (by decide)).trans ((xo6 389).trans ((xo5 389).trans ((xo4 389).trans (xv3))))))) ((xo9 390).trans ((xm8 390 (by decide)).trans ((xo7 390).trans ((xm6 390 (by decide)).trans ((xp5 390).trans (xv4)))))) ((xo9 391).trans ((xm8 391 (by decide)).trans ((xo7 391).trans (xv6)))) (congrArg (fun x => u1 x 1 (List.range (yC Z 7) ++ [(yC Z 7)])) xr9.2.2.2.1) xr9.2.2.2.2.1 xr9.2.2.2.2.2
  have hKq9 : gK Y51 q = 7 := by
    have t := cc10.gk (c := 7) (i := (yC Z 7)) (by decide) ii9
    rw [hL9] at t
    exact (congrArg (gK Y51) lqq).symm.trans t
  have hKy3 : gK Y51 (lA L 11 0) = 11 := by
    have t := cc10.gk (c := 11) (i := 0) (by decide) y09
    rw [hL9] at t
    exact t
  have hq8 := cc10.gi (f := 384) (c := 7) (i := yC Z 7) (v := (yC Z 7 : Int)) (by decide) ii9 ((xm9 384 (by decide)).trans ((xo8 384).trans (xv7)))
  have hq384 : gI Y51 384 q = (yC Z 7 : Int) := by rw [hL9] at hq8; exact (congrArg (gI Y51 384) lqq).symm.trans hq8
  refine V_pop C dX9_socket_54 rfl ?_
  refine V_aload C dX9_socket_55 rfl ?_
  refine V_getIx C cl6 fX9_76 (x := (yC Z 7 : Int)) hKq9 hq384 dX9_socket_57 ?_
  exact V_iret C (by first | exact Nat.le_of_ble_eq_true rfl | omega) (by show _ ≤ 2100; omega) (by rw [show socS M f g = (setS (setA (setA (setS M 0 0) 7 (M.1 6).toNat f) 8 (M.1 6).toNat g) 6 (M.1 6 + 1), M.1 6 + 1 - 1) from (if_pos (by omega)).trans ((if_pos (by omega)).trans (if_neg (by omega)))]; rw [show (M.1 6).toNat = (yC Z 7) by omega]; exact ⟨rfl, by exact congrArg (fun v => some (iv v)) (by omega), L9, _, cc10, hzm, by rw [hL9]; rfl⟩) hr dX9_socket_60
end REL3
