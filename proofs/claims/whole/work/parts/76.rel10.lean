/-! the class: booking -/
section REL10
variable {l : Launch} {D : va_G} {kA : Nat → ClassId} {b t0 ao mo jj : Nat} {ad : Nat → Nat} {L : Ly} {X Y : Mm} {Z : Zs} {Mr M : Mo} {n : Nat}
set_option maxHeartbeats 2000000 in
set_option maxRecDepth 20000 in
theorem c_X9_book (hl : l.stackTraces = false) (h : CX t0 ao mo ad L X Z Mr) (hZ : ZM Z M) (hI : Iv M jj) {s c f g : Int} (hs : rng s) (hc : rng c) (hf : rng f) (hg : rng g) : Ct l D kA b t0 yX9_book cX9_book 8 (some FieldType.int) 7 179 [rv (some (lA L 11 0)), iv s, iv c, iv f, iv g] X 8 2100 (fun v Y => ∃ M2 r, booP M s c f g M2 r ∧ M2.1 0 = 0 ∧ v = some (iv r) ∧ clR t0 ao mo ad L Mr M2 Y) (fun E Y => ∃ M2 r, booP M s c f g M2 r ∧ ((E = "java/lang/IndexOutOfBoundsException" ∧ M2.1 0 = 1) ∨ (E = "java/lang/IllegalArgumentException" ∧ M2.1 0 = 2) ∨ (E = "java/lang/IllegalStateException" ∧ M2.1 0 = 3)) ∧ clR t0 ao mo ad L Mr M2 Y) := by
  refine Ct_mk hl (by decide) (Nat.le_of_ble_eq_true rfl) rfl ?_
  intro p9 e9 s9 m9 args9 below9 meth9 c9 C hr hx0
  obtain ⟨⟨zC, zL, zY, zF, zS, zA, zD, zE, zV⟩, zT, zW, zB⟩ := id hZ
  obtain ⟨hKy, ⟨ha0, ha1, ha2, ha3, ha4, ha5⟩, hlm, hsn, hdg⟩ := yd_C h hZ.1
  have o0 := hI.1.1
  unfold okSc at o0
  have c7 := zC.2.2.1
  have c3 := zC.2.2.2.1
  have c4 := zC.2.2.2.2.1
  have c6 := zC.2.2.2.2.2.1
  refine V_aload_n C dX9_book_0 rfl ?_
  refine V_iload_n C dX9_book_1 rfl ?_
  refine V_callV C (As := [_]) (r_socketAt hl h hZ.1 hs) kX9_109 hKy rfl rfl (Nat.le_of_ble_eq_true rfl) ⟨Nat.le_of_ble_eq_true rfl, Nat.le_of_ble_eq_true rfl⟩ ⟨(by first | exact Nat.le_of_ble_eq_true rfl | (dsimp only; omega)), (by first | exact Nat.le_of_ble_eq_true rfl | (dsimp only; omega))⟩ dX9_book_2 (fun E Y hp => ?_) (fun v2 Y hp => ?_)
  · obtain ⟨rfl, rfl, hn⟩ := hp
    exact VX_out C hx0 (by omega) (by omega) (⟨stp M 1, 0, Or.inl ⟨fun y => hn y.1, rfl, rfl⟩, Or.inl ⟨rfl, rfl⟩, L, Z, h, hZ, rfl⟩)
  obtain ⟨rfl, hYX, hw2, hi2⟩ := hp
  have hXY := hYX.symm
  subst hXY
  refine V_astore C dX9_book_5 (by decide) rfl ?_
  refine V_aload_n C dX9_book_7 rfl ?_
  refine V_iload_n C dX9_book_8 rfl ?_
  refine V_callV C (As := [_]) (r_cardAt hl h hZ.1 hc) kX9_91 hKy rfl rfl (Nat.le_of_ble_eq_true rfl) ⟨Nat.le_of_ble_eq_true rfl, Nat.le_of_ble_eq_true rfl⟩ ⟨(by first | exact Nat.le_of_ble_eq_true rfl | (dsimp only; omega)), (by first | exact Nat.le_of_ble_eq_true rfl | (dsimp only; omega))⟩ dX9_book_9 (fun E Y hp => ?_) (fun v9 Y hp => ?_)
  · obtain ⟨rfl, rfl, hn⟩ := hp
    exact VX_out C hx0 (by omega) (by omega) (⟨stp M 1, 0, Or.inl ⟨fun y => hn y.2, rfl, rfl⟩, Or.inl ⟨rfl, rfl⟩, L, Z, h, hZ, rfl⟩)
  obtain ⟨rfl, hYX, hw9, hi9⟩ := hp
  have hXY := hYX.symm
  subst hXY
  have hc4 := hi9
  have hA : (0 ≤ s ∧ s < M.1 6) ∧ (0 ≤ c ∧ c < M.1 17) := ⟨hw2, hw9⟩
  have o4 := hI.1.2.2.2.1 c.toNat (by omega)
  unfold okCd at o4
  refine V_astore C dX9_book_12 (by decide) rfl ?_
  refine V_iload_n C dX9_book_14 rfl ?_
  refine V_aload_n C dX9_book_15 rfl ?_
  refine V_getIx C cl10 fX9_31 (x := M.1 1) hKy (h.gi (f := 646) (c := 11) (i := 0) (by decide) (by rw [zC.1]; omega) zT.1) dX9_book_16 ?_
  refine V_sipush C dX9_book_19 (by decide) ?_
  refine V_callS C (As := [_, _, _]) (c_X9_needWithin hl (z := f) (lo := M.1 1) (hi := 20000) hf (by omega) (by decide)) kX9_59 rfl rfl (Nat.le_of_ble_eq_true rfl) ⟨Nat.le_of_ble_eq_true rfl, Nat.le_of_ble_eq_true rfl⟩ ⟨(by first | exact Nat.le_of_ble_eq_true rfl | (dsimp only; omega)), (by first | exact Nat.le_of_ble_eq_true rfl | (dsimp only; omega))⟩ dX9_book_22 (fun E Y hp => ?_) (fun v22 Y hp => ?_)
  · obtain ⟨rfl, rfl, hn⟩ := hp
    exact VX_out C hx0 (by omega) (by omega) (⟨stp M 2, 0, Or.inr (Or.inl ⟨hA, fun y => hn y.1, rfl, rfl⟩), Or.inr (Or.inl ⟨rfl, rfl⟩), L, Z, h, hZ, rfl⟩)
  obtain ⟨rfl, hYX, hw22⟩ := hp
  have hXY := hYX.symm
  subst hXY
  refine V_iload C dX9_book_25 rfl ?_
  refine V_bipush C dX9_book_27 (by decide) ?_
  refine V_sipush C dX9_book_29 (by decide) ?_
  refine V_callS C (As := [_, _, _]) (c_X9_needWithin hl (z := g) (lo := 15) (hi := 600) hg (by decide) (by decide)) kX9_59 rfl rfl (Nat.le_of_ble_eq_true rfl) ⟨Nat.le_of_ble_eq_true rfl, Nat.le_of_ble_eq_true rfl⟩ ⟨(by first | exact Nat.le_of_ble_eq_true rfl | (dsimp only; omega)), (by first | exact Nat.le_of_ble_eq_true rfl | (dsimp only; omega))⟩ dX9_book_32 (fun E Y hp => ?_) (fun v32 Y hp => ?_)
  · obtain ⟨rfl, rfl, hn⟩ := hp
    exact VX_out C hx0 (by omega) (by omega) (⟨stp M 2, 0, Or.inr (Or.inl ⟨hA, fun y => hn y.2, rfl, rfl⟩), Or.inr (Or.inl ⟨rfl, rfl⟩), L, Z, h, hZ, rfl⟩)
  obtain ⟨rfl, hYX, hw32⟩ := hp
  have hXY := hYX.symm
  subst hXY
  have hB : (M.1 1 ≤ f ∧ f ≤ 20000) ∧ (15 ≤ g ∧ g ≤ 600) := ⟨hw22, hw32⟩
  have hb391 := (h.gp (f := 391) (g := 1) (c := 7) (j := 6 + s.toNat) (by decide) hi2 (zS _ hi2).2.2.2.2.2.2.2).1
  refine V_iload_n C dX9_book_35 rfl ?_
  refine V_iload C dX9_book_36 rfl ?_
  refine V_iadd C dX9_book_38 ?_
  refine V_istore C dX9_book_39 (by decide) rfl ?_
  refine V_aload C dX9_book_41 rfl ?_
  refine V_getIx C cl3 fX9_95 (x := M.2 20 c.toNat) (h.gk (c := 4) (by decide) hc4) (h.gi (f := 194) (c := 4) (by decide) hc4 (zD _ hc4).2.2.1) dX9_book_43 ?_
  refine V_if_eq C dX9_book_46 (by omega) (fun h46 => ?_) (fun h46 => ?_)
  · exact V_throw C tX9_140 hx0 dX9_book_60.1 dX9_book_63.1 dX9_book_64.1 dX9_book_66.1 dX9_book_69.1 (Nat.le_of_ble_eq_true rfl) (Nat.le_of_ble_eq_true rfl) (by first | exact Nat.le_of_ble_eq_true rfl | (dsimp only; omega)) (by first | exact Nat.le_of_ble_eq_true rfl | (dsimp only; omega)) (by omega) (by omega) ⟨stp M 3, 0, Or.inr (Or.inr (Or.inl ⟨hA, hB, fun y => by first | (have y1 := y.1; omega) | (rcases hz9 with ⟨-, i, e1, e2, e3⟩ | ⟨e1, -⟩; (have y2 := y.2 i (by omega); omega); omega), rfl, rfl⟩)), Or.inr (Or.inr ⟨rfl, rfl⟩), L, Z, h, hZ, rfl⟩
  · refine V_aload C dX9_book_49 rfl ?_
    refine V_iload_n C dX9_book_51 rfl ?_
    refine V_iload C dX9_book_52 rfl ?_
    refine V_callS C (As := [_, _, _]) (r_within hl h hZ hI hi2 (f := f) (t := f + g) (by omega) (by omega)) kX9_134 rfl rfl (Nat.le_of_ble_eq_true rfl) ⟨Nat.le_of_ble_eq_true rfl, Nat.le_of_ble_eq_true rfl⟩ ⟨(by first | exact Nat.le_of_ble_eq_true rfl | (dsimp only; omega)), (by first | exact Nat.le_of_ble_eq_true rfl | (dsimp only; omega))⟩ dX9_book_54 (fun _ _ h => h.elim) (fun v54 Y54 hp => ?_)
    obtain ⟨hYX, z9, rfl, hz9⟩ := hp
    have hXY := hYX.symm
    subst hXY
    refine V_if_eq C dX9_book_57 (by omega) (fun h57 => ?_) (fun h57 => ?_)
    · refine V_aload C dX9_book_70 rfl ?_
      refine V_getP C cl6 fX9_145 (r := some ((lA L 1 (6 + s.toNat)))) (h.gk (c := 7) (by decide) hi2) hb391 dX9_book_72 ?_
      refine V_new C cl1 nX9_148 rfl (by first | exact Nat.le_of_ble_eq_true rfl | (dsimp only; omega)) (by first | exact Nat.le_of_ble_eq_true rfl | (dsimp only; omega)) dX9_book_75 (fun q hq hbq => ?_)
      have hcan : canM M s.toNat c.toNat f g (M.2 26 s.toNat).toNat := by
        rcases hz9 with ⟨e1, -⟩ | ⟨-, e1⟩
        · omega
        · exact ⟨by omega, fun i hi => Classical.byContradiction fun y => e1 ⟨i, by omega, by omega, by omega⟩⟩
      have hbm := bk_I h hZ hI hi2
      have hlen : (yL Z (6 + s.toNat)).length = (M.2 26 s.toNat).toNat := by
        have e1 := congrArg List.length (zB.2 s.toNat hi2)
        unfold bkL at e1
        rw [List.length_map, blF_len] at e1
        exact e1
      have h26 := hI.2.2.2.2.2.2.1.1 s.toNat (by omega)
      have hyq : lA L 11 0 ≠ q := ne_of_0 hq (by omega)
      have hi9 : yC Z 2 < u1 (yC Z) 2 (yC Z 2 + 1) 2 := by rw [show u1 (yC Z) 2 (yC Z 2 + 1) 2 = yC Z 2 + 1 from if_pos rfl]; omega
      obtain ⟨Z0, xr0, cc0⟩ := FR.new h (c := 2) (by decide) (by decide) hq
      refine V_dup C dX9_book_78 rfl ?_
      refine V_aload C dX9_book_79 rfl ?_
      refine V_iload_n C dX9_book_81 rfl ?_
      refine V_iload C dX9_book_82 rfl ?_
      refine V_callI0 C (As := [_, _, _]) (c_X0_init hl (X := alO X q 2) (a := q) (k := lA L 4 c.toNat) (f := f) (t := f + g) (if_pos rfl)) kX9_150 rfl rfl (Nat.le_of_ble_eq_true rfl) ⟨Nat.le_of_ble_eq_true rfl, Nat.le_of_ble_eq_true rfl⟩ ⟨(by first | exact Nat.le_of_ble_eq_true rfl | (dsimp only; omega)), (by first | exact Nat.le_of_ble_eq_true rfl | (dsimp only; omega))⟩ dX9_book_84 ?_
      have lqq : u2 (lA L) 2 (yC Z 2) q 2 (yC Z 2) = q := if_pos ⟨rfl, rfl⟩
      obtain ⟨Z1, xr1, xv1, xm1, xo1, cc1⟩ := FR.ptr xr0 cc0 (f := 64) (a := q) (p := some (lA L 4 c.toNat)) (v := some c.toNat) rfl (by decide) (by decide) hi9 lqq.symm rfl (fun j hj => by cases hj; exact hc4)
      obtain ⟨Z2, xr2, xv2, xm2, xo2, cc2⟩ := FR.int xr1 cc1 (f := 65) (a := q) (v := f) rfl (by decide) (by decide) hi9 lqq.symm
      obtain ⟨Z3, xr3, xv3, xm3, xo3, cc3⟩ := FR.int xr2 cc2 (f := 66) (a := q) (v := f + g) rfl (by decide) (by decide) hi9 lqq.symm
      have jj9 : 6 + s.toNat < yC Z3 1 := by have := zC.2.2.2.2.2.2.2.2.2; rw [xr3.1]; show 6 + s.toNat < yC Z 1; omega
      have ii9 : yC Z 2 < yC Z3 2 := by rw [xr3.1]; exact hi9
      have hs7 : s.toNat < yC Z3 7 := by rw [xr3.1]; exact hi2
      obtain ⟨hgr, hct⟩ := r_add (l := l) (D := D) (kA := kA) (b := b) hl cc3 (j := 6 + s.toNat) (c := 2) (i := yC Z 2) (xs := (yL Z (6 + s.toNat))) jj9 (kLs6 _) (by rw [xr3.2.2.2.1]) ii9 (by rw [hlen]; omega) (a := lA L 1 (6 + s.toNat)) (v := q) rfl lqq.symm
      have hL2 : gK _ (lA L 1 (6 + s.toNat)) = 1 := cc3.gk (c := 1) (i := 6 + s.toNat) (by decide) jj9
      refine V_callV C (As := [_]) (hct) kX9_50 hL2 rfl rfl (Nat.le_of_ble_eq_true rfl) ⟨Nat.le_of_ble_eq_true rfl, Nat.le_of_ble_eq_true rfl⟩ ⟨(by first | exact Nat.le_of_ble_eq_true rfl | (dsimp only; omega)), (by show _ ≤ 2100; omega)⟩ dX9_book_87 (fun _ _ h => h.elim) (fun v87 Y87 hp => ?_)
      obtain ⟨rfl, L9, hL9, cc10⟩ := hp
      have hzm := zm_book (Z2 := zsL Z3 (6 + s.toNat) ((yL Z (6 + s.toNat)) ++ [yC Z 2])) hZ hI hi2 (c := c) (f := f) (mi := g) hw9.1 (fun u hu => (bk_I h hZ hI hu).1) xr3.1 xr3.2.1 xr3.2.2.1 ((xo3 64).trans ((xo2 64).trans (xv1))) ((xm3 65 (by decide)).trans (xv2)) (xv3) (congrArg (fun x => u1 x (6 + s.toNat) ((yL Z (6 + s.toNat)) ++ [yC Z 2])) xr3.2.2.2.1) xr3.2.2.2.2.1 xr3.2.2.2.2.2
      have hK7 : gK Y87 (lA L 7 s.toNat) = 7 := by
        have t := cc10.gk (c := 7) (i := s.toNat) (by decide) hs7
        rw [hL9] at t
        exact t
      have hp7 : gP Y87 391 (lA L 7 s.toNat) = some (lA L 1 (6 + s.toNat)) := by
        have t := (cc10.gp (f := 391) (g := 1) (c := 7) (i := s.toNat) (j := 6 + s.toNat) (by decide) hs7 ((xr3.2.1 391 s.toNat (fun e => absurd e (by decide))).trans (zS _ hi2).2.2.2.2.2.2.2)).1
        rw [hL9] at t
        exact t
      have hli8 := cc10.li (j := 6 + s.toNat) (c := 2) (xs := (yL Z (6 + s.toNat)) ++ [yC Z 2]) jj9 (kLs6 _) (show u1 (yL Z3) (6 + s.toNat) ((yL Z (6 + s.toNat)) ++ [yC Z 2]) (6 + s.toNat) = _ from if_pos rfl)
      rw [hL9] at hli8
      have hli9 : LI t0 Y87 (lA L 1 (6 + s.toNat)) (((yL Z (6 + s.toNat)) ++ [yC Z 2]).map (u2 (lA L) 2 (yC Z 2) q 2)) (lD L9 (6 + s.toNat)) (lC L9 (6 + s.toNat)) := hli8
      refine V_pop C dX9_book_90 rfl ?_
      refine V_aload C dX9_book_91 rfl ?_
      refine V_getP C cl6 fX9_145 (r := some ((lA L 1 (6 + s.toNat)))) hK7 hp7 dX9_book_93 ?_
      refine V_callV1 C (As := []) (L_sizeN hl hli9 (n := (M.2 26 s.toNat).toNat + 1) (by rw [List.length_map, List.length_append, hlen, List.length_singleton])) kX9_63 hli9.1 rfl rfl (Nat.le_of_ble_eq_true rfl) ⟨Nat.le_of_ble_eq_true rfl, Nat.le_of_ble_eq_true rfl⟩ ⟨(by first | exact Nat.le_of_ble_eq_true rfl | (dsimp only; omega)), (by show _ ≤ 2100; omega)⟩ dX9_book_96 ?_
      exact V_iret C (by first | exact Nat.le_of_ble_eq_true rfl | omega) (by show _ ≤ 2100; omega) ⟨booM M s.toNat c f g, _, Or.inr (Or.inr (Or.inr ⟨hA, hB, hcan, rfl, by omega⟩)), rfl, rfl, L9, _, cc10, hzm, by rw [hL9]; rfl⟩ hr dX9_book_99
    · exact V_throw C tX9_140 hx0 dX9_book_60.1 dX9_book_63.1 dX9_book_64.1 dX9_book_66.1 dX9_book_69.1 (Nat.le_of_ble_eq_true rfl) (Nat.le_of_ble_eq_true rfl) (by first | exact Nat.le_of_ble_eq_true rfl | (dsimp only; omega)) (by first | exact Nat.le_of_ble_eq_true rfl | (dsimp only; omega)) (by omega) (by omega) ⟨stp M 3, 0, Or.inr (Or.inr (Or.inl ⟨hA, hB, fun y => by first | (have y1 := y.1; omega) | (rcases hz9 with ⟨-, i, e1, e2, e3⟩ | ⟨e1, -⟩; (have y2 := y.2 i (by omega); omega); omega), rfl, rfl⟩)), Or.inr (Or.inr ⟨rfl, rfl⟩), L, Z, h, hZ, rfl⟩
end REL10
