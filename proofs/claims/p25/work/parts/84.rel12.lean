/-! the class: plugging -/
theorem newM_0 (M : Mo) (n s c k : Nat) (h : Int) : (newM M (bkdM M s h) n s c k).1 0 = 0 := by
  show (cpT M s n 4 (sesM (bkdM M s h) n s c k)).1 0 = 0
  rw [(cpT_st M s n _ 4).1]
  show (bkdM M s h).1 0 = 0
  unfold bkdM
  split
  · rfl
  · rfl
theorem cx_ses2 {t0 ao mo n : Nat} {ad : Nat → Nat} {L : Ly} {X : Mm} {Z : Zs} {Mr : Mo} (h : CX t0 ao mo ad L X Z Mr) (e6 : yC Z 6 = n) (e10 : yC Z 10 = n) (e8 : yC Z 8 = n) (e20 : yC Z 20 = n) {a v q r s c k t : Nat} {m u : Int} (hs : s < yC Z 7) (hc : c < yC Z 3) (hk : k < yC Z 4) (ht : t < yC Z 9) (ha : gK X a = 0) (hv : gK (alO X a 6) v = 0) (hq2 : q ≠ v) (hq : gK (alO X a 6) q = 0) (hr1 : r ≠ v) (hr2 : r ≠ q) (hr : gK (alO X a 6) r = 0) : ∃ L5 Z2, lA L5 11 0 = lA L 11 0 ∧ lA L5 6 n = a ∧ FM Z Z2 n (u1 (u1 (u1 (u1 (yC Z) 6 (n + 1)) 10 (n + 1)) 20 (n + 1)) 8 (n + 1)) (u1 (yR Z) n (fun _ => 0)) (u1 (yK Z) n 128) ∧ (yT Z2 320 n = some s ∧ yT Z2 321 n = some c ∧ yT Z2 322 n = some k ∧ yT Z2 323 n = some t ∧ yT Z2 324 n = some n ∧ yT Z2 577 n = some n ∧ yT Z2 580 n = some n ∧ yN Z2 325 n = 0 ∧ yN Z2 326 n = 0 ∧ yN Z2 327 n = 0 ∧ yN Z2 328 n = u ∧ yN Z2 329 n = 0 ∧ yN Z2 330 n = 0 ∧ yN Z2 331 n = 0 ∧ yN Z2 448 n = 0 ∧ yN Z2 449 n = 0 ∧ yN Z2 450 n = 0 ∧ yN Z2 451 n = 0 ∧ yN Z2 576 n = m ∧ yN Z2 578 n = 0 ∧ yN Z2 579 n = 0) ∧ CX t0 ao mo ad L5 (sesN (alO X a 6) a (lA L 7 s) (lA L 3 c) (lA L 4 k) (lA L 9 t) v q r m u) Z2 Mr := by
  obtain ⟨Z2, f, v, h⟩ := cx_ses h e6 e10 e8 e20 (u := u) (m := m) hs hc hk ht ha hv hq2 hq hr1 hr2 hr
  refine ⟨_, Z2, ?_, ?_, f, v, h⟩
  · rfl
  · exact if_pos ⟨rfl, rfl⟩
section REL12
variable {l : Launch} {D : va_G} {kA : Nat → ClassId} {b t0 ao mo jj : Nat} {ad : Nat → Nat} {L : Ly} {X Y : Mm} {Z : Zs} {Mr M : Mo} {n : Nat}
set_option maxHeartbeats 2000000 in
set_option maxRecDepth 20000 in
theorem c_X9_plug (hl : l.stackTraces = false) (h : CX t0 ao mo ad L X Z Mr) (hZ : ZM Z M) (hI : Iv M jj) {s c k : Int} (hs : rng s) (hc : rng c) (hk : rng k) : Ct l D kA b t0 yX9_plug cX9_plug 8 (some FieldType.int) 8 200 [rv (some (lA L 11 0)), iv s, iv c, iv k] X 24 4400 (fun v Y => ∃ M2 r, pluP M (yC Z 6) s c k M2 r ∧ M2.1 0 = 0 ∧ v = some (iv r) ∧ clR t0 ao mo ad L Mr M2 Y) (fun E Y => ∃ M2 r, pluP M (yC Z 6) s c k M2 r ∧ ((E = "java/lang/IndexOutOfBoundsException" ∧ M2.1 0 = 1) ∨ (E = "java/lang/IllegalStateException" ∧ M2.1 0 = 2)) ∧ clR t0 ao mo ad L Mr M2 Y) := by
  refine Ct_mk hl (by decide) (Nat.le_of_ble_eq_true rfl) rfl ?_
  intro p9 e9 s9 m9 args9 below9 meth9 c9 C hr hx0
  obtain ⟨⟨zC, zL, zY, zF, zS, zA, zD, zE, zV⟩, zT, zW, zB⟩ := id hZ
  obtain ⟨hKy, ⟨ha0, ha1, ha2, ha3, ha4, ha5⟩, hlm, hsn, hdg⟩ := yd_C h hZ.1
  have o0 := hI.1.1
  unfold okSc at o0
  have c7 := zC.2.2.1
  have c3 := zC.2.2.2.1
  have c4 := zC.2.2.2.2.1
  have c6 := zC.2.2.2.2.2.1
  refine V_aload_n C dX9_plug_0 rfl ?_
  refine V_iload_n C dX9_plug_1 rfl ?_
  refine V_callV C (As := [_]) (r_socketAt hl h hZ.1 hs) kX9_109 hKy rfl rfl (Nat.le_of_ble_eq_true rfl) ⟨Nat.le_of_ble_eq_true rfl, Nat.le_of_ble_eq_true rfl⟩ ⟨(by first | exact Nat.le_of_ble_eq_true rfl | (dsimp only; omega)), (by first | exact Nat.le_of_ble_eq_true rfl | (dsimp only; omega))⟩ dX9_plug_2 (fun E Y hp => ?_) (fun v2 Y hp => ?_)
  · obtain ⟨rfl, rfl, hn⟩ := hp
    exact VX_out C hx0 (by omega) (by omega) (⟨stp M 1, 0, Or.inl ⟨fun y => hn y.1, rfl, rfl⟩, Or.inl ⟨rfl, rfl⟩, L, Z, h, hZ, rfl⟩)
  obtain ⟨rfl, hYX, hw2, hi2⟩ := hp
  have hXY := hYX.symm
  subst hXY
  refine V_astore C dX9_plug_5 (by decide) rfl ?_
  refine V_aload_n C dX9_plug_7 rfl ?_
  refine V_iload_n C dX9_plug_8 rfl ?_
  refine V_callV C (As := [_]) (r_carAt hl h hZ.1 hc) kX9_153 hKy rfl rfl (Nat.le_of_ble_eq_true rfl) ⟨Nat.le_of_ble_eq_true rfl, Nat.le_of_ble_eq_true rfl⟩ ⟨(by first | exact Nat.le_of_ble_eq_true rfl | (dsimp only; omega)), (by first | exact Nat.le_of_ble_eq_true rfl | (dsimp only; omega))⟩ dX9_plug_9 (fun E Y hp => ?_) (fun v9 Y hp => ?_)
  · obtain ⟨rfl, rfl, hn⟩ := hp
    exact VX_out C hx0 (by omega) (by omega) (⟨stp M 1, 0, Or.inl ⟨fun y => hn y.2.1, rfl, rfl⟩, Or.inl ⟨rfl, rfl⟩, L, Z, h, hZ, rfl⟩)
  obtain ⟨rfl, hYX, hw9, hi9⟩ := hp
  have hXY := hYX.symm
  subst hXY
  refine V_astore C dX9_plug_12 (by decide) rfl ?_
  refine V_aload_n C dX9_plug_14 rfl ?_
  refine V_iload_n C dX9_plug_15 rfl ?_
  refine V_callV C (As := [_]) (r_cardAt hl h hZ.1 hk) kX9_91 hKy rfl rfl (Nat.le_of_ble_eq_true rfl) ⟨Nat.le_of_ble_eq_true rfl, Nat.le_of_ble_eq_true rfl⟩ ⟨(by first | exact Nat.le_of_ble_eq_true rfl | (dsimp only; omega)), (by first | exact Nat.le_of_ble_eq_true rfl | (dsimp only; omega))⟩ dX9_plug_16 (fun E Y hp => ?_) (fun v16 Y hp => ?_)
  · obtain ⟨rfl, rfl, hn⟩ := hp
    exact VX_out C hx0 (by omega) (by omega) (⟨stp M 1, 0, Or.inl ⟨fun y => hn y.2.2, rfl, rfl⟩, Or.inl ⟨rfl, rfl⟩, L, Z, h, hZ, rfl⟩)
  obtain ⟨rfl, hYX, hw16, hi16⟩ := hp
  have hXY := hYX.symm
  subst hXY
  have hA : (0 ≤ s ∧ s < M.1 6) ∧ (0 ≤ c ∧ c < M.1 13) ∧ (0 ≤ k ∧ k < M.1 17) := ⟨hw2, hw9, hw16⟩
  have hli := h.li (j := 4) (c := 6) (xs := List.range (yC Z 6)) (by have := zC.2.2.2.2.2.2.2.2.2; omega) rfl zL.2.2.2.2.1
  refine V_astore C dX9_plug_19 (by decide) rfl ?_
  refine V_aload_n C dX9_plug_21 rfl ?_
  refine V_getP C cl10 fX9_25 (r := some ((lA L 1 4))) hKy ha4 dX9_plug_22 ?_
  refine V_callV1 C (As := []) (L_sizeN hl hli (n := yC Z 6) (by rw [List.length_map, List.length_range])) kX9_63 hli.1 rfl rfl (Nat.le_of_ble_eq_true rfl) ⟨Nat.le_of_ble_eq_true rfl, Nat.le_of_ble_eq_true rfl⟩ ⟨(by first | exact Nat.le_of_ble_eq_true rfl | (dsimp only; omega)), (by first | exact Nat.le_of_ble_eq_true rfl | (dsimp only; omega))⟩ dX9_plug_25 ?_
  refine V_bipush C dX9_plug_28 (by decide) ?_
  refine V_callS C (As := [_, _]) (c_X9_needRoom hl (z := (yC Z 6 : Int)) (hi := 40) (by omega) (by decide)) kX9_67 rfl rfl (Nat.le_of_ble_eq_true rfl) ⟨Nat.le_of_ble_eq_true rfl, Nat.le_of_ble_eq_true rfl⟩ ⟨(by first | exact Nat.le_of_ble_eq_true rfl | (dsimp only; omega)), (by first | exact Nat.le_of_ble_eq_true rfl | (dsimp only; omega))⟩ dX9_plug_30 (fun E Y hp => ?_) (fun v30 Y hp => ?_)
  · obtain ⟨rfl, rfl, hn⟩ := hp
    exact VX_out C hx0 (by omega) (by omega) (⟨stp M 2, 0, Or.inr ⟨hA, Or.inl ⟨by omega, rfl, rfl⟩⟩, Or.inr ⟨rfl, rfl⟩, L, Z, h, hZ, rfl⟩)
  obtain ⟨rfl, hYX, hw30⟩ := hp
  have hXY := hYX.symm
  subst hXY
  obtain ⟨hb, hh⟩ := hld_ex M s.toNat
  have e3 : ((c.toNat : Nat) : Int) = c := by omega
  have e4 : ((k.toNat : Nat) : Int) = k := by omega
  have h40 : M.1 30 < 40 := by omega
  refine V_aload_n C dX9_plug_33 rfl ?_
  refine V_aload C dX9_plug_34 rfl ?_
  refine V_aload C dX9_plug_36 rfl ?_
  refine V_aload C dX9_plug_38 rfl ?_
  refine V_callV C (As := [_, _, _]) (r_refuse hl h hZ hI hi2 hi9 hi16 hh) kX9_157 hKy rfl rfl (Nat.le_of_ble_eq_true rfl) ⟨Nat.le_of_ble_eq_true rfl, Nat.le_of_ble_eq_true rfl⟩ ⟨(by first | exact Nat.le_of_ble_eq_true rfl | (dsimp only; omega)), (by first | exact Nat.le_of_ble_eq_true rfl | (dsimp only; omega))⟩ dX9_plug_40 (fun _ _ h => h.elim) (fun v40 Y40 hp => ?_)
  obtain ⟨hYX, z9, rfl, hz9⟩ := hp
  have hXY := hYX.symm
  subst hXY
  rw [e3, e4] at hz9
  have rz : -5 ≤ z9 ∧ z9 ≤ 0 := by
    rcases hz9 with ⟨e, y1⟩ | ⟨y1, ⟨e, y2⟩ | ⟨y2, ⟨e, y3⟩ | ⟨y3, ⟨e, y4⟩ | ⟨y4, ⟨e, y5⟩ | ⟨e, y5⟩⟩⟩⟩⟩ <;> omega
  refine V_istore C dX9_plug_43 (by decide) rfl ?_
  refine V_iload C dX9_plug_45 rfl ?_
  refine V_if_eq C dX9_plug_47 (by omega) (fun h47 => ?_) (fun h47 => ?_)
  · have hg : M.2 9 s.toNat = 0 ∧ M.2 12 s.toNat = -1 ∧ ¬ (M.2 20 k.toNat = 0 ∨ (M.2 10 s.toNat = 1 ∧ M.2 21 k.toNat = 0)) ∧ ¬ (hb ≠ -1 ∧ M.2 27 (1500 * s.toNat + hb.toNat) ≠ k) ∧ ¬ awyM M (yC Z 6) c := by
      rcases hz9 with ⟨e, y1⟩ | ⟨y1, ⟨e, y2⟩ | ⟨y2, ⟨e, y3⟩ | ⟨y3, ⟨e, y4⟩ | ⟨y4, ⟨e, y5⟩ | ⟨e, y5⟩⟩⟩⟩⟩
      · omega
      · omega
      · omega
      · omega
      · omega
      · exact ⟨y1, y2, y3, y4, y5⟩
    obtain ⟨y1, y2, y3, y4, y5⟩ := hg
    have o7 := hI.1.2.1 s.toNat (by omega)
    unfold okSo at o7
    obtain ⟨-, p, hp256, hpt⟩ := zF (M.2 7 s.toNat).toNat (by omega)
    have f9 : (M.2 7 s.toNat).toNat < yC Z 5 := by rw [zC.2.1]; omega
    obtain ⟨s1, s2, s3, s4, s5, s6, s7, s8⟩ := zS s.toNat hi2
    have k7 := h.gk (c := 7) (by decide) hi2
    have k5 := h.gk (c := 5) (by decide) f9
    have i646 := h.gi (f := 646) (c := 11) (i := 0) (by decide) (by rw [zC.1]; omega) zT.1
    have p385 := (h.gp (f := 385) (g := 5) (c := 7) (by decide) hi2 s2).1
    have p256 := (h.gp (f := 256) (g := 9) (c := 5) (by decide) f9 hp256).1
    have i388 := h.gi (f := 388) (c := 7) (by decide) hi2 s5
    obtain ⟨hm, hbi⟩ := bk_I h hZ hI hi2
    obtain ⟨-, hbh⟩ := bk_hol h (u := s.toNat) (by have := zC.2.2.2.2.2.2.2.2.2; omega) zB.1
    have hbd : ∀ v ∈ yL Z (6 + s.toNat), (0 ≤ yN Z 65 v ∧ yN Z 65 v ≤ 20000) ∧ (0 ≤ yN Z 66 v ∧ yN Z 66 v ≤ 20600) := fun v hv => by
      rw [h.nob (show 6 + s.toNat < yC Z 1 by have := zC.2.2.2.2.2.2.2.2.2; omega)] at hv
      cases hv
    refine V_aload_n C dX9_plug_53 rfl ?_
    refine V_new C cl5 nX9_161 rfl (by first | exact Nat.le_of_ble_eq_true rfl | (dsimp only; omega)) (by first | exact Nat.le_of_ble_eq_true rfl | (dsimp only; omega)) dX9_plug_54 (fun q hq hbq => ?_)
    have ny : lA L 11 0 ≠ q := ne_of_0 hq (by omega)
    have n7 : lA L 7 s.toNat ≠ q := ne_of_0 hq (by omega)
    have n5 : lA L 5 (M.2 7 s.toNat).toNat ≠ q := ne_of_0 hq (by omega)
    have hKy1 : gK (alO X q 6) (lA L 11 0) = 11 := (if_neg ny).trans hKy
    have h646 : gI (alO X q 6) 646 (lA L 11 0) = M.1 1 := (if_neg ny).trans i646
    refine V_dup C dX9_plug_57 rfl ?_
    refine V_aload C dX9_plug_58 rfl ?_
    refine V_aload C dX9_plug_60 rfl ?_
    refine V_aload C dX9_plug_62 rfl ?_
    refine V_aload_n C dX9_plug_64 rfl ?_
    refine V_getIx C cl10 fX9_31 (x := M.1 1) hKy1 h646 dX9_plug_65 ?_
    refine V_callI C (As := [_, _, _, _]) (c_X4_init hl (X := alO X q 6) (a := q) (s := lA L 7 s.toNat) (c := lA L 3 c.toNat) (k := lA L 4 k.toNat) (f := lA L 5 (M.2 7 s.toNat).toNat) (t := lA L 9 p) (m := M.1 1) (u := 1 - M.2 10 s.toNat) (if_pos rfl) ((if_neg n7).trans k7) ((if_neg n7).trans p385) ((if_neg n5).trans k5) ((if_neg n5).trans p256) ((if_neg n7).trans i388) (by omega)) kX9_163 rfl rfl (Nat.le_of_ble_eq_true rfl) ⟨Nat.le_of_ble_eq_true rfl, Nat.le_of_ble_eq_true rfl⟩ ⟨(by first | exact Nat.le_of_ble_eq_true rfl | (dsimp only; omega)), (by first | exact Nat.le_of_ble_eq_true rfl | (dsimp only; omega))⟩ dX9_plug_68 (fun _ _ h => h.elim) (fun v68 Y68 hp => ?_)
    obtain ⟨rfl, v9, q9, r9, hv9, -, hq91, hq9, -, hr91, hr92, hr9, -, hYX⟩ := hp
    obtain ⟨L5, Z9, e11, e6, fm, hv, cc9⟩ := cx_ses2 h rfl zC.2.2.2.2.2.2.1 zC.2.2.2.2.2.2.2.1 zC.2.2.2.2.2.2.2.2.1 (a := q) (v := v9) (q := q9) (r := r9) (m := M.1 1) (u := if 1 - M.2 10 s.toNat = 0 then 1 else 0) hi2 hi9 hi16 hpt.1 hq hv9 hq91 hq9 hr91 hr92 hr9
    rw [← hYX] at cc9
    obtain ⟨fC, fT, fN, fL, fR, fK⟩ := fm
    have nk : ∀ f : Nat, (f / 64 + 1 ≠ 6 ∧ f / 64 + 1 ≠ 8 ∧ f / 64 + 1 ≠ 10) → ∀ i, k3 (f / 64 + 1) → i ≠ yC Z 6 := fun f h1 i e => by unfold k3 at e; omega
    have t11 : 0 < yC Z9 11 := by rw [fC]; show 0 < yC Z 11; rw [zC.1]; omega
    have hKy68 : gK Y68 (lA L 11 0) = 11 := by
      have t := cc9.gk (c := 11) (i := 0) (by decide) t11
      rw [e11] at t
      exact t
    have ebk : bkZ Z9 = bkZ Z := by
      funext i
      unfold bkZ
      rw [fT 64 i (nk 64 (by decide) i), fN 65 i (nk 65 (by decide) i), fN 66 i (nk 66 (by decide) i)]
    have e65 : yN Z9 65 = yN Z 65 := funext fun i => fN 65 i (nk 65 (by decide) i)
    have e66 : yN Z9 66 = yN Z 66 := funext fun i => fN 66 i (nk 66 (by decide) i)
    have e64 : yT Z9 64 = yT Z 64 := funext fun i => fT 64 i (nk 64 (by decide) i)
    have g644 : yT Z9 644 0 = some 4 := (fT 644 0 (nk 644 (by decide) 0)).trans zY.1.2.2.2.2.1
    have hbg := c_X9_begin (l := l) (D := D) (kA := kA) (b := b) hl cc9 (n := yC Z 6) (s := s.toNat) (c := c.toNat) (k := k.toNat) (nw := M.1 1) (by rw [fC]; show yC Z 6 < yC Z 6 + 1; omega) (by rw [fC]; exact hi2) (by rw [fC]; exact hi9) (by rw [fC]; exact hi16) t11 (by rw [fC]; exact zC.2.2.2.2.2.2.2.2.2) hv.1 hv.2.1 hv.2.2.1 ((fT 391 s.toNat (nk 391 (by decide) _)).trans s8) g644 ((fT 645 0 (nk 645 (by decide) 0)).trans zY.1.2.2.2.2.2) (by rw [fC, e64]; exact zB.1) (by rw [fL, e65, e66]; exact hbd) ((fN 646 0 (nk 646 (by decide) 0)).trans zT.1) (by omega) (by rw [fL, zL.2.2.2.2.1, List.length_range]; omega) (by rw [fL, zL.2.2.2.2.2]; exact Nat.le_trans (List.length_filter_le _ _) (by rw [List.length_range]; omega))
    rw [e11, e6, ebk, e65, fL, zL.2.2.2.2.1, zL.2.2.2.2.2] at hbg
    refine V_callV C (As := [_]) (hbg) kX9_166 hKy68 rfl rfl (Nat.le_of_ble_eq_true rfl) ⟨Nat.le_of_ble_eq_true rfl, Nat.le_of_ble_eq_true rfl⟩ ⟨(by first | exact Nat.le_of_ble_eq_true rfl | (dsimp only; omega)), (by first | exact Nat.le_of_ble_eq_true rfl | (dsimp only; omega))⟩ dX9_plug_71 (fun _ _ h => h.elim) (fun v71 Y71 hp => ?_)
    obtain ⟨rfl, L6, Z7, hL6, cc10, z1, z2, z3, z4, z5, z6, z7, z8⟩ := hp
    have hL : ∀ j, yL Z7 j = if j = 4 then List.range (yC Z 6) ++ [yC Z 6] else if j = 5 then (List.range (yC Z 6)).filter (rnM M) ++ [yC Z 6] else if j = 6 + s.toNat then (yL Z (6 + s.toNat)).filter (fun v => !decide ((bkZ Z v).1 = (k.toNat : Int) ∧ yN Z 65 v ≤ M.1 1 ∧ M.1 1 < yN Z 65 v + 15)) else yL Z j := fun j => by
      rw [z6]
      by_cases w5 : j = 5
      · subst w5
        rfl
      · by_cases w4 : j = 4
        · subst w4
          rfl
        · rw [if_neg w4, if_neg w5]
          exact (if_neg w5).trans (if_neg w4)
    have hzm := zm_plug (Z2 := Z7) (n := yC Z 6) (s := s.toNat) (c := c.toNat) (k := k.toNat) (p := p) (u := if 1 - M.2 10 s.toNat = 0 then 1 else 0) hZ hI rfl (by omega) hi2 hi9 hh (by rw [e4]; exact y4) hp256 (fun e => if_pos (by omega)) (by split <;> omega) (z1.trans fC) (fun f i h1 h2 => (z2 f i h2).trans (fT f i h1)) (fun f i h1 h2 => (z3 f i h2).trans (fN f i h1)) z4 z5 ⟨(z2 320 _ (Or.inl (by decide))).trans hv.1, (z2 321 _ (Or.inl (by decide))).trans hv.2.1, (z2 322 _ (Or.inl (by decide))).trans hv.2.2.1, (z2 323 _ (Or.inl (by decide))).trans hv.2.2.2.1, (z2 324 _ (Or.inl (by decide))).trans hv.2.2.2.2.1, (z2 577 _ (Or.inl (by decide))).trans hv.2.2.2.2.2.1, (z2 580 _ (Or.inl (by decide))).trans hv.2.2.2.2.2.2.1, (z3 325 _ (Or.inl (by decide))).trans hv.2.2.2.2.2.2.2.1, (z3 326 _ (Or.inl (by decide))).trans hv.2.2.2.2.2.2.2.2.1, (z3 327 _ (Or.inl (by decide))).trans hv.2.2.2.2.2.2.2.2.2.1, (z3 328 _ (Or.inl (by decide))).trans hv.2.2.2.2.2.2.2.2.2.2.1, (z3 329 _ (Or.inl (by decide))).trans hv.2.2.2.2.2.2.2.2.2.2.2.1, (z3 330 _ (Or.inl (by decide))).trans hv.2.2.2.2.2.2.2.2.2.2.2.2.1, (z3 331 _ (Or.inl (by decide))).trans hv.2.2.2.2.2.2.2.2.2.2.2.2.2.1, (z3 448 _ (Or.inl (by decide))).trans hv.2.2.2.2.2.2.2.2.2.2.2.2.2.2.1, (z3 449 _ (Or.inl (by decide))).trans hv.2.2.2.2.2.2.2.2.2.2.2.2.2.2.2.1, (z3 450 _ (Or.inl (by decide))).trans hv.2.2.2.2.2.2.2.2.2.2.2.2.2.2.2.2.1, (z3 451 _ (Or.inl (by decide))).trans hv.2.2.2.2.2.2.2.2.2.2.2.2.2.2.2.2.2.1, (z3 576 _ (Or.inl (by decide))).trans hv.2.2.2.2.2.2.2.2.2.2.2.2.2.2.2.2.2.2.1, (z3 578 _ (Or.inl (by decide))).trans hv.2.2.2.2.2.2.2.2.2.2.2.2.2.2.2.2.2.2.2.1, (z3 579 _ (Or.inl (by decide))).trans hv.2.2.2.2.2.2.2.2.2.2.2.2.2.2.2.2.2.2.2.2⟩ hL (z7.trans fR) (z8.trans fK)
    have hKy71 : gK Y71 (lA L 11 0) = 11 := by
      have t := cc10.gk (c := 11) (i := 0) (by decide) (by rw [z1]; exact t11)
      rw [hL6, e11] at t
      exact t
    have hp71 : gP Y71 644 (lA L 11 0) = some (lA L6 1 4) := by
      have t := (cc10.gp (f := 644) (g := 1) (c := 11) (i := 0) (j := 4) (by decide) (by rw [z1]; exact t11) ((z2 644 0 (Or.inl (by decide))).trans g644)).1
      rw [show lA L6 11 0 = lA L 11 0 by rw [hL6]; exact e11] at t
      exact t
    have hli2 := cc10.li (j := 4) (c := 6) (xs := List.range (yC Z 6) ++ [yC Z 6]) (by rw [z1, fC]; show 4 < yC Z 1; have := zC.2.2.2.2.2.2.2.2.2; omega) rfl ((hL 4).trans (if_pos rfl))
    refine V_aload_n C dX9_plug_74 rfl ?_
    refine V_getP C cl10 fX9_25 (r := some ((lA L6 1 4))) hKy71 hp71 dX9_plug_75 ?_
    refine V_callV1 C (As := []) (L_sizeN hl hli2 (n := yC Z 6 + 1) (by rw [List.length_map, List.length_append, List.length_range, List.length_singleton])) kX9_63 hli2.1 rfl rfl (Nat.le_of_ble_eq_true rfl) ⟨Nat.le_of_ble_eq_true rfl, Nat.le_of_ble_eq_true rfl⟩ ⟨(by first | exact Nat.le_of_ble_eq_true rfl | (dsimp only; omega)), (by first | exact Nat.le_of_ble_eq_true rfl | (dsimp only; omega))⟩ dX9_plug_78 ?_
    refine V_iconst C dX9_plug_81 ?_
    refine V_isub C dX9_plug_82 ?_
    exact V_iret C (by first | exact Nat.le_of_ble_eq_true rfl | omega) (by first | exact Nat.le_of_ble_eq_true rfl | omega) ⟨newM M (bkdM M s.toNat hb) (yC Z 6) s.toNat c.toNat k.toNat, _, Or.inr ⟨hA, Or.inr (Or.inr (Or.inr (Or.inr ⟨h40, y1, y2, y3, hb, hh, Or.inr (Or.inr ⟨y4, y5, rfl, by omega⟩)⟩)))⟩, newM_0 M _ _ _ _ _, rfl, L6, Z7, cc10, hzm, by rw [hL6]; exact e11⟩ hr dX9_plug_83
  · have hP : pluP M (yC Z 6) s c k (setS M 0 0) z9 := by
      refine Or.inr ⟨hA, ?_⟩
      rcases hz9 with ⟨e, y1⟩ | ⟨y1, ⟨e, y2⟩ | ⟨y2, ⟨e, y3⟩ | ⟨y3, ⟨e, y4⟩ | ⟨y4, ⟨e, y5⟩ | ⟨e, y5⟩⟩⟩⟩⟩
      · exact Or.inr (Or.inl ⟨h40, rfl, y1, e⟩)
      · exact Or.inr (Or.inr (Or.inl ⟨h40, rfl, y1, y2, e⟩))
      · exact Or.inr (Or.inr (Or.inr (Or.inl ⟨h40, rfl, y1, y2, y3, e⟩)))
      · exact Or.inr (Or.inr (Or.inr (Or.inr ⟨h40, y1, y2, y3, hb, hh, Or.inl ⟨rfl, y4.1, y4.2, e⟩⟩)))
      · exact Or.inr (Or.inr (Or.inr (Or.inr ⟨h40, y1, y2, y3, hb, hh, Or.inr (Or.inl ⟨rfl, y4, y5, e⟩)⟩)))
      · exact absurd e h47
    refine V_iload C dX9_plug_50 rfl ?_
    exact V_iret C (by first | exact Nat.le_of_ble_eq_true rfl | omega) (by first | exact Nat.le_of_ble_eq_true rfl | omega) ⟨setS M 0 0, _, hP, rfl, rfl, L, Z, h, hZ, rfl⟩ hr dX9_plug_52
end REL12
