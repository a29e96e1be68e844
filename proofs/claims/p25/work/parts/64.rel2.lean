/-! the class: calls that ask, calls that set -/
theorem zm_good {Z : Zs} {M : Mo} (hZ : ZM Z M) (k : Nat) (u : Int) : ZM (zsN Z 194 k u) (setA M 20 k u) := by
  obtain ⟨⟨zC, zL, zY, zF, zS, zA, zD, zE, zV⟩, zT, zW, zB⟩ := hZ
  refine ⟨⟨zC, zL, zY, zF, zS, zA, fun i hi => ?_, zE, zV⟩, zT, zW, zB⟩
  obtain ⟨d1, d2, d3, d4, d5⟩ := zD i hi
  refine ⟨d1, d2, ?_, d4, d5⟩
  show (if 194 = 194 ∧ i = k then u else yN Z 194 i) = if i = k then u else M.2 20 i
  by_cases e : i = k
  · rw [if_pos ⟨rfl, e⟩, if_pos e]
  · rw [if_neg (fun y => e y.2), if_neg e]
    exact d3
theorem zm_fault {Z : Zs} {M : Mo} (hZ : ZM Z M) (k : Nat) (u : Int) : ZM (zsN Z 387 k u) (setA M 9 k u) := by
  obtain ⟨⟨zC, zL, zY, zF, zS, zA, zD, zE, zV⟩, zT, zW, zB⟩ := hZ
  refine ⟨⟨zC, zL, zY, zF, fun i hi => ?_, zA, zD, zE, zV⟩, zT, zW, zB⟩
  obtain ⟨d1, d2, d3, d4, d5⟩ := zS i hi
  refine ⟨d1, d2, d3, ?_, d5⟩
  show (if 387 = 387 ∧ i = k then u else yN Z 387 i) = if i = k then u else M.2 9 i
  by_cases e : i = k
  · rw [if_pos ⟨rfl, e⟩, if_pos e]
  · rw [if_neg (fun y => e y.2), if_neg e]
    exact d4
theorem zm_set {Z : Zs} {M : Mo} (hZ : ZM Z M) (u : Int) : ZM (zsN Z 647 0 u) (setS M 3 u) ∧ ZM (zsN Z 648 0 u) (setS M 4 u) ∧ ZM (zsN Z 649 0 u) (setS M 5 u) := by
  obtain ⟨⟨zC, zL, zY, zF, zS, zA, zD, zE, zV⟩, zT, zW, zB⟩ := hZ
  exact ⟨⟨⟨zC, zL, ⟨zY.1, (yN_at _ 647 0 _).trans rfl, zY.2.2⟩, zF, zS, zA, zD, zE, zV⟩, zT, zW, zB⟩, ⟨⟨zC, zL, ⟨zY.1, zY.2.1, (yN_at _ 648 0 _).trans rfl, zY.2.2.2⟩, zF, zS, zA, zD, zE, zV⟩, zT, zW, zB⟩, ⟨⟨zC, zL, ⟨zY.1, zY.2.1, zY.2.2.1, (yN_at _ 649 0 _).trans rfl⟩, zF, zS, zA, zD, zE, zV⟩, zT, zW, zB⟩⟩
theorem setS_eta (M : Mo) (k : Nat) (v : Int) (h : M.1 k = v) : setS M k v = M := by
  have e : (fun j => if j = k then v else M.1 j) = M.1 := by
    funext j
    split
    · rename_i e
      rw [e, h]
    · rfl
  unfold setS
  rw [e]
theorem set_0 {M : Mo} {x u : Int} (hx : x = 0) (hu : 0 ≤ u ∧ u ≤ 200000) : setSS M x u = (setS (setS M 0 0) 3 u, M.1 3) := by
  subst hx
  unfold setSS
  rw [if_pos (Or.inl ⟨rfl, hu⟩)]
  simp only [if_true, if_neg (show ¬ (0 : Int) = 1 by decide), if_neg (show ¬ (0 : Int) = 2 by decide)]
  rw [setS_eta (setS (setS (setS M 0 0) 3 u) 4 (M.1 4)) 5 (M.1 5) rfl, setS_eta (setS (setS M 0 0) 3 u) 4 (M.1 4) rfl]
theorem set_1 {M : Mo} {x u : Int} (hx : x = 1) (hu : 0 ≤ u ∧ u ≤ 100000) : setSS M x u = (setS (setS M 0 0) 4 u, M.1 4) := by
  subst hx
  unfold setSS
  rw [if_pos (Or.inr (Or.inl ⟨rfl, hu⟩))]
  simp only [if_true, if_neg (show ¬ (1 : Int) = 0 by decide), if_neg (show ¬ (1 : Int) = 2 by decide)]
  rw [setS_eta (setS M 0 0) 3 (M.1 3) rfl, setS_eta (setS (setS M 0 0) 4 u) 5 (M.1 5) rfl]
theorem set_2 {M : Mo} {x u : Int} (hx : x = 2) (hu : -50 ≤ u ∧ u ≤ 50) : setSS M x u = (setS (setS M 0 0) 5 u, M.1 5) := by
  subst hx
  unfold setSS
  rw [if_pos (Or.inr (Or.inr ⟨rfl, hu⟩))]
  simp only [if_true, if_neg (show ¬ (2 : Int) = 0 by decide), if_neg (show ¬ (2 : Int) = 1 by decide)]
  rw [setS_eta (setS M 0 0) 3 (M.1 3) rfl, setS_eta (setS M 0 0) 4 (M.1 4) rfl]
section REL2
variable {l : Launch} {D : va_G} {kA : Nat → ClassId} {b t0 ao mo jj : Nat} {ad : Nat → Nat} {L : Ly} {X Y : Mm} {Z : Zs} {Mr M : Mo} {n : Nat}
theorem r_billHeard (hl : l.stackTraces = false) (h : CX t0 ao mo ad L X Z Mr) (z : zmX Z M) (hO : OkM M) {k : Nat} (hk : k < yC Z 6) : Ct l D kA b t0 yX4_billHeard cX4_billHeard 1 (some FieldType.int) 2 48 [rv (some (lA L 6 k))] X 0 0 (pD (some (iv (billM M k (M.2 42 k) (M.2 43 k) (M.2 44 k)))) X) pF := by
  obtain ⟨⟨s1, -, -, -, ⟨s4, s7⟩⟩, -⟩ := se_C h z hk
  obtain ⟨p1, p2, p3, p4, p5, p6, p7, p8⟩ := va_C h z hk
  obtain ⟨zC, zL, zY, zF, zS, zA, zD, zE, zV⟩ := z
  obtain ⟨-, ⟨p, e1, e2, e3, e4, e5, e6⟩, -⟩ := zE k hk
  obtain ⟨-, -, -, -, -, -, -, -, -, v10, -⟩ := zV k hk
  have k1 : (k : Int) < M.1 30 := by have := zC.2.2.2.2.2.1; omega
  have o1 := (hO.2.2.2.2.1 k k1).2
  have o0 := hO.1
  unfold okBi at o1
  unfold okSc at o0
  have t := hO.2.2.2.2.2.2
  have q0 := t (4 * k) (by omega)
  have q1 := t (4 * k + 1) (by omega)
  have q2 := t (4 * k + 2) (by omega)
  have q3 := t (4 * k + 3) (by omega)
  have w1 : (tlZ Z k).2.1 = M.2 42 k := by rw [v10]
  have w2 : (tlZ Z k).2.2.1 = M.2 43 k := by rw [v10]
  have w3 : (tlZ Z k).2.2.2 = M.2 44 k := by rw [v10]
  have hct := c_X4_billHeard (l := l) (D := D) (kA := kA) (b := b) (t0 := t0) (X := X) hl s1 s7 (h.gk (c := 8) (by decide) p5) (h.gk (c := 9) (by decide) e2) s4 p2 (h.gp (f := 323) (g := 9) (by decide) hk e1).1 (t := tlZ Z k) ⟨h.gi (f := 448) (by decide) p5 rfl, h.gi (f := 449) (by decide) p5 rfl, h.gi (f := 450) (by decide) p5 rfl, h.gi (f := 451) (by decide) p5 rfl⟩ (h.gi (f := 512) (by decide) e2 e3) (h.gi (f := 513) (by decide) e2 e4) (h.gi (f := 514) (by decide) e2 e5) (h.gi (f := 515) (by decide) e2 e6) (by rw [w1]; omega) (by rw [w2]; omega) (by rw [w3]; omega) q0 q1 q2 q3
  rw [w1, w2, w3] at hct
  exact hct
theorem r_billAll (hl : l.stackTraces = false) (h : CX t0 ao mo ad L X Z Mr) (z : zmX Z M) (hW : zmW Z M) (hO : OkM M) {k : Nat} (hk : k < yC Z 6) : Ct l D kA b t0 yX4_billAll cX4_billAll 1 (some FieldType.int) 3 69 [rv (some (lA L 6 k))] X 1 4 (fun v Y => v = some (iv (billM M k (M.2 39 k) (M.2 40 k) (M.2 41 k))) ∧ CX t0 ao mo ad L Y Z Mr) pF := by
  obtain ⟨⟨s1, -, -, -, ⟨s4, s7⟩⟩, -⟩ := se_C h z hk
  obtain ⟨p1, p2, p3, p4, p5, p6, p7, p8⟩ := va_C h z hk
  obtain ⟨zC, zL, zY, zF, zS, zA, zD, zE, zV⟩ := z
  obtain ⟨-, ⟨p, e1, e2, e3, e4, e5, e6⟩, -⟩ := zE k hk
  obtain ⟨-, -, v3, v4, v5, v6, v7, v8, -⟩ := zV k hk
  have k1 : (k : Int) < M.1 30 := by have := zC.2.2.2.2.2.1; omega
  have o1 := hO.2.2.2.2.1 k k1
  have o0 := hO.1
  unfold okSe okBi at o1
  unfold okSc at o0
  have t := hO.2.2.2.2.2.2
  have q0 := t (4 * k) (by omega)
  have q1 := t (4 * k + 1) (by omega)
  have q2 := t (4 * k + 2) (by omega)
  have q3 := t (4 * k + 3) (by omega)
  obtain ⟨md, hmd⟩ : ∃ md : Nat, M.2 37 k = (md : Int) := ⟨(M.2 37 k).toNat, by omega⟩
  have tmd : (M.2 37 k).toNat = md := by omega
  rw [tmd] at v6 v7 v8
  have cap := capOf_in md
  have hw := (hW k hk).1
  have et : tkF (gA X (lA L 20 k)) (yN Z 576 k) 0 md (0, 0, 0, 0) = (M.2 35 k, M.2 39 k, M.2 40 k, M.2 41 k) := by rw [p8]; exact v8
  have hct := c_X4_billAll (l := l) (D := D) (kA := kA) (b := b) (t0 := t0) (X := X) (md := md) (cap := yK Z k) (fm := yN Z 576 k) hl s1 s7 (h.gk (c := 9) (by decide) e2) s4 (h.gp (f := 323) (g := 9) (by decide) hk e1).1 (h.gi (f := 576) (by decide) p3 rfl) p1 p6 p7 (h.gi (f := 578) (by decide) p3 (v3.trans hmd)) (by omega) (by omega) (fun i hi => by rw [p8]; exact v7 i hi) (by omega) (h.gi (f := 512) (by decide) e2 e3) (h.gi (f := 513) (by decide) e2 e4) (h.gi (f := 514) (by decide) e2 e5) (h.gi (f := 515) (by decide) e2 e6) (by rw [et]; dsimp only; omega) (by rw [et]; dsimp only; omega) (by rw [et]; dsimp only; omega) q0 q1 q2 q3
  refine Ct.weak hct ?_
  rintro v Y ⟨rfl, r, hr, -, rfl⟩
  rw [et]
  refine ⟨rfl, h.kept (fun a ha => ?_)⟩
  have hn : a ≠ r := fun e => ha (e ▸ hr)
  exact ((((eqc_alO hn).tr (eqc_sI hn)).tr (eqc_sI hn)).tr (eqc_sI hn)).tr (eqc_sI hn)
set_option maxHeartbeats 2000000 in
set_option maxRecDepth 20000 in
theorem c_X9_bill (hl : l.stackTraces = false) (h : CX t0 ao mo ad L X Z Mr) (hZ : ZM Z M) (hI : Iv M jj) {q : Int} (hq : rng q) : Ct l D kA b t0 yX9_bill cX9_bill 2 (some FieldType.int) 7 111 [rv (some (lA L 11 0)), iv q] X 1 6 (fun v Y => ((bilS M q).1).1 0 = 0 ∧ v = some (iv ((bilS M q).2)) ∧ clR t0 ao mo ad L Mr ((bilS M q).1) Y) (fun E Y => ((E = "java/lang/IndexOutOfBoundsException" ∧ ((bilS M q).1).1 0 = 1)) ∧ clR t0 ao mo ad L Mr ((bilS M q).1) Y) := by
  refine Ct_mk hl (by decide) (Nat.le_of_ble_eq_true rfl) rfl ?_
  intro p9 e9 s9 m9 args9 below9 meth9 c9 C hr hx0
  obtain ⟨⟨zC, zL, zY, zF, zS, zA, zD, zE, zV⟩, zT, zW, zB⟩ := id hZ
  obtain ⟨hKy, ⟨ha0, ha1, ha2, ha3, ha4, ha5⟩, hlm, hsn, hdg⟩ := yd_C h hZ.1
  have o0 := hI.1.1
  unfold okSc at o0
  have c7 := zC.2.2.1
  have c3 := zC.2.2.2.1
  have c4 := zC.2.2.2.2.1
  have c6 := zC.2.2.2.2.2.1
  refine V_aload_n C dX9_bill_0 rfl ?_
  refine V_iload_n C dX9_bill_1 rfl ?_
  refine V_callV C (As := [_]) (r_sessionAt hl h hZ.1 hq) kX9_170 hKy rfl rfl (Nat.le_of_ble_eq_true rfl) ⟨Nat.le_of_ble_eq_true rfl, Nat.le_of_ble_eq_true rfl⟩ ⟨(by first | exact Nat.le_of_ble_eq_true rfl | (dsimp only; omega)), (by first | exact Nat.le_of_ble_eq_true rfl | (dsimp only; omega))⟩ dX9_bill_2 (fun E Y hp => ?_) (fun v2 Y hp => ?_)
  · obtain ⟨rfl, rfl, hn⟩ := hp
    exact VX_out C hx0 (by omega) (by omega) (by rw [show bilS M q = _ from if_neg (by omega)]; exact ⟨⟨rfl, rfl⟩, L, Z, h, hZ, rfl⟩)
  obtain ⟨rfl, rfl, hw2, hi2⟩ := hp
  refine V_callV1 C (As := []) (r_billHeard hl h hZ.1 hI.1 hi2) kX9_250 (h.gk (c := 6) (by decide) hi2) rfl rfl (Nat.le_of_ble_eq_true rfl) ⟨Nat.le_of_ble_eq_true rfl, Nat.le_of_ble_eq_true rfl⟩ ⟨Nat.le_of_ble_eq_true rfl, Nat.le_of_ble_eq_true rfl⟩ dX9_bill_5 ?_
  exact V_iret C (by omega) (by omega) (by rw [show bilS M q = _ from if_pos (by omega)]; exact ⟨rfl, rfl, L, Z, h, hZ, rfl⟩) hr dX9_bill_8
set_option maxHeartbeats 2000000 in
set_option maxRecDepth 20000 in
theorem c_X9_billAnew (hl : l.stackTraces = false) (h : CX t0 ao mo ad L X Z Mr) (hZ : ZM Z M) (hI : Iv M jj) {q : Int} (hq : rng q) : Ct l D kA b t0 yX9_billAnew cX9_billAnew 2 (some FieldType.int) 7 111 [rv (some (lA L 11 0)), iv q] X 2 10 (fun v Y => ((bilA M q).1).1 0 = 0 ∧ v = some (iv ((bilA M q).2)) ∧ clR t0 ao mo ad L Mr ((bilA M q).1) Y) (fun E Y => ((E = "java/lang/IndexOutOfBoundsException" ∧ ((bilA M q).1).1 0 = 1)) ∧ clR t0 ao mo ad L Mr ((bilA M q).1) Y) := by
  refine Ct_mk hl (by decide) (Nat.le_of_ble_eq_true rfl) rfl ?_
  intro p9 e9 s9 m9 args9 below9 meth9 c9 C hr hx0
  obtain ⟨⟨zC, zL, zY, zF, zS, zA, zD, zE, zV⟩, zT, zW, zB⟩ := id hZ
  obtain ⟨hKy, ⟨ha0, ha1, ha2, ha3, ha4, ha5⟩, hlm, hsn, hdg⟩ := yd_C h hZ.1
  have o0 := hI.1.1
  unfold okSc at o0
  have c7 := zC.2.2.1
  have c3 := zC.2.2.2.1
  have c4 := zC.2.2.2.2.1
  have c6 := zC.2.2.2.2.2.1
  refine V_aload_n C dX9_billAnew_0 rfl ?_
  refine V_iload_n C dX9_billAnew_1 rfl ?_
  refine V_callV C (As := [_]) (r_sessionAt hl h hZ.1 hq) kX9_170 hKy rfl rfl (Nat.le_of_ble_eq_true rfl) ⟨Nat.le_of_ble_eq_true rfl, Nat.le_of_ble_eq_true rfl⟩ ⟨(by first | exact Nat.le_of_ble_eq_true rfl | (dsimp only; omega)), (by first | exact Nat.le_of_ble_eq_true rfl | (dsimp only; omega))⟩ dX9_billAnew_2 (fun E Y hp => ?_) (fun v2 Y hp => ?_)
  · obtain ⟨rfl, rfl, hn⟩ := hp
    exact VX_out C hx0 (by omega) (by omega) (by rw [show bilA M q = _ from if_neg (by omega)]; exact ⟨⟨rfl, rfl⟩, L, Z, h, hZ, rfl⟩)
  obtain ⟨rfl, rfl, hw2, hi2⟩ := hp
  refine V_callV C (As := []) (r_billAll hl h hZ.1 zW hI.1 hi2) kX9_253 (h.gk (c := 6) (by decide) hi2) rfl rfl (Nat.le_of_ble_eq_true rfl) ⟨Nat.le_of_ble_eq_true rfl, Nat.le_of_ble_eq_true rfl⟩ ⟨(by first | exact Nat.le_of_ble_eq_true rfl | (dsimp only; omega)), (by first | exact Nat.le_of_ble_eq_true rfl | (dsimp only; omega))⟩ dX9_billAnew_5 (fun _ _ h => h.elim) (fun v5 Y5 hp => ?_)
  obtain ⟨rfl, hC5⟩ := hp
  exact V_iret C (by omega) (by omega) (by rw [show bilA M q = _ from if_pos (by omega)]; exact ⟨rfl, rfl, L, Z, hC5, hZ, rfl⟩) hr dX9_billAnew_8
set_option maxHeartbeats 2000000 in
set_option maxRecDepth 20000 in
theorem c_X9_of (hl : l.stackTraces = false) (h : CX t0 ao mo ad L X Z Mr) (hZ : ZM Z M) (hI : Iv M jj) {q x : Int} (hq : rng q) (hx9 : rng x) : Ct l D kA b t0 yX9_of cX9_of 4 (some FieldType.int) 7 111 [rv (some (lA L 11 0)), iv q, iv x] X 2 12 (fun v Y => ((ofS M q x).1).1 0 = 0 ∧ v = some (iv ((ofS M q x).2)) ∧ clR t0 ao mo ad L Mr ((ofS M q x).1) Y) (fun E Y => ((E = "java/lang/IndexOutOfBoundsException" ∧ ((ofS M q x).1).1 0 = 1) ∨ (E = "java/lang/IllegalArgumentException" ∧ ((ofS M q x).1).1 0 = 2)) ∧ clR t0 ao mo ad L Mr ((ofS M q x).1) Y) := by
  refine Ct_mk hl (by decide) (Nat.le_of_ble_eq_true rfl) rfl ?_
  intro p9 e9 s9 m9 args9 below9 meth9 c9 C hr hx0
  obtain ⟨⟨zC, zL, zY, zF, zS, zA, zD, zE, zV⟩, zT, zW, zB⟩ := id hZ
  obtain ⟨hKy, ⟨ha0, ha1, ha2, ha3, ha4, ha5⟩, hlm, hsn, hdg⟩ := yd_C h hZ.1
  have o0 := hI.1.1
  unfold okSc at o0
  have c7 := zC.2.2.1
  have c3 := zC.2.2.2.1
  have c4 := zC.2.2.2.2.1
  have c6 := zC.2.2.2.2.2.1
  refine V_aload_n C dX9_of_0 rfl ?_
  refine V_iload_n C dX9_of_1 rfl ?_
  refine V_callV C (As := [_]) (r_sessionAt hl h hZ.1 hq) kX9_170 hKy rfl rfl (Nat.le_of_ble_eq_true rfl) ⟨Nat.le_of_ble_eq_true rfl, Nat.le_of_ble_eq_true rfl⟩ ⟨(by first | exact Nat.le_of_ble_eq_true rfl | (dsimp only; omega)), (by first | exact Nat.le_of_ble_eq_true rfl | (dsimp only; omega))⟩ dX9_of_2 (fun E Y hp => ?_) (fun v2 Y hp => ?_)
  · obtain ⟨rfl, rfl, hn⟩ := hp
    exact VX_out C hx0 (by omega) (by omega) (by rw [show ofS M q x = _ from if_neg (by omega)]; exact ⟨Or.inl ⟨rfl, rfl⟩, L, Z, h, hZ, rfl⟩)
  obtain ⟨rfl, rfl, hw2, hi2⟩ := hp
  obtain ⟨sC, i1, i2, i3, i4⟩ := se_C h hZ.1 hi2
  have zek := zE _ hi2
  have zvk := zV _ hi2
  have o6 := (hI.1.2.2.2.2.1 q.toNat (by omega)).1
  unfold okSe at o6
  refine V_astore_n C dX9_of_5 (by decide) rfl ?_
  refine V_iload_n C dX9_of_6 rfl ?_
  rcases (by omega : x = 0 ∨ x = 1 ∨ x = 2 ∨ x = 3 ∨ x = 4 ∨ x = 5 ∨ x = 6 ∨ (x < 0 ∨ 6 < x)) with hs0 | hs1 | hs2 | hs3 | hs4 | hs5 | hs6 | hs7
  · refine V_tin C (tgt := 48) dX9_of_7 hx9 (by omega) (by omega) (by rw [hs0]; rfl) (by decide) ?_
    refine V_aload_n C dX9_of_48 rfl ?_
    refine V_getIx C cl5 fX9_220 (x := M.2 36 q.toNat) sC.1 (h.gi (f := 326) (c := 6) (by decide) hi2 zek.2.2.2.1) dX9_of_49 ?_
    exact V_iret C (by omega) (by omega) (by rw [show ofS M q x = (setS M 0 0, M.2 36 q.toNat) by unfold ofS; rw [if_pos (show 0 ≤ q ∧ q < M.1 30 by omega), if_pos (show 0 ≤ x ∧ x ≤ 6 by omega), hs0]; rfl]; exact ⟨rfl, rfl, L, Z, h, hZ, rfl⟩) hr dX9_of_52
  · refine V_tin C (tgt := 53) dX9_of_7 hx9 (by omega) (by omega) (by rw [hs1]; rfl) (by decide) ?_
    refine V_aload_n C dX9_of_53 rfl ?_
    refine V_getIx C cl5 fX9_223 (x := M.2 35 q.toNat) sC.1 (h.gi (f := 325) (c := 6) (by decide) hi2 zek.2.2.1) dX9_of_54 ?_
    exact V_iret C (by omega) (by omega) (by rw [show ofS M q x = (setS M 0 0, M.2 35 q.toNat) by unfold ofS; rw [if_pos (show 0 ≤ q ∧ q < M.1 30 by omega), if_pos (show 0 ≤ x ∧ x ≤ 6 by omega), hs1]; rfl]; exact ⟨rfl, rfl, L, Z, h, hZ, rfl⟩) hr dX9_of_57
  · refine V_tin C (tgt := 58) dX9_of_7 hx9 (by omega) (by omega) (by rw [hs2]; rfl) (by decide) ?_
    refine V_aload_n C dX9_of_58 rfl ?_
    refine V_getP C cl5 fX9_200 (r := some ((lA L 10 q.toNat))) sC.1 sC.2.2.2.2.1 dX9_of_59 ?_
    refine V_getIx C cl9 fX9_204 (x := M.2 37 q.toNat) sC.2.2.2.2.2 (h.gi (f := 578) (c := 10) (by decide) i4 zvk.2.2.1) dX9_of_62 ?_
    exact V_iret C (by omega) (by omega) (by rw [show ofS M q x = (setS M 0 0, M.2 37 q.toNat) by unfold ofS; rw [if_pos (show 0 ≤ q ∧ q < M.1 30 by omega), if_pos (show 0 ≤ x ∧ x ≤ 6 by omega), hs2]; rfl]; exact ⟨rfl, rfl, L, Z, h, hZ, rfl⟩) hr dX9_of_65
  · refine V_tin C (tgt := 66) dX9_of_7 hx9 (by omega) (by omega) (by rw [hs3]; rfl) (by decide) ?_
    refine V_aload_n C dX9_of_66 rfl ?_
    refine V_getP C cl5 fX9_200 (r := some ((lA L 10 q.toNat))) sC.1 sC.2.2.2.2.1 dX9_of_67 ?_
    refine V_getIx C cl9 fX9_209 (x := M.2 38 q.toNat) sC.2.2.2.2.2 (h.gi (f := 579) (c := 10) (by decide) i4 zvk.2.2.2.1) dX9_of_70 ?_
    exact V_iret C (by omega) (by omega) (by rw [show ofS M q x = (setS M 0 0, M.2 38 q.toNat) by unfold ofS; rw [if_pos (show 0 ≤ q ∧ q < M.1 30 by omega), if_pos (show 0 ≤ x ∧ x ≤ 6 by omega), hs3]; rfl]; exact ⟨rfl, rfl, L, Z, h, hZ, rfl⟩) hr dX9_of_73
  · refine V_tin C (tgt := 74) dX9_of_7 hx9 (by omega) (by omega) (by rw [hs4]; rfl) (by decide) ?_
    refine V_aload_n C dX9_of_74 rfl ?_
    refine V_callV1 C (As := []) (c_X4_state hl sC.1 (bi := if M.2 34 q.toNat = 3 then 1 else 0) (un := if M.2 34 q.toNat = 1 then 0 else 1) (h.gi (f := 330) (c := 6) (by decide) hi2 zek.2.2.2.2.2.1) (h.gi (f := 329) (c := 6) (by decide) hi2 zek.2.2.2.2.1) (by split <;> omega) (by split <;> omega)) kX9_226 sC.1 rfl rfl (Nat.le_of_ble_eq_true rfl) ⟨Nat.le_of_ble_eq_true rfl, Nat.le_of_ble_eq_true rfl⟩ ⟨Nat.le_of_ble_eq_true rfl, Nat.le_of_ble_eq_true rfl⟩ dX9_of_75 ?_
    exact V_iret C (by omega) (by omega) (by rw [show ofS M q x = (setS M 0 0, M.2 34 q.toNat) by unfold ofS; rw [if_pos (show 0 ≤ q ∧ q < M.1 30 by omega), if_pos (show 0 ≤ x ∧ x ≤ 6 by omega), hs4]; rfl]; rw [show (if (if M.2 34 q.toNat = 3 then (1 : Int) else 0) = 1 then (3 : Int) else if (if M.2 34 q.toNat = 1 then (0 : Int) else 1) = 1 then 2 else 1) = M.2 34 q.toNat by (repeat' split) <;> omega]; exact ⟨rfl, rfl, L, Z, h, hZ, rfl⟩) hr dX9_of_78
  · refine V_tin C (tgt := 79) dX9_of_7 hx9 (by omega) (by omega) (by rw [hs5]; rfl) (by decide) ?_
    refine V_aload_n C dX9_of_79 rfl ?_
    refine V_getP C cl5 fX9_179 (r := some ((lA L 3 (M.2 32 q.toNat).toNat))) sC.1 sC.2.2.1.1 dX9_of_80 ?_
    refine V_getIx C cl2 fX9_85 (x := M.2 32 q.toNat) sC.2.2.1.2 (h.gi (f := 128) (c := 3) (by decide) i2 (by have := (zA _ i2).1; omega)) dX9_of_83 ?_
    exact V_iret C (by omega) (by omega) (by rw [show ofS M q x = (setS M 0 0, M.2 32 q.toNat) by unfold ofS; rw [if_pos (show 0 ≤ q ∧ q < M.1 30 by omega), if_pos (show 0 ≤ x ∧ x ≤ 6 by omega), hs5]; rfl]; exact ⟨rfl, rfl, L, Z, h, hZ, rfl⟩) hr dX9_of_86
  · refine V_tin C (tgt := 87) dX9_of_7 hx9 (by omega) (by omega) (by rw [hs6]; rfl) (by decide) ?_
    refine V_aload_n C dX9_of_87 rfl ?_
    refine V_getP C cl5 fX9_186 (r := some ((lA L 7 (M.2 31 q.toNat).toNat))) sC.1 sC.2.1.1 dX9_of_88 ?_
    refine V_getIx C cl6 fX9_76 (x := M.2 31 q.toNat) sC.2.1.2 (h.gi (f := 384) (c := 7) (by decide) i1 (by have := (zS _ i1).1; omega)) dX9_of_91 ?_
    exact V_iret C (by omega) (by omega) (by rw [show ofS M q x = (setS M 0 0, M.2 31 q.toNat) by unfold ofS; rw [if_pos (show 0 ≤ q ∧ q < M.1 30 by omega), if_pos (show 0 ≤ x ∧ x ≤ 6 by omega), hs6]; rfl]; exact ⟨rfl, rfl, L, Z, h, hZ, rfl⟩) hr dX9_of_94
  · refine V_tout C (tgt := 95) dX9_of_7 hx9 hs7 (by decide) ?_
    exact V_throw C tX9_231 hx0 dX9_of_95.1 dX9_of_98.1 dX9_of_99.1 dX9_of_101.1 dX9_of_104.1 (Nat.le_of_ble_eq_true rfl) (Nat.le_of_ble_eq_true rfl) (by first | exact Nat.le_of_ble_eq_true rfl | (dsimp only; omega)) (by first | exact Nat.le_of_ble_eq_true rfl | (dsimp only; omega)) (by omega) (by omega) (by rw [show ofS M q x = (stp M 2, 0) by unfold ofS; rw [if_pos (show 0 ≤ q ∧ q < M.1 30 by omega), if_neg (show ¬ (0 ≤ x ∧ x ≤ 6) by omega)]]; exact ⟨Or.inr ⟨rfl, rfl⟩, L, Z, h, hZ, rfl⟩)
set_option maxHeartbeats 2000000 in
set_option maxRecDepth 20000 in
theorem c_X9_power (hl : l.stackTraces = false) (h : CX t0 ao mo ad L X Z Mr) (hZ : ZM Z M) (hI : Iv M jj) {q : Int} (hq : rng q) (hn : n = yC Z 6) : Ct l D kA b t0 yX9_power cX9_power 3 (some FieldType.int) 7 116 [rv (some (lA L 11 0)), iv q] X 1 6 (fun v Y => ((powS M n q).1).1 0 = 0 ∧ v = some (iv ((powS M n q).2)) ∧ clR t0 ao mo ad L Mr ((powS M n q).1) Y) (fun E Y => ((E = "java/lang/IndexOutOfBoundsException" ∧ ((powS M n q).1).1 0 = 1)) ∧ clR t0 ao mo ad L Mr ((powS M n q).1) Y) := by
  refine Ct_mk hl (by decide) (Nat.le_of_ble_eq_true rfl) rfl ?_
  intro p9 e9 s9 m9 args9 below9 meth9 c9 C hr hx0
  obtain ⟨⟨zC, zL, zY, zF, zS, zA, zD, zE, zV⟩, zT, zW, zB⟩ := id hZ
  obtain ⟨hKy, ⟨ha0, ha1, ha2, ha3, ha4, ha5⟩, hlm, hsn, hdg⟩ := yd_C h hZ.1
  have o0 := hI.1.1
  unfold okSc at o0
  have c7 := zC.2.2.1
  have c3 := zC.2.2.2.1
  have c4 := zC.2.2.2.2.1
  have c6 := zC.2.2.2.2.2.1
  refine V_aload_n C dX9_power_0 rfl ?_
  refine V_iload_n C dX9_power_1 rfl ?_
  refine V_callV C (As := [_]) (r_sessionAt hl h hZ.1 hq) kX9_170 hKy rfl rfl (Nat.le_of_ble_eq_true rfl) ⟨Nat.le_of_ble_eq_true rfl, Nat.le_of_ble_eq_true rfl⟩ ⟨(by first | exact Nat.le_of_ble_eq_true rfl | (dsimp only; omega)), (by first | exact Nat.le_of_ble_eq_true rfl | (dsimp only; omega))⟩ dX9_power_2 (fun E Y hp => ?_) (fun v2 Y hp => ?_)
  · obtain ⟨rfl, rfl, hn⟩ := hp
    exact VX_out C hx0 (by omega) (by omega) (by rw [show powS M n q = _ from if_neg (by omega)]; exact ⟨⟨rfl, rfl⟩, L, Z, h, hZ, rfl⟩)
  obtain ⟨rfl, rfl, hw2, hi2⟩ := hp
  refine V_astore_n C dX9_power_5 (by decide) rfl ?_
  refine V_aload_n C dX9_power_6 rfl ?_
  refine V_getIx C cl5 fX9_174 (x := (if M.2 34 q.toNat = 1 then (0 : Int) else 1)) (h.gk (c := 6) (by decide) hi2) (h.gi (f := 329) (c := 6) (by decide) hi2 (zE _ hi2).2.2.2.2.1) dX9_power_7 ?_
  refine V_if_eq C dX9_power_10 (by split <;> decide) (fun h10 => ?_) (fun h10 => ?_)
  · refine V_aload_n C dX9_power_15 rfl ?_
    refine V_aload_n C dX9_power_16 rfl ?_
    refine V_callV C (As := []) (r_serveFirst hl h hZ.1 zT.1 hI.1 hI.2.2.1 hn) kX9_237 hKy rfl rfl (Nat.le_of_ble_eq_true rfl) ⟨Nat.le_of_ble_eq_true rfl, Nat.le_of_ble_eq_true rfl⟩ ⟨(by first | exact Nat.le_of_ble_eq_true rfl | (dsimp only; omega)), (by first | exact Nat.le_of_ble_eq_true rfl | (dsimp only; omega))⟩ dX9_power_17 (fun _ _ h => h.elim) (fun v17 Y17 hp => ?_)
    obtain ⟨sv, F, rfl, rfl, hF, hs, hs9⟩ := hp
    refine V_callV C (As := [_]) (r_levels hl h hZ.1 hI.1 hI.2.2.1 hn hF hs hs9) kX9_240 hKy rfl rfl (Nat.le_of_ble_eq_true rfl) ⟨Nat.le_of_ble_eq_true rfl, Nat.le_of_ble_eq_true rfl⟩ ⟨(by first | exact Nat.le_of_ble_eq_true rfl | (dsimp only; omega)), (by first | exact Nat.le_of_ble_eq_true rfl | (dsimp only; omega))⟩ dX9_power_20 (fun _ _ h => h.elim) (fun v20 Y20 hp => ?_)
    obtain ⟨rfl, G, rfl, hG⟩ := hp
    refine V_aload_n C dX9_power_23 rfl ?_
    refine V_getIx C cl5 fX9_244 (x := powM M n q.toNat) (h.gk (c := 6) (by decide) hi2) (hG q.toNat (by omega) (Classical.byContradiction fun y => by rw [if_neg y] at h10; omega)) dX9_power_24 ?_
    exact V_iret C (by omega) (by omega) (by rw [show powS M n q = (setS (bp M (BM M n) (powM M n)) 0 0, powM M n q.toNat) from if_pos (by omega)]; exact ⟨rfl, rfl, L, _, fl_put h F G, hZ, rfl⟩) hr dX9_power_27
  · refine V_iconst C dX9_power_13 ?_
    exact V_iret C (by omega) (by omega) (by rw [show powS M n q = (setS (bp M (BM M n) (powM M n)) 0 0, powM M n q.toNat) from if_pos (by omega)]; exact ⟨rfl, by rw [(powM_in hI.1 (show (n : Int) = M.1 30 by omega) (show q.toNat < n by omega)).2.2 (fun y => h10 (if_pos y))], L, Z, h, hZ, rfl⟩) hr dX9_power_14
set_option maxHeartbeats 2000000 in
set_option maxRecDepth 20000 in
theorem c_X9_powerAnew (hl : l.stackTraces = false) (h : CX t0 ao mo ad L X Z Mr) (hZ : ZM Z M) (hI : Iv M jj) {q : Int} (hq : rng q) (hn : n = yC Z 6) : Ct l D kA b t0 yX9_powerAnew cX9_powerAnew 3 (some FieldType.int) 7 115 [rv (some (lA L 11 0)), iv q] X 1 6 (fun v Y => ((powS M n q).1).1 0 = 0 ∧ v = some (iv ((powS M n q).2)) ∧ clR t0 ao mo ad L Mr ((powS M n q).1) Y) (fun E Y => ((E = "java/lang/IndexOutOfBoundsException" ∧ ((powS M n q).1).1 0 = 1)) ∧ clR t0 ao mo ad L Mr ((powS M n q).1) Y) := by
  refine Ct_mk hl (by decide) (Nat.le_of_ble_eq_true rfl) rfl ?_
  intro p9 e9 s9 m9 args9 below9 meth9 c9 C hr hx0
  obtain ⟨⟨zC, zL, zY, zF, zS, zA, zD, zE, zV⟩, zT, zW, zB⟩ := id hZ
  obtain ⟨hKy, ⟨ha0, ha1, ha2, ha3, ha4, ha5⟩, hlm, hsn, hdg⟩ := yd_C h hZ.1
  have o0 := hI.1.1
  unfold okSc at o0
  have c7 := zC.2.2.1
  have c3 := zC.2.2.2.1
  have c4 := zC.2.2.2.2.1
  have c6 := zC.2.2.2.2.2.1
  refine V_aload_n C dX9_powerAnew_0 rfl ?_
  refine V_iload_n C dX9_powerAnew_1 rfl ?_
  refine V_callV C (As := [_]) (r_sessionAt hl h hZ.1 hq) kX9_170 hKy rfl rfl (Nat.le_of_ble_eq_true rfl) ⟨Nat.le_of_ble_eq_true rfl, Nat.le_of_ble_eq_true rfl⟩ ⟨(by first | exact Nat.le_of_ble_eq_true rfl | (dsimp only; omega)), (by first | exact Nat.le_of_ble_eq_true rfl | (dsimp only; omega))⟩ dX9_powerAnew_2 (fun E Y hp => ?_) (fun v2 Y hp => ?_)
  · obtain ⟨rfl, rfl, hn⟩ := hp
    exact VX_out C hx0 (by omega) (by omega) (by rw [show powS M n q = _ from if_neg (by omega)]; exact ⟨⟨rfl, rfl⟩, L, Z, h, hZ, rfl⟩)
  obtain ⟨rfl, rfl, hw2, hi2⟩ := hp
  refine V_astore_n C dX9_powerAnew_5 (by decide) rfl ?_
  refine V_aload_n C dX9_powerAnew_6 rfl ?_
  refine V_getIx C cl5 fX9_174 (x := (if M.2 34 q.toNat = 1 then (0 : Int) else 1)) (h.gk (c := 6) (by decide) hi2) (h.gi (f := 329) (c := 6) (by decide) hi2 (zE _ hi2).2.2.2.2.1) dX9_powerAnew_7 ?_
  refine V_if_eq C dX9_powerAnew_10 (by split <;> decide) (fun h10 => ?_) (fun h10 => ?_)
  · refine V_aload_n C dX9_powerAnew_15 rfl ?_
    refine V_aload_n C dX9_powerAnew_16 rfl ?_
    refine V_callV C (As := []) (r_serveFirst hl h hZ.1 zT.1 hI.1 hI.2.2.1 hn) kX9_237 hKy rfl rfl (Nat.le_of_ble_eq_true rfl) ⟨Nat.le_of_ble_eq_true rfl, Nat.le_of_ble_eq_true rfl⟩ ⟨(by first | exact Nat.le_of_ble_eq_true rfl | (dsimp only; omega)), (by first | exact Nat.le_of_ble_eq_true rfl | (dsimp only; omega))⟩ dX9_powerAnew_17 (fun _ _ h => h.elim) (fun v17 Y17 hp => ?_)
    obtain ⟨sv, F, rfl, rfl, hF, hs, hs9⟩ := hp
    refine V_callV C (As := [_]) (r_watts hl h hZ.1 hI.1 hI.2.2.1 hn hF hs hs9) kX9_247 hKy rfl rfl (Nat.le_of_ble_eq_true rfl) ⟨Nat.le_of_ble_eq_true rfl, Nat.le_of_ble_eq_true rfl⟩ ⟨(by first | exact Nat.le_of_ble_eq_true rfl | (dsimp only; omega)), (by first | exact Nat.le_of_ble_eq_true rfl | (dsimp only; omega))⟩ dX9_powerAnew_20 (fun _ _ h => h.elim) (fun v20 Y20 hp => ?_)
    obtain ⟨rfl, G, rfl, hG⟩ := hp
    refine V_aload_n C dX9_powerAnew_23 rfl ?_
    refine V_getIx C cl5 fX9_244 (x := powM M n q.toNat) (h.gk (c := 6) (by decide) hi2) (hG q.toNat (by omega) (Classical.byContradiction fun y => by rw [if_neg y] at h10; omega)) dX9_powerAnew_24 ?_
    exact V_iret C (by omega) (by omega) (by rw [show powS M n q = (setS (bp M (BM M n) (powM M n)) 0 0, powM M n q.toNat) from if_pos (by omega)]; exact ⟨rfl, rfl, L, _, fl_put h F G, hZ, rfl⟩) hr dX9_powerAnew_27
  · refine V_iconst C dX9_powerAnew_13 ?_
    exact V_iret C (by omega) (by omega) (by rw [show powS M n q = (setS (bp M (BM M n) (powM M n)) 0 0, powM M n q.toNat) from if_pos (by omega)]; exact ⟨rfl, by rw [(powM_in hI.1 (show (n : Int) = M.1 30 by omega) (show q.toNat < n by omega)).2.2 (fun y => h10 (if_pos y))], L, Z, h, hZ, rfl⟩) hr dX9_powerAnew_14
set_option maxHeartbeats 2000000 in
set_option maxRecDepth 20000 in
theorem c_X9_good (hl : l.stackTraces = false) (h : CX t0 ao mo ad L X Z Mr) (hZ : ZM Z M) (hI : Iv M jj) {q u : Int} (hq : rng q) (hu : u = 0 ∨ u = 1) : Ct l D kA b t0 yX9_good cX9_good 5 (some FieldType.boolean) 7 111 [rv (some (lA L 11 0)), iv q, iv u] X 1 6 (fun v Y => ((goodS M q u).1).1 0 = 0 ∧ v = some (iv ((goodS M q u).2)) ∧ clR t0 ao mo ad L Mr ((goodS M q u).1) Y) (fun E Y => ((E = "java/lang/IndexOutOfBoundsException" ∧ ((goodS M q u).1).1 0 = 1)) ∧ clR t0 ao mo ad L Mr ((goodS M q u).1) Y) := by
  refine Ct_mk hl (by decide) (Nat.le_of_ble_eq_true rfl) rfl ?_
  intro p9 e9 s9 m9 args9 below9 meth9 c9 C hr hx0
  obtain ⟨⟨zC, zL, zY, zF, zS, zA, zD, zE, zV⟩, zT, zW, zB⟩ := id hZ
  obtain ⟨hKy, ⟨ha0, ha1, ha2, ha3, ha4, ha5⟩, hlm, hsn, hdg⟩ := yd_C h hZ.1
  have o0 := hI.1.1
  unfold okSc at o0
  have c7 := zC.2.2.1
  have c3 := zC.2.2.2.1
  have c4 := zC.2.2.2.2.1
  have c6 := zC.2.2.2.2.2.1
  refine V_aload_n C dX9_good_0 rfl ?_
  refine V_iload_n C dX9_good_1 rfl ?_
  refine V_callV C (As := [_]) (r_cardAt hl h hZ.1 hq) kX9_91 hKy rfl rfl (Nat.le_of_ble_eq_true rfl) ⟨Nat.le_of_ble_eq_true rfl, Nat.le_of_ble_eq_true rfl⟩ ⟨(by first | exact Nat.le_of_ble_eq_true rfl | (dsimp only; omega)), (by first | exact Nat.le_of_ble_eq_true rfl | (dsimp only; omega))⟩ dX9_good_2 (fun E Y hp => ?_) (fun v2 Y hp => ?_)
  · obtain ⟨rfl, rfl, hn⟩ := hp
    exact VX_out C hx0 (by omega) (by omega) (by rw [show goodS M q u = _ from if_neg (by omega)]; exact ⟨⟨rfl, rfl⟩, L, Z, h, hZ, rfl⟩)
  obtain ⟨rfl, rfl, hw2, hi2⟩ := hp
  refine V_astore_n C dX9_good_5 (by decide) rfl ?_
  have ok9 := hI.1.2.2.2.1 q.toNat (by omega)
  unfold okCd at ok9
  refine V_aload_n C dX9_good_6 rfl ?_
  refine V_getIx C cl3 fX9_95 (x := M.2 20 q.toNat) (h.gk (c := 4) (by decide) hi2) (h.gi (f := 194) (c := 4) (by decide) hi2 (zD _ hi2).2.2.1) dX9_good_7 ?_
  refine V_istore C dX9_good_10 (by decide) rfl ?_
  refine V_aload_n C dX9_good_12 rfl ?_
  refine V_iload_n C dX9_good_13 rfl ?_
  refine V_putZ C cl3 fX9_95 (Or.inl rfl) rfl (by first | decide | omega | (split <;> omega)) (h.gk (c := 4) (by decide) hi2) dX9_good_14 ?_
  refine V_iload C dX9_good_17 rfl ?_
  exact V_zret C (by omega) (by omega) (by rw [show goodS M q u = (setA (setS M 0 0) 20 q.toNat u, M.2 20 q.toNat) from if_pos (by omega)]; exact ⟨rfl, rfl, L, _, h.putI (f := 194) (c := 4) (i := q.toNat) (v := u) rfl (by decide) (by decide) hi2 rfl, zm_good (ZM_0 hZ) _ _, rfl⟩) hr (by first | omega | decide) dX9_good_19
set_option maxHeartbeats 2000000 in
set_option maxRecDepth 20000 in
theorem c_X9_fault (hl : l.stackTraces = false) (h : CX t0 ao mo ad L X Z Mr) (hZ : ZM Z M) (hI : Iv M jj) {q u : Int} (hq : rng q) (hu : u = 0 ∨ u = 1) : Ct l D kA b t0 yX9_fault cX9_fault 5 (some FieldType.boolean) 7 111 [rv (some (lA L 11 0)), iv q, iv u] X 1 6 (fun v Y => ((fauS M q u).1).1 0 = 0 ∧ v = some (iv ((fauS M q u).2)) ∧ clR t0 ao mo ad L Mr ((fauS M q u).1) Y) (fun E Y => ((E = "java/lang/IndexOutOfBoundsException" ∧ ((fauS M q u).1).1 0 = 1)) ∧ clR t0 ao mo ad L Mr ((fauS M q u).1) Y) := by
  refine Ct_mk hl (by decide) (Nat.le_of_ble_eq_true rfl) rfl ?_
  intro p9 e9 s9 m9 args9 below9 meth9 c9 C hr hx0
  obtain ⟨⟨zC, zL, zY, zF, zS, zA, zD, zE, zV⟩, zT, zW, zB⟩ := id hZ
  obtain ⟨hKy, ⟨ha0, ha1, ha2, ha3, ha4, ha5⟩, hlm, hsn, hdg⟩ := yd_C h hZ.1
  have o0 := hI.1.1
  unfold okSc at o0
  have c7 := zC.2.2.1
  have c3 := zC.2.2.2.1
  have c4 := zC.2.2.2.2.1
  have c6 := zC.2.2.2.2.2.1
  refine V_aload_n C dX9_fault_0 rfl ?_
  refine V_iload_n C dX9_fault_1 rfl ?_
  refine V_callV C (As := [_]) (r_socketAt hl h hZ.1 hq) kX9_109 hKy rfl rfl (Nat.le_of_ble_eq_true rfl) ⟨Nat.le_of_ble_eq_true rfl, Nat.le_of_ble_eq_true rfl⟩ ⟨(by first | exact Nat.le_of_ble_eq_true rfl | (dsimp only; omega)), (by first | exact Nat.le_of_ble_eq_true rfl | (dsimp only; omega))⟩ dX9_fault_2 (fun E Y hp => ?_) (fun v2 Y hp => ?_)
  · obtain ⟨rfl, rfl, hn⟩ := hp
    exact VX_out C hx0 (by omega) (by omega) (by rw [show fauS M q u = _ from if_neg (by omega)]; exact ⟨⟨rfl, rfl⟩, L, Z, h, hZ, rfl⟩)
  obtain ⟨rfl, rfl, hw2, hi2⟩ := hp
  refine V_astore_n C dX9_fault_5 (by decide) rfl ?_
  have ok9 := hI.1.2.1 q.toNat (by omega)
  unfold okSo at ok9
  refine V_aload_n C dX9_fault_6 rfl ?_
  refine V_getIx C cl6 fX9_113 (x := M.2 9 q.toNat) (h.gk (c := 7) (by decide) hi2) (h.gi (f := 387) (c := 7) (by decide) hi2 (zS _ hi2).2.2.2.1) dX9_fault_7 ?_
  refine V_istore C dX9_fault_10 (by decide) rfl ?_
  refine V_aload_n C dX9_fault_12 rfl ?_
  refine V_iload_n C dX9_fault_13 rfl ?_
  refine V_putZ C cl6 fX9_113 (Or.inl rfl) rfl (by first | decide | omega | (split <;> omega)) (h.gk (c := 7) (by decide) hi2) dX9_fault_14 ?_
  refine V_iload C dX9_fault_17 rfl ?_
  exact V_zret C (by omega) (by omega) (by rw [show fauS M q u = (setA (setS M 0 0) 9 q.toNat u, M.2 9 q.toNat) from if_pos (by omega)]; exact ⟨rfl, rfl, L, _, h.putI (f := 387) (c := 7) (i := q.toNat) (v := u) rfl (by decide) (by decide) hi2 rfl, zm_fault (ZM_0 hZ) _ _, rfl⟩) hr (by first | omega | decide) dX9_fault_19
set_option maxHeartbeats 2000000 in
set_option maxRecDepth 20000 in
theorem c_X9_set (hl : l.stackTraces = false) (h : CX t0 ao mo ad L X Z Mr) (hZ : ZM Z M) (hI : Iv M jj) {x u : Int} (hx9 : rng x) (hu : rng u) : Ct l D kA b t0 yX9_set cX9_set 3 (some FieldType.int) 8 134 [rv (some (lA L 11 0)), iv x, iv u] X 2 12 (fun v Y => ((setSS M x u).1).1 0 = 0 ∧ v = some (iv ((setSS M x u).2)) ∧ clR t0 ao mo ad L Mr ((setSS M x u).1) Y) (fun E Y => ((E = "java/lang/IllegalArgumentException" ∧ ((setSS M x u).1).1 0 = 1)) ∧ clR t0 ao mo ad L Mr ((setSS M x u).1) Y) := by
  refine Ct_mk hl (by decide) (Nat.le_of_ble_eq_true rfl) rfl ?_
  intro p9 e9 s9 m9 args9 below9 meth9 c9 C hr hx0
  obtain ⟨⟨zC, zL, zY, zF, zS, zA, zD, zE, zV⟩, zT, zW, zB⟩ := id hZ
  obtain ⟨hKy, ⟨ha0, ha1, ha2, ha3, ha4, ha5⟩, hlm, hsn, hdg⟩ := yd_C h hZ.1
  have o0 := hI.1.1
  unfold okSc at o0
  have c7 := zC.2.2.1
  have c3 := zC.2.2.2.1
  have c4 := zC.2.2.2.2.1
  have c6 := zC.2.2.2.2.2.1
  refine V_iload_n C dX9_set_0 rfl ?_
  refine V_if_ne C dX9_set_1 hx9 (fun h1 => ?_) (fun h1 => ?_)
  · refine V_iload_n C dX9_set_10 rfl ?_
    refine V_iconst C dX9_set_11 ?_
    refine V_icmp_ne C dX9_set_12 hx9 (by decide) (fun h12 => ?_) (fun h12 => ?_)
    · refine V_iload_n C dX9_set_21 rfl ?_
      refine V_iconst C dX9_set_22 ?_
      refine V_iconst C dX9_set_23 ?_
      refine V_callS C (As := [_, _, _]) (c_X9_needWithin hl (z := x) (lo := 2) (hi := 2) hx9 (by decide) (by decide)) kX9_59 rfl rfl (Nat.le_of_ble_eq_true rfl) ⟨Nat.le_of_ble_eq_true rfl, Nat.le_of_ble_eq_true rfl⟩ ⟨(by first | exact Nat.le_of_ble_eq_true rfl | (dsimp only; omega)), (by first | exact Nat.le_of_ble_eq_true rfl | (dsimp only; omega))⟩ dX9_set_24 (fun E Y hp => ?_) (fun v24 Y hp => ?_)
      · obtain ⟨rfl, rfl, hn⟩ := hp
        exact VX_out C hx0 (by omega) (by omega) (by rw [show setSS M x u = (stp M 1, 0) from if_neg (by omega)]; exact ⟨⟨rfl, rfl⟩, L, Z, h, hZ, rfl⟩)
      obtain ⟨rfl, rfl, hw24⟩ := hp
      refine V_aload_n C dX9_set_27 rfl ?_
      refine V_iload_n C dX9_set_28 rfl ?_
      refine V_callV C (As := [_]) (c_X9_setDegrees hl hKy hdg hu) kX9_106 hKy rfl rfl (Nat.le_of_ble_eq_true rfl) ⟨Nat.le_of_ble_eq_true rfl, Nat.le_of_ble_eq_true rfl⟩ ⟨(by first | exact Nat.le_of_ble_eq_true rfl | (dsimp only; omega)), (by first | exact Nat.le_of_ble_eq_true rfl | (dsimp only; omega))⟩ dX9_set_29 (fun E Y hp => ?_) (fun v29 Y hp => ?_)
      · obtain ⟨rfl, rfl, hn⟩ := hp
        exact VX_out C hx0 (by omega) (by omega) (by rw [show setSS M x u = (stp M 1, 0) from if_neg (by omega)]; exact ⟨⟨rfl, rfl⟩, L, Z, h, hZ, rfl⟩)
      obtain ⟨rfl, rfl, hw29⟩ := hp
      exact V_iret C (by omega) (by omega) (by rw [show setSS M x u = (setS (setS M 0 0) 5 u, M.1 5) from set_2 (by omega) (by omega)]; exact ⟨rfl, rfl, L, _, h.putI (f := 649) (c := 11) (i := 0) (v := u) rfl (by decide) (by decide) (by rw [zC.1]; omega) rfl, (zm_set (ZM_0 hZ) u).2.2, rfl⟩) hr dX9_set_32
    · refine V_aload_n C dX9_set_15 rfl ?_
      refine V_iload_n C dX9_set_16 rfl ?_
      refine V_callV C (As := [_]) (c_X9_setSun hl hKy hsn hu) kX9_103 hKy rfl rfl (Nat.le_of_ble_eq_true rfl) ⟨Nat.le_of_ble_eq_true rfl, Nat.le_of_ble_eq_true rfl⟩ ⟨(by first | exact Nat.le_of_ble_eq_true rfl | (dsimp only; omega)), (by first | exact Nat.le_of_ble_eq_true rfl | (dsimp only; omega))⟩ dX9_set_17 (fun E Y hp => ?_) (fun v17 Y hp => ?_)
      · obtain ⟨rfl, rfl, hn⟩ := hp
        exact VX_out C hx0 (by omega) (by omega) (by rw [show setSS M x u = (stp M 1, 0) from if_neg (by omega)]; exact ⟨⟨rfl, rfl⟩, L, Z, h, hZ, rfl⟩)
      obtain ⟨rfl, rfl, hw17⟩ := hp
      exact V_iret C (by omega) (by omega) (by rw [show setSS M x u = (setS (setS M 0 0) 4 u, M.1 4) from set_1 (by omega) (by omega)]; exact ⟨rfl, rfl, L, _, h.putI (f := 648) (c := 11) (i := 0) (v := u) rfl (by decide) (by decide) (by rw [zC.1]; omega) rfl, (zm_set (ZM_0 hZ) u).2.1, rfl⟩) hr dX9_set_20
  · refine V_aload_n C dX9_set_4 rfl ?_
    refine V_iload_n C dX9_set_5 rfl ?_
    refine V_callV C (As := [_]) (c_X9_setLimit hl hKy hlm hu) kX9_99 hKy rfl rfl (Nat.le_of_ble_eq_true rfl) ⟨Nat.le_of_ble_eq_true rfl, Nat.le_of_ble_eq_true rfl⟩ ⟨(by first | exact Nat.le_of_ble_eq_true rfl | (dsimp only; omega)), (by first | exact Nat.le_of_ble_eq_true rfl | (dsimp only; omega))⟩ dX9_set_6 (fun E Y hp => ?_) (fun v6 Y hp => ?_)
    · obtain ⟨rfl, rfl, hn⟩ := hp
      exact VX_out C hx0 (by omega) (by omega) (by rw [show setSS M x u = (stp M 1, 0) from if_neg (by omega)]; exact ⟨⟨rfl, rfl⟩, L, Z, h, hZ, rfl⟩)
    obtain ⟨rfl, rfl, hw6⟩ := hp
    exact V_iret C (by omega) (by omega) (by rw [show setSS M x u = (setS (setS M 0 0) 3 u, M.1 3) from set_0 (by omega) (by omega)]; exact ⟨rfl, rfl, L, _, h.putI (f := 647) (c := 11) (i := 0) (v := u) rfl (by decide) (by decide) (by rw [zC.1]; omega) rfl, (zm_set (ZM_0 hZ) u).1, rfl⟩) hr dX9_set_9
end REL2
