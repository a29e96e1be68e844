/-! settling and hearing: by numbers -/
theorem tdiv_bill {x : Int} (h : 0 ≤ x) : (x * 95).tdiv 100 = 95 * x / 100 := by
  rw [Int.tdiv_eq_ediv_of_nonneg (by omega), Int.mul_comm]
theorem zm_state {Z : Zs} {M : Mo} (z : zmX Z M) {k : Nat} (hk : k < yC Z 6) (h : M.2 34 k = 2) (b : Int) : zmX (zsN Z 330 k 1) (setA (setA M 34 k 3) 46 k b) := by
  obtain ⟨zC, zL, zY, zF, zS, zA, zD, zE, zV⟩ := z
  have h34 : ∀ j, ((setA (setA M 34 k 3) 46 k b).2 34 j = 1) ↔ (M.2 34 j = 1) := fun j => by
    show ((if j = k then 3 else M.2 34 j) = 1) ↔ _
    by_cases e : j = k
    · subst e
      rw [if_pos rfl, h]
      omega
    · rw [if_neg e]
  refine ⟨zC, ?_, zY, zF, zS, fun i hi => ?_, zD, fun j hj => ?_, zV⟩
  · obtain ⟨l1, l2, l3, l4, l5, l6⟩ := zL
    refine ⟨l1, l2, l3, l4, l5, ?_⟩
    have e : rnM (setA (setA M 34 k 3) 46 k b) = rnM M := by
      funext j
      unfold rnM
      exact decide_eq_decide.mpr (h34 j)
    rw [e]
    exact l6
  · obtain ⟨a1, a2, a3, a4, a5, a6⟩ := zA i hi
    refine ⟨a1, a2, a3, a4, a5, a6.trans ?_⟩
    unfold awyM
    constructor
    · rintro ⟨j, j1, j2, j3⟩
      exact ⟨j, j1, (h34 j).mpr j2, j3⟩
    · rintro ⟨j, j1, j2, j3⟩
      exact ⟨j, j1, (h34 j).mp j2, j3⟩
  · obtain ⟨a1, a2, a3, a4, a5, a6, a7, a8, a9, a10⟩ := zE j hj
    have e1 : (setA (setA M 34 k 3) 46 k b).2 34 j = if j = k then 3 else M.2 34 j := rfl
    refine ⟨a1, a2, a3, a4, ?_, ?_, a7, a8, a9, fun y => a10 ((h34 j).mp y)⟩
    · show yN Z 329 j = _
      rw [e1, a5]
      by_cases e : j = k
      · subst e
        rw [if_pos rfl, h]
        rfl
      · rw [if_neg e]
    · show (if 330 = 330 ∧ j = k then 1 else yN Z 330 j) = _
      rw [e1]
      by_cases e : j = k
      · rw [if_pos ⟨rfl, e⟩, if_pos e]
        rfl
      · rw [if_neg (fun y => e y.2), if_neg e]
        exact a6
/-- what a call leaves of the numbers: all but three fields -/
def kpO (Z Z2 : Zs) : Prop := yC Z2 = yC Z ∧ yT Z2 = yT Z ∧ yL Z2 = yL Z ∧ yR Z2 = yR Z ∧ yK Z2 = yK Z ∧ ∀ f, f ≠ 196 → f ≠ 257 → f ≠ 330 → yN Z2 f = yN Z f
section SET
variable {l : Launch} {D : va_G} {kA : Nat → ClassId} {b t0 ao mo jj : Nat} {ad : Nat → Nat} {L : Ly} {X Y : Mm} {Z : Zs} {Mr M : Mo}
theorem r_settle (hl : l.stackTraces = false) (h : CX t0 ao mo ad L X Z Mr) (z : zmX Z M) (hO : OkM M) {k : Nat} (hk : k < yC Z 6) (hh : M.2 38 k = M.2 37 k → M.2 42 k = M.2 39 k ∧ M.2 43 k = M.2 40 k ∧ M.2 44 k = M.2 41 k) : Ct l D kA b t0 yX9_settleIfDue cX9_settleIfDue 3 none 3 68 [rv (some (lA L 6 k))] X 0 0 (fun v Y => v = none ∧ ∃ Z2, CX t0 ao mo ad L Y Z2 Mr ∧ zmX Z2 (if M.2 34 k = 2 ∧ M.2 37 k ≤ M.2 38 k then payM M k else M) ∧ kpO Z Z2) pF := by
  have z0 := z
  obtain ⟨⟨s1, ⟨s2, s5⟩, ⟨s3, s6⟩, ⟨s8, s9⟩, ⟨s4, s7⟩⟩, i1, i2, i3, i4⟩ := se_C h z hk
  obtain ⟨p1, p2, p3, p4, p5, p6, p7, p8⟩ := va_C h z hk
  obtain ⟨zC, zL, zY, zF, zS, zA, zD, zE, zV⟩ := z
  obtain ⟨-, ⟨p, e1, e2, e3, e4, e5, e6⟩, -, -, e7, e8, -⟩ := zE k hk
  obtain ⟨-, -, v3, v4, -, -, -, -, -, v10, -⟩ := zV k hk
  have k1 : (k : Int) < M.1 30 := by have := zC.2.2.2.2.2.1; omega
  have o1 := hO.2.2.2.2.1 k k1
  have o0 := hO.1
  unfold okSe okBi at o1
  unfold okSc at o0
  have o2 := hO.2.2.2.1 (M.2 33 k).toNat (by omega)
  have o3 := hO.2.1 (M.2 31 k).toNat (by omega)
  unfold okCd at o2
  unfold okSo at o3
  have t := hO.2.2.2.2.2.2
  have q0 := t (4 * k) (by omega)
  have q1 := t (4 * k + 1) (by omega)
  have q2 := t (4 * k + 2) (by omega)
  have q3 := t (4 * k + 3) (by omega)
  have w1 : (tlZ Z k).2.1 = M.2 42 k := by rw [v10]
  have w2 : (tlZ Z k).2.2.1 = M.2 43 k := by rw [v10]
  have w3 : (tlZ Z k).2.2.2 = M.2 44 k := by rw [v10]
  obtain ⟨-, a2, -⟩ := zS _ i1
  obtain ⟨d1, -, -, -, d5⟩ := zD _ i3
  have f1 := h.gp (f := 385) (g := 5) (by decide) i1 a2
  have f2 := h.gp (f := 192) (g := 5) (by decide) i3 d1
  have e3' := zC.2.1
  have bi := bill_in (M := M) (k := k) (d := M.2 42 k) (n := M.2 43 k) (i := M.2 44 k) ⟨q0, q1, q2, q3⟩ (by omega) (by omega) (by omega)
  have hct := c_X9_settleIfDue (l := l) (D := D) (kA := kA) (b := b) (t0 := t0) (X := X) hl s1 s5 s9 (h.gk (c := 5) (by decide) f1.2) (h.gk (c := 5) (by decide) f2.2) s2 s8 f1.1 f2.1 (h.gi (f := 196) (by decide) i3 d5) (h.gi (f := 257) (by decide) f2.2 (zF _ (by omega)).1) (h.gi (f := 257) (by decide) f1.2 (zF _ (by omega)).1) s7 (h.gk (c := 8) (by decide) p5) (h.gk (c := 9) (by decide) e2) s4 p2 (h.gp (f := 323) (g := 9) (by decide) hk e1).1 (h.gi (f := 579) (by decide) p3 v4) (h.gi (f := 578) (by decide) p3 v3) (h.gi (f := 329) (by decide) hk e7) (h.gi (f := 330) (by decide) hk e8) (by split <;> omega) (by split <;> omega) (by omega) (by omega) (t := tlZ Z k) ⟨h.gi (f := 448) (by decide) p5 rfl, h.gi (f := 449) (by decide) p5 rfl, h.gi (f := 450) (by decide) p5 rfl, h.gi (f := 451) (by decide) p5 rfl⟩ (h.gi (f := 512) (by decide) e2 e3) (h.gi (f := 513) (by decide) e2 e4) (h.gi (f := 514) (by decide) e2 e5) (h.gi (f := 515) (by decide) e2 e6) (by rw [w1]; omega) (by rw [w2]; omega) (by rw [w3]; omega) q0 q1 q2 q3 (ce := billM M k (M.2 42 k) (M.2 43 k) (M.2 44 k)) (by rw [w1, w2, w3]; rfl) (by omega)
  refine Ct.weak hct ?_
  rintro v Y ⟨rfl, rfl⟩
  refine ⟨rfl, ?_⟩
  by_cases c : M.2 34 k = 2 ∧ M.2 37 k ≤ M.2 38 k
  · have c1 : (if M.2 34 k = 1 then (0 : Int) else 1) = 1 ∧ M.2 37 k ≤ M.2 38 k ∧ (if M.2 34 k = 3 then (1 : Int) else 0) = 0 := ⟨by rw [if_neg (by omega)], c.2, by rw [if_neg (by omega)]⟩
    obtain ⟨g1, g2, g3⟩ := hh (by omega)
    rw [if_pos c, if_pos c1, g1, g2, g3, tdiv_bill (by rw [g1, g2, g3] at bi; exact bi.1)]
    have zs := zm_state z0 hk c.1 (billM M k (M.2 39 k) (M.2 40 k) (M.2 41 k))
    have hO2 : OkM (setA (setA M 34 k 3) 46 k (billM M k (M.2 39 k) (M.2 40 k) (M.2 41 k))) := by
      rw [g1, g2, g3] at bi
      refine ⟨hO.1, hO.2.1, hO.2.2.1, hO.2.2.2.1, fun j hj => ?_, hO.2.2.2.2.2⟩
      have oj := hO.2.2.2.2.1 j hj
      unfold okSe okBi at oj ⊢
      refine ⟨⟨oj.1.1, oj.1.2.1, oj.1.2.2.1, ?_, oj.1.2.2.2.2⟩, ⟨oj.2.1, oj.2.2.1, oj.2.2.2.1, oj.2.2.2.2.1, oj.2.2.2.2.2.1, oj.2.2.2.2.2.2.1, ?_, oj.2.2.2.2.2.2.2.2⟩⟩
      · show 1 ≤ (if j = k then 3 else M.2 34 j) ∧ (if j = k then 3 else M.2 34 j) ≤ 3
        have := oj.1.2.2.2.1
        split <;> omega
      · show 0 ≤ (if j = k then billM M k (M.2 39 k) (M.2 40 k) (M.2 41 k) else M.2 46 j) ∧ (if j = k then billM M k (M.2 39 k) (M.2 40 k) (M.2 41 k) else M.2 46 j) ≤ 21000000
        have := oj.2.2.2.2.2.2.2.1
        split <;> omega
    have zo := zm_owe zs hO2 hk (billM M k (M.2 39 k) (M.2 40 k) (M.2 41 k)) (95 * billM M k (M.2 39 k) (M.2 40 k) (M.2 41 k) / 100)
    have co := cx_owe (h.putI (f := 330) (c := 6) (i := k) (v := 1) rfl (by decide) (by decide) hk rfl) (c := (M.2 33 k).toNat) (f := (M.2 7 (M.2 31 k).toNat).toNat) (g := (M.2 18 (M.2 33 k).toNat).toNat) i3 f1.2 f2.2 (M.2 22 (M.2 33 k).toNat) (acF M (M.2 18 (M.2 33 k).toNat).toNat) (acF M (M.2 7 (M.2 31 k).toNat).toNat) (billM M k (M.2 39 k) (M.2 40 k) (M.2 41 k)) (95 * billM M k (M.2 39 k) (M.2 40 k) (M.2 41 k) / 100)
    obtain ⟨n1, n2, n3, n4, n5, n6, -, -⟩ := zOwe_N (zsN Z 330 k 1) (M.2 33 k).toNat (M.2 7 (M.2 31 k).toNat).toNat (M.2 18 (M.2 33 k).toNat).toNat (M.2 22 (M.2 33 k).toNat) (acF M (M.2 18 (M.2 33 k).toNat).toNat) (acF M (M.2 7 (M.2 31 k).toNat).toNat) (billM M k (M.2 39 k) (M.2 40 k) (M.2 41 k)) (95 * billM M k (M.2 39 k) (M.2 40 k) (M.2 41 k) / 100)
    refine ⟨_, co, zo, n2, n3, n4, n5, n6, fun f q1 q2 q3 => (n1 f q1 q2).trans ?_⟩
    funext x
    exact if_neg (fun y => q3 y.1)
  · rw [if_neg c, if_neg (fun y => c ⟨?_, y.2.1⟩)]
    · exact ⟨Z, h, z0, rfl, rfl, rfl, rfl, rfl, fun _ _ _ _ => rfl⟩
    · have y1 := y.1
      have y3 := y.2.2
      split at y1 <;> split at y3 <;> omega
theorem r_hearAll (hl : l.stackTraces = false) (h : CX t0 ao mo ad L X Z Mr) (z : zmX Z M) (hO : OkM M) (hW : ∀ k : Nat, k < yC Z 6 → yN Z 576 k + M.2 37 k ≤ M.1 1) {k : Nat} (hk : k < yC Z 6) : Ct l D kA b t0 yX8_hearAll cX8_hearAll 2 (some FieldType.int) 2 48 [rv (some (lA L 10 k))] X 0 0 (fun v Y => v = some (iv (M.2 37 k - M.2 38 k)) ∧ ∃ Z2, CX t0 ao mo ad L Y Z2 Mr ∧ zmX Z2 (heardM M k) ∧ kpZ Z Z2) pF := by
  have z0 := z
  obtain ⟨⟨s1, -, -, -, ⟨s4, s7⟩⟩, -, -, -, i4⟩ := se_C h z hk
  obtain ⟨p1, p2, p3, p4, p5, p6, p7, p8⟩ := va_C h z hk
  obtain ⟨zC, zL, zY, zF, zS, zA, zD, zE, zV⟩ := z
  obtain ⟨-, -, v3, v4, v5, v6, v7, v8, v9, v10, v11⟩ := zV k hk
  have k1 : (k : Int) < M.1 30 := by have := zC.2.2.2.2.2.1; omega
  have o1 := (hO.2.2.2.2.1 k k1).1
  have o0 := hO.1
  unfold okSe at o1
  unfold okSc at o0
  obtain ⟨md, hmd⟩ : ∃ md : Nat, M.2 37 k = (md : Int) := ⟨(M.2 37 k).toNat, by omega⟩
  obtain ⟨hd, hhd⟩ : ∃ hd : Nat, M.2 38 k = (hd : Int) := ⟨(M.2 38 k).toNat, by omega⟩
  have tmd : (M.2 37 k).toNat = md := by omega
  have thd : (M.2 38 k).toNat = hd := by omega
  rw [tmd] at v6 v7 v8
  rw [thd] at v9
  have cap := capOf_in md
  have hw := hW k hk
  have hct := c_X8_hearAll (l := l) (D := D) (kA := kA) (b := b) (t0 := t0) (X := X) (s := hd) (md := md) (cap := yK Z k) (t := tlZ Z k) hl s7 (h.gi (f := 576) (by decide) p3 rfl) p1 p6 p7 (h.gi (f := 578) (by decide) p3 (v3.trans hmd)) (by omega) (by omega) (fun i hi => by rw [p8]; exact v7 i hi) (by omega) (h.gk (c := 8) (by decide) p5) ⟨h.gi (f := 448) (by decide) p5 rfl, h.gi (f := 449) (by decide) p5 rfl, h.gi (f := 450) (by decide) p5 rfl, h.gi (f := 451) (by decide) p5 rfl⟩ ⟨v11.1, by have := v11.2; show yN Z 448 k ≤ 6000000; omega⟩ (by omega) p2 (h.gi (f := 579) (by decide) p3 (v4.trans hhd))
  refine Ct.weak hct ?_
  rintro v Y ⟨rfl, rfl⟩
  refine ⟨by rw [hmd, hhd], ?_⟩
  have e0 : tkF (gA X (lA L 20 k)) (yN Z 576 k) hd (md - hd) (tlZ Z k) = tkF (yR Z k) (yN Z 576 k) 0 (M.2 37 k).toNat (0, 0, 0, 0) := by
    rw [p8, ← v9, tmd]
    have e1 := tkF_add (yR Z k) (yN Z 576 k) 0 hd (0, 0, 0, 0) (md - hd)
    rw [Nat.zero_add] at e1
    rw [e1, show hd + (md - hd) = md by omega]
  rw [e0]
  have h1 := cx_tal h p5 (tkF (yR Z k) (yN Z 576 k) 0 (M.2 37 k).toNat (0, 0, 0, 0))
  have h2 := h1.putI (f := 579) (c := 10) (i := k) (v := M.2 37 k) rfl (by decide) (by decide) p3 rfl
  rw [← hmd]
  exact ⟨_, h2, zm_hrd z0 hk (by omega) (by omega), kp_hrd _ _ _ _⟩
end SET
