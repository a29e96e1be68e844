/-! a minute's flow: the contract by numbers -/
/-- the addresses stay, but those of rows; the numbers that a flow leaves -/
def kpL (L L2 : Ly) : Prop := (∀ c, c ≠ 20 → lA L2 c = lA L c) ∧ lD L2 = lD L ∧ lC L2 = lC L
def kpZ (Z Z2 : Zs) : Prop := yC Z2 = yC Z ∧ yT Z2 = yT Z ∧ yL Z2 = yL Z ∧ ∀ f, f ≠ 326 → f ≠ 131 → f ≠ 325 → f ≠ 578 → f ≠ 579 → f ≠ 448 → f ≠ 449 → f ≠ 450 → f ≠ 451 → yN Z2 f = yN Z f
theorem kpL.rf (L : Ly) : kpL L L := ⟨fun _ _ => rfl, rfl, rfl⟩
theorem kpL.tr {A B C : Ly} (h : kpL A B) (g : kpL B C) : kpL A C := ⟨fun c hc => (g.1 c hc).trans (h.1 c hc), g.2.1.trans h.2.1, g.2.2.trans h.2.2⟩
theorem kpZ.rf (Z : Zs) : kpZ Z Z := ⟨rfl, rfl, rfl, fun _ _ _ _ _ _ _ _ _ _ => rfl⟩
theorem kpZ.tr {A B C : Zs} (h : kpZ A B) (g : kpZ B C) : kpZ A C := ⟨g.1.trans h.1, g.2.1.trans h.2.1, g.2.2.1.trans h.2.2.1, fun f a1 a2 a3 a4 a5 a6 a7 a8 a9 => (g.2.2.2 f a1 a2 a3 a4 a5 a6 a7 a8 a9).trans (h.2.2.2 f a1 a2 a3 a4 a5 a6 a7 a8 a9)⟩
section LET2
variable {t0 ao mo : Nat} {ad : Nat → Nat} {L : Ly} {X Y : Mm} {Z : Zs} {Mr M : Mo} {n : Nat}
/-- a session's values' cells -/
theorem va_C (h : CX t0 ao mo ad L X Z Mr) (z : zmX Z M) {k : Nat} (hk : k < yC Z 6) : gP X 577 (lA L 10 k) = some (lA L 20 k) ∧ gP X 580 (lA L 10 k) = some (lA L 8 k) ∧ k < yC Z 10 ∧ k < yC Z 20 ∧ k < yC Z 8 ∧ gK X (lA L 20 k) = 20 ∧ gN X (lA L 20 k) = yK Z k ∧ (gA X (lA L 20 k) = yR Z k) := by
  obtain ⟨hC, -, -, -, -, -, -, -, hV⟩ := z
  obtain ⟨a1, a2, -⟩ := hV k hk
  have e10 := hC.2.2.2.2.2.2.1
  have hk10 : k < yC Z 10 := by omega
  have p1 := h.gp (f := 577) (g := 20) (by decide) hk10 a1
  have p2 := h.gp (f := 580) (g := 8) (by decide) hk10 a2
  obtain ⟨g1, g2, g3, g4⟩ := h.2.2.2.2.2.2.2.2.1 k p1.2
  exact ⟨p1.1, p2.1, hk10, p1.2, p2.2, g1, g2, funext g3⟩
theorem cx_tal (h : CX t0 ao mo ad L X Z Mr) {k : Nat} (hk : k < yC Z 8) (t : Ta) : CX t0 ao mo ad L (tlM X (lA L 8 k) t) (zTal Z k t) Mr :=
  (((h.putI (f := 448) (c := 8) (i := k) (v := t.1) rfl (by decide) (by decide) hk rfl).putI (f := 449) (c := 8) (i := k) (v := t.2.1) rfl (by decide) (by decide) hk rfl).putI (f := 450) (c := 8) (i := k) (v := t.2.2.1) rfl (by decide) (by decide) hk rfl).putI (f := 451) (c := 8) (i := k) (v := t.2.2.2) rfl (by decide) (by decide) hk rfl
theorem kp_let {Z2 : Zs} {k c : Nat} {v1 v2 v3 v4 : Int} (h1 : yC Z2 = yC Z) (h2 : yT Z2 = yT Z) (h3 : yL Z2 = yL Z) (hN : yN Z2 = u2 (u2 (u2 (u2 (yN Z) 326 k v1) 131 c v2) 325 k v3) 578 k v4) : kpZ Z Z2 := ⟨h1, h2, h3, fun f q1 q2 q3 q4 _ _ _ _ _ => by
  rw [hN]
  funext x
  simp [u2, q1, q2, q3, q4]⟩
theorem kp_hrd (Z : Zs) (k : Nat) (t : Ta) (m : Int) : kpZ Z (zHrd Z k t m) := ⟨rfl, rfl, rfl, fun f _ _ _ _ q5 q6 q7 q8 q9 => by
  funext x
  simp [zHrd, zTal, zsN, yN, u2, q5, q6, q7, q8, q9]⟩
/-- behind a flow: what is heard -/
theorem let_end {L2 : Ly} {Y1 : Mm} {Z1 : Zs} {M1 : Mo} {k hd md : Nat} {t : Ta} {up : Int} (h : CX t0 ao mo ad L2 Y1 Z1 Mr) (z : zmX Z1 M1) (hk : k < yC Z1 6) (hm : M1.2 37 k = ((md + 1 : Nat) : Int)) (h35 : 0 ≤ M1.2 35 k) (hhd : hd ≤ md) (ht : t = tkF (yR Z1 k) (yN Z1 576 k) 0 hd (0, 0, 0, 0)) : CX t0 ao mo ad L2 (sI (tlM Y1 (lA L2 8 k) (tkF (gA Y1 (lA L2 20 k)) (yN Z1 576 k) hd (md + 1 - hd) t)) 579 (lA L2 10 k) ((md + 1 : Nat) : Int)) (zHrd Z1 k (tkF (yR Z1 k) (yN Z1 576 k) 0 (M1.2 37 k).toNat (0, 0, 0, 0)) (M1.2 37 k)) Mr ∧ zmX (zHrd Z1 k (tkF (yR Z1 k) (yN Z1 576 k) 0 (M1.2 37 k).toNat (0, 0, 0, 0)) (M1.2 37 k)) (heardM M1 k) := by
  obtain ⟨p1, p2, p3, p4, p5, p6, p7, p8⟩ := va_C h z hk
  have e0 : tkF (gA Y1 (lA L2 20 k)) (yN Z1 576 k) hd (md + 1 - hd) t = tkF (yR Z1 k) (yN Z1 576 k) 0 (M1.2 37 k).toNat (0, 0, 0, 0) := by
    rw [p8, ht]
    have e1 := tkF_add (yR Z1 k) (yN Z1 576 k) 0 hd (0, 0, 0, 0) (md + 1 - hd)
    rw [Nat.zero_add] at e1
    rw [e1, hm, show hd + (md + 1 - hd) = md + 1 by omega]
    rfl
  rw [e0]
  refine ⟨?_, zm_hrd z hk (by omega) h35⟩
  have h1 := cx_tal h p5 (tkF (yR Z1 k) (yN Z1 576 k) 0 (M1.2 37 k).toNat (0, 0, 0, 0))
  have h2 := h1.putI (f := 579) (c := 10) (i := k) (v := M1.2 37 k) rfl (by decide) (by decide) p3 rfl
  rw [← hm]
  exact h2
theorem r_letFlow {l : Launch} {D : va_G} {kA : Nat → ClassId} {b : Nat} (hl : l.stackTraces = false) (h : CX t0 ao mo ad L X Z Mr) (z : zmX Z M) {k : Nat} {fl day : Int} (hH : letH Z M k fl day) (hfl : yN Z 333 k = fl) : ∃ mc ms, mc + remC (capOf ((M.2 37 k).toNat + 1)) ≤ remC (capOf (M.2 37 k).toNat) ∧ ms + remS (capOf ((M.2 37 k).toNat + 1)) ≤ remS (capOf (M.2 37 k).toNat) ∧ Ct l D kA b t0 yX9_letFlow cX9_letFlow 2 none 3 92 [rv (some (lA L 6 k))] X mc ms (fun w Y => w = none ∧ ∃ L2 Z2, CX t0 ao mo ad L2 Y Z2 Mr ∧ zmX Z2 (onM M k fl day) ∧ kpL L L2 ∧ kpZ Z Z2) pF := by
  have hH0 := hH
  obtain ⟨hk, g1, g2, g3, g4, g5, g6, g7, g8⟩ := hH
  obtain ⟨⟨s1, ⟨s2, s5⟩, ⟨s3, s6⟩, -, ⟨s4, s7⟩⟩, i1, i2, i3, i4⟩ := se_C h z hk
  obtain ⟨p1, p2, p3, p4, p5, p6, p7, p8⟩ := va_C h z hk
  have z0 := z
  obtain ⟨hC, -, -, -, hS, hA, hD, hE, hV⟩ := z
  obtain ⟨-, -, -, -, a5, -, -, -⟩ := hS _ i1
  obtain ⟨-, b2, -, b4, -, -⟩ := hA _ i2
  obtain ⟨-, -, d3, -⟩ := hE k hk
  obtain ⟨-, -, v3, v4, v5, v6, v7, v8, v9, v10, v11⟩ := hV k hk
  obtain ⟨md, hmd⟩ : ∃ md : Nat, M.2 37 k = (md : Int) := ⟨(M.2 37 k).toNat, by omega⟩
  obtain ⟨hd, hhd⟩ : ∃ hd : Nat, M.2 38 k = (hd : Int) := ⟨(M.2 38 k).toNat, by omega⟩
  have tmd : (M.2 37 k).toNat = md := by omega
  have thd : (M.2 38 k).toNat = hd := by omega
  rw [tmd] at v6 v7 v8
  rw [thd] at v9
  rw [tmd]
  have cap := capOf_in md
  have f388 := h.gi (f := 388) (by decide) i1 a5
  have f129 := h.gi (f := 129) (by decide) i2 b2
  have f131 := h.gi (f := 131) (by decide) i2 b4
  have f325 := h.gi (f := 325) (by decide) hk d3
  have f333 := h.gi (f := 333) (by decide) hk hfl
  have f576 := h.gi (f := 576) (by decide) p3 rfl
  have f578 := h.gi (f := 578) (by decide) p3 (v3.trans hmd)
  have f579 := h.gi (f := 579) (by decide) p3 (v4.trans hhd)
  have ht : tlI X (lA L 8 k) (tlZ Z k) := ⟨h.gi (f := 448) (by decide) p5 rfl, h.gi (f := 449) (by decide) p5 rfl, h.gi (f := 450) (by decide) p5 rfl, h.gi (f := 451) (by decide) p5 rfl⟩
  have hK8 := h.gk (c := 8) (by decide) p5
  have hrow : ∀ i, i < md → 0 ≤ gA X (lA L 20 k) i ∧ gA X (lA L 20 k) i ≤ 12000001 := fun i hi => by rw [p8]; exact v7 i hi
  obtain ⟨u, hu⟩ : ∃ u : Int, u = if M.2 14 (M.2 32 k).toNat ≤ M.2 15 (M.2 32 k).toNat then 1 else 0 := ⟨_, rfl⟩
  have ht1 : 0 ≤ (tlZ Z k).1 ∧ (tlZ Z k).1 ≤ 6000000 := ⟨v11.1, by have := v11.2; show yN Z 448 k ≤ 6000000; omega⟩
  have m1 : (letM M k fl day).2 37 k = ((md + 1 : Nat) : Int) := by
    show (if k = k then M.2 37 k + 1 else _) = _
    rw [if_pos rfl]
    omega
  have m2 : (letM M k fl day).2 35 k = M.2 35 k + fl := if_pos rfl
  -- the numbers are kept by what behind the row comes
  have fin : ∀ (L2 : Ly) (Y1 : Mm) (Z1 : Zs), CX t0 ao mo ad L2 Y1 Z1 Mr → zmX Z1 (letM M k fl day) → kpL L L2 → kpZ Z Z1 → (∀ i, i < md → yR Z1 k i = yR Z k i) → ∃ L3 Z3, CX t0 ao mo ad L3 (if 1 - M.2 10 (M.2 31 k).toNat = 1 then sI (tlM Y1 (lA L 8 k) (tkF (gA Y1 (lA L2 20 k)) (yN Z 576 k) hd (md + 1 - hd) (tlZ Z k))) 579 (lA L 10 k) ((md + 1 : Nat) : Int) else Y1) Z3 Mr ∧ zmX Z3 (onM M k fl day) ∧ kpL L L3 ∧ kpZ Z Z3 := by
    intro L2 Y1 Z1 q1 q2 q3 q4 q5
    unfold onM
    by_cases hz : M.2 10 (M.2 31 k).toNat = 0
    · rw [if_pos hz, if_pos (show 1 - M.2 10 (M.2 31 k).toNat = 1 by omega)]
      have e576 : yN Z1 576 = yN Z 576 := q4.2.2.2 576 (by decide) (by decide) (by decide) (by decide) (by decide) (by decide) (by decide) (by decide) (by decide)
      have hend := let_end (hd := hd) (md := md) (t := tlZ Z k) (up := 1) q1 q2 (by rw [q4.1]; exact hk) m1 (by rw [m2]; omega) (by omega) (by rw [← v9, e576]; exact (tkF_congr _ (fun i _ hi => q5 i (by omega))).symm)
      rw [q3.1 8 (by decide), q3.1 10 (by decide), e576] at hend
      exact ⟨L2, _, hend.1, by rw [e576] at *; exact hend.2, q3, q4.tr (kp_hrd _ _ _ _)⟩
    · rw [if_neg hz, if_neg (show ¬ 1 - M.2 10 (M.2 31 k).toNat = 1 by omega)]
      exact ⟨L2, Z1, q1, q2, q3, q4⟩
  have cF := ((h.putI (f := 326) (c := 6) (i := k) (v := fl) rfl (by decide) (by decide) hk rfl).putI (f := 131) (c := 3) (i := (M.2 32 k).toNat) (v := M.2 15 (M.2 32 k).toNat + fl) rfl (by decide) (by decide) i2 rfl).putI (f := 325) (c := 6) (i := k) (v := M.2 35 k + fl) rfl (by decide) (by decide) hk rfl
  by_cases hcap : md < capOf md
  · refine ⟨0, 0, ?_, ?_, ?_⟩
    · rw [capOf_keep hcap]
      omega
    · rw [capOf_keep hcap]
      omega
    refine Ct.weak (c_X9_letFlow0 (t := tlZ Z k) (hd := hd) (md := md) (cap := yK Z k) (fl := fl) hl s1 s6 s7 s5 hK8 s3 s4 s2 f333 f131 f129 f325 f388 (by omega) f576 p1 p6 p7 f578 (by omega) (by omega) hrow (by omega) ht ht1 (by omega) p2 f579 g4 (by omega) (by omega) (by omega)) ?_
    rintro w Y ⟨rfl, rfl⟩
    refine ⟨rfl, ?_⟩
    rw [← hu]
    have c1 := (cF.putA (k := k) (i := md) (v := 2 * (M.2 35 k + fl) + u) p4 rfl).putI (f := 578) (c := 10) (i := k) (v := (md : Int) + 1) rfl (by decide) (by decide) p3 rfl
    have hN : yN (zLet Z k (M.2 32 k).toNat md fl (M.2 15 (M.2 32 k).toNat) (M.2 35 k) u) = u2 (u2 (u2 (u2 (yN Z) 326 k fl) 131 (M.2 32 k).toNat (M.2 15 (M.2 32 k).toNat + fl)) 325 k (M.2 35 k + fl)) 578 k (M.2 37 k + 1) := by rw [hmd]; rfl
    exact fin L _ _ c1 (zm_let (u := u) z0 hH0 hu rfl rfl rfl (by
      rw [tmd, capOf_keep hcap, ← v6]
      funext x
      show yK Z x = if x = k then yK Z k else yK Z x
      split
      · rename_i e
        rw [e]
      · rfl) (fun j hj => by
      funext x
      exact if_neg (fun e => hj e.1)) (fun i hi => if_neg (fun e => by have := e.2; omega)) (by rw [tmd]; exact if_pos ⟨rfl, rfl⟩) hN) (kpL.rf L) (kp_let rfl rfl rfl hN) (fun i hi => if_neg (fun e => by have := e.2; omega))
  · have hg := capOf_grow hcap (by omega)
    have hrm := rem_grow hcap (by omega)
    refine ⟨1, capOf (md + 1), by omega, by omega, ?_⟩
    have hcm : yK Z k = md := by rw [v6, hg.1]
    refine Ct.weak (c_X9_letFlow1 (t := tlZ Z k) (hd := hd) (cap := md) (n2 := capOf (md + 1)) (fl := fl) hl s1 s6 s7 s5 hK8 s3 s4 s2 f333 f131 f129 f325 f388 (by omega) f576 p1 p6 (p7.trans hcm) f578 (by omega) hg.2 (by omega) hrow (by omega) ht ht1 (by omega) p2 f579 g4 (by omega) (by omega) (by omega)) ?_
    rintro w Y ⟨rfl, q2, hq2, hbq, rfl⟩
    refine ⟨rfl, ?_⟩
    rw [← hu]
    have hne : lA L 20 k ≠ q2 := fun e => by rw [e, hq2] at p6; omega
    obtain ⟨rw9, hrw9⟩ : ∃ r, r = va_cpy (gA (alA (flM X (lA L 6 k) (lA L 3 (M.2 32 k).toNat) fl (M.2 15 (M.2 32 k).toNat) (M.2 35 k)) q2 20 (capOf (md + 1))) (lA L 20 k)) (gA (alA (flM X (lA L 6 k) (lA L 3 (M.2 32 k).toNat) fl (M.2 15 (M.2 32 k).toNat) (M.2 35 k)) q2 20 (capOf (md + 1))) q2) 0 0 md := ⟨_, rfl⟩
    have hr9 : ∀ i, i < md → rw9 i = yR Z k i := fun i hi => by
      rw [hrw9]
      unfold va_cpy
      rw [if_pos (by omega), Nat.sub_zero, Nat.zero_add]
      show (if lA L 20 k = q2 then 0 else gA X (lA L 20 k) i) = _
      rw [if_neg hne, p8]
    unfold mgM
    rw [← hrw9]
    have c0 := cF.grow (a := q2) (v := k) (k := k) (n := capOf (md + 1)) (r := rw9) hq2 p4 p3 rfl (fun j hj => by
      have hj6 : j < yC Z 6 := by have := hC.2.2.2.2.2.2.1; exact this ▸ hj
      have := (hV j hj6).1
      show yT Z 577 j = some k ↔ j = k
      rw [this]
      exact ⟨fun e => Option.some.inj e, fun e => by rw [e]⟩)
    have c1 := (c0.putA (k := k) (i := md) (v := 2 * (M.2 35 k + fl) + u) p4 (show q2 = u2 (lA L) 20 k q2 20 k from (if_pos ⟨rfl, rfl⟩).symm)).putI (f := 578) (c := 10) (i := k) (v := (md : Int) + 1) (a := lA L 10 k) rfl (by decide) (by decide) p3 rfl
    have hkl : kpL L (u2 (lA L) 20 k q2, lD L, lC L) := ⟨fun c hc => funext fun x => if_neg (fun e => hc e.1), rfl, rfl⟩
    have hN : yN (zGro Z k (M.2 32 k).toNat md (capOf (md + 1)) rw9 fl (M.2 15 (M.2 32 k).toNat) (M.2 35 k) u) = u2 (u2 (u2 (u2 (yN Z) 326 k fl) 131 (M.2 32 k).toNat (M.2 15 (M.2 32 k).toNat + fl)) 325 k (M.2 35 k + fl)) 578 k (M.2 37 k + 1) := by rw [hmd]; rfl
    have hR3 : ∀ i, yR (zGro Z k (M.2 32 k).toNat md (capOf (md + 1)) rw9 fl (M.2 15 (M.2 32 k).toNat) (M.2 35 k) u) k i = if i = md then 2 * (M.2 35 k + fl) + u else rw9 i := fun i => by
      show (if k = k ∧ i = md then 2 * (M.2 35 k + fl) + u else (if k = k then rw9 else yR Z k) i) = _
      by_cases e : i = md
      · rw [if_pos ⟨rfl, e⟩, if_pos e]
      · rw [if_neg (fun y => e y.2), if_neg e, if_pos rfl]
    have hfin := fin (u2 (lA L) 20 k q2, lD L, lC L) _ _ c1 (zm_let (Z2 := zGro Z k (M.2 32 k).toNat md (capOf (md + 1)) rw9 fl (M.2 15 (M.2 32 k).toNat) (M.2 35 k) u) (u := u) z0 hH0 hu rfl rfl rfl (by rw [tmd]; rfl) (fun j hj => by
      funext x
      show (if j = k ∧ x = md then _ else (if j = k then rw9 else yR Z j) x) = _
      rw [if_neg (fun e => hj e.1), if_neg hj]) (fun i hi => by rw [hR3, if_neg (by omega)]; exact hr9 i (by omega)) (by rw [tmd, hR3, if_pos rfl]) hN) hkl (kp_let rfl rfl rfl hN) (fun i hi => by
        have := hR3 i
        rw [if_neg (by omega)] at this
        exact this.trans (hr9 i hi))
    have e20 : lA (u2 (lA L) 20 k q2, lD L, lC L) 20 k = q2 := if_pos ⟨rfl, rfl⟩
    rw [e20] at hfin
    exact hfin
end LET2
