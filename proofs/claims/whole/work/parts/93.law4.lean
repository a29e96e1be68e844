/-! passing, refused -/
section LAW4
variable {l : Launch} {D : va_G} {kA : Nat → ClassId} {b t0 ao mo jj : Nat} {ad : Nat → Nat} {L : Ly} {X Y : Mm} {Z : Zs} {Mr M : Mo} {n : Nat}
set_option maxHeartbeats 2000000 in
set_option maxRecDepth 20000 in
theorem c_X9_pass_no (hl : l.stackTraces = false) (h : CX t0 ao mo ad L X Z Mr) (hZ : ZM Z M) (hI : Iv M jj) {g : Int} (hg : rng g) (hbad : ¬ ((1 ≤ g ∧ g ≤ 120) ∧ M.1 1 + g ≤ 20000)) : Ct l D kA b t0 yX9_pass cX9_pass 3 (some FieldType.int) 7 139 [rv (some (lA L 11 0)), iv g] X 2 12 (fun _ _ => False) (fun E Y => ((E = "java/lang/IllegalArgumentException" ∧ ¬ (1 ≤ g ∧ g ≤ 120)) ∨ (E = "java/lang/IllegalStateException" ∧ (1 ≤ g ∧ g ≤ 120) ∧ 20000 < M.1 1 + g)) ∧ Y = X) := by
  refine Ct_mk hl (by decide) (Nat.le_of_ble_eq_true rfl) rfl ?_
  intro p9 e9 s9 m9 args9 below9 meth9 c9 C hr hx0
  obtain ⟨⟨zC, zL, zY, zF, zS, zA, zD, zE, zV⟩, zT, zW, zB⟩ := id hZ
  obtain ⟨hKy, ⟨ha0, ha1, ha2, ha3, ha4, ha5⟩, hlm, hsn, hdg⟩ := yd_C h hZ.1
  have o0 := hI.1.1
  unfold okSc at o0
  have c7 := zC.2.2.1
  have c3 := zC.2.2.2.1
  have c4 := zC.2.2.2.2.1
  have c6 := zC.2.2.2.2.2.1
  refine V_iload_n C dX9_pass_0 rfl ?_
  refine V_iconst C dX9_pass_1 ?_
  refine V_bipush C dX9_pass_2 (by decide) ?_
  refine V_callS C (As := [_, _, _]) (c_X9_needWithin hl (z := g) (lo := 1) (hi := 120) hg (by decide) (by decide)) kX9_59 rfl rfl (Nat.le_of_ble_eq_true rfl) ⟨Nat.le_of_ble_eq_true rfl, Nat.le_of_ble_eq_true rfl⟩ ⟨(by first | exact Nat.le_of_ble_eq_true rfl | (dsimp only; omega)), (by first | exact Nat.le_of_ble_eq_true rfl | (dsimp only; omega))⟩ dX9_pass_4 (fun E Y hp => ?_) (fun v4 Y hp => ?_)
  · obtain ⟨rfl, rfl, hn5⟩ := hp
    exact VX_out C hx0 (Nat.le_of_ble_eq_true rfl) (Nat.le_of_ble_eq_true rfl) ⟨Or.inl ⟨rfl, hn5⟩, rfl⟩
  obtain ⟨rfl, hYX, hw4⟩ := hp
  have hXY := hYX.symm
  subst hXY
  refine V_aload_n C dX9_pass_7 rfl ?_
  refine V_getIx C cl10 fX9_31 (x := M.1 1) hKy (h.gi (f := 646) (c := 11) (i := 0) (by decide) (by rw [zC.1]; omega) zT.1) dX9_pass_8 ?_
  refine V_iload_n C dX9_pass_11 rfl ?_
  refine V_iadd C dX9_pass_12 ?_
  refine V_sipush C dX9_pass_13 (by decide) ?_
  refine V_icmp_le C dX9_pass_16 (by omega) (by decide) (fun h16 => ?_) (fun h16 => ?_)
  · exact absurd ⟨hw4, by omega⟩ hbad
  · exact V_throw C tX9_212 hx0 dX9_pass_19.1 dX9_pass_22.1 dX9_pass_23.1 dX9_pass_25.1 dX9_pass_28.1 (Nat.le_of_ble_eq_true rfl) (Nat.le_of_ble_eq_true rfl) (by first | exact Nat.le_of_ble_eq_true rfl | (dsimp only; omega)) (by first | exact Nat.le_of_ble_eq_true rfl | (dsimp only; omega)) (by omega) (by omega) ⟨Or.inr ⟨rfl, hw4, by omega⟩, rfl⟩
set_option maxHeartbeats 2000000 in
set_option maxRecDepth 20000 in
theorem c_L_pass_no (hl : l.stackTraces = false) (h : CX t0 ao mo ad L X Z Mr) (hZ : ZM Z M) (hI : Iv M jj) {p0 : Int} (h0 : rng p0) (hbad : ¬ ((1 ≤ p0 ∧ p0 ≤ 120) ∧ M.1 1 + p0 ≤ 20000)) : CtH l D kA b t0 yL_pass cL_pass 4 (some FieldType.int) [(0, 9, 12, 15), (0, 9, 15, 17)] 8 161 [rv (some (lA L 11 0)), iv p0, rv (some ao)] X 2 12 (LQ t0 ao mo ad L Mr (fun z => z) (pasP M (yC Z 6) p0)) pF := by
  refine CtH_mk hl (by decide) (Nat.le_of_ble_eq_true rfl) rfl ?_
  intro p9 e9 s9 m9 args9 below9 meth9 c9 C hr hx0
  have hKy := (yd_C h hZ.1).1
  refine V_aload_n C dL_pass_0 rfl ?_
  refine V_iconst C dL_pass_1 ?_
  refine V_aload_n C dL_pass_2 rfl ?_
  refine V_iload_n C dL_pass_3 rfl ?_
  refine V_callV C (As := [_]) (c_X9_pass_no hl h hZ hI h0 hbad) kL_55 hKy rfl rfl (Nat.le_of_ble_eq_true rfl) ⟨Nat.le_of_ble_eq_true rfl, Nat.le_of_ble_eq_true rfl⟩ ⟨(by first | exact Nat.le_of_ble_eq_true rfl | (dsimp only; omega)), (by first | exact Nat.le_of_ble_eq_true rfl | (dsimp only; omega))⟩ dL_pass_4 (fun E Y hp => ?_) (fun v Y hp => ?_)
  · obtain ⟨he, rfl⟩ := hp
    rcases he with ⟨rfl, h9⟩ | ⟨rfl, h9⟩
    · refine V_catch C hx0 [] ⟨0, 9, 12, 15⟩ [⟨0, 9, 15, 17⟩] rfl (fun z hz => absurd hz (List.not_mem_nil)) (by decide) (by decide) xL_15 xN_15 (tgt := 12) rfl (fun q => ?_)
      refine V_astore_n C dL_pass_12 (by decide) rfl ?_
      refine V_iconst C dL_pass_13 ?_
      exact V_iret C (by first | exact Nat.le_of_ble_eq_true rfl | (dsimp only; omega) | omega) (by first | exact Nat.le_of_ble_eq_true rfl | (dsimp only; omega) | omega) (LQ_pass1 h hZ h9) hr dL_pass_14
    · refine V_catch C hx0 [⟨0, 9, 12, 15⟩] ⟨0, 9, 15, 17⟩ [] rfl (fun z hz => by simp only [List.mem_cons, List.not_mem_nil, or_false] at hz; rcases hz with rfl; exact Or.inr ⟨by decide, _, xL_15, C.n3⟩) (by decide) (by decide) xL_17 xN_17 (tgt := 15) rfl (fun q => ?_)
      refine V_astore_n C dL_pass_15 (by decide) rfl ?_
      refine V_iconst C dL_pass_16 ?_
      exact V_iret C (by first | exact Nat.le_of_ble_eq_true rfl | (dsimp only; omega) | omega) (by first | exact Nat.le_of_ble_eq_true rfl | (dsimp only; omega) | omega) (LQ_pass2 h hZ h9.1 h9.2) hr dL_pass_17
  exact hp.elim
end LAW4
