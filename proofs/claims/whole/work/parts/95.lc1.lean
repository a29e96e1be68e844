/-! the law: its calls, 2 -/
section LC1
variable {p : Program} {l : Launch} {e : Env} {s : State} {m : MethodId} {args : Array Value} {below : List Frame} {meth : Method} {c : Code}
variable {D : va_G} {kA : Nat → ClassId} {b t0 cells slots : Nat} {Q : State → Prop} {X : Mm} {ao mo sb Ls j : Nat} {ad : Nat → Nat} {L : Ly} {Z : Zs} {M : Mo} {xs : Nat → Int32} {q : Nat → Int} {u5 u6 : Option Value}
set_option maxHeartbeats 2000000 in
set_option maxRecDepth 20000 in
theorem lc_set {nm : String} (C : Cx p l s m args meth c D kA b t0 7 RL nm cL_law) (hl : l.stackTraces = false) (hX : va_X sb Ls xs s s.heap) (hb1 : sb < s.heap.size) (hb2 : sb < b) (hL6 : 6 * j + 6 ≤ Ls) (hL : Ls ≤ 3072) (h : CX t0 ao mo ad L X Z M) (hZ : ZM Z M) (hI : Iv M j) (hq : Lsc xs j q) (hc : cells + budC M ≤ 400 + 26 * j) (hs : slots + budS M ≤ 2440000 + 4402 * j) (hend : LEnd p l e s m args below meth c D kA b Q t0 ao mo ad sb L j) : V p l e room_1 s m args below meth c D kA b 7 cells slots Q X 451 [some (rv (some sb)), some (rv (some (lA L 11 0))), some (rv (some mo)), some (rv (some ao)), some (iv (6 * (j : Int))), u5, u6] [] := by
  have hKy := (yd_C h hZ.1).1
  have hn : ((yC Z 6 : Nat) : Int) = M.1 30 := hZ.1.1.2.2.2.2.2.1
  refine V_aload_n C dL_law_451 rfl ?_
  refine V_aload_n C dL_law_452 rfl ?_
  refine V_iload C dL_law_453 rfl ?_
  refine V_iconst C dL_law_455 ?_
  refine V_iadd C dL_law_456 ?_
  refine V_sld C (j := 6 * j + 1) hX hb1 hb2 (by omega) hL (by omega) (hq 1 (by decide)).2 dL_law_457 ?_
  refine V_aload_n C dL_law_458 rfl ?_
  refine V_iload C dL_law_459 rfl ?_
  refine V_iconst C dL_law_461 ?_
  refine V_iadd C dL_law_462 ?_
  refine V_sld C (j := 6 * j + 2) hX hb1 hb2 (by omega) hL (by omega) (hq 2 (by decide)).2 dL_law_463 ?_
  refine V_aload_n C dL_law_464 rfl ?_
  refine V_callSH C (As := [_, _, _, _]) (c_L_set hl h hZ hI (hq 1 (by decide)).1 (hq 2 (by decide)).1) sL_set rfl rfl (Nat.le_of_ble_eq_true rfl) ⟨(Nat.le_of_ble_eq_true rfl), (Nat.le_of_ble_eq_true rfl)⟩ ⟨(by show cells + 2 ≤ 601024; omega), (by show slots + 12 ≤ 7293034; omega)⟩ dL_law_465 (fun _ _ h => h.elim) (fun v Y hp => ?_)
  obtain ⟨hRR, k, rfl, hk, hU⟩ := hp
  refine V_istore C dL_law_468 (by decide) rfl ?_
  refine V_aload_n C dL_law_470 rfl ?_
  refine V_aload_n C dL_law_471 rfl ?_
  refine V_iload C dL_law_472 rfl ?_
  refine V_iconst C dL_law_474 ?_
  refine V_iadd C dL_law_475 ?_
  refine V_sld C (j := 6 * j + 1) hX hb1 hb2 (by omega) hL (by omega) (hq 1 (by decide)).2 dL_law_476 ?_
  refine V_aload_n C dL_law_477 rfl ?_
  refine V_iload C dL_law_478 rfl ?_
  refine V_iconst C dL_law_480 ?_
  refine V_iadd C dL_law_481 ?_
  refine V_sld C (j := 6 * j + 2) hX hb1 hb2 (by omega) hL (by omega) (hq 2 (by decide)).2 dL_law_482 ?_
  refine V_callV C (As := [_, _]) ((c_X10_set hl (hq 1 (by decide)).1 (hq 2 (by decide)).1 hI.1) Y hRR) kL_112 hRR.1 rfl rfl (Nat.le_of_ble_eq_true rfl) ⟨(Nat.le_of_ble_eq_true rfl), (Nat.le_of_ble_eq_true rfl)⟩ ⟨(by show cells + 2 + 0 ≤ 601024; omega), (by show slots + 12 + 0 ≤ 7293034; omega)⟩ dL_law_483 (fun _ _ h => h.elim) (fun v Y2 hp => ?_)
  obtain ⟨M2, hp, hR2, hq2⟩ := hp
  obtain ⟨hM2, rfl⟩ := hp
  obtain ⟨hk0, hzz, hcl⟩ := hU M2 _ ⟨hM2, rfl⟩
  have hst : stK M M2 j := by rw [hM2]; exact stK_set hI
  obtain ⟨L2, Z2, hcx, hzm, hy2⟩ := hcl
  obtain ⟨hcx2, hga2⟩ := ref_aft hcx hR2 hq2
  obtain ⟨rr, hrr, er⟩ := iv_rng ((setSS M (q 1) (q 2)).2)
  rw [← er]
  refine V_istore C dL_law_486 (by decide) rfl ?_
  refine V_aload_n C dL_law_488 rfl ?_
  refine V_callV C (As := []) (c_X10_thrown hl Y2 hcx2.1) kL_95 hcx2.1.1 rfl rfl (Nat.le_of_ble_eq_true rfl) ⟨(Nat.le_of_ble_eq_true rfl), (Nat.le_of_ble_eq_true rfl)⟩ ⟨(by show cells + 2 + 0 + 0 ≤ 601024; omega), (by show slots + 12 + 0 + 0 ≤ 7293034; omega)⟩ dL_law_489 (fun _ _ h => h.elim) (fun v Y3 hp => ?_)
  obtain ⟨M3, ⟨hM3, rfl⟩, hR3, hq3⟩ := hp
  rw [hM3] at hR3
  obtain ⟨hcx3, hga3⟩ := ref_aft hcx2 hR3 hq3
  rw [hk0]
  refine V_iload C dL_law_492 rfl ?_
  refine V_icmp_eq C dL_law_494 (by omega) (by omega) (fun h494 => ?_) (fun h494 => ?_)
  · refine V_iload C dL_law_499 rfl ?_
    refine V_if_ne C dL_law_501 (by omega) (fun h501 => ?_) (fun h501 => ?_)
    · refine V_goto C dL_law_516 ?_
      exact hend _ _ _ _ _ _ _ _ hcx3 hzm hst.1 hy2 (by have := hst.2.1; omega) (by have := hst.2.2; omega)
    · refine V_aload_n C dL_law_504 rfl ?_
      refine V_iconst C dL_law_505 ?_
      obtain ⟨zz, hz, ez, hga⟩ := hzz (by omega)
      obtain rfl : rr = zz := iv_inj hrr hz (er.trans ez.symm)
      have hao := hcx3.ao
      have hga4 : gA Y3 ao 0 = rr := (hga3.trans hga2).trans hga
      refine V_lald C (j := 0) (n := 1) hao.1 hao.2 (by decide) (by decide) rfl dL_law_506 ?_
      rw [hga4]
      refine V_iload C dL_law_507 rfl ?_
      refine V_i2l C dL_law_509 hrr ?_
      refine V_lcmp C dL_law_510 (by first | omega | decide) (by first | omega | decide) ?_
      rw [lc0]
      refine V_if_eq C dL_law_511 (by decide) (fun h511 => ?_) (fun h511 => ?_)
      · refine V_goto C dL_law_516 ?_
        exact hend _ _ _ _ _ _ _ _ hcx3 hzm hst.1 hy2 (by have := hst.2.1; omega) (by have := hst.2.2; omega)
      · exact absurd rfl h511
  · exact absurd rfl h494
set_option maxHeartbeats 2000000 in
set_option maxRecDepth 20000 in
theorem lc_fault {nm : String} (C : Cx p l s m args meth c D kA b t0 7 RL nm cL_law) (hl : l.stackTraces = false) (hX : va_X sb Ls xs s s.heap) (hb1 : sb < s.heap.size) (hb2 : sb < b) (hL6 : 6 * j + 6 ≤ Ls) (hL : Ls ≤ 3072) (h : CX t0 ao mo ad L X Z M) (hZ : ZM Z M) (hI : Iv M j) (hq : Lsc xs j q) (hc : cells + budC M ≤ 400 + 26 * j) (hs : slots + budS M ≤ 2440000 + 4402 * j) (hend : LEnd p l e s m args below meth c D kA b Q t0 ao mo ad sb L j) : V p l e room_1 s m args below meth c D kA b 7 cells slots Q X 519 [some (rv (some sb)), some (rv (some (lA L 11 0))), some (rv (some mo)), some (rv (some ao)), some (iv (6 * (j : Int))), u5, u6] [] := by
  have hKy := (yd_C h hZ.1).1
  have hn : ((yC Z 6 : Nat) : Int) = M.1 30 := hZ.1.1.2.2.2.2.2.1
  obtain ⟨ub, hub, hub2⟩ : ∃ ub : Int, ub = (if q 2 = 0 then 0 else 1) ∧ (ub = 0 ∨ ub = 1) := ⟨_, rfl, by split <;> omega⟩
  refine V_aload_n C dL_law_519 rfl ?_
  refine V_aload_n C dL_law_520 rfl ?_
  refine V_iload C dL_law_521 rfl ?_
  refine V_iconst C dL_law_523 ?_
  refine V_iadd C dL_law_524 ?_
  refine V_sld C (j := 6 * j + 1) hX hb1 hb2 (by omega) hL (by omega) (hq 1 (by decide)).2 dL_law_525 ?_
  refine V_aload_n C dL_law_526 rfl ?_
  refine V_iload C dL_law_527 rfl ?_
  refine V_iconst C dL_law_529 ?_
  refine V_iadd C dL_law_530 ?_
  refine V_sld C (j := 6 * j + 2) hX hb1 hb2 (by omega) hL (by omega) (hq 2 (by decide)).2 dL_law_531 ?_
  refine V_joinP C (pcm := 540) (P := fun z => z = ub) (fun hj => ?_) (fun z hz => ?_)
  · refine V_if_eq C dL_law_532 (hq 2 (by decide)).1 (fun h532 => ?_) (fun h532 => ?_)
    · refine V_iconst C dL_law_539 ?_
      exact hj _ (by rw [hub]; first | exact (if_pos h532).symm | exact (if_neg h532).symm)
    · refine V_iconst C dL_law_535 ?_
      refine V_goto C dL_law_536 ?_
      exact hj _ (by rw [hub]; first | exact (if_pos h532).symm | exact (if_neg h532).symm)
  rw [hz]
  refine V_aload_n C dL_law_540 rfl ?_
  refine V_callSH C (As := [_, _, _, _]) (c_L_fault hl h hZ hI (hq 1 (by decide)).1 hub2) sL_fault rfl rfl (Nat.le_of_ble_eq_true rfl) ⟨(Nat.le_of_ble_eq_true rfl), (Nat.le_of_ble_eq_true rfl)⟩ ⟨(by show cells + 1 ≤ 601024; omega), (by show slots + 6 ≤ 7293034; omega)⟩ dL_law_541 (fun _ _ h => h.elim) (fun v Y hp => ?_)
  obtain ⟨hRR, k, rfl, hk, hU⟩ := hp
  refine V_istore C dL_law_544 (by decide) rfl ?_
  refine V_aload_n C dL_law_546 rfl ?_
  refine V_aload_n C dL_law_547 rfl ?_
  refine V_iload C dL_law_548 rfl ?_
  refine V_iconst C dL_law_550 ?_
  refine V_iadd C dL_law_551 ?_
  refine V_sld C (j := 6 * j + 1) hX hb1 hb2 (by omega) hL (by omega) (hq 1 (by decide)).2 dL_law_552 ?_
  refine V_aload_n C dL_law_553 rfl ?_
  refine V_iload C dL_law_554 rfl ?_
  refine V_iconst C dL_law_556 ?_
  refine V_iadd C dL_law_557 ?_
  refine V_sld C (j := 6 * j + 2) hX hb1 hb2 (by omega) hL (by omega) (hq 2 (by decide)).2 dL_law_558 ?_
  refine V_joinP C (pcm := 567) (P := fun z => z = ub) (fun hj => ?_) (fun z hz => ?_)
  · refine V_if_eq C dL_law_559 (hq 2 (by decide)).1 (fun h559 => ?_) (fun h559 => ?_)
    · refine V_iconst C dL_law_566 ?_
      exact hj _ (by rw [hub]; first | exact (if_pos h559).symm | exact (if_neg h559).symm)
    · refine V_iconst C dL_law_562 ?_
      refine V_goto C dL_law_563 ?_
      exact hj _ (by rw [hub]; first | exact (if_pos h559).symm | exact (if_neg h559).symm)
  rw [hz]
  refine V_callV C (As := [_, _]) ((c_X10_fault hl (hq 1 (by decide)).1 hub2 hI.1) Y hRR) kL_115 hRR.1 rfl rfl (Nat.le_of_ble_eq_true rfl) ⟨(Nat.le_of_ble_eq_true rfl), (Nat.le_of_ble_eq_true rfl)⟩ ⟨(by show cells + 1 + 0 ≤ 601024; omega), (by show slots + 6 + 0 ≤ 7293034; omega)⟩ dL_law_567 (fun _ _ h => h.elim) (fun v Y2 hp => ?_)
  obtain ⟨M2, hp, hR2, hq2⟩ := hp
  obtain ⟨hM2, rfl⟩ := hp
  obtain ⟨hk0, hzz, hcl⟩ := hU M2 _ ⟨hM2, rfl⟩
  have hst : stK M M2 j := by rw [hM2]; exact stK_fau hI hub2
  obtain ⟨L2, Z2, hcx, hzm, hy2⟩ := hcl
  obtain ⟨hcx2, hga2⟩ := ref_aft hcx hR2 hq2
  obtain ⟨rr, hrr, er⟩ := iv_rng ((fauS M (q 1) ub).2)
  rw [← er]
  refine V_istore C dL_law_570 (by decide) rfl ?_
  refine V_aload_n C dL_law_572 rfl ?_
  refine V_callV C (As := []) (c_X10_thrown hl Y2 hcx2.1) kL_95 hcx2.1.1 rfl rfl (Nat.le_of_ble_eq_true rfl) ⟨(Nat.le_of_ble_eq_true rfl), (Nat.le_of_ble_eq_true rfl)⟩ ⟨(by show cells + 1 + 0 + 0 ≤ 601024; omega), (by show slots + 6 + 0 + 0 ≤ 7293034; omega)⟩ dL_law_573 (fun _ _ h => h.elim) (fun v Y3 hp => ?_)
  obtain ⟨M3, ⟨hM3, rfl⟩, hR3, hq3⟩ := hp
  rw [hM3] at hR3
  obtain ⟨hcx3, hga3⟩ := ref_aft hcx2 hR3 hq3
  rw [hk0]
  refine V_iload C dL_law_576 rfl ?_
  refine V_icmp_eq C dL_law_578 (by omega) (by omega) (fun h578 => ?_) (fun h578 => ?_)
  · refine V_iload C dL_law_583 rfl ?_
    refine V_if_ne C dL_law_585 (by omega) (fun h585 => ?_) (fun h585 => ?_)
    · refine V_goto C dL_law_607 ?_
      exact hend _ _ _ _ _ _ _ _ hcx3 hzm hst.1 hy2 (by have := hst.2.1; omega) (by have := hst.2.2; omega)
    · refine V_aload_n C dL_law_588 rfl ?_
      refine V_iconst C dL_law_589 ?_
      obtain ⟨zz, hz, ez, hga⟩ := hzz (by omega)
      obtain rfl : rr = zz := iv_inj hrr hz (er.trans ez.symm)
      have hao := hcx3.ao
      have hga4 : gA Y3 ao 0 = wB rr := (hga3.trans hga2).trans hga
      refine V_lald C (j := 0) (n := 1) hao.1 hao.2 (by decide) (by decide) rfl dL_law_590 ?_
      rw [hga4]
      refine V_iload C dL_law_591 rfl ?_
      refine V_if_eq C dL_law_593 hrr (fun h593 => ?_) (fun h593 => ?_)
      · refine V_lconst C dL_law_600 (z := 0) rfl ?_
        first | rw [show wB rr = 0 from if_pos h593] | rw [show wB rr = 1 from if_neg h593]
        refine V_lcmp C dL_law_601 (by first | omega | decide) (by first | omega | decide) ?_
        rw [lc0]
        refine V_if_eq C dL_law_602 (by decide) (fun h602 => ?_) (fun h602 => ?_)
        · refine V_goto C dL_law_607 ?_
          exact hend _ _ _ _ _ _ _ _ hcx3 hzm hst.1 hy2 (by have := hst.2.1; omega) (by have := hst.2.2; omega)
        · exact absurd rfl h602
      · refine V_lconst C dL_law_596 (z := 1) rfl ?_
        refine V_goto C dL_law_597 ?_
        first | rw [show wB rr = 0 from if_pos h593] | rw [show wB rr = 1 from if_neg h593]
        refine V_lcmp C dL_law_601 (by first | omega | decide) (by first | omega | decide) ?_
        rw [lc0]
        refine V_if_eq C dL_law_602 (by decide) (fun h602 => ?_) (fun h602 => ?_)
        · refine V_goto C dL_law_607 ?_
          exact hend _ _ _ _ _ _ _ _ hcx3 hzm hst.1 hy2 (by have := hst.2.1; omega) (by have := hst.2.2; omega)
        · exact absurd rfl h602
  · exact absurd rfl h578
set_option maxHeartbeats 2000000 in
set_option maxRecDepth 20000 in
theorem lc_link {nm : String} (C : Cx p l s m args meth c D kA b t0 7 RL nm cL_law) (hl : l.stackTraces = false) (hX : va_X sb Ls xs s s.heap) (hb1 : sb < s.heap.size) (hb2 : sb < b) (hL6 : 6 * j + 6 ≤ Ls) (hL : Ls ≤ 3072) (h : CX t0 ao mo ad L X Z M) (hZ : ZM Z M) (hI : Iv M j) (hq : Lsc xs j q) (hc : cells + budC M ≤ 400 + 26 * j) (hs : slots + budS M ≤ 2440000 + 4402 * j) (hend : LEnd p l e s m args below meth c D kA b Q t0 ao mo ad sb L j) : V p l e room_1 s m args below meth c D kA b 7 cells slots Q X 610 [some (rv (some sb)), some (rv (some (lA L 11 0))), some (rv (some mo)), some (rv (some ao)), some (iv (6 * (j : Int))), u5, u6] [] := by
  have hKy := (yd_C h hZ.1).1
  have hn : ((yC Z 6 : Nat) : Int) = M.1 30 := hZ.1.1.2.2.2.2.2.1
  obtain ⟨ub, hub, hub2⟩ : ∃ ub : Int, ub = (if q 2 = 0 then 0 else 1) ∧ (ub = 0 ∨ ub = 1) := ⟨_, rfl, by split <;> omega⟩
  refine V_aload_n C dL_law_610 rfl ?_
  refine V_aload_n C dL_law_611 rfl ?_
  refine V_iload C dL_law_612 rfl ?_
  refine V_iconst C dL_law_614 ?_
  refine V_iadd C dL_law_615 ?_
  refine V_sld C (j := 6 * j + 1) hX hb1 hb2 (by omega) hL (by omega) (hq 1 (by decide)).2 dL_law_616 ?_
  refine V_aload_n C dL_law_617 rfl ?_
  refine V_iload C dL_law_618 rfl ?_
  refine V_iconst C dL_law_620 ?_
  refine V_iadd C dL_law_621 ?_
  refine V_sld C (j := 6 * j + 2) hX hb1 hb2 (by omega) hL (by omega) (hq 2 (by decide)).2 dL_law_622 ?_
  refine V_joinP C (pcm := 631) (P := fun z => z = ub) (fun hj => ?_) (fun z hz => ?_)
  · refine V_if_eq C dL_law_623 (hq 2 (by decide)).1 (fun h623 => ?_) (fun h623 => ?_)
    · refine V_iconst C dL_law_630 ?_
      exact hj _ (by rw [hub]; first | exact (if_pos h623).symm | exact (if_neg h623).symm)
    · refine V_iconst C dL_law_626 ?_
      refine V_goto C dL_law_627 ?_
      exact hj _ (by rw [hub]; first | exact (if_pos h623).symm | exact (if_neg h623).symm)
  rw [hz]
  refine V_aload_n C dL_law_631 rfl ?_
  refine V_callSH C (As := [_, _, _, _]) (c_L_link hl h hZ hI (hq 1 (by decide)).1 hub2) sL_link rfl rfl (Nat.le_of_ble_eq_true rfl) ⟨(Nat.le_of_ble_eq_true rfl), (Nat.le_of_ble_eq_true rfl)⟩ ⟨(by show cells + 2 ≤ 601024; omega), (by show slots + 12 ≤ 7293034; omega)⟩ dL_law_632 (fun _ _ h => h.elim) (fun v Y hp => ?_)
  obtain ⟨hRR, k, rfl, hk, hU⟩ := hp
  refine V_istore C dL_law_635 (by decide) rfl ?_
  refine V_aload_n C dL_law_637 rfl ?_
  refine V_aload_n C dL_law_638 rfl ?_
  refine V_iload C dL_law_639 rfl ?_
  refine V_iconst C dL_law_641 ?_
  refine V_iadd C dL_law_642 ?_
  refine V_sld C (j := 6 * j + 1) hX hb1 hb2 (by omega) hL (by omega) (hq 1 (by decide)).2 dL_law_643 ?_
  refine V_aload_n C dL_law_644 rfl ?_
  refine V_iload C dL_law_645 rfl ?_
  refine V_iconst C dL_law_647 ?_
  refine V_iadd C dL_law_648 ?_
  refine V_sld C (j := 6 * j + 2) hX hb1 hb2 (by omega) hL (by omega) (hq 2 (by decide)).2 dL_law_649 ?_
  refine V_joinP C (pcm := 658) (P := fun z => z = ub) (fun hj => ?_) (fun z hz => ?_)
  · refine V_if_eq C dL_law_650 (hq 2 (by decide)).1 (fun h650 => ?_) (fun h650 => ?_)
    · refine V_iconst C dL_law_657 ?_
      exact hj _ (by rw [hub]; first | exact (if_pos h650).symm | exact (if_neg h650).symm)
    · refine V_iconst C dL_law_653 ?_
      refine V_goto C dL_law_654 ?_
      exact hj _ (by rw [hub]; first | exact (if_pos h650).symm | exact (if_neg h650).symm)
  rw [hz]
  refine V_callV C (As := [_, _]) ((c_X10_link hl (hq 1 (by decide)).1 hub2 hI.1 hn) Y hRR) kL_118 hRR.1 rfl rfl (Nat.le_of_ble_eq_true rfl) ⟨(Nat.le_of_ble_eq_true rfl), (Nat.le_of_ble_eq_true rfl)⟩ ⟨(by show cells + 2 + 0 ≤ 601024; omega), (by show slots + 12 + 0 ≤ 7293034; omega)⟩ dL_law_658 (fun _ _ h => h.elim) (fun v Y2 hp => ?_)
  obtain ⟨M2, hp, hR2, hq2⟩ := hp
  obtain ⟨hM2, rfl⟩ := hp
  obtain ⟨hk0, hzz, hcl⟩ := hU M2 _ ⟨hM2, rfl⟩
  have hst : stK M M2 j := by rw [hM2]; exact stK_lin hI hn hub2
  obtain ⟨L2, Z2, hcx, hzm, hy2⟩ := hcl
  obtain ⟨hcx2, hga2⟩ := ref_aft hcx hR2 hq2
  obtain ⟨rr, hrr, er⟩ := iv_rng ((linS M (yC Z 6) (q 1) ub).2)
  rw [← er]
  refine V_istore C dL_law_661 (by decide) rfl ?_
  refine V_aload_n C dL_law_663 rfl ?_
  refine V_callV C (As := []) (c_X10_thrown hl Y2 hcx2.1) kL_95 hcx2.1.1 rfl rfl (Nat.le_of_ble_eq_true rfl) ⟨(Nat.le_of_ble_eq_true rfl), (Nat.le_of_ble_eq_true rfl)⟩ ⟨(by show cells + 2 + 0 + 0 ≤ 601024; omega), (by show slots + 12 + 0 + 0 ≤ 7293034; omega)⟩ dL_law_664 (fun _ _ h => h.elim) (fun v Y3 hp => ?_)
  obtain ⟨M3, ⟨hM3, rfl⟩, hR3, hq3⟩ := hp
  rw [hM3] at hR3
  obtain ⟨hcx3, hga3⟩ := ref_aft hcx2 hR3 hq3
  rw [hk0]
  refine V_iload C dL_law_667 rfl ?_
  refine V_icmp_eq C dL_law_669 (by omega) (by omega) (fun h669 => ?_) (fun h669 => ?_)
  · refine V_iload C dL_law_674 rfl ?_
    refine V_if_ne C dL_law_676 (by omega) (fun h676 => ?_) (fun h676 => ?_)
    · refine V_goto C dL_law_691 ?_
      exact hend _ _ _ _ _ _ _ _ hcx3 hzm hst.1 hy2 (by have := hst.2.1; omega) (by have := hst.2.2; omega)
    · refine V_aload_n C dL_law_679 rfl ?_
      refine V_iconst C dL_law_680 ?_
      obtain ⟨zz, hz, ez, hga⟩ := hzz (by omega)
      obtain rfl : rr = zz := iv_inj hrr hz (er.trans ez.symm)
      have hao := hcx3.ao
      have hga4 : gA Y3 ao 0 = rr := (hga3.trans hga2).trans hga
      refine V_lald C (j := 0) (n := 1) hao.1 hao.2 (by decide) (by decide) rfl dL_law_681 ?_
      rw [hga4]
      refine V_iload C dL_law_682 rfl ?_
      refine V_i2l C dL_law_684 hrr ?_
      refine V_lcmp C dL_law_685 (by first | omega | decide) (by first | omega | decide) ?_
      rw [lc0]
      refine V_if_eq C dL_law_686 (by decide) (fun h686 => ?_) (fun h686 => ?_)
      · refine V_goto C dL_law_691 ?_
        exact hend _ _ _ _ _ _ _ _ hcx3 hzm hst.1 hy2 (by have := hst.2.1; omega) (by have := hst.2.2; omega)
      · exact absurd rfl h686
  · exact absurd rfl h669
set_option maxHeartbeats 2000000 in
set_option maxRecDepth 20000 in
theorem lc_tariff {nm : String} (C : Cx p l s m args meth c D kA b t0 7 RL nm cL_law) (hl : l.stackTraces = false) (hX : va_X sb Ls xs s s.heap) (hb1 : sb < s.heap.size) (hb2 : sb < b) (hL6 : 6 * j + 6 ≤ Ls) (hL : Ls ≤ 3072) (h : CX t0 ao mo ad L X Z M) (hZ : ZM Z M) (hI : Iv M j) (hq : Lsc xs j q) (hc : cells + budC M ≤ 400 + 26 * j) (hs : slots + budS M ≤ 2440000 + 4402 * j) (hend : LEnd p l e s m args below meth c D kA b Q t0 ao mo ad sb L j) : V p l e room_1 s m args below meth c D kA b 7 cells slots Q X 694 [some (rv (some sb)), some (rv (some (lA L 11 0))), some (rv (some mo)), some (rv (some ao)), some (iv (6 * (j : Int))), u5, u6] [] := by
  have hKy := (yd_C h hZ.1).1
  have hn : ((yC Z 6 : Nat) : Int) = M.1 30 := hZ.1.1.2.2.2.2.2.1
  refine V_aload_n C dL_law_694 rfl ?_
  refine V_aload_n C dL_law_695 rfl ?_
  refine V_iload C dL_law_696 rfl ?_
  refine V_iconst C dL_law_698 ?_
  refine V_iadd C dL_law_699 ?_
  refine V_sld C (j := 6 * j + 1) hX hb1 hb2 (by omega) hL (by omega) (hq 1 (by decide)).2 dL_law_700 ?_
  refine V_aload_n C dL_law_701 rfl ?_
  refine V_iload C dL_law_702 rfl ?_
  refine V_iconst C dL_law_704 ?_
  refine V_iadd C dL_law_705 ?_
  refine V_sld C (j := 6 * j + 2) hX hb1 hb2 (by omega) hL (by omega) (hq 2 (by decide)).2 dL_law_706 ?_
  refine V_aload_n C dL_law_707 rfl ?_
  refine V_iload C dL_law_708 rfl ?_
  refine V_iconst C dL_law_710 ?_
  refine V_iadd C dL_law_711 ?_
  refine V_sld C (j := 6 * j + 3) hX hb1 hb2 (by omega) hL (by omega) (hq 3 (by decide)).2 dL_law_712 ?_
  refine V_aload_n C dL_law_713 rfl ?_
  refine V_iload C dL_law_714 rfl ?_
  refine V_iconst C dL_law_716 ?_
  refine V_iadd C dL_law_717 ?_
  refine V_sld C (j := 6 * j + 4) hX hb1 hb2 (by omega) hL (by omega) (hq 4 (by decide)).2 dL_law_718 ?_
  refine V_aload_n C dL_law_719 rfl ?_
  refine V_iload C dL_law_720 rfl ?_
  refine V_iconst C dL_law_722 ?_
  refine V_iadd C dL_law_723 ?_
  refine V_sld C (j := 6 * j + 5) hX hb1 hb2 (by omega) hL (by omega) (hq 5 (by decide)).2 dL_law_724 ?_
  refine V_callSH C (As := [_, _, _, _, _, _]) (c_L_tariff hl h hZ hI (hq 1 (by decide)).1 (hq 2 (by decide)).1 (hq 3 (by decide)).1 (hq 4 (by decide)).1 (hq 5 (by decide)).1) sL_tariff rfl rfl (Nat.le_of_ble_eq_true rfl) ⟨(Nat.le_of_ble_eq_true rfl), (Nat.le_of_ble_eq_true rfl)⟩ ⟨(by show cells + 8 ≤ 601024; omega), (by show slots + 40 ≤ 7293034; omega)⟩ dL_law_725 (fun _ _ h => h.elim) (fun v Y hp => ?_)
  obtain ⟨hRR, k, rfl, hk, hU⟩ := hp
  refine V_istore C dL_law_728 (by decide) rfl ?_
  refine V_aload_n C dL_law_730 rfl ?_
  refine V_aload_n C dL_law_731 rfl ?_
  refine V_iload C dL_law_732 rfl ?_
  refine V_iconst C dL_law_734 ?_
  refine V_iadd C dL_law_735 ?_
  refine V_sld C (j := 6 * j + 1) hX hb1 hb2 (by omega) hL (by omega) (hq 1 (by decide)).2 dL_law_736 ?_
  refine V_aload_n C dL_law_737 rfl ?_
  refine V_iload C dL_law_738 rfl ?_
  refine V_iconst C dL_law_740 ?_
  refine V_iadd C dL_law_741 ?_
  refine V_sld C (j := 6 * j + 2) hX hb1 hb2 (by omega) hL (by omega) (hq 2 (by decide)).2 dL_law_742 ?_
  refine V_aload_n C dL_law_743 rfl ?_
  refine V_iload C dL_law_744 rfl ?_
  refine V_iconst C dL_law_746 ?_
  refine V_iadd C dL_law_747 ?_
  refine V_sld C (j := 6 * j + 3) hX hb1 hb2 (by omega) hL (by omega) (hq 3 (by decide)).2 dL_law_748 ?_
  refine V_aload_n C dL_law_749 rfl ?_
  refine V_iload C dL_law_750 rfl ?_
  refine V_iconst C dL_law_752 ?_
  refine V_iadd C dL_law_753 ?_
  refine V_sld C (j := 6 * j + 4) hX hb1 hb2 (by omega) hL (by omega) (hq 4 (by decide)).2 dL_law_754 ?_
  refine V_aload_n C dL_law_755 rfl ?_
  refine V_iload C dL_law_756 rfl ?_
  refine V_iconst C dL_law_758 ?_
  refine V_iadd C dL_law_759 ?_
  refine V_sld C (j := 6 * j + 5) hX hb1 hb2 (by omega) hL (by omega) (hq 5 (by decide)).2 dL_law_760 ?_
  refine V_callV C (As := [_, _, _, _, _]) ((c_X10_tariff hl (hq 1 (by decide)).1 (hq 2 (by decide)).1 (hq 3 (by decide)).1 (hq 4 (by decide)).1 (hq 5 (by decide)).1 hI.1) Y hRR) kL_122 hRR.1 rfl rfl (Nat.le_of_ble_eq_true rfl) ⟨(Nat.le_of_ble_eq_true rfl), (Nat.le_of_ble_eq_true rfl)⟩ ⟨(by show cells + 8 + 0 ≤ 601024; omega), (by show slots + 40 + 0 ≤ 7293034; omega)⟩ dL_law_761 (fun _ _ h => h.elim) (fun v Y2 hp => ?_)
  obtain ⟨M2, hp, hR2, hq2⟩ := hp
  obtain ⟨hM2, rfl⟩ := hp
  obtain ⟨hk0, hcl⟩ := hU M2 hM2
  have hst : stK M M2 j := by rw [hM2]; exact stK_tar hI
  obtain ⟨L2, Z2, hcx, hzm, hy2⟩ := hcl
  obtain ⟨hcx2, hga2⟩ := ref_aft hcx hR2 hq2
  refine V_aload_n C dL_law_764 rfl ?_
  refine V_callV C (As := []) (c_X10_thrown hl Y2 hcx2.1) kL_95 hcx2.1.1 rfl rfl (Nat.le_of_ble_eq_true rfl) ⟨(Nat.le_of_ble_eq_true rfl), (Nat.le_of_ble_eq_true rfl)⟩ ⟨(by show cells + 8 + 0 + 0 ≤ 601024; omega), (by show slots + 40 + 0 + 0 ≤ 7293034; omega)⟩ dL_law_765 (fun _ _ h => h.elim) (fun v Y3 hp => ?_)
  obtain ⟨M3, ⟨hM3, rfl⟩, hR3, hq3⟩ := hp
  rw [hM3] at hR3
  obtain ⟨hcx3, hga3⟩ := ref_aft hcx2 hR3 hq3
  rw [hk0]
  refine V_iload C dL_law_768 rfl ?_
  refine V_icmp_eq C dL_law_770 (by omega) (by omega) (fun h770 => ?_) (fun h770 => ?_)
  · refine V_goto C dL_law_775 ?_
    exact hend _ _ _ _ _ _ _ _ hcx3 hzm hst.1 hy2 (by have := hst.2.1; omega) (by have := hst.2.2; omega)
  · exact absurd rfl h770
end LC1
