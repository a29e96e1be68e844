/-! the law: its calls, 5 -/
section LC4
variable {p : Program} {l : Launch} {e : Env} {s : State} {m : MethodId} {args : Array Value} {below : List Frame} {meth : Method} {c : Code}
variable {D : va_G} {kA : Nat → ClassId} {b t0 cells slots : Nat} {Q : State → Prop} {X : Mm} {ao mo sb Ls j : Nat} {ad : Nat → Nat} {L : Ly} {Z : Zs} {M : Mo} {xs : Nat → Int32} {q : Nat → Int} {u5 u6 : Option Value}
set_option maxHeartbeats 2000000 in
set_option maxRecDepth 20000 in
theorem lc_dispute {nm : String} (C : Cx p l s m args meth c D kA b t0 7 RL nm cL_law) (hl : l.stackTraces = false) (hX : va_X sb Ls xs s s.heap) (hb1 : sb < s.heap.size) (hb2 : sb < b) (hL6 : 6 * j + 6 ≤ Ls) (hL : Ls ≤ 3072) (h : CX t0 ao mo ad L X Z M) (hZ : ZM Z M) (hI : Iv M j) (hq : Lsc xs j q) (hc : cells + budC M ≤ 400 + 26 * j) (hs : slots + budS M ≤ 2440000 + 4402 * j) (hend : LEnd p l e s m args below meth c D kA b Q t0 ao mo ad sb L j) : V p l e room_1 s m args below meth c D kA b 7 cells slots Q X 1423 [some (rv (some sb)), some (rv (some (lA L 11 0))), some (rv (some mo)), some (rv (some ao)), some (iv (6 * (j : Int))), u5, u6] [] := by
  have hKy := (yd_C h hZ.1).1
  have hn : ((yC Z 6 : Nat) : Int) = M.1 30 := hZ.1.1.2.2.2.2.2.1
  refine V_aload_n C dL_law_1423 rfl ?_
  refine V_aload_n C dL_law_1424 rfl ?_
  refine V_iload C dL_law_1425 rfl ?_
  refine V_iconst C dL_law_1427 ?_
  refine V_iadd C dL_law_1428 ?_
  refine V_sld C (j := 6 * j + 1) hX hb1 hb2 (by omega) hL (by omega) (hq 1 (by decide)).2 dL_law_1429 ?_
  refine V_aload_n C dL_law_1430 rfl ?_
  refine V_iload C dL_law_1431 rfl ?_
  refine V_iconst C dL_law_1433 ?_
  refine V_iadd C dL_law_1434 ?_
  refine V_sld C (j := 6 * j + 2) hX hb1 hb2 (by omega) hL (by omega) (hq 2 (by decide)).2 dL_law_1435 ?_
  refine V_aload_n C dL_law_1436 rfl ?_
  refine V_callSH C (As := [_, _, _, _]) (c_L_dispute hl h hZ hI (hq 1 (by decide)).1 (hq 2 (by decide)).1) sL_dispute rfl rfl (Nat.le_of_ble_eq_true rfl) ⟨(Nat.le_of_ble_eq_true rfl), (Nat.le_of_ble_eq_true rfl)⟩ ⟨(by show cells + 3 ≤ 601024; omega), (by show slots + 18 ≤ 7293034; omega)⟩ dL_law_1437 (fun _ _ h => h.elim) (fun v Y hp => ?_)
  obtain ⟨hRR, k, rfl, hk, hU⟩ := hp
  refine V_istore C dL_law_1440 (by decide) rfl ?_
  refine V_aload_n C dL_law_1442 rfl ?_
  refine V_aload_n C dL_law_1443 rfl ?_
  refine V_iload C dL_law_1444 rfl ?_
  refine V_iconst C dL_law_1446 ?_
  refine V_iadd C dL_law_1447 ?_
  refine V_sld C (j := 6 * j + 1) hX hb1 hb2 (by omega) hL (by omega) (hq 1 (by decide)).2 dL_law_1448 ?_
  refine V_aload_n C dL_law_1449 rfl ?_
  refine V_iload C dL_law_1450 rfl ?_
  refine V_iconst C dL_law_1452 ?_
  refine V_iadd C dL_law_1453 ?_
  refine V_sld C (j := 6 * j + 2) hX hb1 hb2 (by omega) hL (by omega) (hq 2 (by decide)).2 dL_law_1454 ?_
  refine V_callV C (As := [_, _]) ((c_X10_dispute hl (hq 1 (by decide)).1 (hq 2 (by decide)).1 hI.1) Y hRR) kL_161 hRR.1 rfl rfl (Nat.le_of_ble_eq_true rfl) ⟨(Nat.le_of_ble_eq_true rfl), (Nat.le_of_ble_eq_true rfl)⟩ ⟨(by show cells + 3 + 0 ≤ 601024; omega), (by show slots + 18 + 0 ≤ 7293034; omega)⟩ dL_law_1455 (fun _ _ h => h.elim) (fun v Y2 hp => ?_)
  obtain ⟨M2, hp, hR2, hq2⟩ := hp
  obtain ⟨hM2, rfl⟩ := hp
  obtain ⟨hk0, hzz, hcl⟩ := hU M2 _ ⟨hM2, rfl⟩
  have hst : stK M M2 j := by rw [hM2]; exact stK_dis hI
  obtain ⟨L2, Z2, hcx, hzm, hy2⟩ := hcl
  obtain ⟨hcx2, hga2⟩ := ref_aft hcx hR2 hq2
  obtain ⟨rr, hrr, er⟩ := iv_rng ((disS M (q 1) (q 2)).2)
  rw [← er]
  refine V_istore C dL_law_1458 (by decide) rfl ?_
  refine V_aload_n C dL_law_1460 rfl ?_
  refine V_callV C (As := []) (c_X10_thrown hl Y2 hcx2.1) kL_95 hcx2.1.1 rfl rfl (Nat.le_of_ble_eq_true rfl) ⟨(Nat.le_of_ble_eq_true rfl), (Nat.le_of_ble_eq_true rfl)⟩ ⟨(by show cells + 3 + 0 + 0 ≤ 601024; omega), (by show slots + 18 + 0 + 0 ≤ 7293034; omega)⟩ dL_law_1461 (fun _ _ h => h.elim) (fun v Y3 hp => ?_)
  obtain ⟨M3, ⟨hM3, rfl⟩, hR3, hq3⟩ := hp
  rw [hM3] at hR3
  obtain ⟨hcx3, hga3⟩ := ref_aft hcx2 hR3 hq3
  rw [hk0]
  refine V_iload C dL_law_1464 rfl ?_
  refine V_icmp_eq C dL_law_1466 (by omega) (by omega) (fun h1466 => ?_) (fun h1466 => ?_)
  · refine V_iload C dL_law_1471 rfl ?_
    refine V_if_ne C dL_law_1473 (by omega) (fun h1473 => ?_) (fun h1473 => ?_)
    · refine V_goto C dL_law_1488 ?_
      exact hend _ _ _ _ _ _ _ _ hcx3 hzm hst.1 hy2 (by have := hst.2.1; omega) (by have := hst.2.2; omega)
    · refine V_aload_n C dL_law_1476 rfl ?_
      refine V_iconst C dL_law_1477 ?_
      obtain ⟨zz, hz, ez, hga⟩ := hzz (by omega)
      obtain rfl : rr = zz := iv_inj hrr hz (er.trans ez.symm)
      have hao := hcx3.ao
      have hga4 : gA Y3 ao 0 = rr := (hga3.trans hga2).trans hga
      refine V_lald C (j := 0) (n := 1) hao.1 hao.2 (by decide) (by decide) rfl dL_law_1478 ?_
      rw [hga4]
      refine V_iload C dL_law_1479 rfl ?_
      refine V_i2l C dL_law_1481 hrr ?_
      refine V_lcmp C dL_law_1482 (by first | omega | decide) (by first | omega | decide) ?_
      rw [lc0]
      refine V_if_eq C dL_law_1483 (by decide) (fun h1483 => ?_) (fun h1483 => ?_)
      · refine V_goto C dL_law_1488 ?_
        exact hend _ _ _ _ _ _ _ _ hcx3 hzm hst.1 hy2 (by have := hst.2.1; omega) (by have := hst.2.2; omega)
      · exact absurd rfl h1483
  · exact absurd rfl h1466
set_option maxHeartbeats 2000000 in
set_option maxRecDepth 20000 in
theorem lc_owes {nm : String} (C : Cx p l s m args meth c D kA b t0 7 RL nm cL_law) (hl : l.stackTraces = false) (hX : va_X sb Ls xs s s.heap) (hb1 : sb < s.heap.size) (hb2 : sb < b) (hL6 : 6 * j + 6 ≤ Ls) (hL : Ls ≤ 3072) (h : CX t0 ao mo ad L X Z M) (hZ : ZM Z M) (hI : Iv M j) (hq : Lsc xs j q) (hc : cells + budC M ≤ 400 + 26 * j) (hs : slots + budS M ≤ 2440000 + 4402 * j) (hend : LEnd p l e s m args below meth c D kA b Q t0 ao mo ad sb L j) : V p l e room_1 s m args below meth c D kA b 7 cells slots Q X 1491 [some (rv (some sb)), some (rv (some (lA L 11 0))), some (rv (some mo)), some (rv (some ao)), some (iv (6 * (j : Int))), u5, u6] [] := by
  have hKy := (yd_C h hZ.1).1
  have hn : ((yC Z 6 : Nat) : Int) = M.1 30 := hZ.1.1.2.2.2.2.2.1
  refine V_aload_n C dL_law_1491 rfl ?_
  refine V_aload_n C dL_law_1492 rfl ?_
  refine V_iload C dL_law_1493 rfl ?_
  refine V_iconst C dL_law_1495 ?_
  refine V_iadd C dL_law_1496 ?_
  refine V_sld C (j := 6 * j + 1) hX hb1 hb2 (by omega) hL (by omega) (hq 1 (by decide)).2 dL_law_1497 ?_
  refine V_aload_n C dL_law_1498 rfl ?_
  refine V_callSH C (As := [_, _, _]) (c_L_owes hl h hZ hI (hq 1 (by decide)).1) sL_owes rfl rfl (Nat.le_of_ble_eq_true rfl) ⟨(Nat.le_of_ble_eq_true rfl), (Nat.le_of_ble_eq_true rfl)⟩ ⟨(by show cells + 1 ≤ 601024; omega), (by show slots + 6 ≤ 7293034; omega)⟩ dL_law_1499 (fun _ _ h => h.elim) (fun v Y hp => ?_)
  obtain ⟨hRR, k, rfl, hk, hU⟩ := hp
  refine V_istore C dL_law_1502 (by decide) rfl ?_
  refine V_aload_n C dL_law_1504 rfl ?_
  refine V_aload_n C dL_law_1505 rfl ?_
  refine V_iload C dL_law_1506 rfl ?_
  refine V_iconst C dL_law_1508 ?_
  refine V_iadd C dL_law_1509 ?_
  refine V_sld C (j := 6 * j + 1) hX hb1 hb2 (by omega) hL (by omega) (hq 1 (by decide)).2 dL_law_1510 ?_
  refine V_callV C (As := [_]) ((c_X10_owes hl (hq 1 (by decide)).1 hI.1) Y hRR) kL_164 hRR.1 rfl rfl (Nat.le_of_ble_eq_true rfl) ⟨(Nat.le_of_ble_eq_true rfl), (Nat.le_of_ble_eq_true rfl)⟩ ⟨(by show cells + 1 + 0 ≤ 601024; omega), (by show slots + 6 + 0 ≤ 7293034; omega)⟩ dL_law_1511 (fun _ _ h => h.elim) (fun v Y2 hp => ?_)
  obtain ⟨M2, hp, hR2, hq2⟩ := hp
  obtain ⟨hM2, rfl⟩ := hp
  obtain ⟨hk0, hzz, hcl⟩ := hU M2 _ ⟨hM2, rfl⟩
  have hst : stK M M2 j := by rw [hM2]; exact stK_owe hI
  obtain ⟨L2, Z2, hcx, hzm, hy2⟩ := hcl
  obtain ⟨hcx2, hga2⟩ := ref_aft hcx hR2 hq2
  obtain ⟨rr, hrr, er⟩ := iv_rng ((oweS M (q 1)).2)
  rw [← er]
  refine V_istore C dL_law_1514 (by decide) rfl ?_
  refine V_aload_n C dL_law_1516 rfl ?_
  refine V_callV C (As := []) (c_X10_thrown hl Y2 hcx2.1) kL_95 hcx2.1.1 rfl rfl (Nat.le_of_ble_eq_true rfl) ⟨(Nat.le_of_ble_eq_true rfl), (Nat.le_of_ble_eq_true rfl)⟩ ⟨(by show cells + 1 + 0 + 0 ≤ 601024; omega), (by show slots + 6 + 0 + 0 ≤ 7293034; omega)⟩ dL_law_1517 (fun _ _ h => h.elim) (fun v Y3 hp => ?_)
  obtain ⟨M3, ⟨hM3, rfl⟩, hR3, hq3⟩ := hp
  rw [hM3] at hR3
  obtain ⟨hcx3, hga3⟩ := ref_aft hcx2 hR3 hq3
  rw [hk0]
  refine V_iload C dL_law_1520 rfl ?_
  refine V_icmp_eq C dL_law_1522 (by omega) (by omega) (fun h1522 => ?_) (fun h1522 => ?_)
  · refine V_iload C dL_law_1527 rfl ?_
    refine V_if_ne C dL_law_1529 (by omega) (fun h1529 => ?_) (fun h1529 => ?_)
    · refine V_goto C dL_law_1544 ?_
      exact hend _ _ _ _ _ _ _ _ hcx3 hzm hst.1 hy2 (by have := hst.2.1; omega) (by have := hst.2.2; omega)
    · refine V_aload_n C dL_law_1532 rfl ?_
      refine V_iconst C dL_law_1533 ?_
      obtain ⟨zz, hz, ez, hga⟩ := hzz (by omega)
      obtain rfl : rr = zz := iv_inj hrr hz (er.trans ez.symm)
      have hao := hcx3.ao
      have hga4 : gA Y3 ao 0 = rr := (hga3.trans hga2).trans hga
      refine V_lald C (j := 0) (n := 1) hao.1 hao.2 (by decide) (by decide) rfl dL_law_1534 ?_
      rw [hga4]
      refine V_iload C dL_law_1535 rfl ?_
      refine V_i2l C dL_law_1537 hrr ?_
      refine V_lcmp C dL_law_1538 (by first | omega | decide) (by first | omega | decide) ?_
      rw [lc0]
      refine V_if_eq C dL_law_1539 (by decide) (fun h1539 => ?_) (fun h1539 => ?_)
      · refine V_goto C dL_law_1544 ?_
        exact hend _ _ _ _ _ _ _ _ hcx3 hzm hst.1 hy2 (by have := hst.2.1; omega) (by have := hst.2.2; omega)
      · exact absurd rfl h1539
  · exact absurd rfl h1522
set_option maxHeartbeats 2000000 in
set_option maxRecDepth 20000 in
theorem lc_account {nm : String} (C : Cx p l s m args meth c D kA b t0 7 RL nm cL_law) (hl : l.stackTraces = false) (hX : va_X sb Ls xs s s.heap) (hb1 : sb < s.heap.size) (hb2 : sb < b) (hL6 : 6 * j + 6 ≤ Ls) (hL : Ls ≤ 3072) (h : CX t0 ao mo ad L X Z M) (hZ : ZM Z M) (hI : Iv M j) (hq : Lsc xs j q) (hc : cells + budC M ≤ 400 + 26 * j) (hs : slots + budS M ≤ 2440000 + 4402 * j) (hend : LEnd p l e s m args below meth c D kA b Q t0 ao mo ad sb L j) : V p l e room_1 s m args below meth c D kA b 7 cells slots Q X 1547 [some (rv (some sb)), some (rv (some (lA L 11 0))), some (rv (some mo)), some (rv (some ao)), some (iv (6 * (j : Int))), u5, u6] [] := by
  have hKy := (yd_C h hZ.1).1
  have hn : ((yC Z 6 : Nat) : Int) = M.1 30 := hZ.1.1.2.2.2.2.2.1
  refine V_aload_n C dL_law_1547 rfl ?_
  refine V_aload_n C dL_law_1548 rfl ?_
  refine V_iload C dL_law_1549 rfl ?_
  refine V_iconst C dL_law_1551 ?_
  refine V_iadd C dL_law_1552 ?_
  refine V_sld C (j := 6 * j + 1) hX hb1 hb2 (by omega) hL (by omega) (hq 1 (by decide)).2 dL_law_1553 ?_
  refine V_aload_n C dL_law_1554 rfl ?_
  refine V_callSH C (As := [_, _, _]) (c_L_account hl h hZ hI (hq 1 (by decide)).1) sL_account rfl rfl (Nat.le_of_ble_eq_true rfl) ⟨(Nat.le_of_ble_eq_true rfl), (Nat.le_of_ble_eq_true rfl)⟩ ⟨(by show cells + 1 ≤ 601024; omega), (by show slots + 6 ≤ 7293034; omega)⟩ dL_law_1555 (fun _ _ h => h.elim) (fun v Y hp => ?_)
  obtain ⟨hRR, k, rfl, hk, hU⟩ := hp
  refine V_istore C dL_law_1558 (by decide) rfl ?_
  refine V_aload_n C dL_law_1560 rfl ?_
  refine V_aload_n C dL_law_1561 rfl ?_
  refine V_iload C dL_law_1562 rfl ?_
  refine V_iconst C dL_law_1564 ?_
  refine V_iadd C dL_law_1565 ?_
  refine V_sld C (j := 6 * j + 1) hX hb1 hb2 (by omega) hL (by omega) (hq 1 (by decide)).2 dL_law_1566 ?_
  refine V_callV C (As := [_]) ((c_X10_account hl (hq 1 (by decide)).1 hI.1) Y hRR) kL_167 hRR.1 rfl rfl (Nat.le_of_ble_eq_true rfl) ⟨(Nat.le_of_ble_eq_true rfl), (Nat.le_of_ble_eq_true rfl)⟩ ⟨(by show cells + 1 + 0 ≤ 601024; omega), (by show slots + 6 + 0 ≤ 7293034; omega)⟩ dL_law_1567 (fun _ _ h => h.elim) (fun v Y2 hp => ?_)
  obtain ⟨M2, hp, hR2, hq2⟩ := hp
  obtain ⟨hM2, rfl⟩ := hp
  obtain ⟨hk0, hzz, hcl⟩ := hU M2 _ ⟨hM2, rfl⟩
  have hst : stK M M2 j := by rw [hM2]; exact stK_acc hI
  obtain ⟨L2, Z2, hcx, hzm, hy2⟩ := hcl
  obtain ⟨hcx2, hga2⟩ := ref_aft hcx hR2 hq2
  obtain ⟨rr, hrr, er⟩ := iv_rng ((accS M (q 1)).2)
  rw [← er]
  refine V_istore C dL_law_1570 (by decide) rfl ?_
  refine V_aload_n C dL_law_1572 rfl ?_
  refine V_callV C (As := []) (c_X10_thrown hl Y2 hcx2.1) kL_95 hcx2.1.1 rfl rfl (Nat.le_of_ble_eq_true rfl) ⟨(Nat.le_of_ble_eq_true rfl), (Nat.le_of_ble_eq_true rfl)⟩ ⟨(by show cells + 1 + 0 + 0 ≤ 601024; omega), (by show slots + 6 + 0 + 0 ≤ 7293034; omega)⟩ dL_law_1573 (fun _ _ h => h.elim) (fun v Y3 hp => ?_)
  obtain ⟨M3, ⟨hM3, rfl⟩, hR3, hq3⟩ := hp
  rw [hM3] at hR3
  obtain ⟨hcx3, hga3⟩ := ref_aft hcx2 hR3 hq3
  rw [hk0]
  refine V_iload C dL_law_1576 rfl ?_
  refine V_icmp_eq C dL_law_1578 (by omega) (by omega) (fun h1578 => ?_) (fun h1578 => ?_)
  · refine V_iload C dL_law_1583 rfl ?_
    refine V_if_ne C dL_law_1585 (by omega) (fun h1585 => ?_) (fun h1585 => ?_)
    · refine V_goto C dL_law_1600 ?_
      exact hend _ _ _ _ _ _ _ _ hcx3 hzm hst.1 hy2 (by have := hst.2.1; omega) (by have := hst.2.2; omega)
    · refine V_aload_n C dL_law_1588 rfl ?_
      refine V_iconst C dL_law_1589 ?_
      obtain ⟨zz, hz, ez, hga⟩ := hzz (by omega)
      obtain rfl : rr = zz := iv_inj hrr hz (er.trans ez.symm)
      have hao := hcx3.ao
      have hga4 : gA Y3 ao 0 = rr := (hga3.trans hga2).trans hga
      refine V_lald C (j := 0) (n := 1) hao.1 hao.2 (by decide) (by decide) rfl dL_law_1590 ?_
      rw [hga4]
      refine V_iload C dL_law_1591 rfl ?_
      refine V_i2l C dL_law_1593 hrr ?_
      refine V_lcmp C dL_law_1594 (by first | omega | decide) (by first | omega | decide) ?_
      rw [lc0]
      refine V_if_eq C dL_law_1595 (by decide) (fun h1595 => ?_) (fun h1595 => ?_)
      · refine V_goto C dL_law_1600 ?_
        exact hend _ _ _ _ _ _ _ _ hcx3 hzm hst.1 hy2 (by have := hst.2.1; omega) (by have := hst.2.2; omega)
      · exact absurd rfl h1595
  · exact absurd rfl h1578
set_option maxHeartbeats 2000000 in
set_option maxRecDepth 20000 in
theorem lc_pass_ok {nm : String} (C : Cx p l s m args meth c D kA b t0 7 RL nm cL_law) (hl : l.stackTraces = false) (hX : va_X sb Ls xs s s.heap) (hb1 : sb < s.heap.size) (hb2 : sb < b) (hL6 : 6 * j + 6 ≤ Ls) (hL : Ls ≤ 3072) (h : CX t0 ao mo ad L X Z M) (hZ : ZM Z M) (hI : Iv M j) (hq : Lsc xs j q) (hc : cells + budC M ≤ 400 + 26 * j) (hs : slots + budS M ≤ 2440000 + 4402 * j) (hend : LEnd p l e s m args below meth c D kA b Q t0 ao mo ad sb L j) (hgood : (1 ≤ q 1 ∧ q 1 ≤ 120) ∧ M.1 1 + q 1 ≤ 20000) : V p l e room_1 s m args below meth c D kA b 7 cells slots Q X 1006 [some (rv (some sb)), some (rv (some (lA L 11 0))), some (rv (some mo)), some (rv (some ao)), some (iv (6 * (j : Int))), u5, u6] [] := by
  have hKy := (yd_C h hZ.1).1
  have hn : ((yC Z 6 : Nat) : Int) = M.1 30 := hZ.1.1.2.2.2.2.2.1
  have hph : phC M (yC Z 6) ≤ budC M ∧ phS M (yC Z 6) ≤ budS M := by
    unfold budC budS
    rw [show (M.1 30).toNat = yC Z 6 by omega]
    omega
  refine V_aload_n C dL_law_1006 rfl ?_
  refine V_aload_n C dL_law_1007 rfl ?_
  refine V_iload C dL_law_1008 rfl ?_
  refine V_iconst C dL_law_1010 ?_
  refine V_iadd C dL_law_1011 ?_
  refine V_sld C (j := 6 * j + 1) hX hb1 hb2 (by omega) hL (by omega) (hq 1 (by decide)).2 dL_law_1012 ?_
  refine V_aload_n C dL_law_1013 rfl ?_
  refine V_callSH C (As := [_, _, _]) (c_L_pass hl h hZ hI (hq 1 (by decide)).1) sL_pass rfl rfl (Nat.le_of_ble_eq_true rfl) ⟨(Nat.le_of_ble_eq_true rfl), (Nat.le_of_ble_eq_true rfl)⟩ ⟨(by show cells + (2 + (phC M (yC Z 6) - phC (pcN M (yC Z 6) (q 1).toNat) (yC Z 6))) ≤ 601024; omega), (by show slots + (12 + (phS M (yC Z 6) - phS (pcN M (yC Z 6) (q 1).toNat) (yC Z 6))) ≤ 7293034; omega)⟩ dL_law_1014 (fun _ _ h => h.elim) (fun v Y hp => ?_)
  obtain ⟨hRR, k, rfl, hk, hU⟩ := hp
  refine V_istore C dL_law_1017 (by decide) rfl ?_
  refine V_aload_n C dL_law_1019 rfl ?_
  refine V_aload_n C dL_law_1020 rfl ?_
  refine V_iload C dL_law_1021 rfl ?_
  refine V_iconst C dL_law_1023 ?_
  refine V_iadd C dL_law_1024 ?_
  refine V_sld C (j := 6 * j + 1) hX hb1 hb2 (by omega) hL (by omega) (hq 1 (by decide)).2 dL_law_1025 ?_
  refine V_callV C (As := [_]) ((c_X10_pass hl (n := yC Z 6) (J := PJ M (yC Z 6)) (hq 1 (by decide)).1 hI.1 (PJ_0 hI) (fun k9 M9 hJ => by obtain ⟨i1, i2, i3, i4⟩ := PJ_iv hI hn hJ; exact ⟨i1.1, i1.2.2.2.2.2.2.bk, i2, i3, trivial⟩) (fun k9 M9 M8 hJ hk9 hp9 => PJ_1 hI hJ hk9 hp9)) Y hRR) kL_136 hRR.1 rfl rfl (Nat.le_of_ble_eq_true rfl) ⟨(Nat.le_of_ble_eq_true rfl), (Nat.le_of_ble_eq_true rfl)⟩ ⟨(by show cells + (2 + (phC M (yC Z 6) - phC (pcN M (yC Z 6) (q 1).toNat) (yC Z 6))) + 0 ≤ 601024; omega), (by show slots + (12 + (phS M (yC Z 6) - phS (pcN M (yC Z 6) (q 1).toNat) (yC Z 6))) + 0 ≤ 7293034; omega)⟩ dL_law_1026 (fun _ _ h => h.elim) (fun v Y2 hp => ?_)
  obtain ⟨M2, hp, hR2, hq2⟩ := hp
  obtain ⟨r, rfl, hP⟩ := hp
  obtain ⟨hk0, hzz, hcl⟩ := hU M2 r hP
  have hst := stK_pasG hI hn hgood hP
  obtain ⟨L2, Z2, hcx, hzm, hy2⟩ := hcl
  obtain ⟨hcx2, hga2⟩ := ref_aft hcx hR2 hq2
  obtain ⟨rr, hrr, er⟩ := iv_rng (r)
  rw [← er]
  refine V_istore C dL_law_1029 (by decide) rfl ?_
  refine V_aload_n C dL_law_1031 rfl ?_
  refine V_callV C (As := []) (c_X10_thrown hl Y2 hcx2.1) kL_95 hcx2.1.1 rfl rfl (Nat.le_of_ble_eq_true rfl) ⟨(Nat.le_of_ble_eq_true rfl), (Nat.le_of_ble_eq_true rfl)⟩ ⟨(by show cells + (2 + (phC M (yC Z 6) - phC (pcN M (yC Z 6) (q 1).toNat) (yC Z 6))) + 0 + 0 ≤ 601024; omega), (by show slots + (12 + (phS M (yC Z 6) - phS (pcN M (yC Z 6) (q 1).toNat) (yC Z 6))) + 0 + 0 ≤ 7293034; omega)⟩ dL_law_1032 (fun _ _ h => h.elim) (fun v Y3 hp => ?_)
  obtain ⟨M3, ⟨hM3, rfl⟩, hR3, hq3⟩ := hp
  rw [hM3] at hR3
  obtain ⟨hcx3, hga3⟩ := ref_aft hcx2 hR3 hq3
  rw [hk0]
  refine V_iload C dL_law_1035 rfl ?_
  refine V_icmp_eq C dL_law_1037 (by omega) (by omega) (fun h1037 => ?_) (fun h1037 => ?_)
  · refine V_iload C dL_law_1042 rfl ?_
    refine V_if_ne C dL_law_1044 (by omega) (fun h1044 => ?_) (fun h1044 => ?_)
    · refine V_goto C dL_law_1059 ?_
      exact hend _ _ _ _ _ _ _ _ hcx3 hzm hst.1 hy2 (by have := hst.2.1; omega) (by have := hst.2.2; omega)
    · refine V_aload_n C dL_law_1047 rfl ?_
      refine V_iconst C dL_law_1048 ?_
      obtain ⟨zz, hz, ez, hga⟩ := hzz (by omega)
      obtain rfl : rr = zz := iv_inj hrr hz (er.trans ez.symm)
      have hao := hcx3.ao
      have hga4 : gA Y3 ao 0 = rr := (hga3.trans hga2).trans hga
      refine V_lald C (j := 0) (n := 1) hao.1 hao.2 (by decide) (by decide) rfl dL_law_1049 ?_
      rw [hga4]
      refine V_iload C dL_law_1050 rfl ?_
      refine V_i2l C dL_law_1052 hrr ?_
      refine V_lcmp C dL_law_1053 (by first | omega | decide) (by first | omega | decide) ?_
      rw [lc0]
      refine V_if_eq C dL_law_1054 (by decide) (fun h1054 => ?_) (fun h1054 => ?_)
      · refine V_goto C dL_law_1059 ?_
        exact hend _ _ _ _ _ _ _ _ hcx3 hzm hst.1 hy2 (by have := hst.2.1; omega) (by have := hst.2.2; omega)
      · exact absurd rfl h1054
  · exact absurd rfl h1037
set_option maxHeartbeats 2000000 in
set_option maxRecDepth 20000 in
theorem lc_pass_no {nm : String} (C : Cx p l s m args meth c D kA b t0 7 RL nm cL_law) (hl : l.stackTraces = false) (hX : va_X sb Ls xs s s.heap) (hb1 : sb < s.heap.size) (hb2 : sb < b) (hL6 : 6 * j + 6 ≤ Ls) (hL : Ls ≤ 3072) (h : CX t0 ao mo ad L X Z M) (hZ : ZM Z M) (hI : Iv M j) (hq : Lsc xs j q) (hc : cells + budC M ≤ 400 + 26 * j) (hs : slots + budS M ≤ 2440000 + 4402 * j) (hend : LEnd p l e s m args below meth c D kA b Q t0 ao mo ad sb L j) (hgood : ¬ ((1 ≤ q 1 ∧ q 1 ≤ 120) ∧ M.1 1 + q 1 ≤ 20000)) : V p l e room_1 s m args below meth c D kA b 7 cells slots Q X 1006 [some (rv (some sb)), some (rv (some (lA L 11 0))), some (rv (some mo)), some (rv (some ao)), some (iv (6 * (j : Int))), u5, u6] [] := by
  have hKy := (yd_C h hZ.1).1
  have hn : ((yC Z 6 : Nat) : Int) = M.1 30 := hZ.1.1.2.2.2.2.2.1
  refine V_aload_n C dL_law_1006 rfl ?_
  refine V_aload_n C dL_law_1007 rfl ?_
  refine V_iload C dL_law_1008 rfl ?_
  refine V_iconst C dL_law_1010 ?_
  refine V_iadd C dL_law_1011 ?_
  refine V_sld C (j := 6 * j + 1) hX hb1 hb2 (by omega) hL (by omega) (hq 1 (by decide)).2 dL_law_1012 ?_
  refine V_aload_n C dL_law_1013 rfl ?_
  refine V_callSH C (As := [_, _, _]) (c_L_pass_no hl h hZ hI (hq 1 (by decide)).1 hgood) sL_pass rfl rfl (Nat.le_of_ble_eq_true rfl) ⟨(Nat.le_of_ble_eq_true rfl), (Nat.le_of_ble_eq_true rfl)⟩ ⟨(by show cells + 2 ≤ 601024; omega), (by show slots + 12 ≤ 7293034; omega)⟩ dL_law_1014 (fun _ _ h => h.elim) (fun v Y hp => ?_)
  obtain ⟨hRR, k, rfl, hk, hU⟩ := hp
  refine V_istore C dL_law_1017 (by decide) rfl ?_
  refine V_aload_n C dL_law_1019 rfl ?_
  refine V_aload_n C dL_law_1020 rfl ?_
  refine V_iload C dL_law_1021 rfl ?_
  refine V_iconst C dL_law_1023 ?_
  refine V_iadd C dL_law_1024 ?_
  refine V_sld C (j := 6 * j + 1) hX hb1 hb2 (by omega) hL (by omega) (hq 1 (by decide)).2 dL_law_1025 ?_
  refine V_callV C (As := [_]) ((c_X10_pass hl (n := yC Z 6) (J := PJ M (yC Z 6)) (hq 1 (by decide)).1 hI.1 (PJ_0 hI) (fun k9 M9 hJ => by obtain ⟨i1, i2, i3, i4⟩ := PJ_iv hI hn hJ; exact ⟨i1.1, i1.2.2.2.2.2.2.bk, i2, i3, trivial⟩) (fun k9 M9 M8 hJ hk9 hp9 => PJ_1 hI hJ hk9 hp9)) Y hRR) kL_136 hRR.1 rfl rfl (Nat.le_of_ble_eq_true rfl) ⟨(Nat.le_of_ble_eq_true rfl), (Nat.le_of_ble_eq_true rfl)⟩ ⟨(by show cells + 2 + 0 ≤ 601024; omega), (by show slots + 12 + 0 ≤ 7293034; omega)⟩ dL_law_1026 (fun _ _ h => h.elim) (fun v Y2 hp => ?_)
  obtain ⟨M2, hp, hR2, hq2⟩ := hp
  obtain ⟨r, rfl, hP⟩ := hp
  obtain ⟨hk0, hzz, hcl⟩ := hU M2 r hP
  have hst := stK_pasB hI hgood hP
  obtain ⟨L2, Z2, hcx, hzm, hy2⟩ := hcl
  obtain ⟨hcx2, hga2⟩ := ref_aft hcx hR2 hq2
  obtain ⟨rr, hrr, er⟩ := iv_rng (r)
  rw [← er]
  refine V_istore C dL_law_1029 (by decide) rfl ?_
  refine V_aload_n C dL_law_1031 rfl ?_
  refine V_callV C (As := []) (c_X10_thrown hl Y2 hcx2.1) kL_95 hcx2.1.1 rfl rfl (Nat.le_of_ble_eq_true rfl) ⟨(Nat.le_of_ble_eq_true rfl), (Nat.le_of_ble_eq_true rfl)⟩ ⟨(by show cells + 2 + 0 + 0 ≤ 601024; omega), (by show slots + 12 + 0 + 0 ≤ 7293034; omega)⟩ dL_law_1032 (fun _ _ h => h.elim) (fun v Y3 hp => ?_)
  obtain ⟨M3, ⟨hM3, rfl⟩, hR3, hq3⟩ := hp
  rw [hM3] at hR3
  obtain ⟨hcx3, hga3⟩ := ref_aft hcx2 hR3 hq3
  rw [hk0]
  refine V_iload C dL_law_1035 rfl ?_
  refine V_icmp_eq C dL_law_1037 (by omega) (by omega) (fun h1037 => ?_) (fun h1037 => ?_)
  · refine V_iload C dL_law_1042 rfl ?_
    refine V_if_ne C dL_law_1044 (by omega) (fun h1044 => ?_) (fun h1044 => ?_)
    · refine V_goto C dL_law_1059 ?_
      exact hend _ _ _ _ _ _ _ _ hcx3 hzm hst.1 hy2 (by have := hst.2.1; omega) (by have := hst.2.2; omega)
    · refine V_aload_n C dL_law_1047 rfl ?_
      refine V_iconst C dL_law_1048 ?_
      obtain ⟨zz, hz, ez, hga⟩ := hzz (by omega)
      obtain rfl : rr = zz := iv_inj hrr hz (er.trans ez.symm)
      have hao := hcx3.ao
      have hga4 : gA Y3 ao 0 = rr := (hga3.trans hga2).trans hga
      refine V_lald C (j := 0) (n := 1) hao.1 hao.2 (by decide) (by decide) rfl dL_law_1049 ?_
      rw [hga4]
      refine V_iload C dL_law_1050 rfl ?_
      refine V_i2l C dL_law_1052 hrr ?_
      refine V_lcmp C dL_law_1053 (by first | omega | decide) (by first | omega | decide) ?_
      rw [lc0]
      refine V_if_eq C dL_law_1054 (by decide) (fun h1054 => ?_) (fun h1054 => ?_)
      · refine V_goto C dL_law_1059 ?_
        exact hend _ _ _ _ _ _ _ _ hcx3 hzm hst.1 hy2 (by have := hst.2.1; omega) (by have := hst.2.2; omega)
      · exact absurd rfl h1054
  · exact absurd rfl h1037
end LC4
