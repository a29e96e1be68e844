/-! the law: unplugging -/
section LACT1
variable {p : Program} {l : Launch} {e : Env} {s : State} {m : MethodId} {args : Array Value} {below : List Frame} {meth : Method} {c : Code}
variable {D : va_G} {kA : Nat → ClassId} {b t0 sb y : Nat} {ad : Nat → Nat} {Q : State → Prop} {nm : String} {X : Mm} {Mr M : Mo} {n turn : Nat} {now ed nb x : Int} {a i w o : Nat} {u16 u17 u18 u19 : Option Value} {c1 s1 cB sB : Nat}

set_option maxHeartbeats 2000000 in
set_option maxRecDepth 20000 in
theorem l_unplug (C : Cx p l s m args meth c D kA b t0 20 RL nm cL_law) (hl : l.stackTraces = false) (hT : TS t0 ad y X Mr M n now ed nb) (hi : i < 3) (hw : w < 4) (ho : o < 4) (hgo : 0 ≤ M.2 12 i) (hrx : rng x) (hc : c1 + budC M ≤ cB) (hs : s1 + budS M ≤ sB) (hcB : cB ≤ 100000) (hsB : sB ≤ 4000000) (hnb : 0 ≤ nb ∧ nb ≤ 1200) (hend : LEnd p l e s m args below meth c D kA b t0 sb y ad Q turn x a i w o nb cB sB) : V p l e room_1 s m args below meth c D kA b 20 (c1) (s1) (Q) X (429) ([some (rv (some sb)), some (rv (some y)), some (rv (some (ad 0))), some (rv (some (ad 1))), some (rv (some (ad 2))), some (rv (some (ad 3))), some (rv (some (ad 4))), some (iv (n : Int)), some (iv now), some (iv ed), some (iv (turn : Int)), some (iv x), some (iv (a : Int)), some (iv (i : Int)), some (iv (w : Int)), some (iv (o : Int)), u16, u17, u18, u19]) ([]) := by
  obtain ⟨hS, hJ, hn36, hcs, hgd, ⟨hnow, hnn⟩, hed, hed0⟩ := id hT
  obtain ⟨jj, hI⟩ := hS.iv
  have o0 := hI.1.1
  unfold okSc at o0
  obtain ⟨c6, c13, c17, c30⟩ := hJ.1
  obtain ⟨so1, so2⟩ := ts_so hI hJ hi
  obtain ⟨k, hk, ek, h34, h31⟩ : ∃ k : Nat, k < n ∧ M.2 12 i = (k : Int) ∧ M.2 34 k = 1 ∧ M.2 31 k = (i : Int) := by
    rcases so2 with z | z
    · omega
    · exact z
  clear so2
  have r10 : rng (M.2 10 i) := by omega
  obtain ⟨⟨i2, hi2, f31, fon, f38, f10, f12⟩, f32, f34, fv, -⟩ := ts_se hI hJ hk
  obtain ⟨hJ2, hval, h0, hrows, hb1, hb2, h12, h34b⟩ := JI_unp (had := Mr.2 0) hI hJ hk h34
  obtain ⟨-, bd1, bd2⟩ := stK_unp (z := (k : Int)) hI
  have g30 := hJ2.1.2.2.2
  have hk2 : (k : Int) < (unpS M k).1.1 30 := by omega
  have v2 := (of_2 hk2).trans (congrFun (hrows 37 (by omega)) k)
  have v3 := (of_3 hk2).trans (congrFun (hrows 38 (by omega)) k)
  have v4 := (of_4 hk2).trans h34b
  refine V_aload_n C dL_law_429 rfl ?_
  refine V_aload C dL_law_430 rfl ?_
  refine V_iload C dL_law_432 rfl ?_
  refine V_ialdx C hS.a3.1 hS.a3.2.1 (show i < 3 by omega) (Nat.le_of_ble_eq_true rfl) (rfl) (x := (k : Int)) ((hS.a3.2.2 i).trans (((hgd i hi).1).trans ek)) dL_law_434 ?_
  refine V_callV C (As := [_]) (q_unplug hl hS (k := k) (by omega) h0) kL_40 hS.ky rfl rfl (Nat.le_of_ble_eq_true rfl) ⟨(Nat.le_of_ble_eq_true rfl), (Nat.le_of_ble_eq_true rfl)⟩ ⟨(by show _ ≤ 600086; omega), (by show _ ≤ 7301442; omega)⟩ dL_law_435 (fun _ _ h => h.elim) (fun v435 Y435 hp => ?_)
  obtain ⟨rfl, hS435⟩ := hp
  rw [hval]
  refine V_istore C dL_law_438 (by decide) rfl ?_
  refine V_iload C dL_law_440 rfl ?_
  refine V_aload_n C dL_law_442 rfl ?_
  refine V_aload C dL_law_443 rfl ?_
  refine V_iload C dL_law_445 rfl ?_
  refine V_ialdx C hS435.a3.1 hS435.a3.2.1 (show i < 3 by omega) (Nat.le_of_ble_eq_true rfl) (rfl) (x := (k : Int)) ((hS435.a3.2.2 i).trans (((hgd i hi).1).trans ek)) dL_law_447 ?_
  refine V_iconst C dL_law_448 ?_
  refine V_callV C (As := [_, _]) (q_of hl hS435 (k := k) hk2 (by decide) v2) kL_44 hS435.ky rfl rfl (Nat.le_of_ble_eq_true rfl) ⟨(Nat.le_of_ble_eq_true rfl), (Nat.le_of_ble_eq_true rfl)⟩ ⟨(by show _ ≤ 600086; omega), (by show _ ≤ 7301442; omega)⟩ dL_law_449 (fun _ _ h => h.elim) (fun v449 Y449 hp => ?_)
  obtain ⟨rfl, hS449⟩ := hp
  refine V_aload_n C dL_law_452 rfl ?_
  refine V_aload C dL_law_453 rfl ?_
  refine V_iload C dL_law_455 rfl ?_
  refine V_ialdx C hS449.a3.1 hS449.a3.2.1 (show i < 3 by omega) (Nat.le_of_ble_eq_true rfl) (rfl) (x := (k : Int)) ((hS449.a3.2.2 i).trans (((hgd i hi).1).trans ek)) dL_law_457 ?_
  refine V_iconst C dL_law_458 ?_
  refine V_callV C (As := [_, _]) (q_of hl hS449 (k := k) hk2 (by decide) v3) kL_44 hS449.ky rfl rfl (Nat.le_of_ble_eq_true rfl) ⟨(Nat.le_of_ble_eq_true rfl), (Nat.le_of_ble_eq_true rfl)⟩ ⟨(by show _ ≤ 600086; omega), (by show _ ≤ 7301442; omega)⟩ dL_law_459 (fun _ _ h => h.elim) (fun v459 Y459 hp => ?_)
  obtain ⟨rfl, hS459⟩ := hp
  refine V_isub C dL_law_462 ?_
  refine V_icmp_ne C dL_law_463 (by omega) (by omega) (fun h463 => absurd h463 (by omega)) (fun h463 => ?_)
  refine V_aload C dL_law_466 rfl ?_
  refine V_iload C dL_law_468 rfl ?_
  refine V_ialdx C hS459.a4.1 hS459.a4.2.1 (show i < 3 by omega) (Nat.le_of_ble_eq_true rfl) (rfl) (x := M.2 10 i) ((hS459.a4.2.2 i).trans ((hgd i hi).2)) dL_law_470 ?_
  refine V_if_ne C dL_law_471 r10 (fun h471 => ?_) (fun h471 => ?_)
  · refine V_aload_n C dL_law_481 rfl ?_
    refine V_aload C dL_law_482 rfl ?_
    refine V_iload C dL_law_484 rfl ?_
    refine V_ialdx C hS459.a3.1 hS459.a3.2.1 (show i < 3 by omega) (Nat.le_of_ble_eq_true rfl) (rfl) (x := (k : Int)) ((hS459.a3.2.2 i).trans (((hgd i hi).1).trans ek)) dL_law_486 ?_
    refine V_iconst C dL_law_487 ?_
    refine V_callV C (As := [_, _]) (q_of hl hS459 (k := k) hk2 (by decide) v4) kL_44 hS459.ky rfl rfl (Nat.le_of_ble_eq_true rfl) ⟨(Nat.le_of_ble_eq_true rfl), (Nat.le_of_ble_eq_true rfl)⟩ ⟨(by show _ ≤ 600086; omega), (by show _ ≤ 7301442; omega)⟩ dL_law_488 (fun _ _ h => h.elim) (fun v488 Y488 hp => ?_)
    obtain ⟨rfl, hS488⟩ := hp
    refine V_iload C dL_law_491 rfl ?_
    refine V_if_ne C dL_law_493 (by omega) (fun h493 => ?_) (fun h493 => ?_)
    · refine V_iconst C dL_law_500 ?_
      refine V_icmp_eq C dL_law_501 (by split <;> omega) (by omega) (fun h501 => ?_) (fun h501 => absurd h501 (fun z => z (by first | rw [if_pos h493] | rw [if_neg h493])))
      refine V_aload C dL_law_506 rfl ?_
      refine V_iload C dL_law_508 rfl ?_
      refine V_iconst C dL_law_510 ?_
      refine V_iast C (j := i) hS488.a3.1 hS488.a3.2.1 (show i < 3 by omega) (Nat.le_of_ble_eq_true rfl) (rfl) dL_law_511 ?_
      have hS511 := hS488.put 3 (i) ((-1)) (by decide)
      refine V_goto C dL_law_512 ?_
      have r31 := hrows 31 (by omega)
      have r32 := hrows 32 (by omega)
      have r10 := hrows 10 (by omega)
      refine hend _ (unpS M k).1 (setA Mr 3 (i) ((-1))) n now ed _ _ _ _ _ _ ⟨hS511, hJ2, hn36, fun j hj => ?_, fun q hq => ?_, ⟨hb1.trans hnow, by omega⟩, hed, fun he => ⟨fun q hq => ?_, ?_⟩⟩ (by omega) (by omega)
      · rw [r32, r31]
        exact hcs j hj
      · refine ⟨?_, ?_⟩
        · rw [h12 q, h31, Int.toNat_natCast]
          show (if q = i then (-1 : Int) else Mr.2 3 q) = _
          rw [(hgd q hq).1]
        · rw [r10]
          exact (hgd q hq).2
      · rw [r10]
        exact (hed0 he).1 q hq
      · rw [hb2]
        exact (hed0 he).2
    · refine V_iconst C dL_law_496 ?_
      refine V_goto C dL_law_497 ?_
      refine V_icmp_eq C dL_law_501 (by split <;> omega) (by omega) (fun h501 => ?_) (fun h501 => absurd h501 (fun z => z (by first | rw [if_pos h493] | rw [if_neg h493])))
      refine V_aload C dL_law_506 rfl ?_
      refine V_iload C dL_law_508 rfl ?_
      refine V_iconst C dL_law_510 ?_
      refine V_iast C (j := i) hS488.a3.1 hS488.a3.2.1 (show i < 3 by omega) (Nat.le_of_ble_eq_true rfl) (rfl) dL_law_511 ?_
      have hS511 := hS488.put 3 (i) ((-1)) (by decide)
      refine V_goto C dL_law_512 ?_
      have r31 := hrows 31 (by omega)
      have r32 := hrows 32 (by omega)
      have r10 := hrows 10 (by omega)
      refine hend _ (unpS M k).1 (setA Mr 3 (i) ((-1))) n now ed _ _ _ _ _ _ ⟨hS511, hJ2, hn36, fun j hj => ?_, fun q hq => ?_, ⟨hb1.trans hnow, by omega⟩, hed, fun he => ⟨fun q hq => ?_, ?_⟩⟩ (by omega) (by omega)
      · rw [r32, r31]
        exact hcs j hj
      · refine ⟨?_, ?_⟩
        · rw [h12 q, h31, Int.toNat_natCast]
          show (if q = i then (-1 : Int) else Mr.2 3 q) = _
          rw [(hgd q hq).1]
        · rw [r10]
          exact (hgd q hq).2
      · rw [r10]
        exact (hed0 he).1 q hq
      · rw [hb2]
        exact (hed0 he).2
  · refine V_iload C dL_law_474 rfl ?_
    refine V_if_eq C dL_law_476 (by omega) (fun h476 => ?_) (fun h476 => absurd h476 (by have h5 := f38 (by rw [show i2 = i by omega]; exact h471); omega))
    refine V_aload_n C dL_law_481 rfl ?_
    refine V_aload C dL_law_482 rfl ?_
    refine V_iload C dL_law_484 rfl ?_
    refine V_ialdx C hS459.a3.1 hS459.a3.2.1 (show i < 3 by omega) (Nat.le_of_ble_eq_true rfl) (rfl) (x := (k : Int)) ((hS459.a3.2.2 i).trans (((hgd i hi).1).trans ek)) dL_law_486 ?_
    refine V_iconst C dL_law_487 ?_
    refine V_callV C (As := [_, _]) (q_of hl hS459 (k := k) hk2 (by decide) v4) kL_44 hS459.ky rfl rfl (Nat.le_of_ble_eq_true rfl) ⟨(Nat.le_of_ble_eq_true rfl), (Nat.le_of_ble_eq_true rfl)⟩ ⟨(by show _ ≤ 600086; omega), (by show _ ≤ 7301442; omega)⟩ dL_law_488 (fun _ _ h => h.elim) (fun v488 Y488 hp => ?_)
    obtain ⟨rfl, hS488⟩ := hp
    refine V_iload C dL_law_491 rfl ?_
    refine V_if_ne C dL_law_493 (by omega) (fun h493 => ?_) (fun h493 => ?_)
    · refine V_iconst C dL_law_500 ?_
      refine V_icmp_eq C dL_law_501 (by split <;> omega) (by omega) (fun h501 => ?_) (fun h501 => absurd h501 (fun z => z (by first | rw [if_pos h493] | rw [if_neg h493])))
      refine V_aload C dL_law_506 rfl ?_
      refine V_iload C dL_law_508 rfl ?_
      refine V_iconst C dL_law_510 ?_
      refine V_iast C (j := i) hS488.a3.1 hS488.a3.2.1 (show i < 3 by omega) (Nat.le_of_ble_eq_true rfl) (rfl) dL_law_511 ?_
      have hS511 := hS488.put 3 (i) ((-1)) (by decide)
      refine V_goto C dL_law_512 ?_
      have r31 := hrows 31 (by omega)
      have r32 := hrows 32 (by omega)
      have r10 := hrows 10 (by omega)
      refine hend _ (unpS M k).1 (setA Mr 3 (i) ((-1))) n now ed _ _ _ _ _ _ ⟨hS511, hJ2, hn36, fun j hj => ?_, fun q hq => ?_, ⟨hb1.trans hnow, by omega⟩, hed, fun he => ⟨fun q hq => ?_, ?_⟩⟩ (by omega) (by omega)
      · rw [r32, r31]
        exact hcs j hj
      · refine ⟨?_, ?_⟩
        · rw [h12 q, h31, Int.toNat_natCast]
          show (if q = i then (-1 : Int) else Mr.2 3 q) = _
          rw [(hgd q hq).1]
        · rw [r10]
          exact (hgd q hq).2
      · rw [r10]
        exact (hed0 he).1 q hq
      · rw [hb2]
        exact (hed0 he).2
    · refine V_iconst C dL_law_496 ?_
      refine V_goto C dL_law_497 ?_
      refine V_icmp_eq C dL_law_501 (by split <;> omega) (by omega) (fun h501 => ?_) (fun h501 => absurd h501 (fun z => z (by first | rw [if_pos h493] | rw [if_neg h493])))
      refine V_aload C dL_law_506 rfl ?_
      refine V_iload C dL_law_508 rfl ?_
      refine V_iconst C dL_law_510 ?_
      refine V_iast C (j := i) hS488.a3.1 hS488.a3.2.1 (show i < 3 by omega) (Nat.le_of_ble_eq_true rfl) (rfl) dL_law_511 ?_
      have hS511 := hS488.put 3 (i) ((-1)) (by decide)
      refine V_goto C dL_law_512 ?_
      have r31 := hrows 31 (by omega)
      have r32 := hrows 32 (by omega)
      have r10 := hrows 10 (by omega)
      refine hend _ (unpS M k).1 (setA Mr 3 (i) ((-1))) n now ed _ _ _ _ _ _ ⟨hS511, hJ2, hn36, fun j hj => ?_, fun q hq => ?_, ⟨hb1.trans hnow, by omega⟩, hed, fun he => ⟨fun q hq => ?_, ?_⟩⟩ (by omega) (by omega)
      · rw [r32, r31]
        exact hcs j hj
      · refine ⟨?_, ?_⟩
        · rw [h12 q, h31, Int.toNat_natCast]
          show (if q = i then (-1 : Int) else Mr.2 3 q) = _
          rw [(hgd q hq).1]
        · rw [r10]
          exact (hgd q hq).2
      · rw [r10]
        exact (hed0 he).1 q hq
      · rw [hb2]
        exact (hed0 he).2
end LACT1
