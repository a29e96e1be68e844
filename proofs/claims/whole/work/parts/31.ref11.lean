/-! the reference: the last calls but pass -/
section REF11
variable {l : Launch} {D : va_G} {kA : Nat → ClassId} {b t0 mo : Nat} {ad : Nat → Nat} {M : Mo}
theorem sE {a b : Int} (h : a = b) : some (iv a) = some (iv b) := by rw [h]

set_option maxRecDepth 20000 in
theorem c_X10_unplug (hl : l.stackTraces = false) {z : Int} (hz : rng z) (hO : OkM M) : Cr l D kA b t0 mo ad yX10_unplug cX10_unplug 3 (some FieldType.int) 2 50 [rv (some mo), iv z] M (fun v M2 => M2 = (unpS M z).1 ∧ v = some (iv (unpS M z).2)) := by
  refine Cr_mk hl (by decide) (Nat.le_of_ble_eq_true rfl) rfl ?_
  intro X0 p e s m args below meth c C hr
  have h0 := hO.1
  unfold okSc at h0
  have hse := fun h => hO.2.2.2.2.1 z.toNat h
  unfold okSe okBi at hse
  refine R_aload_n C dX10_unplug_0 rfl ?_
  refine R_iconst C dX10_unplug_1 ?_
  refine R_putS C cl11 fX10_138 rfl (by decide) rfl dX10_unplug_2 ?_
  refine R_aload_n C dX10_unplug_5 rfl ?_
  refine R_iload_n C dX10_unplug_6 rfl ?_
  refine R_callVz C (As := [_]) (Cd := 0 ≤ z ∧ z < M.1 30) (c_X10_isSession hl (M := setS M 0 0) hz (show 0 ≤ M.1 30 ∧ M.1 30 ≤ 40 by omega)) kX10_214 rfl rfl (Nat.le_of_ble_eq_true rfl) ⟨by decide, by decide⟩ ⟨Nat.le_refl _, Nat.le_refl _⟩ dX10_unplug_7 (fun z7 hz7 => ?_)
  refine R_if_ne C dX10_unplug_10 (by omega) (fun h10 => ?_) (fun h10 => ?_)
  · refine R_aload_n C dX10_unplug_19 rfl ?_
    refine R_getA C cl11 fX10_90 (by decide) dX10_unplug_20 ?_
    refine R_iload_n C dX10_unplug_23 rfl ?_
    refine R_iald C (j := z.toNat) (kf := 34) rfl (show z.toNat < 40 by omega) (by omega) (x := M.2 34 (z.toNat)) rfl dX10_unplug_24 ?_
    refine R_iconst C dX10_unplug_25 ?_
    refine R_icmp_eq C dX10_unplug_26 (by omega) (by decide) (fun h26 => ?_) (fun h26 => ?_)
    · replace hse := hse (by omega)
      refine R_aload_n C dX10_unplug_35 rfl ?_
      refine R_getA C cl11 fX10_90 (by decide) dX10_unplug_36 ?_
      refine R_iload_n C dX10_unplug_39 rfl ?_
      refine R_iconst C dX10_unplug_40 ?_
      refine R_iast C (j := z.toNat) (kf := 34) rfl (show z.toNat < 40 by omega) (by omega) dX10_unplug_41 ?_
      refine R_aload_n C dX10_unplug_42 rfl ?_
      refine R_getA C cl11 fX10_33 (by decide) dX10_unplug_43 ?_
      refine R_aload_n C dX10_unplug_46 rfl ?_
      refine R_getA C cl11 fX10_81 (by decide) dX10_unplug_47 ?_
      refine R_iload_n C dX10_unplug_50 rfl ?_
      refine R_iald C (j := z.toNat) (kf := 31) rfl (show z.toNat < 40 by omega) (by omega) (x := M.2 31 (z.toNat)) rfl dX10_unplug_51 ?_
      refine R_iconst C dX10_unplug_52 ?_
      refine R_iast C (j := (M.2 31 z.toNat).toNat) (kf := 12) rfl (show (M.2 31 z.toNat).toNat < 8 by omega) (by omega) dX10_unplug_53 ?_
      refine R_aload_n C dX10_unplug_54 rfl ?_
      refine R_getA C cl11 fX10_99 (by decide) dX10_unplug_55 ?_
      refine R_iload_n C dX10_unplug_58 rfl ?_
      refine R_iald C (j := z.toNat) (kf := 37) rfl (show z.toNat < 40 by omega) (by omega) (x := M.2 37 (z.toNat)) rfl dX10_unplug_59 ?_
      refine R_aload_n C dX10_unplug_60 rfl ?_
      refine R_getA C cl11 fX10_102 (by decide) dX10_unplug_61 ?_
      refine R_iload_n C dX10_unplug_64 rfl ?_
      refine R_iald C (j := z.toNat) (kf := 38) rfl (show z.toNat < 40 by omega) (by omega) (x := M.2 38 (z.toNat)) rfl dX10_unplug_65 ?_
      refine R_isub C dX10_unplug_66 ?_
      refine R_istore_n C dX10_unplug_67 (by decide) rfl ?_
      refine R_iload_n C dX10_unplug_68 rfl ?_
      refine R_if_ne C dX10_unplug_69 (by omega) (fun h69 => ?_) (fun h69 => ?_)
      · refine R_iload_n C dX10_unplug_77 rfl ?_
        exact R_iret C ⟨by unfold unpS; (repeat' split) <;> first | rfl | omega, by unfold unpS; (repeat' split) <;> first | rfl | omega⟩ hr dX10_unplug_78
      · refine R_aload_n C dX10_unplug_72 rfl ?_
        refine R_iload_n C dX10_unplug_73 rfl ?_
        refine R_callVv C (As := [_]) (c_X10_payFor hl (M := setA (setA (setS M 0 0) 34 z.toNat 2) 12 (M.2 31 z.toNat).toNat (-1)) (k := z.toNat) (hO.T (by omega)) (hO.W (by omega)) (by omega) (show 0 ≤ M.2 39 z.toNat ∧ M.2 39 z.toNat ≤ 6000000 by omega) (show 0 ≤ M.2 40 z.toNat ∧ M.2 40 z.toNat ≤ 6000000 by omega) (show 0 ≤ M.2 41 z.toNat ∧ M.2 41 z.toNat ≤ 20000 by omega) (by omega)) kX10_181 rfl rfl (Nat.le_of_ble_eq_true rfl) ⟨by decide, by decide⟩ ⟨Nat.le_refl _, Nat.le_refl _⟩ dX10_unplug_74 ?_
        refine R_iload_n C dX10_unplug_77 rfl ?_
        exact R_iret C ⟨by unfold unpS; (repeat' split) <;> first | rfl | omega, by unfold unpS; (repeat' split) <;> first | rfl | omega⟩ hr dX10_unplug_78
    · refine R_aload_n C dX10_unplug_29 rfl ?_
      refine R_iconst C dX10_unplug_30 ?_
      refine R_callVi C (As := [_]) (c_X10_stop hl) kX10_158 rfl rfl (Nat.le_of_ble_eq_true rfl) ⟨by decide, by decide⟩ ⟨Nat.le_refl _, Nat.le_refl _⟩ dX10_unplug_31 ?_
      exact R_iret C ⟨by unfold unpS; (repeat' split) <;> first | rfl | omega, by unfold unpS; (repeat' split) <;> first | rfl | omega⟩ hr dX10_unplug_34
  · refine R_aload_n C dX10_unplug_13 rfl ?_
    refine R_iconst C dX10_unplug_14 ?_
    refine R_callVi C (As := [_]) (c_X10_stop hl) kX10_158 rfl rfl (Nat.le_of_ble_eq_true rfl) ⟨by decide, by decide⟩ ⟨Nat.le_refl _, Nat.le_refl _⟩ dX10_unplug_15 ?_
    exact R_iret C ⟨by unfold unpS; (repeat' split) <;> first | rfl | omega, by unfold unpS; (repeat' split) <;> first | rfl | omega⟩ hr dX10_unplug_18
set_option maxRecDepth 20000 in
theorem c_X10_dispute (hl : l.stackTraces = false) {z : Int} (hz : rng z) {h : Int} (hh : rng h) (hO : OkM M) : Cr l D kA b t0 mo ad yX10_dispute cX10_dispute 4 (some FieldType.int) 2 43 [rv (some mo), iv z, iv h] M (fun v M2 => M2 = (disS M z h).1 ∧ v = some (iv (disS M z h).2)) := by
  refine Cr_mk hl (by decide) (Nat.le_of_ble_eq_true rfl) rfl ?_
  intro X0 p e s m args below meth c C hr
  have h0 := hO.1
  unfold okSc at h0
  have hse := fun h => hO.2.2.2.2.1 z.toNat h
  unfold okSe okBi at hse
  refine R_aload_n C dX10_dispute_0 rfl ?_
  refine R_iconst C dX10_dispute_1 ?_
  refine R_putS C cl11 fX10_138 rfl (by decide) rfl dX10_dispute_2 ?_
  refine R_aload_n C dX10_dispute_5 rfl ?_
  refine R_iload_n C dX10_dispute_6 rfl ?_
  refine R_callVz C (As := [_]) (Cd := 0 ≤ z ∧ z < M.1 30) (c_X10_isSession hl (M := setS M 0 0) hz (show 0 ≤ M.1 30 ∧ M.1 30 ≤ 40 by omega)) kX10_214 rfl rfl (Nat.le_of_ble_eq_true rfl) ⟨by decide, by decide⟩ ⟨Nat.le_refl _, Nat.le_refl _⟩ dX10_dispute_7 (fun z7 hz7 => ?_)
  refine R_if_ne C dX10_dispute_10 (by omega) (fun h10 => ?_) (fun h10 => ?_)
  · refine R_iload_n C dX10_dispute_19 rfl ?_
    refine R_iconst C dX10_dispute_20 ?_
    refine R_bipush C dX10_dispute_21 (by decide) ?_
    refine R_callSz C (As := [_, _, _]) (c_X10_in hl (a := 1) (c := 100) hh (by omega) (by omega)) kX10_141 rfl rfl (Nat.le_of_ble_eq_true rfl) ⟨by decide, by decide⟩ ⟨Nat.le_refl _, Nat.le_refl _⟩ dX10_dispute_23 (fun z23 hz23 => ?_)
    refine R_if_ne C dX10_dispute_26 (by omega) (fun h26 => ?_) (fun h26 => ?_)
    · refine R_aload_n C dX10_dispute_35 rfl ?_
      replace hse := hse (by omega)
      have hm := mul_in (a := M.2 46 z.toNat) (c := h) (A := 21000000) (B := 100) (by omega) (by omega) (by omega) (by omega)
      refine R_getA C cl11 fX10_90 (by decide) dX10_dispute_36 ?_
      refine R_iload_n C dX10_dispute_39 rfl ?_
      refine R_iald C (j := z.toNat) (kf := 34) rfl (show z.toNat < 40 by omega) (by omega) (x := M.2 34 (z.toNat)) rfl dX10_dispute_40 ?_
      refine R_iconst C dX10_dispute_41 ?_
      refine R_icmp_ne C dX10_dispute_42 (by omega) (by decide) (fun h42 => ?_) (fun h42 => ?_)
      · refine R_aload_n C dX10_dispute_54 rfl ?_
        refine R_iconst C dX10_dispute_55 ?_
        refine R_callVi C (As := [_]) (c_X10_stop hl) kX10_158 rfl rfl (Nat.le_of_ble_eq_true rfl) ⟨by decide, by decide⟩ ⟨Nat.le_refl _, Nat.le_refl _⟩ dX10_dispute_56 ?_
        exact R_iret C ⟨by unfold disS; (repeat' split) <;> first | rfl | omega, by unfold disS; (repeat' split) <;> first | rfl | omega⟩ hr dX10_dispute_59
      · refine R_aload_n C dX10_dispute_45 rfl ?_
        refine R_getA C cl11 fX10_129 (by decide) dX10_dispute_46 ?_
        refine R_iload_n C dX10_dispute_49 rfl ?_
        refine R_zald C (j := z.toNat) (kf := 47) rfl (show z.toNat < 40 by omega) (by omega) (x := M.2 47 (z.toNat)) rfl dX10_dispute_50 ?_
        refine R_if_eq C dX10_dispute_51 (by omega) (fun h51 => ?_) (fun h51 => ?_)
        · refine R_aload_n C dX10_dispute_60 rfl ?_
          refine R_getA C cl11 fX10_129 (by decide) dX10_dispute_61 ?_
          refine R_iload_n C dX10_dispute_64 rfl ?_
          refine R_iconst C dX10_dispute_65 ?_
          refine R_zast C (j := z.toNat) (kf := 47) rfl (show z.toNat < 40 by omega) (by omega) (by first | omega | (split <;> omega)) dX10_dispute_66 ?_
          refine R_aload_n C dX10_dispute_67 rfl ?_
          refine R_getA C cl11 fX10_126 (by decide) dX10_dispute_68 ?_
          refine R_iload_n C dX10_dispute_71 rfl ?_
          refine R_iald C (j := z.toNat) (kf := 46) rfl (show z.toNat < 40 by omega) (by omega) (x := M.2 46 (z.toNat)) rfl dX10_dispute_72 ?_
          refine R_i2l C dX10_dispute_73 (by omega) ?_
          refine R_iload_n C dX10_dispute_74 rfl ?_
          refine R_i2l C dX10_dispute_75 hh ?_
          refine R_lmul C dX10_dispute_76 ?_
          refine R_ldc2 C dX10_dispute_77 qX10_209 ?_
          refine R_ldivN C dX10_dispute_80 (by omega) (by decide) (by omega) (by decide) ?_
          refine R_l2i C dX10_dispute_81 ?_
          refine R_istore_n C dX10_dispute_82 (by decide) rfl ?_
          refine R_aload_n C dX10_dispute_83 rfl ?_
          refine R_getA C cl11 fX10_57 (by decide) dX10_dispute_84 ?_
          refine R_aload_n C dX10_dispute_87 rfl ?_
          refine R_getA C cl11 fX10_87 (by decide) dX10_dispute_88 ?_
          refine R_iload_n C dX10_dispute_91 rfl ?_
          refine R_iald C (j := z.toNat) (kf := 33) rfl (show z.toNat < 40 by omega) (by omega) (x := M.2 33 (z.toNat)) rfl dX10_dispute_92 ?_
          refine R_dup2 C dX10_dispute_93 rfl rfl ?_
          refine R_iald C (j := (M.2 33 z.toNat).toNat) (kf := 22) rfl (show (M.2 33 z.toNat).toNat < 12 by omega) (by omega) (x := M.2 22 (M.2 33 z.toNat).toNat) rfl dX10_dispute_94 ?_
          refine R_iload_n C dX10_dispute_95 rfl ?_
          refine R_isub C dX10_dispute_96 ?_
          refine R_iast C (j := (M.2 33 z.toNat).toNat) (kf := 22) rfl (show (M.2 33 z.toNat).toNat < 12 by omega) (by omega) dX10_dispute_97 ?_
          refine R_aload_n C dX10_dispute_98 rfl ?_
          refine R_iload_n C dX10_dispute_99 rfl ?_
          refine R_ldc2 C dX10_dispute_100 qX10_207 ?_
          refine R_iload_n C dX10_dispute_103 rfl ?_
          refine R_i2l C dX10_dispute_104 (by omega) ?_
          refine R_lmul C dX10_dispute_105 ?_
          refine R_ldc2 C dX10_dispute_106 qX10_209 ?_
          refine R_ldivN C dX10_dispute_109 (by omega) (by decide) (by omega) (by decide) ?_
          refine R_l2i C dX10_dispute_110 ?_
          refine R_ineg C dX10_dispute_111 ?_
          refine R_callVv C (As := [_, _]) (c_X10_owe hl (M := setA (setA (setS M 0 0) 47 z.toNat 1) 22 (M.2 33 z.toNat).toNat (M.2 22 (M.2 33 z.toNat).toNat - M.2 46 z.toNat * h / 100)) (k := z.toNat) (hO.W (by omega)) (by omega) (by omega)) kX10_211 rfl rfl (Nat.le_of_ble_eq_true rfl) ⟨by decide, by decide⟩ ⟨Nat.le_refl _, Nat.le_refl _⟩ dX10_dispute_112 ?_
          refine R_iload_n C dX10_dispute_115 rfl ?_
          exact R_iret C ⟨by unfold disS; (repeat' split) <;> first | rfl | omega, by unfold disS; (repeat' split) <;> first | rfl | omega⟩ hr dX10_dispute_116
        · refine R_aload_n C dX10_dispute_54 rfl ?_
          refine R_iconst C dX10_dispute_55 ?_
          refine R_callVi C (As := [_]) (c_X10_stop hl) kX10_158 rfl rfl (Nat.le_of_ble_eq_true rfl) ⟨by decide, by decide⟩ ⟨Nat.le_refl _, Nat.le_refl _⟩ dX10_dispute_56 ?_
          exact R_iret C ⟨by unfold disS; (repeat' split) <;> first | rfl | omega, by unfold disS; (repeat' split) <;> first | rfl | omega⟩ hr dX10_dispute_59
    · refine R_aload_n C dX10_dispute_29 rfl ?_
      refine R_iconst C dX10_dispute_30 ?_
      refine R_callVi C (As := [_]) (c_X10_stop hl) kX10_158 rfl rfl (Nat.le_of_ble_eq_true rfl) ⟨by decide, by decide⟩ ⟨Nat.le_refl _, Nat.le_refl _⟩ dX10_dispute_31 ?_
      exact R_iret C ⟨by unfold disS; (repeat' split) <;> first | rfl | omega, by unfold disS; (repeat' split) <;> first | rfl | omega⟩ hr dX10_dispute_34
  · refine R_aload_n C dX10_dispute_13 rfl ?_
    refine R_iconst C dX10_dispute_14 ?_
    refine R_callVi C (As := [_]) (c_X10_stop hl) kX10_158 rfl rfl (Nat.le_of_ble_eq_true rfl) ⟨by decide, by decide⟩ ⟨Nat.le_refl _, Nat.le_refl _⟩ dX10_dispute_15 ?_
    exact R_iret C ⟨by unfold disS; (repeat' split) <;> first | rfl | omega, by unfold disS; (repeat' split) <;> first | rfl | omega⟩ hr dX10_dispute_18
set_option maxRecDepth 20000 in
theorem c_X10_power (hl : l.stackTraces = false) {n : Nat} {z : Int} (hz : rng z) (hO : OkM M) (hn : (n : Int) = M.1 30) : Cr l D kA b t0 mo ad yX10_power cX10_power 2 (some FieldType.int) 4 97 [rv (some mo), iv z] M (fun v M2 => M2 = (powS M n z).1 ∧ v = some (iv (powS M n z).2)) := by
  refine Cr_mk hl (by decide) (Nat.le_of_ble_eq_true rfl) rfl ?_
  intro X0 p e s m args below meth c C hr
  have h0 := hO.1
  unfold okSc at h0
  refine R_aload_n C dX10_power_0 rfl ?_
  refine R_iconst C dX10_power_1 ?_
  refine R_putS C cl11 fX10_138 rfl (by decide) rfl dX10_power_2 ?_
  refine R_aload_n C dX10_power_5 rfl ?_
  refine R_iload_n C dX10_power_6 rfl ?_
  refine R_callVz C (As := [_]) (Cd := 0 ≤ z ∧ z < M.1 30) (c_X10_isSession hl (M := setS M 0 0) hz (show 0 ≤ M.1 30 ∧ M.1 30 ≤ 40 by omega)) kX10_214 rfl rfl (Nat.le_of_ble_eq_true rfl) ⟨by decide, by decide⟩ ⟨Nat.le_refl _, Nat.le_refl _⟩ dX10_power_7 (fun z7 hz7 => ?_)
  refine R_if_ne C dX10_power_10 (by omega) (fun h10 => ?_) (fun h10 => ?_)
  · refine R_aload_n C dX10_power_19 rfl ?_
    refine R_callVi C (As := []) (c_X10_find hl (M := setS M 0 0) (n := n) (show OkM (setS M 0 0) from hO) hn) kX10_251 rfl rfl (Nat.le_of_ble_eq_true rfl) ⟨by decide, by decide⟩ ⟨Nat.le_refl _, Nat.le_refl _⟩ dX10_power_20 ?_
    refine R_pop C dX10_power_23 rfl ?_
    refine R_aload_n C dX10_power_24 rfl ?_
    refine R_getA C cl11 fX10_135 (by decide) dX10_power_25 ?_
    refine R_iload_n C dX10_power_28 rfl ?_
    refine R_iald C (j := z.toNat) (kf := 49) rfl (show z.toNat < 40 by omega) (by omega) (x := powM (setS M 0 0) n z.toNat) rfl dX10_power_29 ?_
    exact R_iret C ⟨by unfold powS; rw [if_pos (show 0 ≤ z ∧ z < M.1 30 by omega), powM_S]; rfl, by unfold powS; rw [if_pos (show 0 ≤ z ∧ z < M.1 30 by omega), powM_S]⟩ hr dX10_power_30
  · refine R_aload_n C dX10_power_13 rfl ?_
    refine R_iconst C dX10_power_14 ?_
    refine R_callVi C (As := [_]) (c_X10_stop hl) kX10_158 rfl rfl (Nat.le_of_ble_eq_true rfl) ⟨by decide, by decide⟩ ⟨Nat.le_refl _, Nat.le_refl _⟩ dX10_power_15 ?_
    exact R_iret C ⟨by unfold powS; rw [if_neg (show ¬ (0 ≤ z ∧ z < M.1 30) by omega)]; rfl, by unfold powS; rw [if_neg (show ¬ (0 ≤ z ∧ z < M.1 30) by omega)]⟩ hr dX10_power_18
set_option maxRecDepth 20000 in
theorem c_X10_powerAnew (hl : l.stackTraces = false) {n : Nat} {z : Int} (hz : rng z) (hO : OkM M) (hn : (n : Int) = M.1 30) : Cr l D kA b t0 mo ad yX10_powerAnew cX10_powerAnew 2 (some FieldType.int) 5 118 [rv (some mo), iv z] M (fun v M2 => M2 = (powS M n z).1 ∧ v = some (iv (powS M n z).2)) := by
  refine Cr_mk hl (by decide) (Nat.le_of_ble_eq_true rfl) rfl ?_
  intro X0 p e s m args below meth c C hr
  refine R_aload_n C dX10_powerAnew_0 rfl ?_
  refine R_iload_n C dX10_powerAnew_1 rfl ?_
  refine R_callVi C (As := [_]) (c_X10_power hl (n := n) hz hO hn) kX10_261 rfl rfl (Nat.le_of_ble_eq_true rfl) ⟨by decide, by decide⟩ ⟨Nat.le_refl _, Nat.le_refl _⟩ dX10_powerAnew_2 ?_
  exact R_iret C ⟨rfl, rfl⟩ hr dX10_powerAnew_5
set_option maxRecDepth 20000 in
theorem c_X10_link (hl : l.stackTraces = false) {n : Nat} {z u : Int} (hz : rng z) (hu : u = 0 ∨ u = 1) (hO : OkM M) (hn : (n : Int) = M.1 30) : Cr l D kA b t0 mo ad yX10_link cX10_link 5 (some FieldType.int) 3 72 [rv (some mo), iv z, iv u] M (fun v M2 => M2 = (linS M n z u).1 ∧ v = some (iv (linS M n z u).2)) := by
  refine Cr_mk hl (by decide) (Nat.le_of_ble_eq_true rfl) rfl ?_
  intro X0 p e s m args below meth c C hr
  have h0 := hO.1
  unfold okSc at h0
  refine R_aload_n C dX10_link_0 rfl ?_
  refine R_iconst C dX10_link_1 ?_
  refine R_putS C cl11 fX10_138 rfl (by decide) rfl dX10_link_2 ?_
  refine R_aload_n C dX10_link_5 rfl ?_
  refine R_iload_n C dX10_link_6 rfl ?_
  refine R_callVz C (As := [_]) (Cd := 0 ≤ z ∧ z < M.1 6) (c_X10_isSocket hl (M := setS M 0 0) hz (show 0 ≤ M.1 6 ∧ M.1 6 ≤ 40 by omega)) kX10_178 rfl rfl (Nat.le_of_ble_eq_true rfl) ⟨by decide, by decide⟩ ⟨Nat.le_refl _, Nat.le_refl _⟩ dX10_link_7 (fun z7 hz7 => ?_)
  refine R_if_ne C dX10_link_10 (by omega) (fun h10 => ?_) (fun h10 => ?_)
  · have h2 := hO.2.1 z.toNat (by omega)
    unfold okSo at h2
    refine R_iload_n C dX10_link_19 rfl ?_
    refine R_aload_n C dX10_link_20 rfl ?_
    refine R_getA C cl11 fX10_27 (by decide) dX10_link_21 ?_
    refine R_iload_n C dX10_link_24 rfl ?_
    refine R_zald C (j := z.toNat) (kf := 10) rfl (show z.toNat < 8 by omega) (by omega) (x := M.2 10 (z.toNat)) rfl dX10_link_25 ?_
    refine R_icmp_eq C dX10_link_26 (by omega) (by omega) (fun h26 => ?_) (fun h26 => ?_)
    · refine R_aload_n C dX10_link_31 rfl ?_
      refine R_getA C cl11 fX10_27 (by decide) dX10_link_32 ?_
      refine R_iload_n C dX10_link_35 rfl ?_
      refine R_join C (pcm := 45) (P := fun z => z = (if u = 1 then 0 else 1)) (fun hj => ?_) (fun z1 hz1 => ?_)
      · refine R_iload_n C dX10_link_36 rfl ?_
        refine R_if_ne C dX10_link_37 (by omega) (fun h37 => ?_) (fun h37 => ?_)
        · refine R_iconst C dX10_link_44 ?_
          exact hj _ (by split <;> omega)
        · refine R_iconst C dX10_link_40 ?_
          refine R_goto C dX10_link_41 ?_
          exact hj _ (by split <;> omega)
      refine R_zast C (j := z.toNat) (kf := 10) rfl (show z.toNat < 8 by omega) (by omega) (by first | omega | (split <;> omega)) dX10_link_45 ?_
      refine R_iconst C dX10_link_46 ?_
      refine R_istore_n C dX10_link_47 (by decide) rfl ?_
      refine R_iload_n C dX10_link_48 rfl ?_
      refine R_if_eq C dX10_link_49 (by omega) (fun h49 => ?_) (fun h49 => ?_)
      · obtain rfl : u = 0 := by omega
        obtain rfl : z1 = 1 := by rw [hz1]; rfl
        refine R_aload_n C dX10_link_97 rfl ?_
        refine R_getA C cl11 fX10_30 (by decide) dX10_link_98 ?_
        refine R_iload_n C dX10_link_101 rfl ?_
        refine R_aload_n C dX10_link_102 rfl ?_
        refine R_getS C cl11 fX10_188 (x := M.1 1) rfl (by decide) dX10_link_103 ?_
        refine R_iast C (j := z.toNat) (kf := 11) rfl (show z.toNat < 8 by omega) (by omega) dX10_link_106 ?_
        refine R_aload_n C dX10_link_107 rfl ?_
        refine R_getA C cl11 fX10_33 (by decide) dX10_link_108 ?_
        refine R_iload_n C dX10_link_111 rfl ?_
        refine R_iald C (j := z.toNat) (kf := 12) rfl (show z.toNat < 8 by omega) (by omega) (x := M.2 12 (z.toNat)) rfl dX10_link_112 ?_
        refine R_iconst C dX10_link_113 ?_
        refine R_icmp_eq C dX10_link_114 (by omega) (by decide) (fun h114 => ?_) (fun h114 => ?_)
        · refine R_iload_n C dX10_link_139 rfl ?_
          exact R_iret C ⟨by unfold linS; rw [if_pos (show 0 ≤ z ∧ z < M.1 6 by omega), if_pos (show (0 : Int) = M.2 10 z.toNat by omega), if_neg (by decide)]; first | (rw [if_pos (show M.2 12 z.toNat = -1 by omega)]; done) | (rw [if_pos (show M.2 12 z.toNat = -1 by omega)]; rfl) | (rw [if_neg (show ¬ M.2 12 z.toNat = -1 by omega)]; done) | (rw [if_neg (show ¬ M.2 12 z.toNat = -1 by omega)]; rfl), by unfold linS; rw [if_pos (show 0 ≤ z ∧ z < M.1 6 by omega), if_pos (show (0 : Int) = M.2 10 z.toNat by omega), if_neg (by decide)]⟩ hr dX10_link_140
        · refine R_aload_n C dX10_link_117 rfl ?_
          refine R_getA C cl11 fX10_123 (by decide) dX10_link_118 ?_
          refine R_aload_n C dX10_link_121 rfl ?_
          refine R_getA C cl11 fX10_33 (by decide) dX10_link_122 ?_
          refine R_iload_n C dX10_link_125 rfl ?_
          refine R_iald C (j := z.toNat) (kf := 12) rfl (show z.toNat < 8 by omega) (by omega) (x := M.2 12 (z.toNat)) rfl dX10_link_126 ?_
          refine R_aload_n C dX10_link_127 rfl ?_
          refine R_getA C cl11 fX10_96 (by decide) dX10_link_128 ?_
          refine R_aload_n C dX10_link_131 rfl ?_
          refine R_getA C cl11 fX10_33 (by decide) dX10_link_132 ?_
          refine R_iload_n C dX10_link_135 rfl ?_
          refine R_iald C (j := z.toNat) (kf := 12) rfl (show z.toNat < 8 by omega) (by omega) (x := M.2 12 (z.toNat)) rfl dX10_link_136 ?_
          refine R_iald C (j := (M.2 12 z.toNat).toNat) (kf := 36) rfl (show (M.2 12 z.toNat).toNat < 40 by omega) (by omega) (x := M.2 36 (M.2 12 z.toNat).toNat) rfl dX10_link_137 ?_
          refine R_iast C (j := (M.2 12 z.toNat).toNat) (kf := 45) rfl (show (M.2 12 z.toNat).toNat < 40 by omega) (by omega) dX10_link_138 ?_
          refine R_iload_n C dX10_link_139 rfl ?_
          exact R_iret C ⟨by unfold linS; rw [if_pos (show 0 ≤ z ∧ z < M.1 6 by omega), if_pos (show (0 : Int) = M.2 10 z.toNat by omega), if_neg (by decide)]; first | (rw [if_pos (show M.2 12 z.toNat = -1 by omega)]; done) | (rw [if_pos (show M.2 12 z.toNat = -1 by omega)]; rfl) | (rw [if_neg (show ¬ M.2 12 z.toNat = -1 by omega)]; done) | (rw [if_neg (show ¬ M.2 12 z.toNat = -1 by omega)]; rfl), by unfold linS; rw [if_pos (show 0 ≤ z ∧ z < M.1 6 by omega), if_pos (show (0 : Int) = M.2 10 z.toNat by omega), if_neg (by decide)]⟩ hr dX10_link_140
      · obtain rfl : u = 1 := by omega
        obtain rfl : z1 = 0 := by rw [hz1]; rfl
        refine R_iconst C dX10_link_52 ?_
        refine R_istore C dX10_link_53 (by decide) rfl ?_
        obtain ⟨M1, hM1⟩ : ∃ M1, M1 = setA (setS M 0 0) 10 z.toNat 0 := ⟨_, rfl⟩
        refine R_while C (St := Nat) (f := fun x => hrM M1 z x) (g := fun x => [some (rv (some mo)), some (iv z), some (iv 1), some (iv (hrN M z x)), some (iv (x : Int))]) (μ := fun x => 41 - x) (I := fun x => (x : Int) ≤ M.1 30) (x0 := 0) hM1 rfl (by omega) ?_
        intro k hk ih
        try dsimp only at hk ih ⊢
        obtain ⟨hs, hr9, h34, -⟩ := hrM_st M1 z k
        have hs1 : (hrM M1 z k).1 30 = M.1 30 := by rw [hs, hM1]; rfl
        have hr7 : ∀ j, j = 24 ∨ j = 33 ∨ j = 18 ∨ j = 31 ∨ j = 7 ∨ j = 39 ∨ j = 40 ∨ j = 41 ∨ j = 37 → (hrM M1 z k).2 j = M.2 j := fun j hj => by rw [hr9 j hj, hM1]; rcases hj with rfl | rfl | rfl | rfl | rfl | rfl | rfl | rfl | rfl <;> rfl
        have h34' : (hrM M1 z k).2 34 k = M.2 34 k := by rw [h34 k (Nat.le_refl _), hM1]; rfl
        have h38' : (hrM M1 z k).2 38 k = M.2 38 k := by rw [(hrM_st M1 z k).2.2.2 k (Nat.le_refl _), hM1]; rfl
        refine R_iload C dX10_link_55 rfl ?_
        refine R_aload_n C dX10_link_57 rfl ?_
        refine R_getS C cl11 fX10_151 (x := M.1 30) hs1 (by decide) dX10_link_58 ?_
        refine R_icmp_ge C dX10_link_61 (by omega) (by omega) (fun h61 => ?_) (fun h61 => ?_)
        · obtain rfl : n = k := by omega
          refine R_goto C dX10_link_94 ?_
          refine R_iload_n C dX10_link_139 rfl ?_
          exact R_iret C ⟨by unfold linS; rw [if_pos (show 0 ≤ z ∧ z < M.1 6 by omega), if_pos (show (1 : Int) = M.2 10 z.toNat by omega), if_pos rfl, hM1], by unfold linS; rw [if_pos (show 0 ≤ z ∧ z < M.1 6 by omega), if_pos (show (1 : Int) = M.2 10 z.toNat by omega), if_pos rfl]⟩ hr dX10_link_140
        · have hk2 : (k : Int) < M.1 30 := by omega
          have h1 := hO.2.2.2.2.1 k hk2
          unfold okSe okBi at h1
          have hT : okT (hrM M1 z k) k := by unfold okT; rw [hr7 24 (by decide)]; exact hO.T (by omega)
          have hw : okW (hrM M1 z k) k := by unfold okW; rw [hr7 33 (by decide), hr7 18 (by decide), hr7 31 (by decide), hr7 7 (by decide)]; exact hO.W hk2
          refine R_iload_n C dX10_link_64 rfl ?_
          refine R_aload_n C dX10_link_65 rfl ?_
          refine R_getA C cl11 fX10_81 (by decide) dX10_link_66 ?_
          refine R_iload C dX10_link_69 rfl ?_
          refine R_iald C (j := k) (kf := 31) rfl (show k < 40 by omega) rfl (x := M.2 31 k) (congrFun (hr7 31 (by decide)) _) dX10_link_71 ?_
          refine R_iload_n C dX10_link_72 rfl ?_
          refine R_icmp_ne C dX10_link_73 (by omega) hz (fun h73 => ?_) (fun h73 => ?_)
          · refine R_iconst C dX10_link_85 ?_
            refine R_iadd C dX10_link_86 ?_
            refine R_istore_n C dX10_link_87 (by decide) rfl ?_
            refine R_iinc C dX10_link_88 (by decide) rfl rfl ?_
            refine R_goto C dX10_link_91 ?_
            have h8 := ih (k + 1) (by omega) (by omega)
            have e1 : hrM M1 z (k + 1) = if M1.2 31 k = z then hearM (hrM M1 z k) k else hrM M1 z k := rfl
            have e2 : hrN M z (k + 1) = hrN M z k + if M.2 31 k = z then M.2 37 k - M.2 38 k else 0 := rfl
            have e3 : M1.2 31 = M.2 31 := by rw [hM1]; rfl
            rw [e1, e2, e3] at h8
            first | (rw [if_pos (show M.2 31 k = z by omega), if_pos (show M.2 31 k = z by omega)] at h8; exact h8) | (rw [if_neg (show ¬ M.2 31 k = z by omega), if_neg (show ¬ M.2 31 k = z by omega)] at h8; exact h8)
          · refine R_aload_n C dX10_link_76 rfl ?_
            refine R_iload C dX10_link_77 rfl ?_
            refine R_callVi C (As := [_]) (c_X10_hear hl (M := hrM M1 z k) (k := k) hT hw (by omega) (by rw [hr7 39 (by decide)]; omega) (by rw [hr7 40 (by decide)]; omega) (by rw [hr7 41 (by decide)]; omega) (by rw [h34']; omega)) kX10_185 rfl rfl (Nat.le_of_ble_eq_true rfl) ⟨by decide, by decide⟩ ⟨Nat.le_refl _, Nat.le_refl _⟩ dX10_link_79 ?_
            rw [hr7 37 (by decide), h38']
            refine R_goto C dX10_link_82 ?_
            refine R_iadd C dX10_link_86 ?_
            refine R_istore_n C dX10_link_87 (by decide) rfl ?_
            refine R_iinc C dX10_link_88 (by decide) rfl rfl ?_
            refine R_goto C dX10_link_91 ?_
            have h8 := ih (k + 1) (by omega) (by omega)
            have e1 : hrM M1 z (k + 1) = if M1.2 31 k = z then hearM (hrM M1 z k) k else hrM M1 z k := rfl
            have e2 : hrN M z (k + 1) = hrN M z k + if M.2 31 k = z then M.2 37 k - M.2 38 k else 0 := rfl
            have e3 : M1.2 31 = M.2 31 := by rw [hM1]; rfl
            rw [e1, e2, e3] at h8
            first | (rw [if_pos (show M.2 31 k = z by omega), if_pos (show M.2 31 k = z by omega)] at h8; exact h8) | (rw [if_neg (show ¬ M.2 31 k = z by omega), if_neg (show ¬ M.2 31 k = z by omega)] at h8; exact h8)
    · refine R_iconst C dX10_link_29 ?_
      exact R_iret C ⟨by unfold linS; rw [if_pos (show 0 ≤ z ∧ z < M.1 6 by omega), if_neg (show ¬ u = M.2 10 z.toNat by omega)], by unfold linS; rw [if_pos (show 0 ≤ z ∧ z < M.1 6 by omega), if_neg (show ¬ u = M.2 10 z.toNat by omega)]⟩ hr dX10_link_30
  · refine R_aload_n C dX10_link_13 rfl ?_
    refine R_iconst C dX10_link_14 ?_
    refine R_callVi C (As := [_]) (c_X10_stop hl) kX10_158 rfl rfl (Nat.le_of_ble_eq_true rfl) ⟨by decide, by decide⟩ ⟨Nat.le_refl _, Nat.le_refl _⟩ dX10_link_15 ?_
    exact R_iret C ⟨by unfold linS; rw [if_neg (show ¬ (0 ≤ z ∧ z < M.1 6) by omega)]; rfl, by unfold linS; rw [if_neg (show ¬ (0 ≤ z ∧ z < M.1 6) by omega)]⟩ hr dX10_link_18
end REF11
