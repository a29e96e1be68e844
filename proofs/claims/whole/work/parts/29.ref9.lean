/-! the reference: its calls -/
def m0 (M : Mo) : Mo := setS M 0 0
def stp (M : Mo) (k : Int) : Mo := setS (setS M 0 0) 0 k
def socS (M : Mo) (f w : Int) : Mo × Int := if 0 ≤ f ∧ f ≤ 2 then (if 1400 ≤ w ∧ w ≤ 50000 then (if M.1 6 = 8 then (stp M 3, 0) else (setS (setA (setA (setS M 0 0) 7 (M.1 6).toNat f) 8 (M.1 6).toNat w) 6 (M.1 6 + 1), M.1 6 + 1 - 1)) else (stp M 2, 0)) else (stp M 1, 0)
def carS (M : Mo) (c h w : Int) : Mo × Int := if (1 ≤ c ∧ c ≤ 6000000) ∧ (0 ≤ h ∧ h ≤ c) ∧ (1 ≤ w ∧ w ≤ 50000) then (if M.1 13 = 12 then (stp M 2, 0) else (setS (setA (setA (setA (setS M 0 0) 14 (M.1 13).toNat c) 15 (M.1 13).toNat h) 16 (M.1 13).toNat w) 13 (M.1 13 + 1), M.1 13 + 1 - 1)) else (stp M 1, 0)
def cdS (M : Mo) (f r : Int) : Mo × Int := if 0 ≤ f ∧ f ≤ 2 then (if 0 ≤ r ∧ r ≤ 3 then (if M.1 17 = 12 then (stp M 3, 0) else (setS (setA (setA (setA (setS M 0 0) 18 (M.1 17).toNat f) 19 (M.1 17).toNat r) 20 (M.1 17).toNat 1) 17 (M.1 17 + 1), M.1 17 + 1 - 1)) else (stp M 2, 0)) else (stp M 1, 0)
def goodS (M : Mo) (z u : Int) : Mo × Int := if 0 ≤ z ∧ z < M.1 17 then (setA (setS M 0 0) 20 z.toNat u, M.2 20 z.toNat) else (stp M 1, 0)
def fauS (M : Mo) (z u : Int) : Mo × Int := if 0 ≤ z ∧ z < M.1 6 then (setA (setS M 0 0) 9 z.toNat u, M.2 9 z.toNat) else (stp M 1, 0)
def setSS (M : Mo) (w v : Int) : Mo × Int := if (w = 0 ∧ 0 ≤ v ∧ v ≤ 200000) ∨ (w = 1 ∧ 0 ≤ v ∧ v ≤ 100000) ∨ (w = 2 ∧ -50 ≤ v ∧ v ≤ 50) then (setS (setS (setS (setS M 0 0) 3 (if w = 0 then v else M.1 3)) 4 (if w = 1 then v else M.1 4)) 5 (if w = 2 then v else M.1 5), if w = 0 then M.1 3 else if w = 1 then M.1 4 else M.1 5) else (stp M 1, 0)
def tarS (M : Mo) (f s d n i : Int) : Mo := if 0 ≤ f ∧ f ≤ 2 then (if (0 ≤ s ∧ s ≤ 1000) ∧ (0 ≤ d ∧ d ≤ 1000) ∧ (0 ≤ n ∧ n ≤ 1000) ∧ (0 ≤ i ∧ i ≤ 1000) then setA (setA (setA (setA (setS M 0 0) 23 (4 * f.toNat) s) 23 (4 * f.toNat + 1) d) 23 (4 * f.toNat + 2) n) 23 (4 * f.toNat + 3) i else stp M 2) else stp M 1
def ofS (M : Mo) (z w : Int) : Mo × Int := if 0 ≤ z ∧ z < M.1 30 then (if 0 ≤ w ∧ w ≤ 6 then (setS M 0 0, if w = 0 then M.2 36 z.toNat else if w = 1 then M.2 35 z.toNat else if w = 2 then M.2 37 z.toNat else if w = 3 then M.2 38 z.toNat else if w = 4 then M.2 34 z.toNat else if w = 5 then M.2 32 z.toNat else M.2 31 z.toNat) else (stp M 2, 0)) else (stp M 1, 0)
def chaS (M : Mo) (z : Int) : Mo × Int := if 0 ≤ z ∧ z < M.1 13 then (setS M 0 0, M.2 15 z.toNat) else (stp M 1, 0)
def bilS (M : Mo) (z : Int) : Mo × Int := if 0 ≤ z ∧ z < M.1 30 then (setS M 0 0, billM M z.toNat (M.2 42 z.toNat) (M.2 43 z.toNat) (M.2 44 z.toNat)) else (stp M 1, 0)
def bilA (M : Mo) (z : Int) : Mo × Int := if 0 ≤ z ∧ z < M.1 30 then (setS M 0 0, billM M z.toNat (M.2 39 z.toNat) (M.2 40 z.toNat) (M.2 41 z.toNat)) else (stp M 1, 0)
def disS (M : Mo) (z h : Int) : Mo × Int := if 0 ≤ z ∧ z < M.1 30 then (if 1 ≤ h ∧ h ≤ 100 then (if M.2 34 z.toNat = 3 ∧ M.2 47 z.toNat = 0 then (oweM (setA (setA (setS M 0 0) 47 z.toNat 1) 22 (M.2 33 z.toNat).toNat (M.2 22 (M.2 33 z.toNat).toNat - M.2 46 z.toNat * h / 100)) z.toNat (-(95 * (M.2 46 z.toNat * h / 100) / 100)), M.2 46 z.toNat * h / 100) else (stp M 3, 0)) else (stp M 2, 0)) else (stp M 1, 0)
def oweS (M : Mo) (z : Int) : Mo × Int := if 0 ≤ z ∧ z < M.1 17 then (setS M 0 0, M.2 22 z.toNat) else (stp M 1, 0)
/-- what the firm f is owed, less what it owes -/
def acF (M : Mo) (f : Nat) : Int := sumF (fun k => if M.2 18 k = (f : Int) then M.2 22 k else 0) (M.1 17).toNat + sumF (fun k => M.2 25 (3 * k + f) - M.2 25 (3 * f + k)) 3
def accS (M : Mo) (z : Int) : Mo × Int := if 0 ≤ z ∧ z ≤ 2 then (setS M 0 0, acF M z.toNat) else (stp M 1, 0)
def unpS (M : Mo) (z : Int) : Mo × Int := if 0 ≤ z ∧ z < M.1 30 then (if M.2 34 z.toNat = 1 then (if M.2 37 z.toNat - M.2 38 z.toNat = 0 then payM (setA (setA (setS M 0 0) 34 z.toNat 2) 12 (M.2 31 z.toNat).toNat (-1)) z.toNat else setA (setA (setS M 0 0) 34 z.toNat 2) 12 (M.2 31 z.toNat).toNat (-1), M.2 37 z.toNat - M.2 38 z.toNat) else (stp M 2, 0)) else (stp M 1, 0)
theorem pf1 {c : Prop} [Decidable c] {x : Mo} {y : Int} {q : Mo × Int} (h : c) : x = (if c then (x, y) else q).1 := by rw [if_pos h]
theorem pf2 {c : Prop} [Decidable c] {x : Mo} {y : Int} {q : Mo × Int} (h : ¬ c) : x = (if c then q else (x, y)).1 := by rw [if_neg h]
theorem ps1 {c : Prop} [Decidable c] {x : Mo} {y : Int} {q : Mo × Int} (h : c) : some (iv y) = some (iv (if c then (x, y) else q).2) := by rw [if_pos h]
theorem ps2 {c : Prop} [Decidable c] {x : Mo} {y : Int} {q : Mo × Int} (h : ¬ c) : some (iv y) = some (iv (if c then q else (x, y)).2) := by rw [if_neg h]
section REF9
variable {l : Launch} {D : va_G} {kA : Nat → ClassId} {b t0 mo : Nat} {ad : Nat → Nat} {M : Mo}

set_option maxRecDepth 20000 in
theorem c_X10_socket (hl : l.stackTraces = false) {f : Int} (hf : rng f) {w : Int} (hw : rng w) (hO : OkM M) : Cr l D kA b t0 mo ad yX10_socket cX10_socket 3 (some FieldType.int) 2 42 [rv (some mo), iv f, iv w] M (fun v M2 => M2 = (socS M f w).1 ∧ v = some (iv (socS M f w).2)) := by
  refine Cr_mk hl (by decide) (Nat.le_of_ble_eq_true rfl) rfl ?_
  intro X0 p e s m args below meth c C hr
  have h0 := hO.1
  unfold okSc at h0

  refine R_aload_n C dX10_socket_0 rfl ?_
  refine R_iconst C dX10_socket_1 ?_
  refine R_putS C cl11 fX10_138 rfl (by decide) rfl dX10_socket_2 ?_
  refine R_iload_n C dX10_socket_5 rfl ?_
  refine R_callSz C (As := [_]) (c_X10_isFirm hl hf) kX10_154 rfl rfl (Nat.le_of_ble_eq_true rfl) ⟨by decide, by decide⟩ ⟨Nat.le_refl _, Nat.le_refl _⟩ dX10_socket_6 (fun z6 hz6 => ?_)
  refine R_if_ne C dX10_socket_9 (by omega) (fun h9 => ?_) (fun h9 => ?_)
  · refine R_iload_n C dX10_socket_18 rfl ?_
    refine R_sipush C dX10_socket_19 (by decide) ?_
    refine R_ldc C dX10_socket_22 qX10_162 ?_
    refine R_callSz C (As := [_, _, _]) (c_X10_in hl (a := 1400) (c := 50000) hw (by omega) (by omega)) kX10_141 rfl rfl (Nat.le_of_ble_eq_true rfl) ⟨by decide, by decide⟩ ⟨Nat.le_refl _, Nat.le_refl _⟩ dX10_socket_24 (fun z24 hz24 => ?_)
    refine R_if_ne C dX10_socket_27 (by omega) (fun h27 => ?_) (fun h27 => ?_)
    · refine R_aload_n C dX10_socket_36 rfl ?_
      refine R_getS C cl11 fX10_145 (x := M.1 6) rfl (by decide) dX10_socket_37 ?_
      refine R_bipush C dX10_socket_40 (by decide) ?_
      refine R_icmp_ne C dX10_socket_42 (by omega) (by decide) (fun h42 => ?_) (fun h42 => ?_)
      · refine R_aload_n C dX10_socket_51 rfl ?_
        refine R_getA C cl11 fX10_16 (by decide) dX10_socket_52 ?_
        refine R_aload_n C dX10_socket_55 rfl ?_
        refine R_getS C cl11 fX10_145 (x := M.1 6) rfl (by decide) dX10_socket_56 ?_
        refine R_iload_n C dX10_socket_59 rfl ?_
        refine R_iast C (j := (M.1 6).toNat) (kf := 7) rfl (show (M.1 6).toNat < 8 by omega) (by omega) dX10_socket_60 ?_
        refine R_aload_n C dX10_socket_61 rfl ?_
        refine R_getA C cl11 fX10_20 (by decide) dX10_socket_62 ?_
        refine R_aload_n C dX10_socket_65 rfl ?_
        refine R_getS C cl11 fX10_145 (x := M.1 6) rfl (by decide) dX10_socket_66 ?_
        refine R_iload_n C dX10_socket_69 rfl ?_
        refine R_iast C (j := (M.1 6).toNat) (kf := 8) rfl (show (M.1 6).toNat < 8 by omega) (by omega) dX10_socket_70 ?_
        refine R_aload_n C dX10_socket_71 rfl ?_
        refine R_dup C dX10_socket_72 rfl ?_
        refine R_getS C cl11 fX10_145 (x := M.1 6) rfl (by decide) dX10_socket_73 ?_
        refine R_iconst C dX10_socket_76 ?_
        refine R_iadd C dX10_socket_77 ?_
        refine R_putS C cl11 fX10_145 rfl (by decide) rfl dX10_socket_78 ?_
        refine R_aload_n C dX10_socket_81 rfl ?_
        refine R_getS C cl11 fX10_145 (x := _) rfl (by decide) dX10_socket_82 ?_
        refine R_iconst C dX10_socket_85 ?_
        refine R_isub C dX10_socket_86 ?_
        exact R_iret C ⟨by unfold socS; (repeat' split) <;> first | rfl | omega, by unfold socS; (repeat' split) <;> first | rfl | omega⟩ hr dX10_socket_87
      · refine R_aload_n C dX10_socket_45 rfl ?_
        refine R_iconst C dX10_socket_46 ?_
        refine R_callVi C (As := [_]) (c_X10_stop hl) kX10_158 rfl rfl (Nat.le_of_ble_eq_true rfl) ⟨by decide, by decide⟩ ⟨Nat.le_refl _, Nat.le_refl _⟩ dX10_socket_47 ?_
        exact R_iret C ⟨by unfold socS; (repeat' split) <;> first | rfl | omega, by unfold socS; (repeat' split) <;> first | rfl | omega⟩ hr dX10_socket_50
    · refine R_aload_n C dX10_socket_30 rfl ?_
      refine R_iconst C dX10_socket_31 ?_
      refine R_callVi C (As := [_]) (c_X10_stop hl) kX10_158 rfl rfl (Nat.le_of_ble_eq_true rfl) ⟨by decide, by decide⟩ ⟨Nat.le_refl _, Nat.le_refl _⟩ dX10_socket_32 ?_
      exact R_iret C ⟨by unfold socS; (repeat' split) <;> first | rfl | omega, by unfold socS; (repeat' split) <;> first | rfl | omega⟩ hr dX10_socket_35
  · refine R_aload_n C dX10_socket_12 rfl ?_
    refine R_iconst C dX10_socket_13 ?_
    refine R_callVi C (As := [_]) (c_X10_stop hl) kX10_158 rfl rfl (Nat.le_of_ble_eq_true rfl) ⟨by decide, by decide⟩ ⟨Nat.le_refl _, Nat.le_refl _⟩ dX10_socket_14 ?_
    exact R_iret C ⟨by unfold socS; (repeat' split) <;> first | rfl | omega, by unfold socS; (repeat' split) <;> first | rfl | omega⟩ hr dX10_socket_17
set_option maxRecDepth 20000 in
theorem c_X10_car (hl : l.stackTraces = false) {c : Int} (hc : rng c) {h : Int} (hh : rng h) {w : Int} (hw : rng w) (hO : OkM M) : Cr l D kA b t0 mo ad yX10_car cX10_car 4 (some FieldType.int) 1 22 [rv (some mo), iv c, iv h, iv w] M (fun v M2 => M2 = (carS M c h w).1 ∧ v = some (iv (carS M c h w).2)) := by
  refine Cr_mk hl (by decide) (Nat.le_of_ble_eq_true rfl) rfl ?_
  intro X0 p e s m args below meth c9 C hr
  have h0 := hO.1
  unfold okSc at h0

  refine R_aload_n C dX10_car_0 rfl ?_
  refine R_iconst C dX10_car_1 ?_
  refine R_putS C cl11 fX10_138 rfl (by decide) rfl dX10_car_2 ?_
  refine R_iload_n C dX10_car_5 rfl ?_
  refine R_iconst C dX10_car_6 ?_
  refine R_ldc C dX10_car_7 qX10_163 ?_
  refine R_callSz C (As := [_, _, _]) (c_X10_in hl (a := 1) (c := 6000000) hc (by omega) (by omega)) kX10_141 rfl rfl (Nat.le_of_ble_eq_true rfl) ⟨by decide, by decide⟩ ⟨Nat.le_refl _, Nat.le_refl _⟩ dX10_car_9 (fun z9 hz9 => ?_)
  refine R_if_eq C dX10_car_12 (by omega) (fun h12 => ?_) (fun h12 => ?_)
  · refine R_aload_n C dX10_car_34 rfl ?_
    refine R_iconst C dX10_car_35 ?_
    refine R_callVi C (As := [_]) (c_X10_stop hl) kX10_158 rfl rfl (Nat.le_of_ble_eq_true rfl) ⟨by decide, by decide⟩ ⟨Nat.le_refl _, Nat.le_refl _⟩ dX10_car_36 ?_
    exact R_iret C ⟨by unfold carS; (repeat' split) <;> first | rfl | omega, by unfold carS; (repeat' split) <;> first | rfl | omega⟩ hr dX10_car_39
  · refine R_iload_n C dX10_car_15 rfl ?_
    refine R_iconst C dX10_car_16 ?_
    refine R_iload_n C dX10_car_17 rfl ?_
    refine R_callSz C (As := [_, _, _]) (c_X10_in hl (a := 0) (c := c) hh (by omega) (by omega)) kX10_141 rfl rfl (Nat.le_of_ble_eq_true rfl) ⟨by decide, by decide⟩ ⟨Nat.le_refl _, Nat.le_refl _⟩ dX10_car_18 (fun z18 hz18 => ?_)
    refine R_if_eq C dX10_car_21 (by omega) (fun h21 => ?_) (fun h21 => ?_)
    · refine R_aload_n C dX10_car_34 rfl ?_
      refine R_iconst C dX10_car_35 ?_
      refine R_callVi C (As := [_]) (c_X10_stop hl) kX10_158 rfl rfl (Nat.le_of_ble_eq_true rfl) ⟨by decide, by decide⟩ ⟨Nat.le_refl _, Nat.le_refl _⟩ dX10_car_36 ?_
      exact R_iret C ⟨by unfold carS; (repeat' split) <;> first | rfl | omega, by unfold carS; (repeat' split) <;> first | rfl | omega⟩ hr dX10_car_39
    · refine R_iload_n C dX10_car_24 rfl ?_
      refine R_iconst C dX10_car_25 ?_
      refine R_ldc C dX10_car_26 qX10_162 ?_
      refine R_callSz C (As := [_, _, _]) (c_X10_in hl (a := 1) (c := 50000) hw (by omega) (by omega)) kX10_141 rfl rfl (Nat.le_of_ble_eq_true rfl) ⟨by decide, by decide⟩ ⟨Nat.le_refl _, Nat.le_refl _⟩ dX10_car_28 (fun z28 hz28 => ?_)
      refine R_if_ne C dX10_car_31 (by omega) (fun h31 => ?_) (fun h31 => ?_)
      · refine R_aload_n C dX10_car_40 rfl ?_
        refine R_getS C cl11 fX10_164 (x := M.1 13) rfl (by decide) dX10_car_41 ?_
        refine R_bipush C dX10_car_44 (by decide) ?_
        refine R_icmp_ne C dX10_car_46 (by omega) (by decide) (fun h46 => ?_) (fun h46 => ?_)
        · refine R_aload_n C dX10_car_55 rfl ?_
          refine R_getA C cl11 fX10_36 (by decide) dX10_car_56 ?_
          refine R_aload_n C dX10_car_59 rfl ?_
          refine R_getS C cl11 fX10_164 (x := M.1 13) rfl (by decide) dX10_car_60 ?_
          refine R_iload_n C dX10_car_63 rfl ?_
          refine R_iast C (j := (M.1 13).toNat) (kf := 14) rfl (show (M.1 13).toNat < 12 by omega) (by omega) dX10_car_64 ?_
          refine R_aload_n C dX10_car_65 rfl ?_
          refine R_getA C cl11 fX10_39 (by decide) dX10_car_66 ?_
          refine R_aload_n C dX10_car_69 rfl ?_
          refine R_getS C cl11 fX10_164 (x := M.1 13) rfl (by decide) dX10_car_70 ?_
          refine R_iload_n C dX10_car_73 rfl ?_
          refine R_iast C (j := (M.1 13).toNat) (kf := 15) rfl (show (M.1 13).toNat < 12 by omega) (by omega) dX10_car_74 ?_
          refine R_aload_n C dX10_car_75 rfl ?_
          refine R_getA C cl11 fX10_42 (by decide) dX10_car_76 ?_
          refine R_aload_n C dX10_car_79 rfl ?_
          refine R_getS C cl11 fX10_164 (x := M.1 13) rfl (by decide) dX10_car_80 ?_
          refine R_iload_n C dX10_car_83 rfl ?_
          refine R_iast C (j := (M.1 13).toNat) (kf := 16) rfl (show (M.1 13).toNat < 12 by omega) (by omega) dX10_car_84 ?_
          refine R_aload_n C dX10_car_85 rfl ?_
          refine R_dup C dX10_car_86 rfl ?_
          refine R_getS C cl11 fX10_164 (x := M.1 13) rfl (by decide) dX10_car_87 ?_
          refine R_iconst C dX10_car_90 ?_
          refine R_iadd C dX10_car_91 ?_
          refine R_putS C cl11 fX10_164 rfl (by decide) rfl dX10_car_92 ?_
          refine R_aload_n C dX10_car_95 rfl ?_
          refine R_getS C cl11 fX10_164 (x := _) rfl (by decide) dX10_car_96 ?_
          refine R_iconst C dX10_car_99 ?_
          refine R_isub C dX10_car_100 ?_
          exact R_iret C ⟨by unfold carS; (repeat' split) <;> first | rfl | omega, by unfold carS; (repeat' split) <;> first | rfl | omega⟩ hr dX10_car_101
        · refine R_aload_n C dX10_car_49 rfl ?_
          refine R_iconst C dX10_car_50 ?_
          refine R_callVi C (As := [_]) (c_X10_stop hl) kX10_158 rfl rfl (Nat.le_of_ble_eq_true rfl) ⟨by decide, by decide⟩ ⟨Nat.le_refl _, Nat.le_refl _⟩ dX10_car_51 ?_
          exact R_iret C ⟨by unfold carS; (repeat' split) <;> first | rfl | omega, by unfold carS; (repeat' split) <;> first | rfl | omega⟩ hr dX10_car_54
      · refine R_aload_n C dX10_car_34 rfl ?_
        refine R_iconst C dX10_car_35 ?_
        refine R_callVi C (As := [_]) (c_X10_stop hl) kX10_158 rfl rfl (Nat.le_of_ble_eq_true rfl) ⟨by decide, by decide⟩ ⟨Nat.le_refl _, Nat.le_refl _⟩ dX10_car_36 ?_
        exact R_iret C ⟨by unfold carS; (repeat' split) <;> first | rfl | omega, by unfold carS; (repeat' split) <;> first | rfl | omega⟩ hr dX10_car_39
set_option maxRecDepth 20000 in
theorem c_X10_card (hl : l.stackTraces = false) {f : Int} (hf : rng f) {r : Int} (hr : rng r) (hO : OkM M) : Cr l D kA b t0 mo ad yX10_card cX10_card 3 (some FieldType.int) 2 42 [rv (some mo), iv f, iv r] M (fun v M2 => M2 = (cdS M f r).1 ∧ v = some (iv (cdS M f r).2)) := by
  refine Cr_mk hl (by decide) (Nat.le_of_ble_eq_true rfl) rfl ?_
  intro X0 p e s m args below meth c C hr9
  have h0 := hO.1
  unfold okSc at h0

  refine R_aload_n C dX10_card_0 rfl ?_
  refine R_iconst C dX10_card_1 ?_
  refine R_putS C cl11 fX10_138 rfl (by decide) rfl dX10_card_2 ?_
  refine R_iload_n C dX10_card_5 rfl ?_
  refine R_callSz C (As := [_]) (c_X10_isFirm hl hf) kX10_154 rfl rfl (Nat.le_of_ble_eq_true rfl) ⟨by decide, by decide⟩ ⟨Nat.le_refl _, Nat.le_refl _⟩ dX10_card_6 (fun z6 hz6 => ?_)
  refine R_if_ne C dX10_card_9 (by omega) (fun h9 => ?_) (fun h9 => ?_)
  · refine R_iload_n C dX10_card_18 rfl ?_
    refine R_iconst C dX10_card_19 ?_
    refine R_iconst C dX10_card_20 ?_
    refine R_callSz C (As := [_, _, _]) (c_X10_in hl (a := 0) (c := 3) hr (by omega) (by omega)) kX10_141 rfl rfl (Nat.le_of_ble_eq_true rfl) ⟨by decide, by decide⟩ ⟨Nat.le_refl _, Nat.le_refl _⟩ dX10_card_21 (fun z21 hz21 => ?_)
    refine R_if_ne C dX10_card_24 (by omega) (fun h24 => ?_) (fun h24 => ?_)
    · refine R_aload_n C dX10_card_33 rfl ?_
      refine R_getS C cl11 fX10_148 (x := M.1 17) rfl (by decide) dX10_card_34 ?_
      refine R_bipush C dX10_card_37 (by decide) ?_
      refine R_icmp_ne C dX10_card_39 (by omega) (by decide) (fun h39 => ?_) (fun h39 => ?_)
      · refine R_aload_n C dX10_card_48 rfl ?_
        refine R_getA C cl11 fX10_45 (by decide) dX10_card_49 ?_
        refine R_aload_n C dX10_card_52 rfl ?_
        refine R_getS C cl11 fX10_148 (x := M.1 17) rfl (by decide) dX10_card_53 ?_
        refine R_iload_n C dX10_card_56 rfl ?_
        refine R_iast C (j := (M.1 17).toNat) (kf := 18) rfl (show (M.1 17).toNat < 12 by omega) (by omega) dX10_card_57 ?_
        refine R_aload_n C dX10_card_58 rfl ?_
        refine R_getA C cl11 fX10_48 (by decide) dX10_card_59 ?_
        refine R_aload_n C dX10_card_62 rfl ?_
        refine R_getS C cl11 fX10_148 (x := M.1 17) rfl (by decide) dX10_card_63 ?_
        refine R_iload_n C dX10_card_66 rfl ?_
        refine R_iast C (j := (M.1 17).toNat) (kf := 19) rfl (show (M.1 17).toNat < 12 by omega) (by omega) dX10_card_67 ?_
        refine R_aload_n C dX10_card_68 rfl ?_
        refine R_getA C cl11 fX10_51 (by decide) dX10_card_69 ?_
        refine R_aload_n C dX10_card_72 rfl ?_
        refine R_getS C cl11 fX10_148 (x := M.1 17) rfl (by decide) dX10_card_73 ?_
        refine R_iconst C dX10_card_76 ?_
        refine R_zast C (j := (M.1 17).toNat) (kf := 20) rfl (show (M.1 17).toNat < 12 by omega) (by omega) (by first | omega | (split <;> omega)) dX10_card_77 ?_
        refine R_aload_n C dX10_card_78 rfl ?_
        refine R_dup C dX10_card_79 rfl ?_
        refine R_getS C cl11 fX10_148 (x := M.1 17) rfl (by decide) dX10_card_80 ?_
        refine R_iconst C dX10_card_83 ?_
        refine R_iadd C dX10_card_84 ?_
        refine R_putS C cl11 fX10_148 rfl (by decide) rfl dX10_card_85 ?_
        refine R_aload_n C dX10_card_88 rfl ?_
        refine R_getS C cl11 fX10_148 (x := _) rfl (by decide) dX10_card_89 ?_
        refine R_iconst C dX10_card_92 ?_
        refine R_isub C dX10_card_93 ?_
        exact R_iret C ⟨by unfold cdS; (repeat' split) <;> first | rfl | omega, by unfold cdS; (repeat' split) <;> first | rfl | omega⟩ hr9 dX10_card_94
      · refine R_aload_n C dX10_card_42 rfl ?_
        refine R_iconst C dX10_card_43 ?_
        refine R_callVi C (As := [_]) (c_X10_stop hl) kX10_158 rfl rfl (Nat.le_of_ble_eq_true rfl) ⟨by decide, by decide⟩ ⟨Nat.le_refl _, Nat.le_refl _⟩ dX10_card_44 ?_
        exact R_iret C ⟨by unfold cdS; (repeat' split) <;> first | rfl | omega, by unfold cdS; (repeat' split) <;> first | rfl | omega⟩ hr9 dX10_card_47
    · refine R_aload_n C dX10_card_27 rfl ?_
      refine R_iconst C dX10_card_28 ?_
      refine R_callVi C (As := [_]) (c_X10_stop hl) kX10_158 rfl rfl (Nat.le_of_ble_eq_true rfl) ⟨by decide, by decide⟩ ⟨Nat.le_refl _, Nat.le_refl _⟩ dX10_card_29 ?_
      exact R_iret C ⟨by unfold cdS; (repeat' split) <;> first | rfl | omega, by unfold cdS; (repeat' split) <;> first | rfl | omega⟩ hr9 dX10_card_32
  · refine R_aload_n C dX10_card_12 rfl ?_
    refine R_iconst C dX10_card_13 ?_
    refine R_callVi C (As := [_]) (c_X10_stop hl) kX10_158 rfl rfl (Nat.le_of_ble_eq_true rfl) ⟨by decide, by decide⟩ ⟨Nat.le_refl _, Nat.le_refl _⟩ dX10_card_14 ?_
    exact R_iret C ⟨by unfold cdS; (repeat' split) <;> first | rfl | omega, by unfold cdS; (repeat' split) <;> first | rfl | omega⟩ hr9 dX10_card_17
set_option maxRecDepth 20000 in
theorem c_X10_good (hl : l.stackTraces = false) {z : Int} (hz : rng z) {u : Int} (hu : u = 0 ∨ u = 1) (hO : OkM M) : Cr l D kA b t0 mo ad yX10_good cX10_good 4 (some FieldType.boolean) 2 43 [rv (some mo), iv z, iv u] M (fun v M2 => M2 = (goodS M z u).1 ∧ v = some (iv (goodS M z u).2)) := by
  refine Cr_mk hl (by decide) (Nat.le_of_ble_eq_true rfl) rfl ?_
  intro X0 p e s m args below meth c C hr
  have h0 := hO.1
  unfold okSc at h0
  have hcd := fun h => hO.2.2.2.1 z.toNat h
  unfold okCd at hcd
  refine R_aload_n C dX10_good_0 rfl ?_
  refine R_iconst C dX10_good_1 ?_
  refine R_putS C cl11 fX10_138 rfl (by decide) rfl dX10_good_2 ?_
  refine R_aload_n C dX10_good_5 rfl ?_
  refine R_iload_n C dX10_good_6 rfl ?_
  refine R_callVz C (As := [_]) (Cd := 0 ≤ z ∧ z < M.1 17) (c_X10_isCard hl (M := setS M 0 0) hz (show 0 ≤ M.1 17 ∧ M.1 17 ≤ 40 by omega)) kX10_167 rfl rfl (Nat.le_of_ble_eq_true rfl) ⟨by decide, by decide⟩ ⟨Nat.le_refl _, Nat.le_refl _⟩ dX10_good_7 (fun z7 hz7 => ?_)
  refine R_if_ne C dX10_good_10 (by omega) (fun h10 => ?_) (fun h10 => ?_)
  · refine R_aload_n C dX10_good_19 rfl ?_
    refine R_getA C cl11 fX10_51 (by decide) dX10_good_20 ?_
    refine R_iload_n C dX10_good_23 rfl ?_
    refine R_zald C (j := z.toNat) (kf := 20) rfl (show z.toNat < 12 by omega) (by omega) (x := M.2 20 (z.toNat)) rfl dX10_good_24 ?_
    refine R_istore_n C dX10_good_25 (by decide) rfl ?_
    refine R_aload_n C dX10_good_26 rfl ?_
    refine R_getA C cl11 fX10_51 (by decide) dX10_good_27 ?_
    refine R_iload_n C dX10_good_30 rfl ?_
    refine R_iload_n C dX10_good_31 rfl ?_
    refine R_zast C (j := z.toNat) (kf := 20) rfl (show z.toNat < 12 by omega) (by omega) (by first | omega | (split <;> omega)) dX10_good_32 ?_
    refine R_iload_n C dX10_good_33 rfl ?_
    exact R_zret C ⟨by unfold goodS; (repeat' split) <;> first | rfl | omega, by unfold goodS; (repeat' split) <;> first | rfl | omega⟩ hr (by omega) dX10_good_34
  · refine R_aload_n C dX10_good_13 rfl ?_
    refine R_iconst C dX10_good_14 ?_
    refine R_callVi C (As := [_]) (c_X10_refuse hl) kX10_170 rfl rfl (Nat.le_of_ble_eq_true rfl) ⟨by decide, by decide⟩ ⟨Nat.le_refl _, Nat.le_refl _⟩ dX10_good_15 ?_
    exact R_zret C ⟨by unfold goodS; (repeat' split) <;> first | rfl | omega, by unfold goodS; (repeat' split) <;> first | rfl | omega⟩ hr (by omega) dX10_good_18
set_option maxRecDepth 20000 in
theorem c_X10_fault (hl : l.stackTraces = false) {z : Int} (hz : rng z) {u : Int} (hu : u = 0 ∨ u = 1) (hO : OkM M) : Cr l D kA b t0 mo ad yX10_fault cX10_fault 4 (some FieldType.boolean) 2 43 [rv (some mo), iv z, iv u] M (fun v M2 => M2 = (fauS M z u).1 ∧ v = some (iv (fauS M z u).2)) := by
  refine Cr_mk hl (by decide) (Nat.le_of_ble_eq_true rfl) rfl ?_
  intro X0 p e s m args below meth c C hr
  have h0 := hO.1
  unfold okSc at h0
  have hso := fun h => hO.2.1 z.toNat h
  unfold okSo at hso
  refine R_aload_n C dX10_fault_0 rfl ?_
  refine R_iconst C dX10_fault_1 ?_
  refine R_putS C cl11 fX10_138 rfl (by decide) rfl dX10_fault_2 ?_
  refine R_aload_n C dX10_fault_5 rfl ?_
  refine R_iload_n C dX10_fault_6 rfl ?_
  refine R_callVz C (As := [_]) (Cd := 0 ≤ z ∧ z < M.1 6) (c_X10_isSocket hl (M := setS M 0 0) hz (show 0 ≤ M.1 6 ∧ M.1 6 ≤ 40 by omega)) kX10_178 rfl rfl (Nat.le_of_ble_eq_true rfl) ⟨by decide, by decide⟩ ⟨Nat.le_refl _, Nat.le_refl _⟩ dX10_fault_7 (fun z7 hz7 => ?_)
  refine R_if_ne C dX10_fault_10 (by omega) (fun h10 => ?_) (fun h10 => ?_)
  · refine R_aload_n C dX10_fault_19 rfl ?_
    refine R_getA C cl11 fX10_23 (by decide) dX10_fault_20 ?_
    refine R_iload_n C dX10_fault_23 rfl ?_
    refine R_zald C (j := z.toNat) (kf := 9) rfl (show z.toNat < 8 by omega) (by omega) (x := M.2 9 (z.toNat)) rfl dX10_fault_24 ?_
    refine R_istore_n C dX10_fault_25 (by decide) rfl ?_
    refine R_aload_n C dX10_fault_26 rfl ?_
    refine R_getA C cl11 fX10_23 (by decide) dX10_fault_27 ?_
    refine R_iload_n C dX10_fault_30 rfl ?_
    refine R_iload_n C dX10_fault_31 rfl ?_
    refine R_zast C (j := z.toNat) (kf := 9) rfl (show z.toNat < 8 by omega) (by omega) (by first | omega | (split <;> omega)) dX10_fault_32 ?_
    refine R_iload_n C dX10_fault_33 rfl ?_
    exact R_zret C ⟨by unfold fauS; (repeat' split) <;> first | rfl | omega, by unfold fauS; (repeat' split) <;> first | rfl | omega⟩ hr (by omega) dX10_fault_34
  · refine R_aload_n C dX10_fault_13 rfl ?_
    refine R_iconst C dX10_fault_14 ?_
    refine R_callVi C (As := [_]) (c_X10_refuse hl) kX10_170 rfl rfl (Nat.le_of_ble_eq_true rfl) ⟨by decide, by decide⟩ ⟨Nat.le_refl _, Nat.le_refl _⟩ dX10_fault_15 ?_
    exact R_zret C ⟨by unfold fauS; (repeat' split) <;> first | rfl | omega, by unfold fauS; (repeat' split) <;> first | rfl | omega⟩ hr (by omega) dX10_fault_18
set_option maxRecDepth 20000 in
theorem c_X10_set (hl : l.stackTraces = false) {w : Int} (hw : rng w) {u : Int} (hu : rng u) (hO : OkM M) : Cr l D kA b t0 mo ad yX10_set cX10_set 5 (some FieldType.int) 1 22 [rv (some mo), iv w, iv u] M (fun v M2 => M2 = (setSS M w u).1 ∧ v = some (iv (setSS M w u).2)) := by
  refine Cr_mk hl (by decide) (Nat.le_of_ble_eq_true rfl) rfl ?_
  intro X0 p e s m args below meth c C hr
  have h0 := hO.1
  unfold okSc at h0

  refine R_aload_n C dX10_set_0 rfl ?_
  refine R_iconst C dX10_set_1 ?_
  refine R_putS C cl11 fX10_138 rfl (by decide) rfl dX10_set_2 ?_
  refine R_join C (pcm := 55) (P := fun z => (z = 1 ∧ ((w = 0 ∧ 0 ≤ u ∧ u ≤ 200000) ∨ (w = 1 ∧ 0 ≤ u ∧ u ≤ 100000) ∨ (w = 2 ∧ -50 ≤ u ∧ u ≤ 50))) ∨ (z = 0 ∧ ¬ ((w = 0 ∧ 0 ≤ u ∧ u ≤ 200000) ∨ (w = 1 ∧ 0 ≤ u ∧ u ≤ 100000) ∨ (w = 2 ∧ -50 ≤ u ∧ u ≤ 50)))) (fun hj => ?_) (fun z1 hz1 => ?_)
  · refine R_iload_n C dX10_set_5 rfl ?_
    refine R_if_ne C dX10_set_6 hw (fun h6 => ?_) (fun h6 => ?_)
    · refine R_iload_n C dX10_set_19 rfl ?_
      refine R_iconst C dX10_set_20 ?_
      refine R_icmp_ne C dX10_set_21 hw (by decide) (fun h21 => ?_) (fun h21 => ?_)
      · refine R_iload_n C dX10_set_34 rfl ?_
        refine R_iconst C dX10_set_35 ?_
        refine R_icmp_ne C dX10_set_36 hw (by decide) (fun h36 => ?_) (fun h36 => ?_)
        · refine R_iconst C dX10_set_54 ?_
          exact hj _ (by omega)
        · refine R_iload_n C dX10_set_39 rfl ?_
          refine R_bipush C dX10_set_40 (by decide) ?_
          refine R_bipush C dX10_set_42 (by decide) ?_
          refine R_callSz C (As := [_, _, _]) (c_X10_in hl (a := -50) (c := 50) hu (by omega) (by omega)) kX10_141 rfl rfl (Nat.le_of_ble_eq_true rfl) ⟨by decide, by decide⟩ ⟨Nat.le_refl _, Nat.le_refl _⟩ dX10_set_44 (fun z44 hz44 => ?_)
          refine R_if_eq C dX10_set_47 (by omega) (fun h47 => ?_) (fun h47 => ?_)
          · refine R_iconst C dX10_set_54 ?_
            exact hj _ (by omega)
          · refine R_iconst C dX10_set_50 ?_
            refine R_goto C dX10_set_51 ?_
            exact hj _ (by omega)
      · refine R_iload_n C dX10_set_24 rfl ?_
        refine R_iconst C dX10_set_25 ?_
        refine R_ldc C dX10_set_26 qX10_174 ?_
        refine R_callSz C (As := [_, _, _]) (c_X10_in hl (a := 0) (c := 100000) hu (by omega) (by omega)) kX10_141 rfl rfl (Nat.le_of_ble_eq_true rfl) ⟨by decide, by decide⟩ ⟨Nat.le_refl _, Nat.le_refl _⟩ dX10_set_28 (fun z28 hz28 => ?_)
        refine R_goto C dX10_set_31 ?_
        exact hj _ (by omega)
    · refine R_iload_n C dX10_set_9 rfl ?_
      refine R_iconst C dX10_set_10 ?_
      refine R_ldc C dX10_set_11 qX10_173 ?_
      refine R_callSz C (As := [_, _, _]) (c_X10_in hl (a := 0) (c := 200000) hu (by omega) (by omega)) kX10_141 rfl rfl (Nat.le_of_ble_eq_true rfl) ⟨by decide, by decide⟩ ⟨Nat.le_refl _, Nat.le_refl _⟩ dX10_set_13 (fun z13 hz13 => ?_)
      refine R_goto C dX10_set_16 ?_
      exact hj _ (by omega)
  refine R_istore_n C dX10_set_55 (by decide) rfl ?_
  refine R_iload_n C dX10_set_56 rfl ?_
  refine R_if_ne C dX10_set_57 (by omega) (fun h57 => ?_) (fun h57 => ?_)
  · refine R_join C (pcm := 93) (P := fun z => z = (if w = 0 then M.1 3 else if w = 1 then M.1 4 else M.1 5)) (fun hj => ?_) (fun z2 hz2 => ?_)
    · refine R_iload_n C dX10_set_66 rfl ?_
      refine R_if_ne C dX10_set_67 hw (fun h67 => ?_) (fun h67 => ?_)
      · refine R_iload_n C dX10_set_77 rfl ?_
        refine R_iconst C dX10_set_78 ?_
        refine R_icmp_ne C dX10_set_79 hw (by decide) (fun h79 => ?_) (fun h79 => ?_)
        · refine R_aload_n C dX10_set_89 rfl ?_
          refine R_getS C cl11 fX10_13 (x := M.1 5) rfl (by decide) dX10_set_90 ?_
          exact hj _ (by (repeat' split) <;> omega)
        · refine R_aload_n C dX10_set_82 rfl ?_
          refine R_getS C cl11 fX10_175 (x := M.1 4) rfl (by decide) dX10_set_83 ?_
          refine R_goto C dX10_set_86 ?_
          exact hj _ (by (repeat' split) <;> omega)
      · refine R_aload_n C dX10_set_70 rfl ?_
        refine R_getS C cl11 fX10_7 (x := M.1 3) rfl (by decide) dX10_set_71 ?_
        refine R_goto C dX10_set_74 ?_
        exact hj _ (by (repeat' split) <;> omega)
    subst hz2
    refine R_istore C dX10_set_93 (by decide) rfl ?_
    refine R_aload_n C dX10_set_95 rfl ?_
    refine R_join C (pcm := 108) (P := fun z => z = (if w = 0 then u else M.1 3)) (fun hj => ?_) (fun z3 hz3 => ?_)
    · refine R_iload_n C dX10_set_96 rfl ?_
      refine R_if_ne C dX10_set_97 hw (fun h97 => ?_) (fun h97 => ?_)
      · refine R_aload_n C dX10_set_104 rfl ?_
        refine R_getS C cl11 fX10_7 (x := M.1 3) rfl (by decide) dX10_set_105 ?_
        exact hj _ (by split <;> omega)
      · refine R_iload_n C dX10_set_100 rfl ?_
        refine R_goto C dX10_set_101 ?_
        exact hj _ (by split <;> omega)
    subst hz3
    refine R_putS C cl11 fX10_7 rfl (by decide) rfl dX10_set_108 ?_
    refine R_aload_n C dX10_set_111 rfl ?_
    refine R_join C (pcm := 125) (P := fun z => z = (if w = 1 then u else M.1 4)) (fun hj => ?_) (fun z4 hz4 => ?_)
    · refine R_iload_n C dX10_set_112 rfl ?_
      refine R_iconst C dX10_set_113 ?_
      refine R_icmp_ne C dX10_set_114 hw (by decide) (fun h114 => ?_) (fun h114 => ?_)
      · refine R_aload_n C dX10_set_121 rfl ?_
        refine R_getS C cl11 fX10_175 (x := M.1 4) rfl (by decide) dX10_set_122 ?_
        exact hj _ (by split <;> omega)
      · refine R_iload_n C dX10_set_117 rfl ?_
        refine R_goto C dX10_set_118 ?_
        exact hj _ (by split <;> omega)
    subst hz4
    refine R_putS C cl11 fX10_175 rfl (by decide) rfl dX10_set_125 ?_
    refine R_aload_n C dX10_set_128 rfl ?_
    refine R_join C (pcm := 142) (P := fun z => z = (if w = 2 then u else M.1 5)) (fun hj => ?_) (fun z5 hz5 => ?_)
    · refine R_iload_n C dX10_set_129 rfl ?_
      refine R_iconst C dX10_set_130 ?_
      refine R_icmp_ne C dX10_set_131 hw (by decide) (fun h131 => ?_) (fun h131 => ?_)
      · refine R_aload_n C dX10_set_138 rfl ?_
        refine R_getS C cl11 fX10_13 (x := M.1 5) rfl (by decide) dX10_set_139 ?_
        exact hj _ (by split <;> omega)
      · refine R_iload_n C dX10_set_134 rfl ?_
        refine R_goto C dX10_set_135 ?_
        exact hj _ (by split <;> omega)
    subst hz5
    refine R_putS C cl11 fX10_13 rfl (by decide) rfl dX10_set_142 ?_
    refine R_iload C dX10_set_145 rfl ?_
    exact R_iret C ⟨by unfold setSS; first | exact pf1 (show (w = 0 ∧ 0 ≤ u ∧ u ≤ 200000) ∨ (w = 1 ∧ 0 ≤ u ∧ u ≤ 100000) ∨ (w = 2 ∧ -50 ≤ u ∧ u ≤ 50) by omega) | exact pf2 (show ¬ ((w = 0 ∧ 0 ≤ u ∧ u ≤ 200000) ∨ (w = 1 ∧ 0 ≤ u ∧ u ≤ 100000) ∨ (w = 2 ∧ -50 ≤ u ∧ u ≤ 50)) by omega), by unfold setSS; first | exact ps1 (show (w = 0 ∧ 0 ≤ u ∧ u ≤ 200000) ∨ (w = 1 ∧ 0 ≤ u ∧ u ≤ 100000) ∨ (w = 2 ∧ -50 ≤ u ∧ u ≤ 50) by omega) | exact ps2 (show ¬ ((w = 0 ∧ 0 ≤ u ∧ u ≤ 200000) ∨ (w = 1 ∧ 0 ≤ u ∧ u ≤ 100000) ∨ (w = 2 ∧ -50 ≤ u ∧ u ≤ 50)) by omega)⟩ hr dX10_set_147
  · refine R_aload_n C dX10_set_60 rfl ?_
    refine R_iconst C dX10_set_61 ?_
    refine R_callVi C (As := [_]) (c_X10_stop hl) kX10_158 rfl rfl (Nat.le_of_ble_eq_true rfl) ⟨by decide, by decide⟩ ⟨Nat.le_refl _, Nat.le_refl _⟩ dX10_set_62 ?_
    exact R_iret C ⟨by unfold setSS; first | exact pf1 (show (w = 0 ∧ 0 ≤ u ∧ u ≤ 200000) ∨ (w = 1 ∧ 0 ≤ u ∧ u ≤ 100000) ∨ (w = 2 ∧ -50 ≤ u ∧ u ≤ 50) by omega) | exact pf2 (show ¬ ((w = 0 ∧ 0 ≤ u ∧ u ≤ 200000) ∨ (w = 1 ∧ 0 ≤ u ∧ u ≤ 100000) ∨ (w = 2 ∧ -50 ≤ u ∧ u ≤ 50)) by omega), by unfold setSS; first | exact ps1 (show (w = 0 ∧ 0 ≤ u ∧ u ≤ 200000) ∨ (w = 1 ∧ 0 ≤ u ∧ u ≤ 100000) ∨ (w = 2 ∧ -50 ≤ u ∧ u ≤ 50) by omega) | exact ps2 (show ¬ ((w = 0 ∧ 0 ≤ u ∧ u ≤ 200000) ∨ (w = 1 ∧ 0 ≤ u ∧ u ≤ 100000) ∨ (w = 2 ∧ -50 ≤ u ∧ u ≤ 50)) by omega)⟩ hr dX10_set_65
set_option maxRecDepth 20000 in
theorem c_X10_tariff (hl : l.stackTraces = false) {f : Int} (hf : rng f) {s : Int} (hs : rng s) {d : Int} (hd : rng d) {n : Int} (hn : rng n) {i : Int} (hi : rng i) (hO : OkM M) : Cr l D kA b t0 mo ad yX10_tariff cX10_tariff 6 none 2 42 [rv (some mo), iv f, iv s, iv d, iv n, iv i] M (fun v M2 => M2 = tarS M f s d n i ∧ v = none) := by
  refine Cr_mk hl (by decide) (Nat.le_of_ble_eq_true rfl) rfl ?_
  intro X0 p e s9 m args below meth c C hr
  have h0 := hO.1
  unfold okSc at h0

  refine R_aload_n C dX10_tariff_0 rfl ?_
  refine R_iconst C dX10_tariff_1 ?_
  refine R_putS C cl11 fX10_138 rfl (by decide) rfl dX10_tariff_2 ?_
  refine R_iload_n C dX10_tariff_5 rfl ?_
  refine R_callSz C (As := [_]) (c_X10_isFirm hl hf) kX10_154 rfl rfl (Nat.le_of_ble_eq_true rfl) ⟨by decide, by decide⟩ ⟨Nat.le_refl _, Nat.le_refl _⟩ dX10_tariff_6 (fun z6 hz6 => ?_)
  refine R_if_ne C dX10_tariff_9 (by omega) (fun h9 => ?_) (fun h9 => ?_)
  · refine R_iload_n C dX10_tariff_19 rfl ?_
    refine R_iconst C dX10_tariff_20 ?_
    refine R_sipush C dX10_tariff_21 (by decide) ?_
    refine R_callSz C (As := [_, _, _]) (c_X10_in hl (a := 0) (c := 1000) hs (by omega) (by omega)) kX10_141 rfl rfl (Nat.le_of_ble_eq_true rfl) ⟨by decide, by decide⟩ ⟨Nat.le_refl _, Nat.le_refl _⟩ dX10_tariff_24 (fun z24 hz24 => ?_)
    refine R_if_eq C dX10_tariff_27 (by omega) (fun h27 => ?_) (fun h27 => ?_)
    · refine R_aload_n C dX10_tariff_65 rfl ?_
      refine R_iconst C dX10_tariff_66 ?_
      refine R_callVi C (As := [_]) (c_X10_stop hl) kX10_158 rfl rfl (Nat.le_of_ble_eq_true rfl) ⟨by decide, by decide⟩ ⟨Nat.le_refl _, Nat.le_refl _⟩ dX10_tariff_67 ?_
      refine R_pop C dX10_tariff_70 rfl ?_
      exact R_vret C ⟨by unfold tarS; (repeat' split) <;> first | rfl | omega, rfl⟩ hr dX10_tariff_71
    · refine R_iload_n C dX10_tariff_30 rfl ?_
      refine R_iconst C dX10_tariff_31 ?_
      refine R_sipush C dX10_tariff_32 (by decide) ?_
      refine R_callSz C (As := [_, _, _]) (c_X10_in hl (a := 0) (c := 1000) hd (by omega) (by omega)) kX10_141 rfl rfl (Nat.le_of_ble_eq_true rfl) ⟨by decide, by decide⟩ ⟨Nat.le_refl _, Nat.le_refl _⟩ dX10_tariff_35 (fun z35 hz35 => ?_)
      refine R_if_eq C dX10_tariff_38 (by omega) (fun h38 => ?_) (fun h38 => ?_)
      · refine R_aload_n C dX10_tariff_65 rfl ?_
        refine R_iconst C dX10_tariff_66 ?_
        refine R_callVi C (As := [_]) (c_X10_stop hl) kX10_158 rfl rfl (Nat.le_of_ble_eq_true rfl) ⟨by decide, by decide⟩ ⟨Nat.le_refl _, Nat.le_refl _⟩ dX10_tariff_67 ?_
        refine R_pop C dX10_tariff_70 rfl ?_
        exact R_vret C ⟨by unfold tarS; (repeat' split) <;> first | rfl | omega, rfl⟩ hr dX10_tariff_71
      · refine R_iload C dX10_tariff_41 rfl ?_
        refine R_iconst C dX10_tariff_43 ?_
        refine R_sipush C dX10_tariff_44 (by decide) ?_
        refine R_callSz C (As := [_, _, _]) (c_X10_in hl (a := 0) (c := 1000) hn (by omega) (by omega)) kX10_141 rfl rfl (Nat.le_of_ble_eq_true rfl) ⟨by decide, by decide⟩ ⟨Nat.le_refl _, Nat.le_refl _⟩ dX10_tariff_47 (fun z47 hz47 => ?_)
        refine R_if_eq C dX10_tariff_50 (by omega) (fun h50 => ?_) (fun h50 => ?_)
        · refine R_aload_n C dX10_tariff_65 rfl ?_
          refine R_iconst C dX10_tariff_66 ?_
          refine R_callVi C (As := [_]) (c_X10_stop hl) kX10_158 rfl rfl (Nat.le_of_ble_eq_true rfl) ⟨by decide, by decide⟩ ⟨Nat.le_refl _, Nat.le_refl _⟩ dX10_tariff_67 ?_
          refine R_pop C dX10_tariff_70 rfl ?_
          exact R_vret C ⟨by unfold tarS; (repeat' split) <;> first | rfl | omega, rfl⟩ hr dX10_tariff_71
        · refine R_iload C dX10_tariff_53 rfl ?_
          refine R_iconst C dX10_tariff_55 ?_
          refine R_sipush C dX10_tariff_56 (by decide) ?_
          refine R_callSz C (As := [_, _, _]) (c_X10_in hl (a := 0) (c := 1000) hi (by omega) (by omega)) kX10_141 rfl rfl (Nat.le_of_ble_eq_true rfl) ⟨by decide, by decide⟩ ⟨Nat.le_refl _, Nat.le_refl _⟩ dX10_tariff_59 (fun z59 hz59 => ?_)
          refine R_if_ne C dX10_tariff_62 (by omega) (fun h62 => ?_) (fun h62 => ?_)
          · refine R_aload_n C dX10_tariff_72 rfl ?_
            refine R_getA C cl11 fX10_60 (by decide) dX10_tariff_73 ?_
            refine R_iconst C dX10_tariff_76 ?_
            refine R_iload_n C dX10_tariff_77 rfl ?_
            refine R_imul C dX10_tariff_78 ?_
            refine R_iload_n C dX10_tariff_79 rfl ?_
            refine R_iast C (j := (4 * f.toNat)) (kf := 23) rfl (show (4 * f.toNat) < 12 by omega) (by omega) dX10_tariff_80 ?_
            refine R_aload_n C dX10_tariff_81 rfl ?_
            refine R_getA C cl11 fX10_60 (by decide) dX10_tariff_82 ?_
            refine R_iconst C dX10_tariff_85 ?_
            refine R_iload_n C dX10_tariff_86 rfl ?_
            refine R_imul C dX10_tariff_87 ?_
            refine R_iconst C dX10_tariff_88 ?_
            refine R_iadd C dX10_tariff_89 ?_
            refine R_iload_n C dX10_tariff_90 rfl ?_
            refine R_iast C (j := ((4 * f.toNat) + 1)) (kf := 23) rfl (show ((4 * f.toNat) + 1) < 12 by omega) (by omega) dX10_tariff_91 ?_
            refine R_aload_n C dX10_tariff_92 rfl ?_
            refine R_getA C cl11 fX10_60 (by decide) dX10_tariff_93 ?_
            refine R_iconst C dX10_tariff_96 ?_
            refine R_iload_n C dX10_tariff_97 rfl ?_
            refine R_imul C dX10_tariff_98 ?_
            refine R_iconst C dX10_tariff_99 ?_
            refine R_iadd C dX10_tariff_100 ?_
            refine R_iload C dX10_tariff_101 rfl ?_
            refine R_iast C (j := ((4 * f.toNat) + 2)) (kf := 23) rfl (show ((4 * f.toNat) + 2) < 12 by omega) (by omega) dX10_tariff_103 ?_
            refine R_aload_n C dX10_tariff_104 rfl ?_
            refine R_getA C cl11 fX10_60 (by decide) dX10_tariff_105 ?_
            refine R_iconst C dX10_tariff_108 ?_
            refine R_iload_n C dX10_tariff_109 rfl ?_
            refine R_imul C dX10_tariff_110 ?_
            refine R_iconst C dX10_tariff_111 ?_
            refine R_iadd C dX10_tariff_112 ?_
            refine R_iload C dX10_tariff_113 rfl ?_
            refine R_iast C (j := ((4 * f.toNat) + 3)) (kf := 23) rfl (show ((4 * f.toNat) + 3) < 12 by omega) (by omega) dX10_tariff_115 ?_
            exact R_vret C ⟨by unfold tarS; (repeat' split) <;> first | rfl | omega, rfl⟩ hr dX10_tariff_116
          · refine R_aload_n C dX10_tariff_65 rfl ?_
            refine R_iconst C dX10_tariff_66 ?_
            refine R_callVi C (As := [_]) (c_X10_stop hl) kX10_158 rfl rfl (Nat.le_of_ble_eq_true rfl) ⟨by decide, by decide⟩ ⟨Nat.le_refl _, Nat.le_refl _⟩ dX10_tariff_67 ?_
            refine R_pop C dX10_tariff_70 rfl ?_
            exact R_vret C ⟨by unfold tarS; (repeat' split) <;> first | rfl | omega, rfl⟩ hr dX10_tariff_71
  · refine R_aload_n C dX10_tariff_12 rfl ?_
    refine R_iconst C dX10_tariff_13 ?_
    refine R_callVi C (As := [_]) (c_X10_stop hl) kX10_158 rfl rfl (Nat.le_of_ble_eq_true rfl) ⟨by decide, by decide⟩ ⟨Nat.le_refl _, Nat.le_refl _⟩ dX10_tariff_14 ?_
    refine R_pop C dX10_tariff_17 rfl ?_
    exact R_vret C ⟨by unfold tarS; (repeat' split) <;> first | rfl | omega, rfl⟩ hr dX10_tariff_18
set_option maxRecDepth 20000 in
theorem c_X10_of (hl : l.stackTraces = false) {z : Int} (hz : rng z) {w : Int} (hw : rng w) (hO : OkM M) : Cr l D kA b t0 mo ad yX10_of cX10_of 3 (some FieldType.int) 2 43 [rv (some mo), iv z, iv w] M (fun v M2 => M2 = (ofS M z w).1 ∧ v = some (iv (ofS M z w).2)) := by
  refine Cr_mk hl (by decide) (Nat.le_of_ble_eq_true rfl) rfl ?_
  intro X0 p e s m args below meth c C hr
  have h0 := hO.1
  unfold okSc at h0

  refine R_aload_n C dX10_of_0 rfl ?_
  refine R_iconst C dX10_of_1 ?_
  refine R_putS C cl11 fX10_138 rfl (by decide) rfl dX10_of_2 ?_
  refine R_aload_n C dX10_of_5 rfl ?_
  refine R_iload_n C dX10_of_6 rfl ?_
  refine R_callVz C (As := [_]) (Cd := 0 ≤ z ∧ z < M.1 30) (c_X10_isSession hl (M := setS M 0 0) hz (show 0 ≤ M.1 30 ∧ M.1 30 ≤ 40 by omega)) kX10_214 rfl rfl (Nat.le_of_ble_eq_true rfl) ⟨by decide, by decide⟩ ⟨Nat.le_refl _, Nat.le_refl _⟩ dX10_of_7 (fun z7 hz7 => ?_)
  refine R_if_ne C dX10_of_10 (by omega) (fun h10 => ?_) (fun h10 => ?_)
  · refine R_iload_n C dX10_of_19 rfl ?_
    refine R_iconst C dX10_of_20 ?_
    refine R_bipush C dX10_of_21 (by decide) ?_
    refine R_callSz C (As := [_, _, _]) (c_X10_in hl (a := 0) (c := 6) hw (by omega) (by omega)) kX10_141 rfl rfl (Nat.le_of_ble_eq_true rfl) ⟨by decide, by decide⟩ ⟨Nat.le_refl _, Nat.le_refl _⟩ dX10_of_23 (fun z23 hz23 => ?_)
    refine R_if_ne C dX10_of_26 (by omega) (fun h26 => ?_) (fun h26 => ?_)
    · refine R_iload_n C dX10_of_35 rfl ?_
      rcases (by omega : w = 0 ∨ w = 1 ∨ w = 2 ∨ w = 3 ∨ w = 4 ∨ w = 5 ∨ (w < 0 ∨ 5 < w)) with hs0 | hs1 | hs2 | hs3 | hs4 | hs5 | hs6
      · refine R_tin C (tgt := 76) dX10_of_36 hw (by omega) (by omega) (by rw [hs0]; rfl) (by decide) ?_
        refine R_aload_n C dX10_of_76 rfl ?_
        refine R_getA C cl11 fX10_96 (by decide) dX10_of_77 ?_
        refine R_iload_n C dX10_of_80 rfl ?_
        refine R_iald C (j := z.toNat) (kf := 36) rfl (show z.toNat < 40 by omega) (by omega) (x := M.2 36 (z.toNat)) rfl dX10_of_81 ?_
        exact R_iret C ⟨by unfold ofS; (repeat' split) <;> first | rfl | omega, by unfold ofS; (repeat' split) <;> first | rfl | omega⟩ hr dX10_of_82
      · refine R_tin C (tgt := 83) dX10_of_36 hw (by omega) (by omega) (by rw [hs1]; rfl) (by decide) ?_
        refine R_aload_n C dX10_of_83 rfl ?_
        refine R_getA C cl11 fX10_93 (by decide) dX10_of_84 ?_
        refine R_iload_n C dX10_of_87 rfl ?_
        refine R_iald C (j := z.toNat) (kf := 35) rfl (show z.toNat < 40 by omega) (by omega) (x := M.2 35 (z.toNat)) rfl dX10_of_88 ?_
        exact R_iret C ⟨by unfold ofS; (repeat' split) <;> first | rfl | omega, by unfold ofS; (repeat' split) <;> first | rfl | omega⟩ hr dX10_of_89
      · refine R_tin C (tgt := 90) dX10_of_36 hw (by omega) (by omega) (by rw [hs2]; rfl) (by decide) ?_
        refine R_aload_n C dX10_of_90 rfl ?_
        refine R_getA C cl11 fX10_99 (by decide) dX10_of_91 ?_
        refine R_iload_n C dX10_of_94 rfl ?_
        refine R_iald C (j := z.toNat) (kf := 37) rfl (show z.toNat < 40 by omega) (by omega) (x := M.2 37 (z.toNat)) rfl dX10_of_95 ?_
        exact R_iret C ⟨by unfold ofS; (repeat' split) <;> first | rfl | omega, by unfold ofS; (repeat' split) <;> first | rfl | omega⟩ hr dX10_of_96
      · refine R_tin C (tgt := 97) dX10_of_36 hw (by omega) (by omega) (by rw [hs3]; rfl) (by decide) ?_
        refine R_aload_n C dX10_of_97 rfl ?_
        refine R_getA C cl11 fX10_102 (by decide) dX10_of_98 ?_
        refine R_iload_n C dX10_of_101 rfl ?_
        refine R_iald C (j := z.toNat) (kf := 38) rfl (show z.toNat < 40 by omega) (by omega) (x := M.2 38 (z.toNat)) rfl dX10_of_102 ?_
        exact R_iret C ⟨by unfold ofS; (repeat' split) <;> first | rfl | omega, by unfold ofS; (repeat' split) <;> first | rfl | omega⟩ hr dX10_of_103
      · refine R_tin C (tgt := 104) dX10_of_36 hw (by omega) (by omega) (by rw [hs4]; rfl) (by decide) ?_
        refine R_aload_n C dX10_of_104 rfl ?_
        refine R_getA C cl11 fX10_90 (by decide) dX10_of_105 ?_
        refine R_iload_n C dX10_of_108 rfl ?_
        refine R_iald C (j := z.toNat) (kf := 34) rfl (show z.toNat < 40 by omega) (by omega) (x := M.2 34 (z.toNat)) rfl dX10_of_109 ?_
        exact R_iret C ⟨by unfold ofS; (repeat' split) <;> first | rfl | omega, by unfold ofS; (repeat' split) <;> first | rfl | omega⟩ hr dX10_of_110
      · refine R_tin C (tgt := 111) dX10_of_36 hw (by omega) (by omega) (by rw [hs5]; rfl) (by decide) ?_
        refine R_aload_n C dX10_of_111 rfl ?_
        refine R_getA C cl11 fX10_84 (by decide) dX10_of_112 ?_
        refine R_iload_n C dX10_of_115 rfl ?_
        refine R_iald C (j := z.toNat) (kf := 32) rfl (show z.toNat < 40 by omega) (by omega) (x := M.2 32 (z.toNat)) rfl dX10_of_116 ?_
        exact R_iret C ⟨by unfold ofS; (repeat' split) <;> first | rfl | omega, by unfold ofS; (repeat' split) <;> first | rfl | omega⟩ hr dX10_of_117
      · refine R_tout C (tgt := 118) dX10_of_36 hw hs6 (by decide) ?_
        refine R_aload_n C dX10_of_118 rfl ?_
        refine R_getA C cl11 fX10_81 (by decide) dX10_of_119 ?_
        refine R_iload_n C dX10_of_122 rfl ?_
        refine R_iald C (j := z.toNat) (kf := 31) rfl (show z.toNat < 40 by omega) (by omega) (x := M.2 31 (z.toNat)) rfl dX10_of_123 ?_
        exact R_iret C ⟨by unfold ofS; (repeat' split) <;> first | rfl | omega, by unfold ofS; (repeat' split) <;> first | rfl | omega⟩ hr dX10_of_124
    · refine R_aload_n C dX10_of_29 rfl ?_
      refine R_iconst C dX10_of_30 ?_
      refine R_callVi C (As := [_]) (c_X10_stop hl) kX10_158 rfl rfl (Nat.le_of_ble_eq_true rfl) ⟨by decide, by decide⟩ ⟨Nat.le_refl _, Nat.le_refl _⟩ dX10_of_31 ?_
      exact R_iret C ⟨by unfold ofS; (repeat' split) <;> first | rfl | omega, by unfold ofS; (repeat' split) <;> first | rfl | omega⟩ hr dX10_of_34
  · refine R_aload_n C dX10_of_13 rfl ?_
    refine R_iconst C dX10_of_14 ?_
    refine R_callVi C (As := [_]) (c_X10_stop hl) kX10_158 rfl rfl (Nat.le_of_ble_eq_true rfl) ⟨by decide, by decide⟩ ⟨Nat.le_refl _, Nat.le_refl _⟩ dX10_of_15 ?_
    exact R_iret C ⟨by unfold ofS; (repeat' split) <;> first | rfl | omega, by unfold ofS; (repeat' split) <;> first | rfl | omega⟩ hr dX10_of_18
set_option maxRecDepth 20000 in
theorem c_X10_charge (hl : l.stackTraces = false) {z : Int} (hz : rng z) (hO : OkM M) : Cr l D kA b t0 mo ad yX10_charge cX10_charge 2 (some FieldType.int) 1 22 [rv (some mo), iv z] M (fun v M2 => M2 = (chaS M z).1 ∧ v = some (iv (chaS M z).2)) := by
  refine Cr_mk hl (by decide) (Nat.le_of_ble_eq_true rfl) rfl ?_
  intro X0 p e s m args below meth c C hr
  have h0 := hO.1
  unfold okSc at h0

  refine R_aload_n C dX10_charge_0 rfl ?_
  refine R_iconst C dX10_charge_1 ?_
  refine R_putS C cl11 fX10_138 rfl (by decide) rfl dX10_charge_2 ?_
  refine R_iload_n C dX10_charge_5 rfl ?_
  refine R_iconst C dX10_charge_6 ?_
  refine R_aload_n C dX10_charge_7 rfl ?_
  refine R_getS C cl11 fX10_164 (x := M.1 13) rfl (by decide) dX10_charge_8 ?_
  refine R_iconst C dX10_charge_11 ?_
  refine R_isub C dX10_charge_12 ?_
  refine R_callSz C (As := [_, _, _]) (c_X10_in hl (a := 0) (c := M.1 13 - 1) hz (by omega) (by omega)) kX10_141 rfl rfl (Nat.le_of_ble_eq_true rfl) ⟨by decide, by decide⟩ ⟨Nat.le_refl _, Nat.le_refl _⟩ dX10_charge_13 (fun z13 hz13 => ?_)
  refine R_if_eq C dX10_charge_16 (by omega) (fun h16 => ?_) (fun h16 => ?_)
  · refine R_aload_n C dX10_charge_28 rfl ?_
    refine R_iconst C dX10_charge_29 ?_
    refine R_callVi C (As := [_]) (c_X10_stop hl) kX10_158 rfl rfl (Nat.le_of_ble_eq_true rfl) ⟨by decide, by decide⟩ ⟨Nat.le_refl _, Nat.le_refl _⟩ dX10_charge_30 ?_
    exact R_iret C ⟨by unfold chaS; (repeat' split) <;> first | rfl | omega, by unfold chaS; (repeat' split) <;> first | rfl | omega⟩ hr dX10_charge_33
  · refine R_aload_n C dX10_charge_19 rfl ?_
    refine R_getA C cl11 fX10_39 (by decide) dX10_charge_20 ?_
    refine R_iload_n C dX10_charge_23 rfl ?_
    refine R_iald C (j := z.toNat) (kf := 15) rfl (show z.toNat < 12 by omega) (by omega) (x := M.2 15 (z.toNat)) rfl dX10_charge_24 ?_
    refine R_goto C dX10_charge_25 ?_
    exact R_iret C ⟨by unfold chaS; (repeat' split) <;> first | rfl | omega, by unfold chaS; (repeat' split) <;> first | rfl | omega⟩ hr dX10_charge_33
set_option maxRecDepth 20000 in
theorem c_X10_overloads (hl : l.stackTraces = false)  : Cr l D kA b t0 mo ad yX10_overloads cX10_overloads 1 (some FieldType.int) 0 0 [rv (some mo)] M (fun v M2 => M2 = setS M 0 0 ∧ v = some (iv (M.1 2))) := by
  refine Cr_mk hl (by decide) (Nat.le_of_ble_eq_true rfl) rfl ?_
  intro X0 p e s m args below meth c C hr
  refine R_aload_n C dX10_overloads_0 rfl ?_
  refine R_iconst C dX10_overloads_1 ?_
  refine R_putS C cl11 fX10_138 rfl (by decide) rfl dX10_overloads_2 ?_
  refine R_aload_n C dX10_overloads_5 rfl ?_
  refine R_getS C cl11 fX10_248 (x := M.1 2) rfl (by decide) dX10_overloads_6 ?_
  exact R_iret C ⟨rfl, rfl⟩ hr dX10_overloads_9
set_option maxRecDepth 20000 in
theorem c_X10_bill (hl : l.stackTraces = false) {z : Int} (hz : rng z) (hO : OkM M) : Cr l D kA b t0 mo ad yX10_bill cX10_bill 2 (some FieldType.int) 2 43 [rv (some mo), iv z] M (fun v M2 => M2 = (bilS M z).1 ∧ v = some (iv (bilS M z).2)) := by
  refine Cr_mk hl (by decide) (Nat.le_of_ble_eq_true rfl) rfl ?_
  intro X0 p e s m args below meth c C hr
  have h0 := hO.1
  unfold okSc at h0
  have hbi := fun h => (hO.2.2.2.2.1 z.toNat h).2
  unfold okBi at hbi
  refine R_aload_n C dX10_bill_0 rfl ?_
  refine R_iconst C dX10_bill_1 ?_
  refine R_putS C cl11 fX10_138 rfl (by decide) rfl dX10_bill_2 ?_
  refine R_aload_n C dX10_bill_5 rfl ?_
  refine R_iload_n C dX10_bill_6 rfl ?_
  refine R_callVz C (As := [_]) (Cd := 0 ≤ z ∧ z < M.1 30) (c_X10_isSession hl (M := setS M 0 0) hz (show 0 ≤ M.1 30 ∧ M.1 30 ≤ 40 by omega)) kX10_214 rfl rfl (Nat.le_of_ble_eq_true rfl) ⟨by decide, by decide⟩ ⟨Nat.le_refl _, Nat.le_refl _⟩ dX10_bill_7 (fun z7 hz7 => ?_)
  refine R_if_eq C dX10_bill_10 (by omega) (fun h10 => ?_) (fun h10 => ?_)
  · refine R_aload_n C dX10_bill_39 rfl ?_
    refine R_iconst C dX10_bill_40 ?_
    refine R_callVi C (As := [_]) (c_X10_stop hl) kX10_158 rfl rfl (Nat.le_of_ble_eq_true rfl) ⟨by decide, by decide⟩ ⟨Nat.le_refl _, Nat.le_refl _⟩ dX10_bill_41 ?_
    exact R_iret C ⟨by unfold bilS; (repeat' split) <;> first | rfl | omega, by unfold bilS; (repeat' split) <;> first | rfl | omega⟩ hr dX10_bill_44
  · refine R_aload_n C dX10_bill_13 rfl ?_
    refine R_iload_n C dX10_bill_14 rfl ?_
    refine R_aload_n C dX10_bill_15 rfl ?_
    refine R_getA C cl11 fX10_114 (by decide) dX10_bill_16 ?_
    refine R_iload_n C dX10_bill_19 rfl ?_
    refine R_iald C (j := z.toNat) (kf := 42) rfl (show z.toNat < 40 by omega) (by omega) (x := M.2 42 (z.toNat)) rfl dX10_bill_20 ?_
    refine R_aload_n C dX10_bill_21 rfl ?_
    refine R_getA C cl11 fX10_117 (by decide) dX10_bill_22 ?_
    refine R_iload_n C dX10_bill_25 rfl ?_
    refine R_iald C (j := z.toNat) (kf := 43) rfl (show z.toNat < 40 by omega) (by omega) (x := M.2 43 (z.toNat)) rfl dX10_bill_26 ?_
    refine R_aload_n C dX10_bill_27 rfl ?_
    refine R_getA C cl11 fX10_120 (by decide) dX10_bill_28 ?_
    refine R_iload_n C dX10_bill_31 rfl ?_
    refine R_iald C (j := z.toNat) (kf := 44) rfl (show z.toNat < 40 by omega) (by omega) (x := M.2 44 (z.toNat)) rfl dX10_bill_32 ?_
    refine R_callVi C (As := [_, _, _, _]) (c_X10_billBy hl (M := setS M 0 0) (k := z.toNat) (x := M.2 42 z.toNat) (n := M.2 43 z.toNat) (i := M.2 44 z.toNat) (hO.T (by omega)) (by omega) (by have := hbi (by omega); omega) (by have := hbi (by omega); omega) (by have := hbi (by omega); omega) (by omega)) kX10_203 rfl rfl (Nat.le_of_ble_eq_true rfl) ⟨by decide, by decide⟩ ⟨Nat.le_refl _, Nat.le_refl _⟩ dX10_bill_33 ?_
    refine R_goto C dX10_bill_36 ?_
    exact R_iret C ⟨by unfold bilS; (repeat' split) <;> first | rfl | omega, by unfold bilS; (repeat' split) <;> first | rfl | omega⟩ hr dX10_bill_44
set_option maxRecDepth 20000 in
theorem c_X10_billAnew (hl : l.stackTraces = false) {z : Int} (hz : rng z) (hO : OkM M) : Cr l D kA b t0 mo ad yX10_billAnew cX10_billAnew 2 (some FieldType.int) 2 43 [rv (some mo), iv z] M (fun v M2 => M2 = (bilA M z).1 ∧ v = some (iv (bilA M z).2)) := by
  refine Cr_mk hl (by decide) (Nat.le_of_ble_eq_true rfl) rfl ?_
  intro X0 p e s m args below meth c C hr
  have h0 := hO.1
  unfold okSc at h0
  have hbi := fun h => (hO.2.2.2.2.1 z.toNat h).2
  unfold okBi at hbi
  refine R_aload_n C dX10_billAnew_0 rfl ?_
  refine R_iconst C dX10_billAnew_1 ?_
  refine R_putS C cl11 fX10_138 rfl (by decide) rfl dX10_billAnew_2 ?_
  refine R_aload_n C dX10_billAnew_5 rfl ?_
  refine R_iload_n C dX10_billAnew_6 rfl ?_
  refine R_callVz C (As := [_]) (Cd := 0 ≤ z ∧ z < M.1 30) (c_X10_isSession hl (M := setS M 0 0) hz (show 0 ≤ M.1 30 ∧ M.1 30 ≤ 40 by omega)) kX10_214 rfl rfl (Nat.le_of_ble_eq_true rfl) ⟨by decide, by decide⟩ ⟨Nat.le_refl _, Nat.le_refl _⟩ dX10_billAnew_7 (fun z7 hz7 => ?_)
  refine R_if_eq C dX10_billAnew_10 (by omega) (fun h10 => ?_) (fun h10 => ?_)
  · refine R_aload_n C dX10_billAnew_39 rfl ?_
    refine R_iconst C dX10_billAnew_40 ?_
    refine R_callVi C (As := [_]) (c_X10_stop hl) kX10_158 rfl rfl (Nat.le_of_ble_eq_true rfl) ⟨by decide, by decide⟩ ⟨Nat.le_refl _, Nat.le_refl _⟩ dX10_billAnew_41 ?_
    exact R_iret C ⟨by unfold bilA; (repeat' split) <;> first | rfl | omega, by unfold bilA; (repeat' split) <;> first | rfl | omega⟩ hr dX10_billAnew_44
  · refine R_aload_n C dX10_billAnew_13 rfl ?_
    refine R_iload_n C dX10_billAnew_14 rfl ?_
    refine R_aload_n C dX10_billAnew_15 rfl ?_
    refine R_getA C cl11 fX10_105 (by decide) dX10_billAnew_16 ?_
    refine R_iload_n C dX10_billAnew_19 rfl ?_
    refine R_iald C (j := z.toNat) (kf := 39) rfl (show z.toNat < 40 by omega) (by omega) (x := M.2 39 (z.toNat)) rfl dX10_billAnew_20 ?_
    refine R_aload_n C dX10_billAnew_21 rfl ?_
    refine R_getA C cl11 fX10_108 (by decide) dX10_billAnew_22 ?_
    refine R_iload_n C dX10_billAnew_25 rfl ?_
    refine R_iald C (j := z.toNat) (kf := 40) rfl (show z.toNat < 40 by omega) (by omega) (x := M.2 40 (z.toNat)) rfl dX10_billAnew_26 ?_
    refine R_aload_n C dX10_billAnew_27 rfl ?_
    refine R_getA C cl11 fX10_111 (by decide) dX10_billAnew_28 ?_
    refine R_iload_n C dX10_billAnew_31 rfl ?_
    refine R_iald C (j := z.toNat) (kf := 41) rfl (show z.toNat < 40 by omega) (by omega) (x := M.2 41 (z.toNat)) rfl dX10_billAnew_32 ?_
    refine R_callVi C (As := [_, _, _, _]) (c_X10_billBy hl (M := setS M 0 0) (k := z.toNat) (x := M.2 39 z.toNat) (n := M.2 40 z.toNat) (i := M.2 41 z.toNat) (hO.T (by omega)) (by omega) (by have := hbi (by omega); omega) (by have := hbi (by omega); omega) (by have := hbi (by omega); omega) (by omega)) kX10_203 rfl rfl (Nat.le_of_ble_eq_true rfl) ⟨by decide, by decide⟩ ⟨Nat.le_refl _, Nat.le_refl _⟩ dX10_billAnew_33 ?_
    refine R_goto C dX10_billAnew_36 ?_
    exact R_iret C ⟨by unfold bilA; (repeat' split) <;> first | rfl | omega, by unfold bilA; (repeat' split) <;> first | rfl | omega⟩ hr dX10_billAnew_44
set_option maxRecDepth 20000 in
theorem c_X10_owes (hl : l.stackTraces = false) {z : Int} (hz : rng z) (hO : OkM M) : Cr l D kA b t0 mo ad yX10_owes cX10_owes 2 (some FieldType.int) 2 43 [rv (some mo), iv z] M (fun v M2 => M2 = (oweS M z).1 ∧ v = some (iv (oweS M z).2)) := by
  refine Cr_mk hl (by decide) (Nat.le_of_ble_eq_true rfl) rfl ?_
  intro X0 p e s m args below meth c C hr
  have h0 := hO.1
  unfold okSc at h0

  refine R_aload_n C dX10_owes_0 rfl ?_
  refine R_iconst C dX10_owes_1 ?_
  refine R_putS C cl11 fX10_138 rfl (by decide) rfl dX10_owes_2 ?_
  refine R_aload_n C dX10_owes_5 rfl ?_
  refine R_iload_n C dX10_owes_6 rfl ?_
  refine R_callVz C (As := [_]) (Cd := 0 ≤ z ∧ z < M.1 17) (c_X10_isCard hl (M := setS M 0 0) hz (show 0 ≤ M.1 17 ∧ M.1 17 ≤ 40 by omega)) kX10_167 rfl rfl (Nat.le_of_ble_eq_true rfl) ⟨by decide, by decide⟩ ⟨Nat.le_refl _, Nat.le_refl _⟩ dX10_owes_7 (fun z7 hz7 => ?_)
  refine R_if_eq C dX10_owes_10 (by omega) (fun h10 => ?_) (fun h10 => ?_)
  · refine R_aload_n C dX10_owes_22 rfl ?_
    refine R_iconst C dX10_owes_23 ?_
    refine R_callVi C (As := [_]) (c_X10_stop hl) kX10_158 rfl rfl (Nat.le_of_ble_eq_true rfl) ⟨by decide, by decide⟩ ⟨Nat.le_refl _, Nat.le_refl _⟩ dX10_owes_24 ?_
    exact R_iret C ⟨by unfold oweS; (repeat' split) <;> first | rfl | omega, by unfold oweS; (repeat' split) <;> first | rfl | omega⟩ hr dX10_owes_27
  · refine R_aload_n C dX10_owes_13 rfl ?_
    refine R_getA C cl11 fX10_57 (by decide) dX10_owes_14 ?_
    refine R_iload_n C dX10_owes_17 rfl ?_
    refine R_iald C (j := z.toNat) (kf := 22) rfl (show z.toNat < 12 by omega) (by omega) (x := M.2 22 (z.toNat)) rfl dX10_owes_18 ?_
    refine R_goto C dX10_owes_19 ?_
    exact R_iret C ⟨by unfold oweS; (repeat' split) <;> first | rfl | omega, by unfold oweS; (repeat' split) <;> first | rfl | omega⟩ hr dX10_owes_27
end REF9
