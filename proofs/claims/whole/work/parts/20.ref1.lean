/-! the reference's small methods -/
/-- what holds of the numbers: scalars; sockets; cars; cards; sessions -/
def okSc (M : Mo) : Prop := (0 ≤ M.1 1 ∧ M.1 1 ≤ 20000) ∧ (0 ≤ M.1 3 ∧ M.1 3 ≤ 200000) ∧ (0 ≤ M.1 4 ∧ M.1 4 ≤ 100000) ∧ (-50 ≤ M.1 5 ∧ M.1 5 ≤ 50) ∧ (0 ≤ M.1 6 ∧ M.1 6 ≤ 8) ∧ (0 ≤ M.1 13 ∧ M.1 13 ≤ 12) ∧ (0 ≤ M.1 17 ∧ M.1 17 ≤ 12) ∧ (0 ≤ M.1 30 ∧ M.1 30 ≤ 40) ∧ (0 ≤ M.1 2 ∧ M.1 2 ≤ M.1 1)
def okSo (M : Mo) (i : Nat) : Prop := (0 ≤ M.2 7 i ∧ M.2 7 i < 3) ∧ (1400 ≤ M.2 8 i ∧ M.2 8 i ≤ 50000) ∧ (0 ≤ M.2 9 i ∧ M.2 9 i ≤ 1) ∧ (0 ≤ M.2 10 i ∧ M.2 10 i ≤ 1) ∧ (0 ≤ M.2 11 i ∧ M.2 11 i ≤ M.1 1) ∧ (-1 ≤ M.2 12 i ∧ M.2 12 i < M.1 30) ∧ (0 ≤ M.2 26 i ∧ M.2 26 i ≤ 512)
def okCa (M : Mo) (i : Nat) : Prop := (1 ≤ M.2 14 i ∧ M.2 14 i ≤ 6000000) ∧ (0 ≤ M.2 15 i ∧ M.2 15 i ≤ M.2 14 i) ∧ (1 ≤ M.2 16 i ∧ M.2 16 i ≤ 50000)
def okCd (M : Mo) (i : Nat) : Prop := (0 ≤ M.2 18 i ∧ M.2 18 i < 3) ∧ (0 ≤ M.2 19 i ∧ M.2 19 i ≤ 3) ∧ (0 ≤ M.2 20 i ∧ M.2 20 i ≤ 1) ∧ (0 ≤ M.2 21 i ∧ M.2 21 i ≤ 1)
def okSe (M : Mo) (i : Nat) : Prop := (0 ≤ M.2 31 i ∧ M.2 31 i < M.1 6) ∧ (0 ≤ M.2 32 i ∧ M.2 32 i < M.1 13) ∧ (0 ≤ M.2 33 i ∧ M.2 33 i < M.1 17) ∧ (1 ≤ M.2 34 i ∧ M.2 34 i ≤ 3) ∧ (0 ≤ M.2 35 i ∧ M.2 35 i ≤ 6000000) ∧ (0 ≤ M.2 36 i ∧ M.2 36 i ≤ 50000) ∧ (0 ≤ M.2 38 i ∧ M.2 38 i ≤ M.2 37 i ∧ M.2 37 i ≤ M.1 1) ∧ (0 ≤ M.2 45 i ∧ M.2 45 i ≤ 50000)
def okBi (M : Mo) (i : Nat) : Prop := (0 ≤ M.2 39 i ∧ M.2 39 i ≤ 6000000) ∧ (0 ≤ M.2 40 i ∧ M.2 40 i ≤ 6000000) ∧ (0 ≤ M.2 41 i ∧ M.2 41 i ≤ 20000) ∧ (0 ≤ M.2 42 i ∧ M.2 42 i ≤ 6000000) ∧ (0 ≤ M.2 43 i ∧ M.2 43 i ≤ 6000000) ∧ (0 ≤ M.2 44 i ∧ M.2 44 i ≤ 20000) ∧ (0 ≤ M.2 46 i ∧ M.2 46 i ≤ 21000000) ∧ (0 ≤ M.2 47 i ∧ M.2 47 i ≤ 1)
def okTa (M : Mo) : Prop := (∀ i, i < 12 → 0 ≤ M.2 23 i ∧ M.2 23 i ≤ 1000) ∧ ∀ i, i < 160 → 0 ≤ M.2 24 i ∧ M.2 24 i ≤ 1000
def OkM (M : Mo) : Prop := okSc M ∧ (∀ i : Nat, (i : Int) < M.1 6 → okSo M i) ∧ (∀ i : Nat, (i : Int) < M.1 13 → okCa M i) ∧ (∀ i : Nat, (i : Int) < M.1 17 → okCd M i) ∧ (∀ i : Nat, (i : Int) < M.1 30 → okSe M i ∧ okBi M i) ∧ okTa M
section REF1
variable {l : Launch} {D : va_G} {kA : Nat → ClassId} {b t0 mo : Nat} {ad : Nat → Nat} {M : Mo}

set_option maxRecDepth 20000 in
theorem c_X10_in (hl : l.stackTraces = false) {z a c : Int} (hz : rng z) (ha : rng a) (hc : rng c) : Cr l D kA b t0 mo ad yX10_in cX10_in 3 (some FieldType.boolean) 0 0 [iv z, iv a, iv c] M (fun v M2 => M2 = M ∧ ∃ zz : Int, v = some (iv zz) ∧ ((zz = 1 ∧ (a ≤ z ∧ z ≤ c)) ∨ (zz = 0 ∧ ¬ (a ≤ z ∧ z ≤ c)))) := by
  refine Cr_mk hl (by decide) (Nat.le_of_ble_eq_true rfl) rfl ?_
  intro X0 p e s m args below meth c C hr
  refine R_iload_n C dX10_in_0 rfl ?_
  refine R_iload_n C dX10_in_1 rfl ?_
  refine R_icmp_lt C dX10_in_2 hz ha (fun h2 => ?_) (fun h2 => ?_)
  · refine R_iconst C dX10_in_14 ?_
    exact R_zret C ⟨rfl, _, rfl, by first | omega | grind⟩ hr (by omega) dX10_in_15
  · refine R_iload_n C dX10_in_5 rfl ?_
    refine R_iload_n C dX10_in_6 rfl ?_
    refine R_icmp_gt C dX10_in_7 hz hc (fun h7 => ?_) (fun h7 => ?_)
    · refine R_iconst C dX10_in_14 ?_
      exact R_zret C ⟨rfl, _, rfl, by first | omega | grind⟩ hr (by omega) dX10_in_15
    · refine R_iconst C dX10_in_10 ?_
      refine R_goto C dX10_in_11 ?_
      exact R_zret C ⟨rfl, _, rfl, by first | omega | grind⟩ hr (by omega) dX10_in_15
set_option maxRecDepth 20000 in
theorem c_X10_isFirm (hl : l.stackTraces = false) {z : Int} (hz : rng z) : Cr l D kA b t0 mo ad yX10_isFirm cX10_isFirm 1 (some FieldType.boolean) 1 22 [iv z] M (fun v M2 => M2 = M ∧ ∃ zz : Int, v = some (iv zz) ∧ ((zz = 1 ∧ (0 ≤ z ∧ z ≤ 2)) ∨ (zz = 0 ∧ ¬ (0 ≤ z ∧ z ≤ 2)))) := by
  refine Cr_mk hl (by decide) (Nat.le_of_ble_eq_true rfl) rfl ?_
  intro X0 p e s m args below meth c C hr
  refine R_iload_n C dX10_isFirm_0 rfl ?_
  refine R_iconst C dX10_isFirm_1 ?_
  refine R_iconst C dX10_isFirm_2 ?_
  refine R_callSz C (As := [_, _, _]) (c_X10_in hl (a := 0) (c := 2) hz (by decide) (by decide)) kX10_141 rfl rfl (Nat.le_of_ble_eq_true rfl) ⟨by decide, by decide⟩ ⟨Nat.le_refl _, Nat.le_refl _⟩ dX10_isFirm_3 (fun z3 hz3 => ?_)
  exact R_zret C ⟨rfl, _, rfl, by omega⟩ hr (by omega) dX10_isFirm_6
set_option maxRecDepth 20000 in
theorem c_X10_isSocket (hl : l.stackTraces = false) {z : Int} (hz : rng z) (hn : 0 ≤ M.1 6 ∧ M.1 6 ≤ 40) : Cr l D kA b t0 mo ad yX10_isSocket cX10_isSocket 2 (some FieldType.boolean) 1 22 [rv (some mo), iv z] M (fun v M2 => M2 = M ∧ ∃ zz : Int, v = some (iv zz) ∧ ((zz = 1 ∧ (0 ≤ z ∧ z < M.1 6)) ∨ (zz = 0 ∧ ¬ (0 ≤ z ∧ z < M.1 6)))) := by
  refine Cr_mk hl (by decide) (Nat.le_of_ble_eq_true rfl) rfl ?_
  intro X0 p e s m args below meth c C hr
  refine R_iload_n C dX10_isSocket_0 rfl ?_
  refine R_iconst C dX10_isSocket_1 ?_
  refine R_aload_n C dX10_isSocket_2 rfl ?_
  refine R_getS C cl11 fX10_145 (x := M.1 6) rfl (by decide) dX10_isSocket_3 ?_
  refine R_iconst C dX10_isSocket_6 ?_
  refine R_isub C dX10_isSocket_7 ?_
  refine R_callSz C (As := [_, _, _]) (c_X10_in hl (a := 0) (c := M.1 6 - 1) hz (by decide) (by omega)) kX10_141 rfl rfl (Nat.le_of_ble_eq_true rfl) ⟨by decide, by decide⟩ ⟨Nat.le_refl _, Nat.le_refl _⟩ dX10_isSocket_8 (fun z8 hz8 => ?_)
  exact R_zret C ⟨rfl, _, rfl, by first | omega | grind⟩ hr (by omega) dX10_isSocket_11
set_option maxRecDepth 20000 in
theorem c_X10_isCard (hl : l.stackTraces = false) {z : Int} (hz : rng z) (hn : 0 ≤ M.1 17 ∧ M.1 17 ≤ 40) : Cr l D kA b t0 mo ad yX10_isCard cX10_isCard 2 (some FieldType.boolean) 1 22 [rv (some mo), iv z] M (fun v M2 => M2 = M ∧ ∃ zz : Int, v = some (iv zz) ∧ ((zz = 1 ∧ (0 ≤ z ∧ z < M.1 17)) ∨ (zz = 0 ∧ ¬ (0 ≤ z ∧ z < M.1 17)))) := by
  refine Cr_mk hl (by decide) (Nat.le_of_ble_eq_true rfl) rfl ?_
  intro X0 p e s m args below meth c C hr
  refine R_iload_n C dX10_isCard_0 rfl ?_
  refine R_iconst C dX10_isCard_1 ?_
  refine R_aload_n C dX10_isCard_2 rfl ?_
  refine R_getS C cl11 fX10_148 (x := M.1 17) rfl (by decide) dX10_isCard_3 ?_
  refine R_iconst C dX10_isCard_6 ?_
  refine R_isub C dX10_isCard_7 ?_
  refine R_callSz C (As := [_, _, _]) (c_X10_in hl (a := 0) (c := M.1 17 - 1) hz (by decide) (by omega)) kX10_141 rfl rfl (Nat.le_of_ble_eq_true rfl) ⟨by decide, by decide⟩ ⟨Nat.le_refl _, Nat.le_refl _⟩ dX10_isCard_8 (fun z8 hz8 => ?_)
  exact R_zret C ⟨rfl, _, rfl, by first | omega | grind⟩ hr (by omega) dX10_isCard_11
set_option maxRecDepth 20000 in
theorem c_X10_isSession (hl : l.stackTraces = false) {z : Int} (hz : rng z) (hn : 0 ≤ M.1 30 ∧ M.1 30 ≤ 40) : Cr l D kA b t0 mo ad yX10_isSession cX10_isSession 2 (some FieldType.boolean) 1 22 [rv (some mo), iv z] M (fun v M2 => M2 = M ∧ ∃ zz : Int, v = some (iv zz) ∧ ((zz = 1 ∧ (0 ≤ z ∧ z < M.1 30)) ∨ (zz = 0 ∧ ¬ (0 ≤ z ∧ z < M.1 30)))) := by
  refine Cr_mk hl (by decide) (Nat.le_of_ble_eq_true rfl) rfl ?_
  intro X0 p e s m args below meth c C hr
  refine R_iload_n C dX10_isSession_0 rfl ?_
  refine R_iconst C dX10_isSession_1 ?_
  refine R_aload_n C dX10_isSession_2 rfl ?_
  refine R_getS C cl11 fX10_151 (x := M.1 30) rfl (by decide) dX10_isSession_3 ?_
  refine R_iconst C dX10_isSession_6 ?_
  refine R_isub C dX10_isSession_7 ?_
  refine R_callSz C (As := [_, _, _]) (c_X10_in hl (a := 0) (c := M.1 30 - 1) hz (by decide) (by omega)) kX10_141 rfl rfl (Nat.le_of_ble_eq_true rfl) ⟨by decide, by decide⟩ ⟨Nat.le_refl _, Nat.le_refl _⟩ dX10_isSession_8 (fun z8 hz8 => ?_)
  exact R_zret C ⟨rfl, _, rfl, by first | omega | grind⟩ hr (by omega) dX10_isSession_11
set_option maxRecDepth 20000 in
theorem c_X10_stop (hl : l.stackTraces = false) {z : Int} : Cr l D kA b t0 mo ad yX10_stop cX10_stop 2 (some FieldType.int) 0 0 [rv (some mo), iv z] M (fun v M2 => M2 = setS M 0 z ∧ v = some (iv 0)) := by
  refine Cr_mk hl (by decide) (Nat.le_of_ble_eq_true rfl) rfl ?_
  intro X0 p e s m args below meth c C hr
  refine R_aload_n C dX10_stop_0 rfl ?_
  refine R_iload_n C dX10_stop_1 rfl ?_
  refine R_putS C cl11 fX10_138 rfl (by decide) rfl dX10_stop_2 ?_
  refine R_iconst C dX10_stop_5 ?_
  exact R_iret C ⟨rfl, rfl⟩ hr dX10_stop_6
set_option maxRecDepth 20000 in
theorem c_X10_refuse (hl : l.stackTraces = false) {z : Int} : Cr l D kA b t0 mo ad yX10_refuse cX10_refuse 2 (some FieldType.boolean) 0 0 [rv (some mo), iv z] M (fun v M2 => M2 = setS M 0 z ∧ v = some (iv 0)) := by
  refine Cr_mk hl (by decide) (Nat.le_of_ble_eq_true rfl) rfl ?_
  intro X0 p e s m args below meth c C hr
  refine R_aload_n C dX10_refuse_0 rfl ?_
  refine R_iload_n C dX10_refuse_1 rfl ?_
  refine R_putS C cl11 fX10_138 rfl (by decide) rfl dX10_refuse_2 ?_
  refine R_iconst C dX10_refuse_5 ?_
  exact R_zret C ⟨rfl, rfl⟩ hr (by omega) dX10_refuse_6
set_option maxRecDepth 20000 in
theorem c_X10_thrown (hl : l.stackTraces = false)  : Cr l D kA b t0 mo ad yX10_thrown cX10_thrown 1 (some FieldType.int) 0 0 [rv (some mo)] M (fun v M2 => M2 = M ∧ v = some (iv (M.1 0))) := by
  refine Cr_mk hl (by decide) (Nat.le_of_ble_eq_true rfl) rfl ?_
  intro X0 p e s m args below meth c C hr
  refine R_aload_n C dX10_thrown_0 rfl ?_
  refine R_getS C cl11 fX10_138 (x := M.1 0) rfl (by decide) dX10_thrown_1 ?_
  exact R_iret C ⟨rfl, rfl⟩ hr dX10_thrown_4
/-- a session that is served by ranks; its place in the order -/
def svd (M : Mo) (k : Nat) : Prop := M.2 34 k = 1 ∧ M.2 10 (M.2 31 k).toNat = 0
def kap (M : Mo) (k : Nat) : Int := 64 * (3 - M.2 19 (M.2 33 k).toNat) + k
set_option maxRecDepth 20000 in
theorem c_X10_isServed (hl : l.stackTraces = false) {k : Nat} (hO : OkM M) (hk : (k : Int) < M.1 30) : Cr l D kA b t0 mo ad yX10_isServed cX10_isServed 2 (some FieldType.boolean) 0 0 [rv (some mo), iv (k : Int)] M (fun v M2 => M2 = M ∧ ∃ zz : Int, v = some (iv zz) ∧ ((zz = 1 ∧ (svd M k)) ∨ (zz = 0 ∧ ¬ (svd M k)))) := by
  refine Cr_mk hl (by decide) (Nat.le_of_ble_eq_true rfl) rfl ?_
  intro X0 p e s m args below meth c C hr
  have h0 := hO.1
  have h1 := (hO.2.2.2.2.1 k hk).1
  unfold okSc at h0
  unfold okSe at h1
  have h2 := hO.2.1 (M.2 31 k).toNat (by omega)
  unfold okSo at h2
  refine R_aload_n C dX10_isServed_0 rfl ?_
  refine R_getA C cl11 fX10_90 (by decide) dX10_isServed_1 ?_
  refine R_iload_n C dX10_isServed_4 rfl ?_
  refine R_iald C (j := k) (kf := 34) rfl (show k < 40 by omega) rfl (x := M.2 34 k) rfl dX10_isServed_5 ?_
  refine R_iconst C dX10_isServed_6 ?_
  refine R_icmp_ne C dX10_isServed_7 (by omega) (by decide) (fun h7 => ?_) (fun h7 => ?_)
  · refine R_iconst C dX10_isServed_28 ?_
    exact R_zret C ⟨rfl, _, rfl, by unfold svd; omega⟩ hr (by omega) dX10_isServed_29
  · refine R_aload_n C dX10_isServed_10 rfl ?_
    refine R_getA C cl11 fX10_27 (by decide) dX10_isServed_11 ?_
    refine R_aload_n C dX10_isServed_14 rfl ?_
    refine R_getA C cl11 fX10_81 (by decide) dX10_isServed_15 ?_
    refine R_iload_n C dX10_isServed_18 rfl ?_
    refine R_iald C (j := k) (kf := 31) rfl (show k < 40 by omega) rfl (x := M.2 31 k) rfl dX10_isServed_19 ?_
    refine R_zald C (j := (M.2 31 k).toNat) (kf := 10) rfl (show (M.2 31 k).toNat < 8 by omega) (by omega) (x := M.2 10 (M.2 31 k).toNat) rfl dX10_isServed_20 ?_
    refine R_if_ne C dX10_isServed_21 (by omega) (fun h21 => ?_) (fun h21 => ?_)
    · refine R_iconst C dX10_isServed_28 ?_
      exact R_zret C ⟨rfl, _, rfl, by unfold svd; omega⟩ hr (by omega) dX10_isServed_29
    · refine R_iconst C dX10_isServed_24 ?_
      refine R_goto C dX10_isServed_25 ?_
      exact R_zret C ⟨rfl, _, rfl, by unfold svd; omega⟩ hr (by omega) dX10_isServed_29
set_option maxRecDepth 20000 in
theorem c_X10_isAhead (hl : l.stackTraces = false) {k j : Nat} {x y : Int} (hO : OkM M) (hk : (k : Int) < M.1 30) (hj : (j : Int) < M.1 30) (hx : x = (k : Int)) (hy : y = (j : Int)) : Cr l D kA b t0 mo ad yX10_isAhead cX10_isAhead 5 (some FieldType.boolean) 0 0 [rv (some mo), iv x, iv y] M (fun v M2 => M2 = M ∧ ∃ zz : Int, v = some (iv zz) ∧ ((zz = 1 ∧ (kap M k < kap M j)) ∨ (zz = 0 ∧ ¬ (kap M k < kap M j)))) := by
  refine Cr_mk hl (by decide) (Nat.le_of_ble_eq_true rfl) rfl ?_
  intro X0 p e s m args below meth c C hr
  have h0 := hO.1
  have h1 := (hO.2.2.2.2.1 k hk).1
  have h2 := (hO.2.2.2.2.1 j hj).1
  unfold okSc at h0
  unfold okSe at h1 h2
  have h3 := hO.2.2.2.1 (M.2 33 k).toNat (by omega)
  have h4 := hO.2.2.2.1 (M.2 33 j).toNat (by omega)
  unfold okCd at h3 h4
  subst hx hy
  refine R_aload_n C dX10_isAhead_0 rfl ?_
  refine R_getA C cl11 fX10_48 (by decide) dX10_isAhead_1 ?_
  refine R_aload_n C dX10_isAhead_4 rfl ?_
  refine R_getA C cl11 fX10_87 (by decide) dX10_isAhead_5 ?_
  refine R_iload_n C dX10_isAhead_8 rfl ?_
  refine R_iald C (j := k) (kf := 33) rfl (show k < 40 by omega) rfl (x := M.2 33 k) rfl dX10_isAhead_9 ?_
  refine R_iald C (j := (M.2 33 k).toNat) (kf := 19) rfl (show (M.2 33 k).toNat < 12 by omega) (by omega) (x := M.2 19 (M.2 33 k).toNat) rfl dX10_isAhead_10 ?_
  refine R_istore_n C dX10_isAhead_11 (by decide) rfl ?_
  refine R_aload_n C dX10_isAhead_12 rfl ?_
  refine R_getA C cl11 fX10_48 (by decide) dX10_isAhead_13 ?_
  refine R_aload_n C dX10_isAhead_16 rfl ?_
  refine R_getA C cl11 fX10_87 (by decide) dX10_isAhead_17 ?_
  refine R_iload_n C dX10_isAhead_20 rfl ?_
  refine R_iald C (j := j) (kf := 33) rfl (show j < 40 by omega) rfl (x := M.2 33 j) rfl dX10_isAhead_21 ?_
  refine R_iald C (j := (M.2 33 j).toNat) (kf := 19) rfl (show (M.2 33 j).toNat < 12 by omega) (by omega) (x := M.2 19 (M.2 33 j).toNat) rfl dX10_isAhead_22 ?_
  refine R_istore C dX10_isAhead_23 (by decide) rfl ?_
  refine R_iload_n C dX10_isAhead_25 rfl ?_
  refine R_iload C dX10_isAhead_26 rfl ?_
  refine R_icmp_eq C dX10_isAhead_28 (by omega) (by omega) (fun h28 => ?_) (fun h28 => ?_)
  · refine R_iload_n C dX10_isAhead_45 rfl ?_
    refine R_iload_n C dX10_isAhead_46 rfl ?_
    refine R_icmp_ge C dX10_isAhead_47 (by omega) (by omega) (fun h47 => ?_) (fun h47 => ?_)
    · refine R_iconst C dX10_isAhead_54 ?_
      exact R_zret C ⟨rfl, _, rfl, by unfold kap; omega⟩ hr (by omega) dX10_isAhead_55
    · refine R_iconst C dX10_isAhead_50 ?_
      refine R_goto C dX10_isAhead_51 ?_
      exact R_zret C ⟨rfl, _, rfl, by unfold kap; omega⟩ hr (by omega) dX10_isAhead_55
  · refine R_iload_n C dX10_isAhead_31 rfl ?_
    refine R_iload C dX10_isAhead_32 rfl ?_
    refine R_icmp_le C dX10_isAhead_34 (by omega) (by omega) (fun h34 => ?_) (fun h34 => ?_)
    · refine R_iconst C dX10_isAhead_41 ?_
      refine R_goto C dX10_isAhead_42 ?_
      exact R_zret C ⟨rfl, _, rfl, by unfold kap; omega⟩ hr (by omega) dX10_isAhead_55
    · refine R_iconst C dX10_isAhead_37 ?_
      refine R_goto C dX10_isAhead_38 ?_
      exact R_zret C ⟨rfl, _, rfl, by unfold kap; omega⟩ hr (by omega) dX10_isAhead_55
def capM (M : Mo) (k : Nat) : Int := if M.1 1 - M.2 11 (M.2 31 k).toNat < 5 then M.2 45 k else 1400
set_option maxRecDepth 20000 in
theorem c_X10_cap (hl : l.stackTraces = false) {k : Nat} (hO : OkM M) (hk : (k : Int) < M.1 30) : Cr l D kA b t0 mo ad yX10_cap cX10_cap 3 (some FieldType.int) 0 0 [rv (some mo), iv (k : Int)] M (fun v M2 => M2 = M ∧ v = some (iv (capM M k))) := by
  refine Cr_mk hl (by decide) (Nat.le_of_ble_eq_true rfl) rfl ?_
  intro X0 p e s m args below meth c C hr
  have h0 := hO.1
  have h1 := (hO.2.2.2.2.1 k hk).1
  unfold okSc at h0
  unfold okSe at h1
  have h2 := hO.2.1 (M.2 31 k).toNat (by omega)
  unfold okSo at h2
  refine R_aload_n C dX10_cap_0 rfl ?_
  refine R_getA C cl11 fX10_81 (by decide) dX10_cap_1 ?_
  refine R_iload_n C dX10_cap_4 rfl ?_
  refine R_iald C (j := k) (kf := 31) rfl (show k < 40 by omega) rfl (x := M.2 31 k) rfl dX10_cap_5 ?_
  refine R_istore_n C dX10_cap_6 (by decide) rfl ?_
  refine R_aload_n C dX10_cap_7 rfl ?_
  refine R_getS C cl11 fX10_188 (x := M.1 1) rfl (by decide) dX10_cap_8 ?_
  refine R_aload_n C dX10_cap_11 rfl ?_
  refine R_getA C cl11 fX10_30 (by decide) dX10_cap_12 ?_
  refine R_iload_n C dX10_cap_15 rfl ?_
  refine R_iald C (j := (M.2 31 k).toNat) (kf := 11) rfl (show (M.2 31 k).toNat < 8 by omega) (by omega) (x := M.2 11 (M.2 31 k).toNat) rfl dX10_cap_16 ?_
  refine R_isub C dX10_cap_17 ?_
  refine R_iconst C dX10_cap_18 ?_
  refine R_icmp_ge C dX10_cap_19 (by omega) (by decide) (fun h19 => ?_) (fun h19 => ?_)
  · refine R_sipush C dX10_cap_31 (by decide) ?_
    exact R_iret C ⟨rfl, ivc (by unfold capM; split <;> omega)⟩ hr dX10_cap_34
  · refine R_aload_n C dX10_cap_22 rfl ?_
    refine R_getA C cl11 fX10_123 (by decide) dX10_cap_23 ?_
    refine R_iload_n C dX10_cap_26 rfl ?_
    refine R_iald C (j := k) (kf := 45) rfl (show k < 40 by omega) rfl (x := M.2 45 k) rfl dX10_cap_27 ?_
    refine R_goto C dX10_cap_28 ?_
    exact R_iret C ⟨rfl, ivc (by unfold capM; split <;> omega)⟩ hr dX10_cap_34
end REF1
